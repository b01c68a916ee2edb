abbrev rm_X11_valueOf : Room := { frames := 2, cells := 0, slots := 0, locals := 47 }
def fX11_valueOf (σ : S0) (x1 : Int32) : Option (Int32 × S0) := obp (fX11_rings σ x1) (fun r1 σ2 => ol (14 * x1) (fun v4 => og (¬ (v4 < 0 ∨ 84 ≤ v4.toNatClampNeg)) (ol (σ2 101 v4.toNatClampNeg) (fun v6 => some (((v6 - (σ2 98 24)) - (σ2 98 25)) - ((σ2 98 3) * (σ2 98 27)), σ2)))))
set_option maxHeartbeats 1000000 in
set_option maxRecDepth 100000 in
theorem fX11_valueOf_ok {p : Program} {l : Launch} {e : Env} {s : State} {m : MethodId} {args : Array Value} {below : List Frame} {meth : Method} {c : Code} {dC : Nat → ClassId} {dI : Nat → Nat → Nat} {ad : Nat → Nat} {cy : Nat → ClassId} {sz : Nat} (C : Cx p s m args meth c RX11 cX11_valueOf 2 (some .int) dC dI ad cy sz) {rr : Int32} {ρ : S0} (σ : S0) (x1 : Int32)  (hf : fX11_valueOf σ x1 = some (rr, ρ)) : Gw p l e rm_X11_valueOf s m args below meth c (MQ below (QcI dC dI ad cy sz rr ρ) args s 0 0 (AW ad sz)) dC dI ad cy 2 sz 0 0 0 [(0, .ref (ad 98)), (1, .int x1)] [] σ := by
  unfold fX11_valueOf at hf
  refine g_aload_n C dX11_valueOf_0 rfl 0 rfl ?_
  refine g_iload_n C dX11_valueOf_1 rfl 1 rfl ?_
  obtain ⟨r1, σ2, h3, hf⟩ := obp_e hf
  refine g_callVv (As := [.int x1]) (rest := []) C (a_98 ad cy _) rfl (c_X11_rings l dC dI ad cy x1) h3 hM_X11_216 cal_X11_rings ⟨Nat.zero_le _, Nat.zero_le _⟩ ⟨rfl, rfl⟩ ⟨Nat.le_of_ble_eq_true rfl, Nat.le_of_ble_eq_true rfl⟩ rfl rfl (Nat.le_of_ble_eq_true rfl) dX11_valueOf_2 ?_
  refine g_aload_n C dX11_valueOf_5 rfl 0 rfl ?_
  refine g_get C (a_98 ad cy _) rfl hin_X11 6 (by decide) hF_X11_17 rfl rfl dX11_valueOf_6 ?_
  refine g_bipush (v := 14) C dX11_valueOf_9 (by decide) ?_
  refine g_iload_n C dX11_valueOf_11 rfl 1 rfl ?_
  refine g_imul C dX11_valueOf_12 ?_
  obtain ⟨v4, ev4, hf⟩ := ol_e hf
  refine g_nm ev4 ?_
  obtain ⟨h5, hf⟩ := og_e hf
  refine g_iald C (a_101 ad cy _) h5 dX11_valueOf_13 ?_
  obtain ⟨v6, ev6, hf⟩ := ol_e hf
  refine g_nm ev6 ?_
  refine g_aload_n C dX11_valueOf_14 rfl 0 rfl ?_
  refine g_get C (a_98 ad cy _) rfl hin_X11 24 (by decide) hF_X11_204 rfl rfl dX11_valueOf_15 ?_
  refine g_isub C dX11_valueOf_18 ?_
  refine g_aload_n C dX11_valueOf_19 rfl 0 rfl ?_
  refine g_get C (a_98 ad cy _) rfl hin_X11 25 (by decide) hF_X11_207 rfl rfl dX11_valueOf_20 ?_
  refine g_isub C dX11_valueOf_23 ?_
  refine g_aload_n C dX11_valueOf_24 rfl 0 rfl ?_
  refine g_get C (a_98 ad cy _) rfl hin_X11 3 (by decide) hF_X11_78 rfl rfl dX11_valueOf_25 ?_
  refine g_aload_n C dX11_valueOf_28 rfl 0 rfl ?_
  refine g_get C (a_98 ad cy _) rfl hin_X11 27 (by decide) hF_X11_213 rfl rfl dX11_valueOf_29 ?_
  refine g_imul C dX11_valueOf_32 ?_
  refine g_isub C dX11_valueOf_33 ?_
  obtain ⟨rfl, rfl⟩ := os_e hf
  exact g_iret C rfl dX11_valueOf_34
theorem c_X11_valueOf (l : Launch) (dC : Nat → ClassId) (dI : Nat → Nat → Nat) (ad : Nat → Nat) (cy : Nat → ClassId) (x1 : Int32) : ConI l yX11_valueOf cX11_valueOf 2 (some .int) rm_X11_valueOf dC dI ad cy [.ref (ad 98), .int x1] (fun σ => fX11_valueOf σ x1) := con_i (own := RX11) (by decide) rfl (Nat.le_of_ble_eq_true rfl) (fun _ _ _ _ _ _ _ _ σ _ _ C hf => fX11_valueOf_ok C σ x1 hf)
theorem cal_X11_valueOf : CalV yX11_valueOf RX11 cX11_valueOf 2 (some .int) 1 := ⟨hI_X11_valueOf, hS_X11_valueOf, hIni_X11, hC_X11_valueOf, by decide +kernel⟩
abbrev rm_X11_ring : Room := { frames := 3, cells := 0, slots := 0, locals := 68 }
def fX11_ring (σ : S0) (x1 : Int32) (x2 : Int32) : Option (Int32 × S0) := obp (fX11_isTune σ x1) (fun r1 σ2 => if ¬ r1 = 0 then (obp (fX11_valueOf σ2 x1) (fun r5 σ6 => if x2.toInt < 0 ∨ 3 < x2.toInt then (some ((-1), σ6)) else if x2 = 0 then (some (σ6 98 24, σ6)) else if x2 = 1 then (some (σ6 98 26, σ6)) else if x2 = 2 then (some (σ6 98 25, σ6)) else if x2 = 3 then (some (r5 + 1000, σ6)) else none)) else (some ((-1), σ2)))
set_option maxHeartbeats 1000000 in
set_option maxRecDepth 100000 in
theorem fX11_ring_ok {p : Program} {l : Launch} {e : Env} {s : State} {m : MethodId} {args : Array Value} {below : List Frame} {meth : Method} {c : Code} {dC : Nat → ClassId} {dI : Nat → Nat → Nat} {ad : Nat → Nat} {cy : Nat → ClassId} {sz : Nat} (C : Cx p s m args meth c RX11 cX11_ring 4 (some .int) dC dI ad cy sz) {rr : Int32} {ρ : S0} (σ : S0) (x1 : Int32) (x2 : Int32)  (hf : fX11_ring σ x1 x2 = some (rr, ρ)) : Gw p l e rm_X11_ring s m args below meth c (MQ below (QcI dC dI ad cy sz rr ρ) args s 0 0 (AW ad sz)) dC dI ad cy 4 sz 0 0 0 [(0, .ref (ad 98)), (1, .int x1), (2, .int x2)] [] σ := by
  unfold fX11_ring at hf
  refine g_aload_n C dX11_ring_0 rfl 0 rfl ?_
  refine g_iload_n C dX11_ring_1 rfl 1 rfl ?_
  obtain ⟨r1, σ2, h3, hf⟩ := obp_e hf
  refine g_callVi (As := [.int x1]) (rest := []) C (a_98 ad cy _) rfl (c_X11_isTune l dC dI ad cy x1) h3 hM_X11_175 cal_X11_isTune ⟨Nat.zero_le _, Nat.zero_le _⟩ ⟨rfl, rfl⟩ ⟨Nat.le_of_ble_eq_true rfl, Nat.le_of_ble_eq_true rfl⟩ rfl rfl (Nat.le_of_ble_eq_true rfl) dX11_ring_2 ?_
  rcases oi_e hf with ⟨c4, hf⟩ | ⟨c4, hf⟩
  · refine g_if_ne_t (tgt := 10) C dX11_ring_5 (by decide) c4 ?_
    refine g_aload_n C dX11_ring_10 rfl 0 rfl ?_
    refine g_iload_n C dX11_ring_11 rfl 1 rfl ?_
    obtain ⟨r5, σ6, h7, hf⟩ := obp_e hf
    refine g_callVi (As := [.int x1]) (rest := []) C (a_98 ad cy _) rfl (c_X11_valueOf l dC dI ad cy x1) h7 hM_X11_220 cal_X11_valueOf ⟨Nat.zero_le _, Nat.zero_le _⟩ ⟨rfl, rfl⟩ ⟨Nat.le_of_ble_eq_true rfl, Nat.le_of_ble_eq_true rfl⟩ rfl rfl (Nat.le_of_ble_eq_true rfl) dX11_ring_12 ?_
    refine g_istore_n (lv2 := [(0, .ref (ad 98)), (1, .int x1), (2, .int x2), (3, .int r5)]) C dX11_ring_15 rfl (by decide) [1, 2, 3, 0] rfl ?_
    refine g_iload_n C dX11_ring_16 rfl 2 rfl ?_
    rcases oi_e hf with ⟨c8, hf⟩ | ⟨c8, hf⟩
    · refine g_tout (tgt := 69) C dX11_ring_17 c8 (by decide) ?_
      refine g_iconst (v := (-1)) C dX11_ring_69 (by decide) ?_
      obtain ⟨rfl, rfl⟩ := os_e hf
      exact g_iret C rfl dX11_ring_70
    · skip
      rcases oi_e hf with ⟨c9, hf⟩ | ⟨c9, hf⟩
      · refine g_tin (tgt := 48) C dX11_ring_17 (by rw [c9]; decide) (by rw [c9]; decide) (by rw [c9]; rfl) (by decide) ?_
        refine g_aload_n C dX11_ring_48 rfl 0 rfl ?_
        refine g_get C (a_98 ad cy _) rfl hin_X11 24 (by decide) hF_X11_204 rfl rfl dX11_ring_49 ?_
        obtain ⟨rfl, rfl⟩ := os_e hf
        exact g_iret C rfl dX11_ring_52
      · skip
        rcases oi_e hf with ⟨c10, hf⟩ | ⟨c10, hf⟩
        · refine g_tin (tgt := 53) C dX11_ring_17 (by rw [c10]; decide) (by rw [c10]; decide) (by rw [c10]; rfl) (by decide) ?_
          refine g_aload_n C dX11_ring_53 rfl 0 rfl ?_
          refine g_get C (a_98 ad cy _) rfl hin_X11 26 (by decide) hF_X11_210 rfl rfl dX11_ring_54 ?_
          obtain ⟨rfl, rfl⟩ := os_e hf
          exact g_iret C rfl dX11_ring_57
        · skip
          rcases oi_e hf with ⟨c11, hf⟩ | ⟨c11, hf⟩
          · refine g_tin (tgt := 58) C dX11_ring_17 (by rw [c11]; decide) (by rw [c11]; decide) (by rw [c11]; rfl) (by decide) ?_
            refine g_aload_n C dX11_ring_58 rfl 0 rfl ?_
            refine g_get C (a_98 ad cy _) rfl hin_X11 25 (by decide) hF_X11_207 rfl rfl dX11_ring_59 ?_
            obtain ⟨rfl, rfl⟩ := os_e hf
            exact g_iret C rfl dX11_ring_62
          · skip
            rcases oi_e hf with ⟨c12, hf⟩ | ⟨c12, hf⟩
            · refine g_tin (tgt := 63) C dX11_ring_17 (by rw [c12]; decide) (by rw [c12]; decide) (by rw [c12]; rfl) (by decide) ?_
              refine g_iload_n C dX11_ring_63 rfl 3 rfl ?_
              refine g_sipush (v := 1000) C dX11_ring_64 (by decide) ?_
              refine g_iadd C dX11_ring_67 ?_
              obtain ⟨rfl, rfl⟩ := os_e hf
              exact g_iret C rfl dX11_ring_68
            · skip
              cases hf
  · refine g_if_ne_f (tgt := 10) C dX11_ring_5 (by decide) (Decidable.of_not_not c4) ?_
    refine g_iconst (v := (-1)) C dX11_ring_8 (by decide) ?_
    obtain ⟨rfl, rfl⟩ := os_e hf
    exact g_iret C rfl dX11_ring_9
theorem c_X11_ring (l : Launch) (dC : Nat → ClassId) (dI : Nat → Nat → Nat) (ad : Nat → Nat) (cy : Nat → ClassId) (x1 : Int32) (x2 : Int32) : ConI l yX11_ring cX11_ring 4 (some .int) rm_X11_ring dC dI ad cy [.ref (ad 98), .int x1, .int x2] (fun σ => fX11_ring σ x1 x2) := con_i (own := RX11) (by decide) rfl (Nat.le_of_ble_eq_true rfl) (fun _ _ _ _ _ _ _ _ σ _ _ C hf => fX11_ring_ok C σ x1 x2 hf)
theorem cal_X11_ring : CalV yX11_ring RX11 cX11_ring 4 (some .int) 2 := ⟨hI_X11_ring, hS_X11_ring, hIni_X11, hC_X11_ring, by decide +kernel⟩
abbrev rm_X11_takenNow : Room := { frames := 3, cells := 0, slots := 0, locals := 68 }
def fX11_takenNow_b46 (sf_7 : S0 → Int32 → Int32 → Int32 → Option (Int32 × S0)) (σ : S0) (x1 : Int32) (x3 : Int32) (t0 : Int32) : Option (Int32 × S0) := ol (x3 + 1) (fun v1 => sf_7 σ x1 t0 v1)
set_option maxHeartbeats 1000000 in
set_option maxRecDepth 100000 in
theorem fX11_takenNow_b46_ok {p : Program} {l : Launch} {e : Env} {s : State} {m : MethodId} {args : Array Value} {below : List Frame} {meth : Method} {c : Code} {dC : Nat → ClassId} {dI : Nat → Nat → Nat} {ad : Nat → Nat} {cy : Nat → ClassId} {sz : Nat} (C : Cx p s m args meth c RX11 cX11_takenNow 5 (some .int) dC dI ad cy sz) {rr : Int32} {ρ : S0} (sf_7 : S0 → Int32 → Int32 → Int32 → Option (Int32 × S0)) (hs_7 : ∀ (σ : S0) (x1 : Int32) (x2 : Int32) (x3 : Int32) , sf_7 σ x1 x2 x3 = some (rr, ρ) → Gw p l e rm_X11_takenNow s m args below meth c (MQ below (QcI dC dI ad cy sz rr ρ) args s 0 0 (AW ad sz)) dC dI ad cy 5 sz 0 0 7 [(0, .ref (ad 98)), (1, .int x1), (2, .int x2), (3, .int x3)] [] σ) (σ : S0) (x1 : Int32) (x3 : Int32) (t0 : Int32)  (hf : fX11_takenNow_b46 sf_7 σ x1 x3 t0 = some (rr, ρ)) : Gw p l e rm_X11_takenNow s m args below meth c (MQ below (QcI dC dI ad cy sz rr ρ) args s 0 0 (AW ad sz)) dC dI ad cy 5 sz 0 0 46 [(0, .ref (ad 98)), (1, .int x1), (3, .int x3)] [.int t0] σ := by
  unfold fX11_takenNow_b46 at hf
  refine g_istore_n (lv2 := [(0, .ref (ad 98)), (1, .int x1), (2, .int t0), (3, .int x3)]) C dX11_takenNow_46 rfl (by decide) [1, 2, 0, 3] rfl ?_
  obtain ⟨v1, ev1, hf⟩ := ol_e hf
  refine g_iinc (j := 3) (w := 1) (lv2 := [(0, .ref (ad 98)), (1, .int x1), (2, .int t0), (3, .int v1)]) C dX11_takenNow_47 rfl (by decide) ev1 (by decide) [1, 2, 3, 0] rfl ?_
  refine g_goto (tgt := 7) C dX11_takenNow_50 (by decide) ?_
  exact g_sub [0, 1, 2, 3] rfl (hs_7 σ x1 t0 v1 hf)
def fX11_takenNow_b33 (sf_7 : S0 → Int32 → Int32 → Int32 → Option (Int32 × S0)) (σ : S0) (x2 : Int32) (x3 : Int32) (x4 : Int32) (t0 : Int32) : Option (Int32 × S0) := if x4 ≤ x2 then (fX11_takenNow_b46 sf_7 σ t0 x3 x2) else (fX11_takenNow_b46 sf_7 σ t0 x3 x4)
set_option maxHeartbeats 1000000 in
set_option maxRecDepth 100000 in
theorem fX11_takenNow_b33_ok {p : Program} {l : Launch} {e : Env} {s : State} {m : MethodId} {args : Array Value} {below : List Frame} {meth : Method} {c : Code} {dC : Nat → ClassId} {dI : Nat → Nat → Nat} {ad : Nat → Nat} {cy : Nat → ClassId} {sz : Nat} (C : Cx p s m args meth c RX11 cX11_takenNow 5 (some .int) dC dI ad cy sz) {rr : Int32} {ρ : S0} (sf_7 : S0 → Int32 → Int32 → Int32 → Option (Int32 × S0)) (hs_7 : ∀ (σ : S0) (x1 : Int32) (x2 : Int32) (x3 : Int32) , sf_7 σ x1 x2 x3 = some (rr, ρ) → Gw p l e rm_X11_takenNow s m args below meth c (MQ below (QcI dC dI ad cy sz rr ρ) args s 0 0 (AW ad sz)) dC dI ad cy 5 sz 0 0 7 [(0, .ref (ad 98)), (1, .int x1), (2, .int x2), (3, .int x3)] [] σ) (σ : S0) (x2 : Int32) (x3 : Int32) (x4 : Int32) (t0 : Int32)  (hf : fX11_takenNow_b33 sf_7 σ x2 x3 x4 t0 = some (rr, ρ)) : Gw p l e rm_X11_takenNow s m args below meth c (MQ below (QcI dC dI ad cy sz rr ρ) args s 0 0 (AW ad sz)) dC dI ad cy 5 sz 0 0 33 [(0, .ref (ad 98)), (2, .int x2), (3, .int x3), (4, .int x4)] [.int t0] σ := by
  unfold fX11_takenNow_b33 at hf
  refine g_istore_n (lv2 := [(0, .ref (ad 98)), (1, .int t0), (2, .int x2), (3, .int x3), (4, .int x4)]) C dX11_takenNow_33 rfl (by decide) [1, 0, 2, 3, 4] rfl ?_
  refine g_iload C dX11_takenNow_34 4 rfl ?_
  refine g_iload_n C dX11_takenNow_36 rfl 2 rfl ?_
  rcases oi_e hf with ⟨c1, hf⟩ | ⟨c1, hf⟩
  · refine g_icmp_le_t (tgt := 45) C dX11_takenNow_37 (by decide) c1 ?_
    refine g_iload_n C dX11_takenNow_45 rfl 2 rfl ?_
    exact g_sub [0, 1, 3] rfl (fX11_takenNow_b46_ok C sf_7 hs_7 σ t0 x3 x2 hf)
  · refine g_icmp_le_f (tgt := 45) C dX11_takenNow_37 (by decide) c1 ?_
    refine g_iload C dX11_takenNow_40 4 rfl ?_
    refine g_goto (tgt := 46) C dX11_takenNow_42 (by decide) ?_
    exact g_sub [0, 1, 3] rfl (fX11_takenNow_b46_ok C sf_7 hs_7 σ t0 x3 x4 hf)
def fX11_takenNow_b7 (sf_7 : S0 → Int32 → Int32 → Int32 → Option (Int32 × S0)) (σ : S0) (x1 : Int32) (x2 : Int32) (x3 : Int32) : Option (Int32 × S0) := if (σ 98 5) ≤ x3 then (some (x1, σ)) else (obp (fX11_valueOf σ x3) (fun r2 σ3 => if r2 ≤ x2 then (fX11_takenNow_b33 sf_7 σ3 x2 x3 r2 x1) else (fX11_takenNow_b33 sf_7 σ3 x2 x3 r2 x3)))
set_option maxHeartbeats 1000000 in
set_option maxRecDepth 100000 in
theorem fX11_takenNow_b7_ok {p : Program} {l : Launch} {e : Env} {s : State} {m : MethodId} {args : Array Value} {below : List Frame} {meth : Method} {c : Code} {dC : Nat → ClassId} {dI : Nat → Nat → Nat} {ad : Nat → Nat} {cy : Nat → ClassId} {sz : Nat} (C : Cx p s m args meth c RX11 cX11_takenNow 5 (some .int) dC dI ad cy sz) {rr : Int32} {ρ : S0} (sf_7 : S0 → Int32 → Int32 → Int32 → Option (Int32 × S0)) (hs_7 : ∀ (σ : S0) (x1 : Int32) (x2 : Int32) (x3 : Int32) , sf_7 σ x1 x2 x3 = some (rr, ρ) → Gw p l e rm_X11_takenNow s m args below meth c (MQ below (QcI dC dI ad cy sz rr ρ) args s 0 0 (AW ad sz)) dC dI ad cy 5 sz 0 0 7 [(0, .ref (ad 98)), (1, .int x1), (2, .int x2), (3, .int x3)] [] σ) (σ : S0) (x1 : Int32) (x2 : Int32) (x3 : Int32)  (hf : fX11_takenNow_b7 sf_7 σ x1 x2 x3 = some (rr, ρ)) : Gw p l e rm_X11_takenNow s m args below meth c (MQ below (QcI dC dI ad cy sz rr ρ) args s 0 0 (AW ad sz)) dC dI ad cy 5 sz 0 0 7 [(0, .ref (ad 98)), (1, .int x1), (2, .int x2), (3, .int x3)] [] σ := by
  unfold fX11_takenNow_b7 at hf
  refine g_iload_n C dX11_takenNow_7 rfl 3 rfl ?_
  refine g_aload_n C dX11_takenNow_8 rfl 0 rfl ?_
  refine g_get C (a_98 ad cy _) rfl hin_X11 5 (by decide) hF_X11_84 rfl rfl dX11_takenNow_9 ?_
  rcases oi_e hf with ⟨c1, hf⟩ | ⟨c1, hf⟩
  · refine g_icmp_ge_t (tgt := 53) C dX11_takenNow_12 (by decide) c1 ?_
    refine g_iload_n C dX11_takenNow_53 rfl 1 rfl ?_
    obtain ⟨rfl, rfl⟩ := os_e hf
    exact g_iret C rfl dX11_takenNow_54
  · refine g_icmp_ge_f (tgt := 53) C dX11_takenNow_12 (by decide) c1 ?_
    refine g_aload_n C dX11_takenNow_15 rfl 0 rfl ?_
    refine g_iload_n C dX11_takenNow_16 rfl 3 rfl ?_
    obtain ⟨r2, σ3, h4, hf⟩ := obp_e hf
    refine g_callVi (As := [.int x3]) (rest := []) C (a_98 ad cy _) rfl (c_X11_valueOf l dC dI ad cy x3) h4 hM_X11_220 cal_X11_valueOf ⟨Nat.zero_le _, Nat.zero_le _⟩ ⟨rfl, rfl⟩ ⟨Nat.le_of_ble_eq_true rfl, Nat.le_of_ble_eq_true rfl⟩ rfl rfl (Nat.le_of_ble_eq_true rfl) dX11_takenNow_17 ?_
    refine g_istore (lv2 := [(0, .ref (ad 98)), (1, .int x1), (2, .int x2), (3, .int x3), (4, .int r2)]) C dX11_takenNow_20 (by decide) [1, 2, 3, 4, 0] rfl ?_
    refine g_iload C dX11_takenNow_22 4 rfl ?_
    refine g_iload_n C dX11_takenNow_24 rfl 2 rfl ?_
    rcases oi_e hf with ⟨c5, hf⟩ | ⟨c5, hf⟩
    · refine g_icmp_le_t (tgt := 32) C dX11_takenNow_25 (by decide) c5 ?_
      refine g_iload_n C dX11_takenNow_32 rfl 1 rfl ?_
      exact g_sub [0, 2, 3, 4] rfl (fX11_takenNow_b33_ok C sf_7 hs_7 σ3 x2 x3 r2 x1 hf)
    · refine g_icmp_le_f (tgt := 32) C dX11_takenNow_25 (by decide) c5 ?_
      refine g_iload_n C dX11_takenNow_28 rfl 3 rfl ?_
      refine g_goto (tgt := 33) C dX11_takenNow_29 (by decide) ?_
      exact g_sub [0, 2, 3, 4] rfl (fX11_takenNow_b33_ok C sf_7 hs_7 σ3 x2 x3 r2 x3 hf)
def fX11_takenNow_h7  : Nat → S0 → Int32 → Int32 → Int32 → Option (Int32 × S0)
  | 0 => fun _ _ _ _ => none
  | n + 1 => fun σ x1 x2 x3 => fX11_takenNow_b7  (fX11_takenNow_h7  n) σ x1 x2 x3
set_option maxHeartbeats 1000000 in
set_option maxRecDepth 100000 in
theorem fX11_takenNow_h7_ok {p : Program} {l : Launch} {e : Env} {s : State} {m : MethodId} {args : Array Value} {below : List Frame} {meth : Method} {c : Code} {dC : Nat → ClassId} {dI : Nat → Nat → Nat} {ad : Nat → Nat} {cy : Nat → ClassId} {sz : Nat} (C : Cx p s m args meth c RX11 cX11_takenNow 5 (some .int) dC dI ad cy sz) {rr : Int32} {ρ : S0}  : ∀ (n : Nat) (σ : S0) (x1 : Int32) (x2 : Int32) (x3 : Int32)  (_hf : fX11_takenNow_h7  n σ x1 x2 x3 = some (rr, ρ)), Gw p l e rm_X11_takenNow s m args below meth c (MQ below (QcI dC dI ad cy sz rr ρ) args s 0 0 (AW ad sz)) dC dI ad cy 5 sz 0 0 7 [(0, .ref (ad 98)), (1, .int x1), (2, .int x2), (3, .int x3)] [] σ
  | 0, _, _, _, _, hf => by cases hf
  | n + 1, σ, x1, x2, x3, hf => fX11_takenNow_b7_ok C  (fX11_takenNow_h7  n) (fX11_takenNow_h7_ok C  n) σ x1 x2 x3 hf
def fX11_takenNow (σ : S0)  : Option (Int32 × S0) := fX11_takenNow_h7 400 σ ((-4)) 0 0
set_option maxHeartbeats 1000000 in
set_option maxRecDepth 100000 in
theorem fX11_takenNow_ok {p : Program} {l : Launch} {e : Env} {s : State} {m : MethodId} {args : Array Value} {below : List Frame} {meth : Method} {c : Code} {dC : Nat → ClassId} {dI : Nat → Nat → Nat} {ad : Nat → Nat} {cy : Nat → ClassId} {sz : Nat} (C : Cx p s m args meth c RX11 cX11_takenNow 5 (some .int) dC dI ad cy sz) {rr : Int32} {ρ : S0} (σ : S0)   (hf : fX11_takenNow σ = some (rr, ρ)) : Gw p l e rm_X11_takenNow s m args below meth c (MQ below (QcI dC dI ad cy sz rr ρ) args s 0 0 (AW ad sz)) dC dI ad cy 5 sz 0 0 0 [(0, .ref (ad 98))] [] σ := by
  unfold fX11_takenNow at hf
  refine g_bipush (v := (-4)) C dX11_takenNow_0 (by decide) ?_
  refine g_istore_n (lv2 := [(0, .ref (ad 98)), (1, .int ((-4)))]) C dX11_takenNow_2 rfl (by decide) [1, 0] rfl ?_
  refine g_iconst (v := 0) C dX11_takenNow_3 (by decide) ?_
  refine g_istore_n (lv2 := [(0, .ref (ad 98)), (1, .int ((-4))), (2, .int 0)]) C dX11_takenNow_4 rfl (by decide) [1, 2, 0] rfl ?_
  refine g_iconst (v := 0) C dX11_takenNow_5 (by decide) ?_
  refine g_istore_n (lv2 := [(0, .ref (ad 98)), (1, .int ((-4))), (2, .int 0), (3, .int 0)]) C dX11_takenNow_6 rfl (by decide) [1, 2, 3, 0] rfl ?_
  exact g_sub [0, 1, 2, 3] rfl (fX11_takenNow_h7_ok C 400 σ ((-4)) 0 0 hf)
theorem c_X11_takenNow (l : Launch) (dC : Nat → ClassId) (dI : Nat → Nat → Nat) (ad : Nat → Nat) (cy : Nat → ClassId)  : ConI l yX11_takenNow cX11_takenNow 5 (some .int) rm_X11_takenNow dC dI ad cy [.ref (ad 98)] (fun σ => fX11_takenNow σ) := con_i (own := RX11) (by decide) rfl (Nat.le_of_ble_eq_true rfl) (fun _ _ _ _ _ _ _ _ σ _ _ C hf => fX11_takenNow_ok C σ  hf)
theorem cal_X11_takenNow : CalV yX11_takenNow RX11 cX11_takenNow 5 (some .int) 0 := ⟨hI_X11_takenNow, hS_X11_takenNow, hIni_X11, hC_X11_takenNow, by decide +kernel⟩
abbrev rm_X11_taken : Room := { frames := 4, cells := 0, slots := 0, locals := 92 }
def fX11_taken (σ : S0)  : Option (Int32 × S0) := obp (fX11_takenNow σ) (fun r1 σ2 => some (r1, σ2))
set_option maxHeartbeats 1000000 in
set_option maxRecDepth 100000 in
theorem fX11_taken_ok {p : Program} {l : Launch} {e : Env} {s : State} {m : MethodId} {args : Array Value} {below : List Frame} {meth : Method} {c : Code} {dC : Nat → ClassId} {dI : Nat → Nat → Nat} {ad : Nat → Nat} {cy : Nat → ClassId} {sz : Nat} (C : Cx p s m args meth c RX11 cX11_taken 1 (some .int) dC dI ad cy sz) {rr : Int32} {ρ : S0} (σ : S0)   (hf : fX11_taken σ = some (rr, ρ)) : Gw p l e rm_X11_taken s m args below meth c (MQ below (QcI dC dI ad cy sz rr ρ) args s 0 0 (AW ad sz)) dC dI ad cy 1 sz 0 0 0 [(0, .ref (ad 98))] [] σ := by
  unfold fX11_taken at hf
  refine g_aload_n C dX11_taken_0 rfl 0 rfl ?_
  obtain ⟨r1, σ2, h3, hf⟩ := obp_e hf
  refine g_callVi (As := []) (rest := []) C (a_98 ad cy _) rfl (c_X11_takenNow l dC dI ad cy ) h3 hM_X11_223 cal_X11_takenNow ⟨Nat.zero_le _, Nat.zero_le _⟩ ⟨rfl, rfl⟩ ⟨Nat.le_of_ble_eq_true rfl, Nat.le_of_ble_eq_true rfl⟩ rfl rfl (Nat.le_of_ble_eq_true rfl) dX11_taken_1 ?_
  obtain ⟨rfl, rfl⟩ := os_e hf
  exact g_iret C rfl dX11_taken_4
theorem c_X11_taken (l : Launch) (dC : Nat → ClassId) (dI : Nat → Nat → Nat) (ad : Nat → Nat) (cy : Nat → ClassId)  : ConI l yX11_taken cX11_taken 1 (some .int) rm_X11_taken dC dI ad cy [.ref (ad 98)] (fun σ => fX11_taken σ) := con_i (own := RX11) (by decide) rfl (Nat.le_of_ble_eq_true rfl) (fun _ _ _ _ _ _ _ _ σ _ _ C hf => fX11_taken_ok C σ  hf)
theorem cal_X11_taken : CalV yX11_taken RX11 cX11_taken 1 (some .int) 0 := ⟨hI_X11_taken, hS_X11_taken, hIni_X11, hC_X11_taken, by decide +kernel⟩
abbrev rm_X11_getsOf : Room := { frames := 1, cells := 0, slots := 0, locals := 22 }
def fX11_getsOf_b16  (σ : S0) (x1 : Int32) (x2 : Int32) (t0 : Int32) : Option (Int32 × S0) := obp (fX11_of σ x2 ((0 : Int32))) (fun r1 σ2 => if ¬ r1 = x1 then (obp (fX11_of σ2 x2 ((4 : Int32))) (fun r5 σ6 => if ¬ r5 = x1 then (some (0, σ6)) else (obp (fX11_of σ6 x2 ((1 : Int32))) (fun r9 σ10 => some (r9, σ10))))) else (if t0 = 0 then (obp (fX11_of σ2 x2 ((1 : Int32))) (fun r13 σ14 => some (2 * r13, σ14))) else (obp (fX11_of σ2 x2 ((1 : Int32))) (fun r16 σ17 => some (r16, σ17)))))
set_option maxHeartbeats 1000000 in
set_option maxRecDepth 100000 in
theorem fX11_getsOf_b16_ok {p : Program} {l : Launch} {e : Env} {s : State} {m : MethodId} {args : Array Value} {below : List Frame} {meth : Method} {c : Code} {dC : Nat → ClassId} {dI : Nat → Nat → Nat} {ad : Nat → Nat} {cy : Nat → ClassId} {sz : Nat} (C : Cx p s m args meth c RX11 cX11_getsOf 4 (some .int) dC dI ad cy sz) {rr : Int32} {ρ : S0}  (σ : S0) (x1 : Int32) (x2 : Int32) (t0 : Int32)  (hf : fX11_getsOf_b16 σ x1 x2 t0 = some (rr, ρ)) : Gw p l e rm_X11_getsOf s m args below meth c (MQ below (QcI dC dI ad cy sz rr ρ) args s 0 0 (AW ad sz)) dC dI ad cy 4 sz 0 0 16 [(0, .ref (ad 98)), (1, .int x1), (2, .int x2)] [.int t0] σ := by
  unfold fX11_getsOf_b16 at hf
  refine g_istore_n (lv2 := [(0, .ref (ad 98)), (1, .int x1), (2, .int x2), (3, .int t0)]) C dX11_getsOf_16 rfl (by decide) [1, 2, 3, 0] rfl ?_
  refine g_aload_n C dX11_getsOf_17 rfl 0 rfl ?_
  refine g_iload_n C dX11_getsOf_18 rfl 2 rfl ?_
  refine g_iconst (v := 0) C dX11_getsOf_19 (by decide) ?_
  obtain ⟨r1, σ2, h3, hf⟩ := obp_e hf
  refine g_callVi (As := [.int x2, .int 0]) (rest := []) C (a_98 ad cy _) rfl (c_X11_of l dC dI ad cy x2 ((0 : Int32))) h3 hM_X11_172 cal_X11_of ⟨Nat.zero_le _, Nat.zero_le _⟩ ⟨rfl, rfl⟩ ⟨Nat.le_of_ble_eq_true rfl, Nat.le_of_ble_eq_true rfl⟩ rfl rfl (Nat.le_of_ble_eq_true rfl) dX11_getsOf_20 ?_
  refine g_iload_n C dX11_getsOf_23 rfl 1 rfl ?_
  rcases oi_e hf with ⟨c4, hf⟩ | ⟨c4, hf⟩
  · refine g_icmp_ne_t (tgt := 51) C dX11_getsOf_24 (by decide) c4 ?_
    refine g_aload_n C dX11_getsOf_51 rfl 0 rfl ?_
    refine g_iload_n C dX11_getsOf_52 rfl 2 rfl ?_
    refine g_iconst (v := 4) C dX11_getsOf_53 (by decide) ?_
    obtain ⟨r5, σ6, h7, hf⟩ := obp_e hf
    refine g_callVi (As := [.int x2, .int 4]) (rest := []) C (a_98 ad cy _) rfl (c_X11_of l dC dI ad cy x2 ((4 : Int32))) h7 hM_X11_172 cal_X11_of ⟨Nat.zero_le _, Nat.zero_le _⟩ ⟨rfl, rfl⟩ ⟨Nat.le_of_ble_eq_true rfl, Nat.le_of_ble_eq_true rfl⟩ rfl rfl (Nat.le_of_ble_eq_true rfl) dX11_getsOf_54 ?_
    refine g_iload_n C dX11_getsOf_57 rfl 1 rfl ?_
    rcases oi_e hf with ⟨c8, hf⟩ | ⟨c8, hf⟩
    · refine g_icmp_ne_t (tgt := 70) C dX11_getsOf_58 (by decide) c8 ?_
      refine g_iconst (v := 0) C dX11_getsOf_70 (by decide) ?_
      obtain ⟨rfl, rfl⟩ := os_e hf
      exact g_iret C rfl dX11_getsOf_71
    · refine g_icmp_ne_f (tgt := 70) C dX11_getsOf_58 (by decide) (Decidable.of_not_not c8) ?_
      refine g_aload_n C dX11_getsOf_61 rfl 0 rfl ?_
      refine g_iload_n C dX11_getsOf_62 rfl 2 rfl ?_
      refine g_iconst (v := 1) C dX11_getsOf_63 (by decide) ?_
      obtain ⟨r9, σ10, h11, hf⟩ := obp_e hf
      refine g_callVi (As := [.int x2, .int 1]) (rest := []) C (a_98 ad cy _) rfl (c_X11_of l dC dI ad cy x2 ((1 : Int32))) h11 hM_X11_172 cal_X11_of ⟨Nat.zero_le _, Nat.zero_le _⟩ ⟨rfl, rfl⟩ ⟨Nat.le_of_ble_eq_true rfl, Nat.le_of_ble_eq_true rfl⟩ rfl rfl (Nat.le_of_ble_eq_true rfl) dX11_getsOf_64 ?_
      refine g_goto (tgt := 71) C dX11_getsOf_67 (by decide) ?_
      obtain ⟨rfl, rfl⟩ := os_e hf
      exact g_iret C rfl dX11_getsOf_71
  · refine g_icmp_ne_f (tgt := 51) C dX11_getsOf_24 (by decide) (Decidable.of_not_not c4) ?_
    refine g_iload_n C dX11_getsOf_27 rfl 3 rfl ?_
    rcases oi_e hf with ⟨c12, hf⟩ | ⟨c12, hf⟩
    · refine g_if_eq_t (tgt := 40) C dX11_getsOf_28 (by decide) c12 ?_
      refine g_iconst (v := 2) C dX11_getsOf_40 (by decide) ?_
      refine g_aload_n C dX11_getsOf_41 rfl 0 rfl ?_
      refine g_iload_n C dX11_getsOf_42 rfl 2 rfl ?_
      refine g_iconst (v := 1) C dX11_getsOf_43 (by decide) ?_
      obtain ⟨r13, σ14, h15, hf⟩ := obp_e hf
      refine g_callVi (As := [.int x2, .int 1]) (rest := [.int 2]) C (a_98 ad cy _) rfl (c_X11_of l dC dI ad cy x2 ((1 : Int32))) h15 hM_X11_172 cal_X11_of ⟨Nat.zero_le _, Nat.zero_le _⟩ ⟨rfl, rfl⟩ ⟨Nat.le_of_ble_eq_true rfl, Nat.le_of_ble_eq_true rfl⟩ rfl rfl (Nat.le_of_ble_eq_true rfl) dX11_getsOf_44 ?_
      refine g_imul C dX11_getsOf_47 ?_
      refine g_goto (tgt := 71) C dX11_getsOf_48 (by decide) ?_
      obtain ⟨rfl, rfl⟩ := os_e hf
      exact g_iret C rfl dX11_getsOf_71
    · refine g_if_eq_f (tgt := 40) C dX11_getsOf_28 (by decide) c12 ?_
      refine g_aload_n C dX11_getsOf_31 rfl 0 rfl ?_
      refine g_iload_n C dX11_getsOf_32 rfl 2 rfl ?_
      refine g_iconst (v := 1) C dX11_getsOf_33 (by decide) ?_
      obtain ⟨r16, σ17, h18, hf⟩ := obp_e hf
      refine g_callVi (As := [.int x2, .int 1]) (rest := []) C (a_98 ad cy _) rfl (c_X11_of l dC dI ad cy x2 ((1 : Int32))) h18 hM_X11_172 cal_X11_of ⟨Nat.zero_le _, Nat.zero_le _⟩ ⟨rfl, rfl⟩ ⟨Nat.le_of_ble_eq_true rfl, Nat.le_of_ble_eq_true rfl⟩ rfl rfl (Nat.le_of_ble_eq_true rfl) dX11_getsOf_34 ?_
      refine g_goto (tgt := 71) C dX11_getsOf_37 (by decide) ?_
      obtain ⟨rfl, rfl⟩ := os_e hf
      exact g_iret C rfl dX11_getsOf_71
def fX11_getsOf (σ : S0) (x1 : Int32) (x2 : Int32) : Option (Int32 × S0) := obp (fX11_of σ x2 ((4 : Int32))) (fun r1 σ2 => if r1 = ((-4)) then (fX11_getsOf_b16 σ2 x1 x2 0) else (fX11_getsOf_b16 σ2 x1 x2 1))
set_option maxHeartbeats 1000000 in
set_option maxRecDepth 100000 in
theorem fX11_getsOf_ok {p : Program} {l : Launch} {e : Env} {s : State} {m : MethodId} {args : Array Value} {below : List Frame} {meth : Method} {c : Code} {dC : Nat → ClassId} {dI : Nat → Nat → Nat} {ad : Nat → Nat} {cy : Nat → ClassId} {sz : Nat} (C : Cx p s m args meth c RX11 cX11_getsOf 4 (some .int) dC dI ad cy sz) {rr : Int32} {ρ : S0} (σ : S0) (x1 : Int32) (x2 : Int32)  (hf : fX11_getsOf σ x1 x2 = some (rr, ρ)) : Gw p l e rm_X11_getsOf s m args below meth c (MQ below (QcI dC dI ad cy sz rr ρ) args s 0 0 (AW ad sz)) dC dI ad cy 4 sz 0 0 0 [(0, .ref (ad 98)), (1, .int x1), (2, .int x2)] [] σ := by
  unfold fX11_getsOf at hf
  refine g_aload_n C dX11_getsOf_0 rfl 0 rfl ?_
  refine g_iload_n C dX11_getsOf_1 rfl 2 rfl ?_
  refine g_iconst (v := 4) C dX11_getsOf_2 (by decide) ?_
  obtain ⟨r1, σ2, h3, hf⟩ := obp_e hf
  refine g_callVi (As := [.int x2, .int 4]) (rest := []) C (a_98 ad cy _) rfl (c_X11_of l dC dI ad cy x2 ((4 : Int32))) h3 hM_X11_172 cal_X11_of ⟨Nat.zero_le _, Nat.zero_le _⟩ ⟨rfl, rfl⟩ ⟨Nat.le_of_ble_eq_true rfl, Nat.le_of_ble_eq_true rfl⟩ rfl rfl (Nat.le_of_ble_eq_true rfl) dX11_getsOf_3 ?_
  refine g_bipush (v := (-4)) C dX11_getsOf_6 (by decide) ?_
  rcases oi_e hf with ⟨c4, hf⟩ | ⟨c4, hf⟩
  · refine g_icmp_eq_t (tgt := 15) C dX11_getsOf_8 (by decide) c4 ?_
    refine g_iconst (v := 0) C dX11_getsOf_15 (by decide) ?_
    exact g_sub [0, 1, 2] rfl (fX11_getsOf_b16_ok C σ2 x1 x2 0 hf)
  · refine g_icmp_eq_f (tgt := 15) C dX11_getsOf_8 (by decide) c4 ?_
    refine g_iconst (v := 1) C dX11_getsOf_11 (by decide) ?_
    refine g_goto (tgt := 16) C dX11_getsOf_12 (by decide) ?_
    exact g_sub [0, 1, 2] rfl (fX11_getsOf_b16_ok C σ2 x1 x2 1 hf)
theorem c_X11_getsOf (l : Launch) (dC : Nat → ClassId) (dI : Nat → Nat → Nat) (ad : Nat → Nat) (cy : Nat → ClassId) (x1 : Int32) (x2 : Int32) : ConI l yX11_getsOf cX11_getsOf 4 (some .int) rm_X11_getsOf dC dI ad cy [.ref (ad 98), .int x1, .int x2] (fun σ => fX11_getsOf σ x1 x2) := con_i (own := RX11) (by decide) rfl (Nat.le_of_ble_eq_true rfl) (fun _ _ _ _ _ _ _ _ σ _ _ C hf => fX11_getsOf_ok C σ x1 x2 hf)
theorem cal_X11_getsOf : CalV yX11_getsOf RX11 cX11_getsOf 4 (some .int) 2 := ⟨hI_X11_getsOf, hS_X11_getsOf, hIni_X11, hC_X11_getsOf, by decide +kernel⟩
abbrev rm_X11_getsNow : Room := { frames := 2, cells := 0, slots := 0, locals := 47 }
def fX11_getsNow_b50 (sf_10 : S0 → Int32 → Int32 → Int32 → Int32 → Option (Int32 × S0)) (σ : S0) (x1 : Int32) (x2 : Int32) (x4 : Int32) (t0 : Int32) (t1 : Int32) : Option (Int32 × S0) := ol (t1 + t0) (fun v1 => ol (x4 + 1) (fun v2 => sf_10 σ x1 x2 v1 v2))
set_option maxHeartbeats 1000000 in
set_option maxRecDepth 100000 in
theorem fX11_getsNow_b50_ok {p : Program} {l : Launch} {e : Env} {s : State} {m : MethodId} {args : Array Value} {below : List Frame} {meth : Method} {c : Code} {dC : Nat → ClassId} {dI : Nat → Nat → Nat} {ad : Nat → Nat} {cy : Nat → ClassId} {sz : Nat} (C : Cx p s m args meth c RX11 cX11_getsNow 5 (some .int) dC dI ad cy sz) {rr : Int32} {ρ : S0} (sf_10 : S0 → Int32 → Int32 → Int32 → Int32 → Option (Int32 × S0)) (hs_10 : ∀ (σ : S0) (x1 : Int32) (x2 : Int32) (x3 : Int32) (x4 : Int32) , sf_10 σ x1 x2 x3 x4 = some (rr, ρ) → Gw p l e rm_X11_getsNow s m args below meth c (MQ below (QcI dC dI ad cy sz rr ρ) args s 0 0 (AW ad sz)) dC dI ad cy 5 sz 0 0 10 [(0, .ref (ad 98)), (1, .int x1), (2, .int x2), (3, .int x3), (4, .int x4)] [] σ) (σ : S0) (x1 : Int32) (x2 : Int32) (x4 : Int32) (t0 : Int32) (t1 : Int32)  (hf : fX11_getsNow_b50 sf_10 σ x1 x2 x4 t0 t1 = some (rr, ρ)) : Gw p l e rm_X11_getsNow s m args below meth c (MQ below (QcI dC dI ad cy sz rr ρ) args s 0 0 (AW ad sz)) dC dI ad cy 5 sz 0 0 50 [(0, .ref (ad 98)), (1, .int x1), (2, .int x2), (4, .int x4)] [.int t0, .int t1] σ := by
  unfold fX11_getsNow_b50 at hf
  refine g_iadd C dX11_getsNow_50 ?_
  obtain ⟨v1, ev1, hf⟩ := ol_e hf
  refine g_nm ev1 ?_
  refine g_istore_n (lv2 := [(0, .ref (ad 98)), (1, .int x1), (2, .int x2), (3, .int v1), (4, .int x4)]) C dX11_getsNow_51 rfl (by decide) [1, 2, 3, 0, 4] rfl ?_
  obtain ⟨v2, ev2, hf⟩ := ol_e hf
  refine g_iinc (j := 4) (w := 1) (lv2 := [(0, .ref (ad 98)), (1, .int x1), (2, .int x2), (3, .int v1), (4, .int v2)]) C dX11_getsNow_52 rfl (by decide) ev2 (by decide) [1, 2, 3, 4, 0] rfl ?_
  refine g_goto (tgt := 10) C dX11_getsNow_55 (by decide) ?_
  exact g_sub [0, 1, 2, 3, 4] rfl (hs_10 σ x1 x2 v1 v2 hf)
def fX11_getsNow_b10 (sf_10 : S0 → Int32 → Int32 → Int32 → Int32 → Option (Int32 × S0)) (σ : S0) (x1 : Int32) (x2 : Int32) (x3 : Int32) (x4 : Int32) : Option (Int32 × S0) := obp (fX11_strokes σ x2) (fun r1 σ2 => if r1 ≤ x4 then (some (x3, σ2)) else (if ¬ (((σ2 98 26) >>> (x4 &&& 31)) &&& 1) = 1 then (obp (fX11_stroke σ2 x2 x4) (fun r6 σ7 => obp (fX11_getsOf σ7 x1 r6) (fun r9 σ10 => fX11_getsNow_b50 sf_10 σ10 x1 x2 x4 r9 x3))) else (fX11_getsNow_b50 sf_10 σ2 x1 x2 x4 0 x3)))
set_option maxHeartbeats 1000000 in
set_option maxRecDepth 100000 in
theorem fX11_getsNow_b10_ok {p : Program} {l : Launch} {e : Env} {s : State} {m : MethodId} {args : Array Value} {below : List Frame} {meth : Method} {c : Code} {dC : Nat → ClassId} {dI : Nat → Nat → Nat} {ad : Nat → Nat} {cy : Nat → ClassId} {sz : Nat} (C : Cx p s m args meth c RX11 cX11_getsNow 5 (some .int) dC dI ad cy sz) {rr : Int32} {ρ : S0} (sf_10 : S0 → Int32 → Int32 → Int32 → Int32 → Option (Int32 × S0)) (hs_10 : ∀ (σ : S0) (x1 : Int32) (x2 : Int32) (x3 : Int32) (x4 : Int32) , sf_10 σ x1 x2 x3 x4 = some (rr, ρ) → Gw p l e rm_X11_getsNow s m args below meth c (MQ below (QcI dC dI ad cy sz rr ρ) args s 0 0 (AW ad sz)) dC dI ad cy 5 sz 0 0 10 [(0, .ref (ad 98)), (1, .int x1), (2, .int x2), (3, .int x3), (4, .int x4)] [] σ) (σ : S0) (x1 : Int32) (x2 : Int32) (x3 : Int32) (x4 : Int32)  (hf : fX11_getsNow_b10 sf_10 σ x1 x2 x3 x4 = some (rr, ρ)) : Gw p l e rm_X11_getsNow s m args below meth c (MQ below (QcI dC dI ad cy sz rr ρ) args s 0 0 (AW ad sz)) dC dI ad cy 5 sz 0 0 10 [(0, .ref (ad 98)), (1, .int x1), (2, .int x2), (3, .int x3), (4, .int x4)] [] σ := by
  unfold fX11_getsNow_b10 at hf
  refine g_iload C dX11_getsNow_10 4 rfl ?_
  refine g_aload_n C dX11_getsNow_12 rfl 0 rfl ?_
  refine g_iload_n C dX11_getsNow_13 rfl 2 rfl ?_
  obtain ⟨r1, σ2, h3, hf⟩ := obp_e hf
  refine g_callVi (As := [.int x2]) (rest := [.int x4]) C (a_98 ad cy _) rfl (c_X11_strokes l dC dI ad cy x2) h3 hM_X11_180 cal_X11_strokes ⟨Nat.zero_le _, Nat.zero_le _⟩ ⟨rfl, rfl⟩ ⟨Nat.le_of_ble_eq_true rfl, Nat.le_of_ble_eq_true rfl⟩ rfl rfl (Nat.le_of_ble_eq_true rfl) dX11_getsNow_14 ?_
  rcases oi_e hf with ⟨c4, hf⟩ | ⟨c4, hf⟩
  · refine g_icmp_ge_t (tgt := 58) C dX11_getsNow_17 (by decide) c4 ?_
    refine g_iload_n C dX11_getsNow_58 rfl 3 rfl ?_
    obtain ⟨rfl, rfl⟩ := os_e hf
    exact g_iret C rfl dX11_getsNow_59
  · refine g_icmp_ge_f (tgt := 58) C dX11_getsNow_17 (by decide) c4 ?_
    refine g_iload_n C dX11_getsNow_20 rfl 3 rfl ?_
    refine g_aload_n C dX11_getsNow_21 rfl 0 rfl ?_
    refine g_get C (a_98 ad cy _) rfl hin_X11 26 (by decide) hF_X11_210 rfl rfl dX11_getsNow_22 ?_
    refine g_iload C dX11_getsNow_25 4 rfl ?_
    refine g_ishr C dX11_getsNow_27 ?_
    refine g_iconst (v := 1) C dX11_getsNow_28 (by decide) ?_
    refine g_iand C dX11_getsNow_29 ?_
    refine g_iconst (v := 1) C dX11_getsNow_30 (by decide) ?_
    rcases oi_e hf with ⟨c5, hf⟩ | ⟨c5, hf⟩
    · refine g_icmp_ne_t (tgt := 38) C dX11_getsNow_31 (by decide) c5 ?_
      refine g_aload_n C dX11_getsNow_38 rfl 0 rfl ?_
      refine g_iload_n C dX11_getsNow_39 rfl 1 rfl ?_
      refine g_aload_n C dX11_getsNow_40 rfl 0 rfl ?_
      refine g_iload_n C dX11_getsNow_41 rfl 2 rfl ?_
      refine g_iload C dX11_getsNow_42 4 rfl ?_
      obtain ⟨r6, σ7, h8, hf⟩ := obp_e hf
      refine g_callVi (As := [.int x2, .int x4]) (rest := [.int x1, .ref (ad 98), .int x3]) C (a_98 ad cy _) rfl (c_X11_stroke l dC dI ad cy x2 x4) h8 hM_X11_183 cal_X11_stroke ⟨Nat.zero_le _, Nat.zero_le _⟩ ⟨rfl, rfl⟩ ⟨Nat.le_of_ble_eq_true rfl, Nat.le_of_ble_eq_true rfl⟩ rfl rfl (Nat.le_of_ble_eq_true rfl) dX11_getsNow_44 ?_
      obtain ⟨r9, σ10, h11, hf⟩ := obp_e hf
      refine g_callVi (As := [.int x1, .int r6]) (rest := [.int x3]) C (a_98 ad cy _) rfl (c_X11_getsOf l dC dI ad cy x1 r6) h11 hM_X11_226 cal_X11_getsOf ⟨Nat.zero_le _, Nat.zero_le _⟩ ⟨rfl, rfl⟩ ⟨Nat.le_of_ble_eq_true rfl, Nat.le_of_ble_eq_true rfl⟩ rfl rfl (Nat.le_of_ble_eq_true rfl) dX11_getsNow_47 ?_
      exact g_sub [0, 1, 2, 4] rfl (fX11_getsNow_b50_ok C sf_10 hs_10 σ10 x1 x2 x4 r9 x3 hf)
    · refine g_icmp_ne_f (tgt := 38) C dX11_getsNow_31 (by decide) (Decidable.of_not_not c5) ?_
      refine g_iconst (v := 0) C dX11_getsNow_34 (by decide) ?_
      refine g_goto (tgt := 50) C dX11_getsNow_35 (by decide) ?_
      exact g_sub [0, 1, 2, 4] rfl (fX11_getsNow_b50_ok C sf_10 hs_10 σ2 x1 x2 x4 0 x3 hf)
def fX11_getsNow_h10  : Nat → S0 → Int32 → Int32 → Int32 → Int32 → Option (Int32 × S0)
  | 0 => fun _ _ _ _ _ => none
  | n + 1 => fun σ x1 x2 x3 x4 => fX11_getsNow_b10  (fX11_getsNow_h10  n) σ x1 x2 x3 x4
set_option maxHeartbeats 1000000 in
set_option maxRecDepth 100000 in
theorem fX11_getsNow_h10_ok {p : Program} {l : Launch} {e : Env} {s : State} {m : MethodId} {args : Array Value} {below : List Frame} {meth : Method} {c : Code} {dC : Nat → ClassId} {dI : Nat → Nat → Nat} {ad : Nat → Nat} {cy : Nat → ClassId} {sz : Nat} (C : Cx p s m args meth c RX11 cX11_getsNow 5 (some .int) dC dI ad cy sz) {rr : Int32} {ρ : S0}  : ∀ (n : Nat) (σ : S0) (x1 : Int32) (x2 : Int32) (x3 : Int32) (x4 : Int32)  (_hf : fX11_getsNow_h10  n σ x1 x2 x3 x4 = some (rr, ρ)), Gw p l e rm_X11_getsNow s m args below meth c (MQ below (QcI dC dI ad cy sz rr ρ) args s 0 0 (AW ad sz)) dC dI ad cy 5 sz 0 0 10 [(0, .ref (ad 98)), (1, .int x1), (2, .int x2), (3, .int x3), (4, .int x4)] [] σ
  | 0, _, _, _, _, _, hf => by cases hf
  | n + 1, σ, x1, x2, x3, x4, hf => fX11_getsNow_b10_ok C  (fX11_getsNow_h10  n) (fX11_getsNow_h10_ok C  n) σ x1 x2 x3 x4 hf
def fX11_getsNow (σ : S0) (x1 : Int32) (x2 : Int32) : Option (Int32 × S0) := obp (fX11_rings σ x2) (fun r1 σ2 => fX11_getsNow_h10 400 σ2 x1 x2 0 0)
set_option maxHeartbeats 1000000 in
set_option maxRecDepth 100000 in
theorem fX11_getsNow_ok {p : Program} {l : Launch} {e : Env} {s : State} {m : MethodId} {args : Array Value} {below : List Frame} {meth : Method} {c : Code} {dC : Nat → ClassId} {dI : Nat → Nat → Nat} {ad : Nat → Nat} {cy : Nat → ClassId} {sz : Nat} (C : Cx p s m args meth c RX11 cX11_getsNow 5 (some .int) dC dI ad cy sz) {rr : Int32} {ρ : S0} (σ : S0) (x1 : Int32) (x2 : Int32)  (hf : fX11_getsNow σ x1 x2 = some (rr, ρ)) : Gw p l e rm_X11_getsNow s m args below meth c (MQ below (QcI dC dI ad cy sz rr ρ) args s 0 0 (AW ad sz)) dC dI ad cy 5 sz 0 0 0 [(0, .ref (ad 98)), (1, .int x1), (2, .int x2)] [] σ := by
  unfold fX11_getsNow at hf
  refine g_aload_n C dX11_getsNow_0 rfl 0 rfl ?_
  refine g_iload_n C dX11_getsNow_1 rfl 2 rfl ?_
  obtain ⟨r1, σ2, h3, hf⟩ := obp_e hf
  refine g_callVv (As := [.int x2]) (rest := []) C (a_98 ad cy _) rfl (c_X11_rings l dC dI ad cy x2) h3 hM_X11_216 cal_X11_rings ⟨Nat.zero_le _, Nat.zero_le _⟩ ⟨rfl, rfl⟩ ⟨Nat.le_of_ble_eq_true rfl, Nat.le_of_ble_eq_true rfl⟩ rfl rfl (Nat.le_of_ble_eq_true rfl) dX11_getsNow_2 ?_
  refine g_iconst (v := 0) C dX11_getsNow_5 (by decide) ?_
  refine g_istore_n (lv2 := [(0, .ref (ad 98)), (1, .int x1), (2, .int x2), (3, .int 0)]) C dX11_getsNow_6 rfl (by decide) [1, 2, 3, 0] rfl ?_
  refine g_iconst (v := 0) C dX11_getsNow_7 (by decide) ?_
  refine g_istore (lv2 := [(0, .ref (ad 98)), (1, .int x1), (2, .int x2), (3, .int 0), (4, .int 0)]) C dX11_getsNow_8 (by decide) [1, 2, 3, 4, 0] rfl ?_
  exact g_sub [0, 1, 2, 3, 4] rfl (fX11_getsNow_h10_ok C 400 σ2 x1 x2 0 0 hf)
theorem c_X11_getsNow (l : Launch) (dC : Nat → ClassId) (dI : Nat → Nat → Nat) (ad : Nat → Nat) (cy : Nat → ClassId) (x1 : Int32) (x2 : Int32) : ConI l yX11_getsNow cX11_getsNow 5 (some .int) rm_X11_getsNow dC dI ad cy [.ref (ad 98), .int x1, .int x2] (fun σ => fX11_getsNow σ x1 x2) := con_i (own := RX11) (by decide) rfl (Nat.le_of_ble_eq_true rfl) (fun _ _ _ _ _ _ _ _ σ _ _ C hf => fX11_getsNow_ok C σ x1 x2 hf)
theorem cal_X11_getsNow : CalV yX11_getsNow RX11 cX11_getsNow 5 (some .int) 2 := ⟨hI_X11_getsNow, hS_X11_getsNow, hIni_X11, hC_X11_getsNow, by decide +kernel⟩
abbrev rm_X11_gets : Room := { frames := 3, cells := 0, slots := 0, locals := 71 }
def fX11_gets (σ : S0) (x1 : Int32) (x2 : Int32) : Option (Int32 × S0) := obp (fX11_isHouse σ x1) (fun r1 σ2 => if r1 = 0 then (some ((-1), σ2)) else (obp (fX11_isTune σ2 x2) (fun r5 σ6 => if r5 = 0 then (some ((-1), σ6)) else (obp (fX11_getsNow σ6 x1 x2) (fun r9 σ10 => some (r9, σ10))))))
set_option maxHeartbeats 1000000 in
set_option maxRecDepth 100000 in
theorem fX11_gets_ok {p : Program} {l : Launch} {e : Env} {s : State} {m : MethodId} {args : Array Value} {below : List Frame} {meth : Method} {c : Code} {dC : Nat → ClassId} {dI : Nat → Nat → Nat} {ad : Nat → Nat} {cy : Nat → ClassId} {sz : Nat} (C : Cx p s m args meth c RX11 cX11_gets 3 (some .int) dC dI ad cy sz) {rr : Int32} {ρ : S0} (σ : S0) (x1 : Int32) (x2 : Int32)  (hf : fX11_gets σ x1 x2 = some (rr, ρ)) : Gw p l e rm_X11_gets s m args below meth c (MQ below (QcI dC dI ad cy sz rr ρ) args s 0 0 (AW ad sz)) dC dI ad cy 3 sz 0 0 0 [(0, .ref (ad 98)), (1, .int x1), (2, .int x2)] [] σ := by
  unfold fX11_gets at hf
  refine g_aload_n C dX11_gets_0 rfl 0 rfl ?_
  refine g_iload_n C dX11_gets_1 rfl 1 rfl ?_
  obtain ⟨r1, σ2, h3, hf⟩ := obp_e hf
  refine g_callVi (As := [.int x1]) (rest := []) C (a_98 ad cy _) rfl (c_X11_isHouse l dC dI ad cy x1) h3 hM_X11_186 cal_X11_isHouse ⟨Nat.zero_le _, Nat.zero_le _⟩ ⟨rfl, rfl⟩ ⟨Nat.le_of_ble_eq_true rfl, Nat.le_of_ble_eq_true rfl⟩ rfl rfl (Nat.le_of_ble_eq_true rfl) dX11_gets_2 ?_
  rcases oi_e hf with ⟨c4, hf⟩ | ⟨c4, hf⟩
  · refine g_if_eq_t (tgt := 25) C dX11_gets_5 (by decide) c4 ?_
    refine g_iconst (v := (-1)) C dX11_gets_25 (by decide) ?_
    obtain ⟨rfl, rfl⟩ := os_e hf
    exact g_iret C rfl dX11_gets_26
  · refine g_if_eq_f (tgt := 25) C dX11_gets_5 (by decide) c4 ?_
    refine g_aload_n C dX11_gets_8 rfl 0 rfl ?_
    refine g_iload_n C dX11_gets_9 rfl 2 rfl ?_
    obtain ⟨r5, σ6, h7, hf⟩ := obp_e hf
    refine g_callVi (As := [.int x2]) (rest := []) C (a_98 ad cy _) rfl (c_X11_isTune l dC dI ad cy x2) h7 hM_X11_175 cal_X11_isTune ⟨Nat.zero_le _, Nat.zero_le _⟩ ⟨rfl, rfl⟩ ⟨Nat.le_of_ble_eq_true rfl, Nat.le_of_ble_eq_true rfl⟩ rfl rfl (Nat.le_of_ble_eq_true rfl) dX11_gets_10 ?_
    rcases oi_e hf with ⟨c8, hf⟩ | ⟨c8, hf⟩
    · refine g_if_eq_t (tgt := 25) C dX11_gets_13 (by decide) c8 ?_
      refine g_iconst (v := (-1)) C dX11_gets_25 (by decide) ?_
      obtain ⟨rfl, rfl⟩ := os_e hf
      exact g_iret C rfl dX11_gets_26
    · refine g_if_eq_f (tgt := 25) C dX11_gets_13 (by decide) c8 ?_
      refine g_aload_n C dX11_gets_16 rfl 0 rfl ?_
      refine g_iload_n C dX11_gets_17 rfl 1 rfl ?_
      refine g_iload_n C dX11_gets_18 rfl 2 rfl ?_
      obtain ⟨r9, σ10, h11, hf⟩ := obp_e hf
      refine g_callVi (As := [.int x1, .int x2]) (rest := []) C (a_98 ad cy _) rfl (c_X11_getsNow l dC dI ad cy x1 x2) h11 hM_X11_229 cal_X11_getsNow ⟨Nat.zero_le _, Nat.zero_le _⟩ ⟨rfl, rfl⟩ ⟨Nat.le_of_ble_eq_true rfl, Nat.le_of_ble_eq_true rfl⟩ rfl rfl (Nat.le_of_ble_eq_true rfl) dX11_gets_19 ?_
      refine g_goto (tgt := 26) C dX11_gets_22 (by decide) ?_
      obtain ⟨rfl, rfl⟩ := os_e hf
      exact g_iret C rfl dX11_gets_26
theorem c_X11_gets (l : Launch) (dC : Nat → ClassId) (dI : Nat → Nat → Nat) (ad : Nat → Nat) (cy : Nat → ClassId) (x1 : Int32) (x2 : Int32) : ConI l yX11_gets cX11_gets 3 (some .int) rm_X11_gets dC dI ad cy [.ref (ad 98), .int x1, .int x2] (fun σ => fX11_gets σ x1 x2) := con_i (own := RX11) (by decide) rfl (Nat.le_of_ble_eq_true rfl) (fun _ _ _ _ _ _ _ _ σ _ _ C hf => fX11_gets_ok C σ x1 x2 hf)
theorem cal_X11_gets : CalV yX11_gets RX11 cX11_gets 3 (some .int) 2 := ⟨hI_X11_gets, hS_X11_gets, hIni_X11, hC_X11_gets, by decide +kernel⟩
abbrev rm_X11_wageOf : Room := { frames := 4, cells := 0, slots := 0, locals := 92 }
def fX11_wageOf (σ : S0) (x1 : Int32) : Option (Int32 × S0) := obp (fX11_takenNow σ) (fun r1 σ2 => if ¬ r1 = ((-4)) then (obp (fX11_getsNow σ2 x1 r1) (fun r5 σ6 => some (r5, σ6))) else (some (0, σ2)))
set_option maxHeartbeats 1000000 in
set_option maxRecDepth 100000 in
theorem fX11_wageOf_ok {p : Program} {l : Launch} {e : Env} {s : State} {m : MethodId} {args : Array Value} {below : List Frame} {meth : Method} {c : Code} {dC : Nat → ClassId} {dI : Nat → Nat → Nat} {ad : Nat → Nat} {cy : Nat → ClassId} {sz : Nat} (C : Cx p s m args meth c RX11 cX11_wageOf 3 (some .int) dC dI ad cy sz) {rr : Int32} {ρ : S0} (σ : S0) (x1 : Int32)  (hf : fX11_wageOf σ x1 = some (rr, ρ)) : Gw p l e rm_X11_wageOf s m args below meth c (MQ below (QcI dC dI ad cy sz rr ρ) args s 0 0 (AW ad sz)) dC dI ad cy 3 sz 0 0 0 [(0, .ref (ad 98)), (1, .int x1)] [] σ := by
  unfold fX11_wageOf at hf
  refine g_aload_n C dX11_wageOf_0 rfl 0 rfl ?_
  obtain ⟨r1, σ2, h3, hf⟩ := obp_e hf
  refine g_callVi (As := []) (rest := []) C (a_98 ad cy _) rfl (c_X11_takenNow l dC dI ad cy ) h3 hM_X11_223 cal_X11_takenNow ⟨Nat.zero_le _, Nat.zero_le _⟩ ⟨rfl, rfl⟩ ⟨Nat.le_of_ble_eq_true rfl, Nat.le_of_ble_eq_true rfl⟩ rfl rfl (Nat.le_of_ble_eq_true rfl) dX11_wageOf_1 ?_
  refine g_istore_n (lv2 := [(0, .ref (ad 98)), (1, .int x1), (2, .int r1)]) C dX11_wageOf_4 rfl (by decide) [1, 2, 0] rfl ?_
  refine g_iload_n C dX11_wageOf_5 rfl 2 rfl ?_
  refine g_bipush (v := (-4)) C dX11_wageOf_6 (by decide) ?_
  rcases oi_e hf with ⟨c4, hf⟩ | ⟨c4, hf⟩
  · refine g_icmp_ne_t (tgt := 15) C dX11_wageOf_8 (by decide) c4 ?_
    refine g_aload_n C dX11_wageOf_15 rfl 0 rfl ?_
    refine g_iload_n C dX11_wageOf_16 rfl 1 rfl ?_
    refine g_iload_n C dX11_wageOf_17 rfl 2 rfl ?_
    obtain ⟨r5, σ6, h7, hf⟩ := obp_e hf
    refine g_callVi (As := [.int x1, .int r1]) (rest := []) C (a_98 ad cy _) rfl (c_X11_getsNow l dC dI ad cy x1 r1) h7 hM_X11_229 cal_X11_getsNow ⟨Nat.zero_le _, Nat.zero_le _⟩ ⟨rfl, rfl⟩ ⟨Nat.le_of_ble_eq_true rfl, Nat.le_of_ble_eq_true rfl⟩ rfl rfl (Nat.le_of_ble_eq_true rfl) dX11_wageOf_18 ?_
    obtain ⟨rfl, rfl⟩ := os_e hf
    exact g_iret C rfl dX11_wageOf_21
  · refine g_icmp_ne_f (tgt := 15) C dX11_wageOf_8 (by decide) (Decidable.of_not_not c4) ?_
    refine g_iconst (v := 0) C dX11_wageOf_11 (by decide) ?_
    refine g_goto (tgt := 21) C dX11_wageOf_12 (by decide) ?_
    obtain ⟨rfl, rfl⟩ := os_e hf
    exact g_iret C rfl dX11_wageOf_21
theorem c_X11_wageOf (l : Launch) (dC : Nat → ClassId) (dI : Nat → Nat → Nat) (ad : Nat → Nat) (cy : Nat → ClassId) (x1 : Int32) : ConI l yX11_wageOf cX11_wageOf 3 (some .int) rm_X11_wageOf dC dI ad cy [.ref (ad 98), .int x1] (fun σ => fX11_wageOf σ x1) := con_i (own := RX11) (by decide) rfl (Nat.le_of_ble_eq_true rfl) (fun _ _ _ _ _ _ _ _ σ _ _ C hf => fX11_wageOf_ok C σ x1 hf)
theorem cal_X11_wageOf : CalV yX11_wageOf RX11 cX11_wageOf 3 (some .int) 1 := ⟨hI_X11_wageOf, hS_X11_wageOf, hIni_X11, hC_X11_wageOf, by decide +kernel⟩
abbrev rm_X11_wage : Room := { frames := 5, cells := 0, slots := 0, locals := 114 }
def fX11_wage (σ : S0) (x1 : Int32) : Option (Int32 × S0) := obp (fX11_isHouse σ x1) (fun r1 σ2 => if r1 = 0 then (some ((-1), σ2)) else (obp (fX11_wageOf σ2 x1) (fun r5 σ6 => some (r5, σ6))))
set_option maxHeartbeats 1000000 in
set_option maxRecDepth 100000 in
theorem fX11_wage_ok {p : Program} {l : Launch} {e : Env} {s : State} {m : MethodId} {args : Array Value} {below : List Frame} {meth : Method} {c : Code} {dC : Nat → ClassId} {dI : Nat → Nat → Nat} {ad : Nat → Nat} {cy : Nat → ClassId} {sz : Nat} (C : Cx p s m args meth c RX11 cX11_wage 2 (some .int) dC dI ad cy sz) {rr : Int32} {ρ : S0} (σ : S0) (x1 : Int32)  (hf : fX11_wage σ x1 = some (rr, ρ)) : Gw p l e rm_X11_wage s m args below meth c (MQ below (QcI dC dI ad cy sz rr ρ) args s 0 0 (AW ad sz)) dC dI ad cy 2 sz 0 0 0 [(0, .ref (ad 98)), (1, .int x1)] [] σ := by
  unfold fX11_wage at hf
  refine g_aload_n C dX11_wage_0 rfl 0 rfl ?_
  refine g_iload_n C dX11_wage_1 rfl 1 rfl ?_
  obtain ⟨r1, σ2, h3, hf⟩ := obp_e hf
  refine g_callVi (As := [.int x1]) (rest := []) C (a_98 ad cy _) rfl (c_X11_isHouse l dC dI ad cy x1) h3 hM_X11_186 cal_X11_isHouse ⟨Nat.zero_le _, Nat.zero_le _⟩ ⟨rfl, rfl⟩ ⟨Nat.le_of_ble_eq_true rfl, Nat.le_of_ble_eq_true rfl⟩ rfl rfl (Nat.le_of_ble_eq_true rfl) dX11_wage_2 ?_
  rcases oi_e hf with ⟨c4, hf⟩ | ⟨c4, hf⟩
  · refine g_if_eq_t (tgt := 16) C dX11_wage_5 (by decide) c4 ?_
    refine g_iconst (v := (-1)) C dX11_wage_16 (by decide) ?_
    obtain ⟨rfl, rfl⟩ := os_e hf
    exact g_iret C rfl dX11_wage_17
  · refine g_if_eq_f (tgt := 16) C dX11_wage_5 (by decide) c4 ?_
    refine g_aload_n C dX11_wage_8 rfl 0 rfl ?_
    refine g_iload_n C dX11_wage_9 rfl 1 rfl ?_
    obtain ⟨r5, σ6, h7, hf⟩ := obp_e hf
    refine g_callVi (As := [.int x1]) (rest := []) C (a_98 ad cy _) rfl (c_X11_wageOf l dC dI ad cy x1) h7 hM_X11_232 cal_X11_wageOf ⟨Nat.zero_le _, Nat.zero_le _⟩ ⟨rfl, rfl⟩ ⟨Nat.le_of_ble_eq_true rfl, Nat.le_of_ble_eq_true rfl⟩ rfl rfl (Nat.le_of_ble_eq_true rfl) dX11_wage_10 ?_
    refine g_goto (tgt := 17) C dX11_wage_13 (by decide) ?_
    obtain ⟨rfl, rfl⟩ := os_e hf
    exact g_iret C rfl dX11_wage_17
theorem c_X11_wage (l : Launch) (dC : Nat → ClassId) (dI : Nat → Nat → Nat) (ad : Nat → Nat) (cy : Nat → ClassId) (x1 : Int32) : ConI l yX11_wage cX11_wage 2 (some .int) rm_X11_wage dC dI ad cy [.ref (ad 98), .int x1] (fun σ => fX11_wage σ x1) := con_i (own := RX11) (by decide) rfl (Nat.le_of_ble_eq_true rfl) (fun _ _ _ _ _ _ _ _ σ _ _ C hf => fX11_wage_ok C σ x1 hf)
theorem cal_X11_wage : CalV yX11_wage RX11 cX11_wage 2 (some .int) 1 := ⟨hI_X11_wage, hS_X11_wage, hIni_X11, hC_X11_wage, by decide +kernel⟩
abbrev rm_X11_asks : Room := { frames := 1, cells := 0, slots := 0, locals := 22 }
def fX11_asks_b39 (sf_2 : S0 → Int32 → Int32 → Int32 → Option (Int32 × S0)) (σ : S0) (x1 : Int32) (x2 : Int32) (x3 : Int32) (t0 : Int32) (t1 : Int32) : Option (Int32 × S0) := og (¬ (t1 < 0 ∨ 240 ≤ t1.toNatClampNeg)) (ol (su σ 99 t1.toNatClampNeg t0) (fun σ2 => ol (x3 + 1) (fun v3 => sf_2 σ2 x1 x2 v3)))
set_option maxHeartbeats 1000000 in
set_option maxRecDepth 100000 in
theorem fX11_asks_b39_ok {p : Program} {l : Launch} {e : Env} {s : State} {m : MethodId} {args : Array Value} {below : List Frame} {meth : Method} {c : Code} {dC : Nat → ClassId} {dI : Nat → Nat → Nat} {ad : Nat → Nat} {cy : Nat → ClassId} {sz : Nat} (C : Cx p s m args meth c RX11 cX11_asks 4 none dC dI ad cy sz) {rr : Int32} {ρ : S0} (sf_2 : S0 → Int32 → Int32 → Int32 → Option (Int32 × S0)) (hs_2 : ∀ (σ : S0) (x1 : Int32) (x2 : Int32) (x3 : Int32) , sf_2 σ x1 x2 x3 = some (rr, ρ) → Gw p l e rm_X11_asks s m args below meth c (MQ below (QcV dC dI ad cy sz ρ) args s 0 0 (AW ad sz)) dC dI ad cy 4 sz 0 0 2 [(0, .ref (ad 98)), (1, .int x1), (2, .int x2), (3, .int x3)] [] σ) (σ : S0) (x1 : Int32) (x2 : Int32) (x3 : Int32) (t0 : Int32) (t1 : Int32)  (hf : fX11_asks_b39 sf_2 σ x1 x2 x3 t0 t1 = some (rr, ρ)) : Gw p l e rm_X11_asks s m args below meth c (MQ below (QcV dC dI ad cy sz ρ) args s 0 0 (AW ad sz)) dC dI ad cy 4 sz 0 0 39 [(0, .ref (ad 98)), (1, .int x1), (2, .int x2), (3, .int x3)] [.int t0, .int t1, .ref (ad 99)] σ := by
  unfold fX11_asks_b39 at hf
  obtain ⟨h1, hf⟩ := og_e hf
  obtain ⟨σ2, eσ2, hf⟩ := ol_e hf
  refine g_iast C (a_99 ad cy _) h1 (w_99 ad cy _) eσ2 dX11_asks_39 ?_
  obtain ⟨v3, ev3, hf⟩ := ol_e hf
  refine g_iinc (j := 3) (w := 1) (lv2 := [(0, .ref (ad 98)), (1, .int x1), (2, .int x2), (3, .int v3)]) C dX11_asks_40 rfl (by decide) ev3 (by decide) [1, 2, 3, 0] rfl ?_
  refine g_goto (tgt := 2) C dX11_asks_43 (by decide) ?_
  exact g_sub [0, 1, 2, 3] rfl (hs_2 σ2 x1 x2 v3 hf)
def fX11_asks_b2 (sf_2 : S0 → Int32 → Int32 → Int32 → Option (Int32 × S0)) (σ : S0) (x1 : Int32) (x2 : Int32) (x3 : Int32) : Option (Int32 × S0) := if (σ 98 4) ≤ x3 then (some (0, σ)) else (obp (fX11_of σ x3 ((0 : Int32))) (fun r2 σ3 => if ¬ r2 = x1 then (obp (fX11_of σ3 x3 ((1 : Int32))) (fun r6 σ7 => fX11_asks_b39 sf_2 σ7 x1 x2 x3 r6 ((5 * x3) + 1))) else (fX11_asks_b39 sf_2 σ3 x1 x2 x3 x2 ((5 * x3) + 1))))
set_option maxHeartbeats 1000000 in
set_option maxRecDepth 100000 in
theorem fX11_asks_b2_ok {p : Program} {l : Launch} {e : Env} {s : State} {m : MethodId} {args : Array Value} {below : List Frame} {meth : Method} {c : Code} {dC : Nat → ClassId} {dI : Nat → Nat → Nat} {ad : Nat → Nat} {cy : Nat → ClassId} {sz : Nat} (C : Cx p s m args meth c RX11 cX11_asks 4 none dC dI ad cy sz) {rr : Int32} {ρ : S0} (sf_2 : S0 → Int32 → Int32 → Int32 → Option (Int32 × S0)) (hs_2 : ∀ (σ : S0) (x1 : Int32) (x2 : Int32) (x3 : Int32) , sf_2 σ x1 x2 x3 = some (rr, ρ) → Gw p l e rm_X11_asks s m args below meth c (MQ below (QcV dC dI ad cy sz ρ) args s 0 0 (AW ad sz)) dC dI ad cy 4 sz 0 0 2 [(0, .ref (ad 98)), (1, .int x1), (2, .int x2), (3, .int x3)] [] σ) (σ : S0) (x1 : Int32) (x2 : Int32) (x3 : Int32)  (hf : fX11_asks_b2 sf_2 σ x1 x2 x3 = some (rr, ρ)) : Gw p l e rm_X11_asks s m args below meth c (MQ below (QcV dC dI ad cy sz ρ) args s 0 0 (AW ad sz)) dC dI ad cy 4 sz 0 0 2 [(0, .ref (ad 98)), (1, .int x1), (2, .int x2), (3, .int x3)] [] σ := by
  unfold fX11_asks_b2 at hf
  refine g_iload_n C dX11_asks_2 rfl 3 rfl ?_
  refine g_aload_n C dX11_asks_3 rfl 0 rfl ?_
  refine g_get C (a_98 ad cy _) rfl hin_X11 4 (by decide) hF_X11_81 rfl rfl dX11_asks_4 ?_
  rcases oi_e hf with ⟨c1, hf⟩ | ⟨c1, hf⟩
  · refine g_icmp_ge_t (tgt := 46) C dX11_asks_7 (by decide) c1 ?_
    obtain ⟨rfl, rfl⟩ := os_e hf
    exact g_vret C rfl dX11_asks_46
  · refine g_icmp_ge_f (tgt := 46) C dX11_asks_7 (by decide) c1 ?_
    refine g_aload_n C dX11_asks_10 rfl 0 rfl ?_
    refine g_get C (a_98 ad cy _) rfl hin_X11 0 (by decide) hF_X11_7 rfl rfl dX11_asks_11 ?_
    refine g_iconst (v := 5) C dX11_asks_14 (by decide) ?_
    refine g_iload_n C dX11_asks_15 rfl 3 rfl ?_
    refine g_imul C dX11_asks_16 ?_
    refine g_iconst (v := 1) C dX11_asks_17 (by decide) ?_
    refine g_iadd C dX11_asks_18 ?_
    refine g_aload_n C dX11_asks_19 rfl 0 rfl ?_
    refine g_iload_n C dX11_asks_20 rfl 3 rfl ?_
    refine g_iconst (v := 0) C dX11_asks_21 (by decide) ?_
    obtain ⟨r2, σ3, h4, hf⟩ := obp_e hf
    refine g_callVi (As := [.int x3, .int 0]) (rest := [.int ((5 * x3) + 1), .ref (ad 99)]) C (a_98 ad cy _) rfl (c_X11_of l dC dI ad cy x3 ((0 : Int32))) h4 hM_X11_172 cal_X11_of ⟨Nat.zero_le _, Nat.zero_le _⟩ ⟨rfl, rfl⟩ ⟨Nat.le_of_ble_eq_true rfl, Nat.le_of_ble_eq_true rfl⟩ rfl rfl (Nat.le_of_ble_eq_true rfl) dX11_asks_22 ?_
    refine g_iload_n C dX11_asks_25 rfl 1 rfl ?_
    rcases oi_e hf with ⟨c5, hf⟩ | ⟨c5, hf⟩
    · refine g_icmp_ne_t (tgt := 33) C dX11_asks_26 (by decide) c5 ?_
      refine g_aload_n C dX11_asks_33 rfl 0 rfl ?_
      refine g_iload_n C dX11_asks_34 rfl 3 rfl ?_
      refine g_iconst (v := 1) C dX11_asks_35 (by decide) ?_
      obtain ⟨r6, σ7, h8, hf⟩ := obp_e hf
      refine g_callVi (As := [.int x3, .int 1]) (rest := [.int ((5 * x3) + 1), .ref (ad 99)]) C (a_98 ad cy _) rfl (c_X11_of l dC dI ad cy x3 ((1 : Int32))) h8 hM_X11_172 cal_X11_of ⟨Nat.zero_le _, Nat.zero_le _⟩ ⟨rfl, rfl⟩ ⟨Nat.le_of_ble_eq_true rfl, Nat.le_of_ble_eq_true rfl⟩ rfl rfl (Nat.le_of_ble_eq_true rfl) dX11_asks_36 ?_
      exact g_sub [0, 1, 2, 3] rfl (fX11_asks_b39_ok C sf_2 hs_2 σ7 x1 x2 x3 r6 ((5 * x3) + 1) hf)
    · refine g_icmp_ne_f (tgt := 33) C dX11_asks_26 (by decide) (Decidable.of_not_not c5) ?_
      refine g_iload_n C dX11_asks_29 rfl 2 rfl ?_
      refine g_goto (tgt := 39) C dX11_asks_30 (by decide) ?_
      exact g_sub [0, 1, 2, 3] rfl (fX11_asks_b39_ok C sf_2 hs_2 σ3 x1 x2 x3 x2 ((5 * x3) + 1) hf)
def fX11_asks_h2  : Nat → S0 → Int32 → Int32 → Int32 → Option (Int32 × S0)
  | 0 => fun _ _ _ _ => none
  | n + 1 => fun σ x1 x2 x3 => fX11_asks_b2  (fX11_asks_h2  n) σ x1 x2 x3
set_option maxHeartbeats 1000000 in
set_option maxRecDepth 100000 in
theorem fX11_asks_h2_ok {p : Program} {l : Launch} {e : Env} {s : State} {m : MethodId} {args : Array Value} {below : List Frame} {meth : Method} {c : Code} {dC : Nat → ClassId} {dI : Nat → Nat → Nat} {ad : Nat → Nat} {cy : Nat → ClassId} {sz : Nat} (C : Cx p s m args meth c RX11 cX11_asks 4 none dC dI ad cy sz) {rr : Int32} {ρ : S0}  : ∀ (n : Nat) (σ : S0) (x1 : Int32) (x2 : Int32) (x3 : Int32)  (_hf : fX11_asks_h2  n σ x1 x2 x3 = some (rr, ρ)), Gw p l e rm_X11_asks s m args below meth c (MQ below (QcV dC dI ad cy sz ρ) args s 0 0 (AW ad sz)) dC dI ad cy 4 sz 0 0 2 [(0, .ref (ad 98)), (1, .int x1), (2, .int x2), (3, .int x3)] [] σ
  | 0, _, _, _, _, hf => by cases hf
  | n + 1, σ, x1, x2, x3, hf => fX11_asks_b2_ok C  (fX11_asks_h2  n) (fX11_asks_h2_ok C  n) σ x1 x2 x3 hf
def fX11_asks (σ : S0) (x1 : Int32) (x2 : Int32) : Option (Int32 × S0) := fX11_asks_h2 400 σ x1 x2 0
set_option maxHeartbeats 1000000 in
set_option maxRecDepth 100000 in
theorem fX11_asks_ok {p : Program} {l : Launch} {e : Env} {s : State} {m : MethodId} {args : Array Value} {below : List Frame} {meth : Method} {c : Code} {dC : Nat → ClassId} {dI : Nat → Nat → Nat} {ad : Nat → Nat} {cy : Nat → ClassId} {sz : Nat} (C : Cx p s m args meth c RX11 cX11_asks 4 none dC dI ad cy sz) {rr : Int32} {ρ : S0} (σ : S0) (x1 : Int32) (x2 : Int32)  (hf : fX11_asks σ x1 x2 = some (rr, ρ)) : Gw p l e rm_X11_asks s m args below meth c (MQ below (QcV dC dI ad cy sz ρ) args s 0 0 (AW ad sz)) dC dI ad cy 4 sz 0 0 0 [(0, .ref (ad 98)), (1, .int x1), (2, .int x2)] [] σ := by
  unfold fX11_asks at hf
  refine g_iconst (v := 0) C dX11_asks_0 (by decide) ?_
  refine g_istore_n (lv2 := [(0, .ref (ad 98)), (1, .int x1), (2, .int x2), (3, .int 0)]) C dX11_asks_1 rfl (by decide) [1, 2, 3, 0] rfl ?_
  exact g_sub [0, 1, 2, 3] rfl (fX11_asks_h2_ok C 400 σ x1 x2 0 hf)
theorem c_X11_asks (l : Launch) (dC : Nat → ClassId) (dI : Nat → Nat → Nat) (ad : Nat → Nat) (cy : Nat → ClassId) (x1 : Int32) (x2 : Int32) : ConV l yX11_asks cX11_asks 4 none rm_X11_asks dC dI ad cy [.ref (ad 98), .int x1, .int x2] (fun σ => fX11_asks σ x1 x2) := con_v (own := RX11) (by decide) rfl (Nat.le_of_ble_eq_true rfl) (fun _ _ _ _ _ _ _ _ σ _ _ C hf => fX11_asks_ok C σ x1 x2 hf)
theorem cal_X11_asks : CalV yX11_asks RX11 cX11_asks 4 none 2 := ⟨hI_X11_asks, hS_X11_asks, hIni_X11, hC_X11_asks, by decide +kernel⟩
abbrev rm_X11_askOf : Room := { frames := 5, cells := 0, slots := 0, locals := 114 }
def fX11_askOf_b43 (sf_43 : S0 → Int32 → Int32 → Option (Int32 × S0)) (σ : S0) (x3 : Int32) (x4 : Int32) : Option (Int32 × S0) := if (σ 98 4) ≤ x4 then (some (x3, σ)) else (og (¬ (x4 < 0 ∨ 12 ≤ x4.toNatClampNeg)) (ol (σ 106 x4.toNatClampNeg) (fun v3 => ol ((5 * x4) + 1) (fun v4 => og (¬ (v4 < 0 ∨ 240 ≤ v4.toNatClampNeg)) (ol (su σ 99 v4.toNatClampNeg v3) (fun σ6 => ol (x4 + 1) (fun v7 => sf_43 σ6 x3 v7)))))))
set_option maxHeartbeats 1000000 in
set_option maxRecDepth 100000 in
theorem fX11_askOf_b43_ok {p : Program} {l : Launch} {e : Env} {s : State} {m : MethodId} {args : Array Value} {below : List Frame} {meth : Method} {c : Code} {dC : Nat → ClassId} {dI : Nat → Nat → Nat} {ad : Nat → Nat} {cy : Nat → ClassId} {sz : Nat} (C : Cx p s m args meth c RX11 cX11_askOf 5 (some .int) dC dI ad cy sz) {rr : Int32} {ρ : S0} (sf_43 : S0 → Int32 → Int32 → Option (Int32 × S0)) (hs_43 : ∀ (σ : S0) (x3 : Int32) (x4 : Int32) , sf_43 σ x3 x4 = some (rr, ρ) → Gw p l e rm_X11_askOf s m args below meth c (MQ below (QcI dC dI ad cy sz rr ρ) args s 0 0 (AW ad sz)) dC dI ad cy 5 sz 0 0 43 [(0, .ref (ad 98)), (3, .int x3), (4, .int x4)] [] σ) (σ : S0) (x3 : Int32) (x4 : Int32)  (hf : fX11_askOf_b43 sf_43 σ x3 x4 = some (rr, ρ)) : Gw p l e rm_X11_askOf s m args below meth c (MQ below (QcI dC dI ad cy sz rr ρ) args s 0 0 (AW ad sz)) dC dI ad cy 5 sz 0 0 43 [(0, .ref (ad 98)), (3, .int x3), (4, .int x4)] [] σ := by
  unfold fX11_askOf_b43 at hf
  refine g_iload C dX11_askOf_43 2 rfl ?_
  refine g_aload_n C dX11_askOf_45 rfl 0 rfl ?_
  refine g_get C (a_98 ad cy _) rfl hin_X11 4 (by decide) hF_X11_81 rfl rfl dX11_askOf_46 ?_
  rcases oi_e hf with ⟨c1, hf⟩ | ⟨c1, hf⟩
  · refine g_icmp_ge_t (tgt := 76) C dX11_askOf_49 (by decide) c1 ?_
    refine g_iload_n C dX11_askOf_76 rfl 1 rfl ?_
    obtain ⟨rfl, rfl⟩ := os_e hf
    exact g_iret C rfl dX11_askOf_77
  · refine g_icmp_ge_f (tgt := 76) C dX11_askOf_49 (by decide) c1 ?_
    refine g_aload_n C dX11_askOf_52 rfl 0 rfl ?_
    refine g_get C (a_98 ad cy _) rfl hin_X11 0 (by decide) hF_X11_7 rfl rfl dX11_askOf_53 ?_
    refine g_iconst (v := 5) C dX11_askOf_56 (by decide) ?_
    refine g_iload C dX11_askOf_57 2 rfl ?_
    refine g_imul C dX11_askOf_59 ?_
    refine g_iconst (v := 1) C dX11_askOf_60 (by decide) ?_
    refine g_iadd C dX11_askOf_61 ?_
    refine g_aload_n C dX11_askOf_62 rfl 0 rfl ?_
    refine g_get C (a_98 ad cy _) rfl hin_X11 29 (by decide) hF_X11_32 rfl rfl dX11_askOf_63 ?_
    refine g_iload C dX11_askOf_66 2 rfl ?_
    obtain ⟨h2, hf⟩ := og_e hf
    refine g_iald C (a_106 ad cy _) h2 dX11_askOf_68 ?_
    obtain ⟨v3, ev3, hf⟩ := ol_e hf
    refine g_nm ev3 ?_
    obtain ⟨v4, ev4, hf⟩ := ol_e hf
    refine g_nm2 ev4 ?_
    obtain ⟨h5, hf⟩ := og_e hf
    obtain ⟨σ6, eσ6, hf⟩ := ol_e hf
    refine g_iast C (a_99 ad cy _) h5 (w_99 ad cy _) eσ6 dX11_askOf_69 ?_
    obtain ⟨v7, ev7, hf⟩ := ol_e hf
    refine g_iinc (j := 2) (w := 1) (lv2 := [(0, .ref (ad 98)), (3, .int x3), (4, .int v7)]) C dX11_askOf_70 rfl (by decide) ev7 (by decide) [1, 2, 0] rfl ?_
    refine g_goto (tgt := 43) C dX11_askOf_73 (by decide) ?_
    exact g_sub [0, 1, 2] rfl (hs_43 σ6 x3 v7 hf)
def fX11_askOf_h43  : Nat → S0 → Int32 → Int32 → Option (Int32 × S0)
  | 0 => fun _ _ _ => none
  | n + 1 => fun σ x3 x4 => fX11_askOf_b43  (fX11_askOf_h43  n) σ x3 x4
set_option maxHeartbeats 1000000 in
set_option maxRecDepth 100000 in
theorem fX11_askOf_h43_ok {p : Program} {l : Launch} {e : Env} {s : State} {m : MethodId} {args : Array Value} {below : List Frame} {meth : Method} {c : Code} {dC : Nat → ClassId} {dI : Nat → Nat → Nat} {ad : Nat → Nat} {cy : Nat → ClassId} {sz : Nat} (C : Cx p s m args meth c RX11 cX11_askOf 5 (some .int) dC dI ad cy sz) {rr : Int32} {ρ : S0}  : ∀ (n : Nat) (σ : S0) (x3 : Int32) (x4 : Int32)  (_hf : fX11_askOf_h43  n σ x3 x4 = some (rr, ρ)), Gw p l e rm_X11_askOf s m args below meth c (MQ below (QcI dC dI ad cy sz rr ρ) args s 0 0 (AW ad sz)) dC dI ad cy 5 sz 0 0 43 [(0, .ref (ad 98)), (3, .int x3), (4, .int x4)] [] σ
  | 0, _, _, _, hf => by cases hf
  | n + 1, σ, x3, x4, hf => fX11_askOf_b43_ok C  (fX11_askOf_h43  n) (fX11_askOf_h43_ok C  n) σ x3 x4 hf
def fX11_askOf_b2 (sf_2 : S0 → Int32 → Int32 → Int32 → Option (Int32 × S0)) (σ : S0) (x1 : Int32) (x2 : Int32) (x3 : Int32) : Option (Int32 × S0) := if (σ 98 4) ≤ x3 then (obp (fX11_asks σ x1 x2) (fun r2 σ3 => obp (fX11_wageOf σ3 x1) (fun r5 σ6 => fX11_askOf_h43 400 σ6 r5 0))) else (obp (fX11_of σ x3 ((1 : Int32))) (fun r8 σ9 => og (¬ (x3 < 0 ∨ 12 ≤ x3.toNatClampNeg)) (ol (su σ9 106 x3.toNatClampNeg r8) (fun σ12 => ol (x3 + 1) (fun v13 => sf_2 σ12 x1 x2 v13)))))
set_option maxHeartbeats 1000000 in
set_option maxRecDepth 100000 in
theorem fX11_askOf_b2_ok {p : Program} {l : Launch} {e : Env} {s : State} {m : MethodId} {args : Array Value} {below : List Frame} {meth : Method} {c : Code} {dC : Nat → ClassId} {dI : Nat → Nat → Nat} {ad : Nat → Nat} {cy : Nat → ClassId} {sz : Nat} (C : Cx p s m args meth c RX11 cX11_askOf 5 (some .int) dC dI ad cy sz) {rr : Int32} {ρ : S0} (sf_2 : S0 → Int32 → Int32 → Int32 → Option (Int32 × S0)) (hs_2 : ∀ (σ : S0) (x1 : Int32) (x2 : Int32) (x3 : Int32) , sf_2 σ x1 x2 x3 = some (rr, ρ) → Gw p l e rm_X11_askOf s m args below meth c (MQ below (QcI dC dI ad cy sz rr ρ) args s 0 0 (AW ad sz)) dC dI ad cy 5 sz 0 0 2 [(0, .ref (ad 98)), (1, .int x1), (2, .int x2), (3, .int x3)] [] σ) (σ : S0) (x1 : Int32) (x2 : Int32) (x3 : Int32)  (hf : fX11_askOf_b2 sf_2 σ x1 x2 x3 = some (rr, ρ)) : Gw p l e rm_X11_askOf s m args below meth c (MQ below (QcI dC dI ad cy sz rr ρ) args s 0 0 (AW ad sz)) dC dI ad cy 5 sz 0 0 2 [(0, .ref (ad 98)), (1, .int x1), (2, .int x2), (3, .int x3)] [] σ := by
  unfold fX11_askOf_b2 at hf
  refine g_iload_n C dX11_askOf_2 rfl 3 rfl ?_
  refine g_aload_n C dX11_askOf_3 rfl 0 rfl ?_
  refine g_get C (a_98 ad cy _) rfl hin_X11 4 (by decide) hF_X11_81 rfl rfl dX11_askOf_4 ?_
  rcases oi_e hf with ⟨c1, hf⟩ | ⟨c1, hf⟩
  · refine g_icmp_ge_t (tgt := 28) C dX11_askOf_7 (by decide) c1 ?_
    refine g_aload_n C dX11_askOf_28 rfl 0 rfl ?_
    refine g_iload_n C dX11_askOf_29 rfl 1 rfl ?_
    refine g_iload_n C dX11_askOf_30 rfl 2 rfl ?_
    obtain ⟨r2, σ3, h4, hf⟩ := obp_e hf
    refine g_callVv (As := [.int x1, .int x2]) (rest := []) C (a_98 ad cy _) rfl (c_X11_asks l dC dI ad cy x1 x2) h4 hM_X11_235 cal_X11_asks ⟨Nat.zero_le _, Nat.zero_le _⟩ ⟨rfl, rfl⟩ ⟨Nat.le_of_ble_eq_true rfl, Nat.le_of_ble_eq_true rfl⟩ rfl rfl (Nat.le_of_ble_eq_true rfl) dX11_askOf_31 ?_
    refine g_aload_n C dX11_askOf_34 rfl 0 rfl ?_
    refine g_iload_n C dX11_askOf_35 rfl 1 rfl ?_
    obtain ⟨r5, σ6, h7, hf⟩ := obp_e hf
    refine g_callVi (As := [.int x1]) (rest := []) C (a_98 ad cy _) rfl (c_X11_wageOf l dC dI ad cy x1) h7 hM_X11_232 cal_X11_wageOf ⟨Nat.zero_le _, Nat.zero_le _⟩ ⟨rfl, rfl⟩ ⟨Nat.le_of_ble_eq_true rfl, Nat.le_of_ble_eq_true rfl⟩ rfl rfl (Nat.le_of_ble_eq_true rfl) dX11_askOf_36 ?_
    refine g_istore_n (lv2 := [(0, .ref (ad 98)), (1, .int x1), (2, .int x2), (3, .int r5)]) C dX11_askOf_39 rfl (by decide) [1, 2, 3, 0] rfl ?_
    refine g_iconst (v := 0) C dX11_askOf_40 (by decide) ?_
    refine g_istore (lv2 := [(0, .ref (ad 98)), (1, .int x1), (2, .int x2), (3, .int r5), (4, .int 0)]) C dX11_askOf_41 (by decide) [1, 2, 3, 4, 0] rfl ?_
    exact g_sub [0, 3, 4] rfl (fX11_askOf_h43_ok C 400 σ6 r5 0 hf)
  · refine g_icmp_ge_f (tgt := 28) C dX11_askOf_7 (by decide) c1 ?_
    refine g_aload_n C dX11_askOf_10 rfl 0 rfl ?_
    refine g_get C (a_98 ad cy _) rfl hin_X11 29 (by decide) hF_X11_32 rfl rfl dX11_askOf_11 ?_
    refine g_iload_n C dX11_askOf_14 rfl 3 rfl ?_
    refine g_aload_n C dX11_askOf_15 rfl 0 rfl ?_
    refine g_iload_n C dX11_askOf_16 rfl 3 rfl ?_
    refine g_iconst (v := 1) C dX11_askOf_17 (by decide) ?_
    obtain ⟨r8, σ9, h10, hf⟩ := obp_e hf
    refine g_callVi (As := [.int x3, .int 1]) (rest := [.int x3, .ref (ad 106)]) C (a_98 ad cy _) rfl (c_X11_of l dC dI ad cy x3 ((1 : Int32))) h10 hM_X11_172 cal_X11_of ⟨Nat.zero_le _, Nat.zero_le _⟩ ⟨rfl, rfl⟩ ⟨Nat.le_of_ble_eq_true rfl, Nat.le_of_ble_eq_true rfl⟩ rfl rfl (Nat.le_of_ble_eq_true rfl) dX11_askOf_18 ?_
    obtain ⟨h11, hf⟩ := og_e hf
    obtain ⟨σ12, eσ12, hf⟩ := ol_e hf
    refine g_iast C (a_106 ad cy _) h11 (w_106 ad cy _) eσ12 dX11_askOf_21 ?_
    obtain ⟨v13, ev13, hf⟩ := ol_e hf
    refine g_iinc (j := 3) (w := 1) (lv2 := [(0, .ref (ad 98)), (1, .int x1), (2, .int x2), (3, .int v13)]) C dX11_askOf_22 rfl (by decide) ev13 (by decide) [1, 2, 3, 0] rfl ?_
    refine g_goto (tgt := 2) C dX11_askOf_25 (by decide) ?_
    exact g_sub [0, 1, 2, 3] rfl (hs_2 σ12 x1 x2 v13 hf)
def fX11_askOf_h2  : Nat → S0 → Int32 → Int32 → Int32 → Option (Int32 × S0)
  | 0 => fun _ _ _ _ => none
  | n + 1 => fun σ x1 x2 x3 => fX11_askOf_b2  (fX11_askOf_h2  n) σ x1 x2 x3
set_option maxHeartbeats 1000000 in
set_option maxRecDepth 100000 in
theorem fX11_askOf_h2_ok {p : Program} {l : Launch} {e : Env} {s : State} {m : MethodId} {args : Array Value} {below : List Frame} {meth : Method} {c : Code} {dC : Nat → ClassId} {dI : Nat → Nat → Nat} {ad : Nat → Nat} {cy : Nat → ClassId} {sz : Nat} (C : Cx p s m args meth c RX11 cX11_askOf 5 (some .int) dC dI ad cy sz) {rr : Int32} {ρ : S0}  : ∀ (n : Nat) (σ : S0) (x1 : Int32) (x2 : Int32) (x3 : Int32)  (_hf : fX11_askOf_h2  n σ x1 x2 x3 = some (rr, ρ)), Gw p l e rm_X11_askOf s m args below meth c (MQ below (QcI dC dI ad cy sz rr ρ) args s 0 0 (AW ad sz)) dC dI ad cy 5 sz 0 0 2 [(0, .ref (ad 98)), (1, .int x1), (2, .int x2), (3, .int x3)] [] σ
  | 0, _, _, _, _, hf => by cases hf
  | n + 1, σ, x1, x2, x3, hf => fX11_askOf_b2_ok C  (fX11_askOf_h2  n) (fX11_askOf_h2_ok C  n) σ x1 x2 x3 hf
def fX11_askOf (σ : S0) (x1 : Int32) (x2 : Int32) : Option (Int32 × S0) := fX11_askOf_h2 400 σ x1 x2 0
set_option maxHeartbeats 1000000 in
set_option maxRecDepth 100000 in
theorem fX11_askOf_ok {p : Program} {l : Launch} {e : Env} {s : State} {m : MethodId} {args : Array Value} {below : List Frame} {meth : Method} {c : Code} {dC : Nat → ClassId} {dI : Nat → Nat → Nat} {ad : Nat → Nat} {cy : Nat → ClassId} {sz : Nat} (C : Cx p s m args meth c RX11 cX11_askOf 5 (some .int) dC dI ad cy sz) {rr : Int32} {ρ : S0} (σ : S0) (x1 : Int32) (x2 : Int32)  (hf : fX11_askOf σ x1 x2 = some (rr, ρ)) : Gw p l e rm_X11_askOf s m args below meth c (MQ below (QcI dC dI ad cy sz rr ρ) args s 0 0 (AW ad sz)) dC dI ad cy 5 sz 0 0 0 [(0, .ref (ad 98)), (1, .int x1), (2, .int x2)] [] σ := by
  unfold fX11_askOf at hf
  refine g_iconst (v := 0) C dX11_askOf_0 (by decide) ?_
  refine g_istore_n (lv2 := [(0, .ref (ad 98)), (1, .int x1), (2, .int x2), (3, .int 0)]) C dX11_askOf_1 rfl (by decide) [1, 2, 3, 0] rfl ?_
  exact g_sub [0, 1, 2, 3] rfl (fX11_askOf_h2_ok C 400 σ x1 x2 0 hf)
theorem c_X11_askOf (l : Launch) (dC : Nat → ClassId) (dI : Nat → Nat → Nat) (ad : Nat → Nat) (cy : Nat → ClassId) (x1 : Int32) (x2 : Int32) : ConI l yX11_askOf cX11_askOf 5 (some .int) rm_X11_askOf dC dI ad cy [.ref (ad 98), .int x1, .int x2] (fun σ => fX11_askOf σ x1 x2) := con_i (own := RX11) (by decide) rfl (Nat.le_of_ble_eq_true rfl) (fun _ _ _ _ _ _ _ _ σ _ _ C hf => fX11_askOf_ok C σ x1 x2 hf)
theorem cal_X11_askOf : CalV yX11_askOf RX11 cX11_askOf 5 (some .int) 2 := ⟨hI_X11_askOf, hS_X11_askOf, hIni_X11, hC_X11_askOf, by decide +kernel⟩
abbrev rm_X11_ask : Room := { frames := 6, cells := 0, slots := 0, locals := 138 }
def fX11_ask (σ : S0) (x1 : Int32) (x2 : Int32) : Option (Int32 × S0) := obp (fX11_isHouse σ x1) (fun r1 σ2 => if r1 = 0 then (some ((-1), σ2)) else (obp (fX11_in σ2 x2.toInt64 ((0 : Int64)) ((20 : Int64))) (fun r5 σ6 => if r5 = 0 then (some ((-1), σ6)) else (obp (fX11_askOf σ6 x1 x2) (fun r9 σ10 => some (r9, σ10))))))
set_option maxHeartbeats 1000000 in
set_option maxRecDepth 100000 in
theorem fX11_ask_ok {p : Program} {l : Launch} {e : Env} {s : State} {m : MethodId} {args : Array Value} {below : List Frame} {meth : Method} {c : Code} {dC : Nat → ClassId} {dI : Nat → Nat → Nat} {ad : Nat → Nat} {cy : Nat → ClassId} {sz : Nat} (C : Cx p s m args meth c RX11 cX11_ask 3 (some .int) dC dI ad cy sz) {rr : Int32} {ρ : S0} (σ : S0) (x1 : Int32) (x2 : Int32)  (hf : fX11_ask σ x1 x2 = some (rr, ρ)) : Gw p l e rm_X11_ask s m args below meth c (MQ below (QcI dC dI ad cy sz rr ρ) args s 0 0 (AW ad sz)) dC dI ad cy 3 sz 0 0 0 [(0, .ref (ad 98)), (1, .int x1), (2, .int x2)] [] σ := by
  unfold fX11_ask at hf
  refine g_aload_n C dX11_ask_0 rfl 0 rfl ?_
  refine g_iload_n C dX11_ask_1 rfl 1 rfl ?_
  obtain ⟨r1, σ2, h3, hf⟩ := obp_e hf
  refine g_callVi (As := [.int x1]) (rest := []) C (a_98 ad cy _) rfl (c_X11_isHouse l dC dI ad cy x1) h3 hM_X11_186 cal_X11_isHouse ⟨Nat.zero_le _, Nat.zero_le _⟩ ⟨rfl, rfl⟩ ⟨Nat.le_of_ble_eq_true rfl, Nat.le_of_ble_eq_true rfl⟩ rfl rfl (Nat.le_of_ble_eq_true rfl) dX11_ask_2 ?_
  rcases oi_e hf with ⟨c4, hf⟩ | ⟨c4, hf⟩
  · refine g_if_eq_t (tgt := 29) C dX11_ask_5 (by decide) c4 ?_
    refine g_iconst (v := (-1)) C dX11_ask_29 (by decide) ?_
    obtain ⟨rfl, rfl⟩ := os_e hf
    exact g_iret C rfl dX11_ask_30
  · refine g_if_eq_f (tgt := 29) C dX11_ask_5 (by decide) c4 ?_
    refine g_iload_n C dX11_ask_8 rfl 2 rfl ?_
    refine g_i2l C dX11_ask_9 ?_
    refine g_lconst (v := 0) C dX11_ask_10 (by decide) ?_
    refine g_ldc2 (v := 20) C dX11_ask_11 hK_X11_189 ?_
    obtain ⟨r5, σ6, h7, hf⟩ := obp_e hf
    refine g_callSi (As := [.long x2.toInt64, .long 0, .long 20]) (rest := []) C (c_X11_in l dC dI ad cy x2.toInt64 ((0 : Int64)) ((20 : Int64))) h7 hM_X11_92 cal_X11_in ⟨Nat.zero_le _, Nat.zero_le _⟩ ⟨rfl, rfl⟩ ⟨Nat.le_of_ble_eq_true rfl, Nat.le_of_ble_eq_true rfl⟩ rfl rfl (Nat.le_of_ble_eq_true rfl) dX11_ask_14 ?_
    rcases oi_e hf with ⟨c8, hf⟩ | ⟨c8, hf⟩
    · refine g_if_eq_t (tgt := 29) C dX11_ask_17 (by decide) c8 ?_
      refine g_iconst (v := (-1)) C dX11_ask_29 (by decide) ?_
      obtain ⟨rfl, rfl⟩ := os_e hf
      exact g_iret C rfl dX11_ask_30
    · refine g_if_eq_f (tgt := 29) C dX11_ask_17 (by decide) c8 ?_
      refine g_aload_n C dX11_ask_20 rfl 0 rfl ?_
      refine g_iload_n C dX11_ask_21 rfl 1 rfl ?_
      refine g_iload_n C dX11_ask_22 rfl 2 rfl ?_
      obtain ⟨r9, σ10, h11, hf⟩ := obp_e hf
      refine g_callVi (As := [.int x1, .int x2]) (rest := []) C (a_98 ad cy _) rfl (c_X11_askOf l dC dI ad cy x1 x2) h11 hM_X11_239 cal_X11_askOf ⟨Nat.zero_le _, Nat.zero_le _⟩ ⟨rfl, rfl⟩ ⟨Nat.le_of_ble_eq_true rfl, Nat.le_of_ble_eq_true rfl⟩ rfl rfl (Nat.le_of_ble_eq_true rfl) dX11_ask_23 ?_
      refine g_goto (tgt := 30) C dX11_ask_26 (by decide) ?_
      obtain ⟨rfl, rfl⟩ := os_e hf
      exact g_iret C rfl dX11_ask_30
theorem c_X11_ask (l : Launch) (dC : Nat → ClassId) (dI : Nat → Nat → Nat) (ad : Nat → Nat) (cy : Nat → ClassId) (x1 : Int32) (x2 : Int32) : ConI l yX11_ask cX11_ask 3 (some .int) rm_X11_ask dC dI ad cy [.ref (ad 98), .int x1, .int x2] (fun σ => fX11_ask σ x1 x2) := con_i (own := RX11) (by decide) rfl (Nat.le_of_ble_eq_true rfl) (fun _ _ _ _ _ _ _ _ σ _ _ C hf => fX11_ask_ok C σ x1 x2 hf)
theorem cal_X11_ask : CalV yX11_ask RX11 cX11_ask 3 (some .int) 2 := ⟨hI_X11_ask, hS_X11_ask, hIni_X11, hC_X11_ask, by decide +kernel⟩
abbrev rm_X11_findBest : Room := { frames := 6, cells := 0, slots := 0, locals := 138 }
def fX11_findBest_b81 (sf_13 : S0 → Int32 → Int32 → Option (Int32 × S0)) (σ : S0) (x1 : Int32) (x2 : Int32) (t0 : Int32) : Option (Int32 × S0) := ol (su σ 98 31 t0) (fun σ1 => ol (x2 + 1) (fun v2 => sf_13 σ1 x1 v2))
set_option maxHeartbeats 1000000 in
set_option maxRecDepth 100000 in
theorem fX11_findBest_b81_ok {p : Program} {l : Launch} {e : Env} {s : State} {m : MethodId} {args : Array Value} {below : List Frame} {meth : Method} {c : Code} {dC : Nat → ClassId} {dI : Nat → Nat → Nat} {ad : Nat → Nat} {cy : Nat → ClassId} {sz : Nat} (C : Cx p s m args meth c RX11 cX11_findBest 5 none dC dI ad cy sz) {rr : Int32} {ρ : S0} (sf_13 : S0 → Int32 → Int32 → Option (Int32 × S0)) (hs_13 : ∀ (σ : S0) (x1 : Int32) (x2 : Int32) , sf_13 σ x1 x2 = some (rr, ρ) → Gw p l e rm_X11_findBest s m args below meth c (MQ below (QcV dC dI ad cy sz ρ) args s 0 0 (AW ad sz)) dC dI ad cy 5 sz 0 0 13 [(0, .ref (ad 98)), (1, .int x1), (2, .int x2)] [] σ) (σ : S0) (x1 : Int32) (x2 : Int32) (t0 : Int32)  (hf : fX11_findBest_b81 sf_13 σ x1 x2 t0 = some (rr, ρ)) : Gw p l e rm_X11_findBest s m args below meth c (MQ below (QcV dC dI ad cy sz ρ) args s 0 0 (AW ad sz)) dC dI ad cy 5 sz 0 0 81 [(0, .ref (ad 98)), (1, .int x1), (2, .int x2)] [.int t0, .ref (ad 98)] σ := by
  unfold fX11_findBest_b81 at hf
  obtain ⟨σ1, eσ1, hf⟩ := ol_e hf
  refine g_put (ty := .int) C (a_98 ad cy _) rfl hin_X11 tyX11 tyX11_ok nmX11 31 (by decide) hF_X11_245 rfl rfl (by decide +kernel) rfl rfl (Nat.le_of_ble_eq_true rfl) (p_98_31 ad cy _ _) eσ1 dX11_findBest_81 ?_
  obtain ⟨v2, ev2, hf⟩ := ol_e hf
  refine g_iinc (j := 2) (w := 1) (lv2 := [(0, .ref (ad 98)), (1, .int x1), (2, .int v2)]) C dX11_findBest_84 rfl (by decide) ev2 (by decide) [1, 2, 0] rfl ?_
  refine g_goto (tgt := 13) C dX11_findBest_87 (by decide) ?_
  exact g_sub [0, 1, 2] rfl (hs_13 σ1 x1 v2 hf)
def fX11_findBest_b64 (sf_13 : S0 → Int32 → Int32 → Option (Int32 × S0)) (σ : S0) (x1 : Int32) (x2 : Int32) (x3 : Int32) (x4 : Int32) (t0 : Int32) : Option (Int32 × S0) := ol (su σ 98 30 t0) (fun σ1 => if x4 = 0 then (fX11_findBest_b81 sf_13 σ1 x1 x2 (σ1 98 31)) else (fX11_findBest_b81 sf_13 σ1 x1 x2 x3))
set_option maxHeartbeats 1000000 in
set_option maxRecDepth 100000 in
theorem fX11_findBest_b64_ok {p : Program} {l : Launch} {e : Env} {s : State} {m : MethodId} {args : Array Value} {below : List Frame} {meth : Method} {c : Code} {dC : Nat → ClassId} {dI : Nat → Nat → Nat} {ad : Nat → Nat} {cy : Nat → ClassId} {sz : Nat} (C : Cx p s m args meth c RX11 cX11_findBest 5 none dC dI ad cy sz) {rr : Int32} {ρ : S0} (sf_13 : S0 → Int32 → Int32 → Option (Int32 × S0)) (hs_13 : ∀ (σ : S0) (x1 : Int32) (x2 : Int32) , sf_13 σ x1 x2 = some (rr, ρ) → Gw p l e rm_X11_findBest s m args below meth c (MQ below (QcV dC dI ad cy sz ρ) args s 0 0 (AW ad sz)) dC dI ad cy 5 sz 0 0 13 [(0, .ref (ad 98)), (1, .int x1), (2, .int x2)] [] σ) (σ : S0) (x1 : Int32) (x2 : Int32) (x3 : Int32) (x4 : Int32) (t0 : Int32)  (hf : fX11_findBest_b64 sf_13 σ x1 x2 x3 x4 t0 = some (rr, ρ)) : Gw p l e rm_X11_findBest s m args below meth c (MQ below (QcV dC dI ad cy sz ρ) args s 0 0 (AW ad sz)) dC dI ad cy 5 sz 0 0 64 [(0, .ref (ad 98)), (1, .int x1), (2, .int x2), (3, .int x3), (4, .int x4)] [.int t0, .ref (ad 98)] σ := by
  unfold fX11_findBest_b64 at hf
  obtain ⟨σ1, eσ1, hf⟩ := ol_e hf
  refine g_put (ty := .int) C (a_98 ad cy _) rfl hin_X11 tyX11 tyX11_ok nmX11 30 (by decide) hF_X11_242 rfl rfl (by decide +kernel) rfl rfl (Nat.le_of_ble_eq_true rfl) (p_98_30 ad cy _ _) eσ1 dX11_findBest_64 ?_
  refine g_aload_n C dX11_findBest_67 rfl 0 rfl ?_
  refine g_iload C dX11_findBest_68 4 rfl ?_
  rcases oi_e hf with ⟨c2, hf⟩ | ⟨c2, hf⟩
  · refine g_if_eq_t (tgt := 77) C dX11_findBest_70 (by decide) c2 ?_
    refine g_aload_n C dX11_findBest_77 rfl 0 rfl ?_
    refine g_get C (a_98 ad cy _) rfl hin_X11 31 (by decide) hF_X11_245 rfl rfl dX11_findBest_78 ?_
    exact g_sub [0, 1, 2] rfl (fX11_findBest_b81_ok C sf_13 hs_13 σ1 x1 x2 (σ1 98 31) hf)
  · refine g_if_eq_f (tgt := 77) C dX11_findBest_70 (by decide) c2 ?_
    refine g_iload_n C dX11_findBest_73 rfl 3 rfl ?_
    refine g_goto (tgt := 81) C dX11_findBest_74 (by decide) ?_
    exact g_sub [0, 1, 2] rfl (fX11_findBest_b81_ok C sf_13 hs_13 σ1 x1 x2 x3 hf)
def fX11_findBest_b48 (sf_13 : S0 → Int32 → Int32 → Option (Int32 × S0)) (σ : S0) (x1 : Int32) (x2 : Int32) (x3 : Int32) (t0 : Int32) : Option (Int32 × S0) := if t0 = 0 then (fX11_findBest_b64 sf_13 σ x1 x2 x3 t0 (σ 98 30)) else (fX11_findBest_b64 sf_13 σ x1 x2 x3 t0 x2)
set_option maxHeartbeats 1000000 in
set_option maxRecDepth 100000 in
theorem fX11_findBest_b48_ok {p : Program} {l : Launch} {e : Env} {s : State} {m : MethodId} {args : Array Value} {below : List Frame} {meth : Method} {c : Code} {dC : Nat → ClassId} {dI : Nat → Nat → Nat} {ad : Nat → Nat} {cy : Nat → ClassId} {sz : Nat} (C : Cx p s m args meth c RX11 cX11_findBest 5 none dC dI ad cy sz) {rr : Int32} {ρ : S0} (sf_13 : S0 → Int32 → Int32 → Option (Int32 × S0)) (hs_13 : ∀ (σ : S0) (x1 : Int32) (x2 : Int32) , sf_13 σ x1 x2 = some (rr, ρ) → Gw p l e rm_X11_findBest s m args below meth c (MQ below (QcV dC dI ad cy sz ρ) args s 0 0 (AW ad sz)) dC dI ad cy 5 sz 0 0 13 [(0, .ref (ad 98)), (1, .int x1), (2, .int x2)] [] σ) (σ : S0) (x1 : Int32) (x2 : Int32) (x3 : Int32) (t0 : Int32)  (hf : fX11_findBest_b48 sf_13 σ x1 x2 x3 t0 = some (rr, ρ)) : Gw p l e rm_X11_findBest s m args below meth c (MQ below (QcV dC dI ad cy sz ρ) args s 0 0 (AW ad sz)) dC dI ad cy 5 sz 0 0 48 [(0, .ref (ad 98)), (1, .int x1), (2, .int x2), (3, .int x3)] [.int t0] σ := by
  unfold fX11_findBest_b48 at hf
  refine g_istore (lv2 := [(0, .ref (ad 98)), (1, .int x1), (2, .int x2), (3, .int x3), (4, .int t0)]) C dX11_findBest_48 (by decide) [1, 2, 3, 4, 0] rfl ?_
  refine g_aload_n C dX11_findBest_50 rfl 0 rfl ?_
  refine g_iload C dX11_findBest_51 4 rfl ?_
  rcases oi_e hf with ⟨c1, hf⟩ | ⟨c1, hf⟩
  · refine g_if_eq_t (tgt := 60) C dX11_findBest_53 (by decide) c1 ?_
    refine g_aload_n C dX11_findBest_60 rfl 0 rfl ?_
    refine g_get C (a_98 ad cy _) rfl hin_X11 30 (by decide) hF_X11_242 rfl rfl dX11_findBest_61 ?_
    exact g_sub [0, 1, 2, 3, 4] rfl (fX11_findBest_b64_ok C sf_13 hs_13 σ x1 x2 x3 t0 (σ 98 30) hf)
  · refine g_if_eq_f (tgt := 60) C dX11_findBest_53 (by decide) c1 ?_
    refine g_iload_n C dX11_findBest_56 rfl 2 rfl ?_
    refine g_goto (tgt := 64) C dX11_findBest_57 (by decide) ?_
    exact g_sub [0, 1, 2, 3, 4] rfl (fX11_findBest_b64_ok C sf_13 hs_13 σ x1 x2 x3 t0 x2 hf)
def fX11_findBest_b43 (sf_13 : S0 → Int32 → Int32 → Option (Int32 × S0)) (σ : S0) (x1 : Int32) (x2 : Int32) (x3 : Int32) : Option (Int32 × S0) := fX11_findBest_b48 sf_13 σ x1 x2 x3 1
set_option maxHeartbeats 1000000 in
set_option maxRecDepth 100000 in
theorem fX11_findBest_b43_ok {p : Program} {l : Launch} {e : Env} {s : State} {m : MethodId} {args : Array Value} {below : List Frame} {meth : Method} {c : Code} {dC : Nat → ClassId} {dI : Nat → Nat → Nat} {ad : Nat → Nat} {cy : Nat → ClassId} {sz : Nat} (C : Cx p s m args meth c RX11 cX11_findBest 5 none dC dI ad cy sz) {rr : Int32} {ρ : S0} (sf_13 : S0 → Int32 → Int32 → Option (Int32 × S0)) (hs_13 : ∀ (σ : S0) (x1 : Int32) (x2 : Int32) , sf_13 σ x1 x2 = some (rr, ρ) → Gw p l e rm_X11_findBest s m args below meth c (MQ below (QcV dC dI ad cy sz ρ) args s 0 0 (AW ad sz)) dC dI ad cy 5 sz 0 0 13 [(0, .ref (ad 98)), (1, .int x1), (2, .int x2)] [] σ) (σ : S0) (x1 : Int32) (x2 : Int32) (x3 : Int32)  (hf : fX11_findBest_b43 sf_13 σ x1 x2 x3 = some (rr, ρ)) : Gw p l e rm_X11_findBest s m args below meth c (MQ below (QcV dC dI ad cy sz ρ) args s 0 0 (AW ad sz)) dC dI ad cy 5 sz 0 0 43 [(0, .ref (ad 98)), (1, .int x1), (2, .int x2), (3, .int x3)] [] σ := by
  unfold fX11_findBest_b43 at hf
  refine g_iconst (v := 1) C dX11_findBest_43 (by decide) ?_
  refine g_goto (tgt := 48) C dX11_findBest_44 (by decide) ?_
  exact g_sub [0, 1, 2, 3] rfl (fX11_findBest_b48_ok C sf_13 hs_13 σ x1 x2 x3 1 hf)
def fX11_findBest_b13 (sf_13 : S0 → Int32 → Int32 → Option (Int32 × S0)) (σ : S0) (x1 : Int32) (x2 : Int32) : Option (Int32 × S0) := if (20 : Int32) < x2 then (some (0, σ)) else (obp (fX11_askOf σ x1 x2) (fun r2 σ3 => if (σ3 98 30) = ((-4)) then (fX11_findBest_b43 sf_13 σ3 x1 x2 r2) else (if r2 ≤ (σ3 98 31) then (fX11_findBest_b48 sf_13 σ3 x1 x2 r2 0) else (fX11_findBest_b43 sf_13 σ3 x1 x2 r2))))
set_option maxHeartbeats 1000000 in
set_option maxRecDepth 100000 in
theorem fX11_findBest_b13_ok {p : Program} {l : Launch} {e : Env} {s : State} {m : MethodId} {args : Array Value} {below : List Frame} {meth : Method} {c : Code} {dC : Nat → ClassId} {dI : Nat → Nat → Nat} {ad : Nat → Nat} {cy : Nat → ClassId} {sz : Nat} (C : Cx p s m args meth c RX11 cX11_findBest 5 none dC dI ad cy sz) {rr : Int32} {ρ : S0} (sf_13 : S0 → Int32 → Int32 → Option (Int32 × S0)) (hs_13 : ∀ (σ : S0) (x1 : Int32) (x2 : Int32) , sf_13 σ x1 x2 = some (rr, ρ) → Gw p l e rm_X11_findBest s m args below meth c (MQ below (QcV dC dI ad cy sz ρ) args s 0 0 (AW ad sz)) dC dI ad cy 5 sz 0 0 13 [(0, .ref (ad 98)), (1, .int x1), (2, .int x2)] [] σ) (σ : S0) (x1 : Int32) (x2 : Int32)  (hf : fX11_findBest_b13 sf_13 σ x1 x2 = some (rr, ρ)) : Gw p l e rm_X11_findBest s m args below meth c (MQ below (QcV dC dI ad cy sz ρ) args s 0 0 (AW ad sz)) dC dI ad cy 5 sz 0 0 13 [(0, .ref (ad 98)), (1, .int x1), (2, .int x2)] [] σ := by
  unfold fX11_findBest_b13 at hf
  refine g_iload_n C dX11_findBest_13 rfl 2 rfl ?_
  refine g_bipush (v := 20) C dX11_findBest_14 (by decide) ?_
  rcases oi_e hf with ⟨c1, hf⟩ | ⟨c1, hf⟩
  · refine g_icmp_gt_t (tgt := 90) C dX11_findBest_16 (by decide) c1 ?_
    obtain ⟨rfl, rfl⟩ := os_e hf
    exact g_vret C rfl dX11_findBest_90
  · refine g_icmp_gt_f (tgt := 90) C dX11_findBest_16 (by decide) c1 ?_
    refine g_aload_n C dX11_findBest_19 rfl 0 rfl ?_
    refine g_iload_n C dX11_findBest_20 rfl 1 rfl ?_
    refine g_iload_n C dX11_findBest_21 rfl 2 rfl ?_
    obtain ⟨r2, σ3, h4, hf⟩ := obp_e hf
    refine g_callVi (As := [.int x1, .int x2]) (rest := []) C (a_98 ad cy _) rfl (c_X11_askOf l dC dI ad cy x1 x2) h4 hM_X11_239 cal_X11_askOf ⟨Nat.zero_le _, Nat.zero_le _⟩ ⟨rfl, rfl⟩ ⟨Nat.le_of_ble_eq_true rfl, Nat.le_of_ble_eq_true rfl⟩ rfl rfl (Nat.le_of_ble_eq_true rfl) dX11_findBest_22 ?_
    refine g_istore_n (lv2 := [(0, .ref (ad 98)), (1, .int x1), (2, .int x2), (3, .int r2)]) C dX11_findBest_25 rfl (by decide) [1, 2, 3, 0] rfl ?_
    refine g_aload_n C dX11_findBest_26 rfl 0 rfl ?_
    refine g_get C (a_98 ad cy _) rfl hin_X11 30 (by decide) hF_X11_242 rfl rfl dX11_findBest_27 ?_
    refine g_bipush (v := (-4)) C dX11_findBest_30 (by decide) ?_
    rcases oi_e hf with ⟨c5, hf⟩ | ⟨c5, hf⟩
    · refine g_icmp_eq_t (tgt := 43) C dX11_findBest_32 (by decide) c5 ?_
      exact g_sub [0, 1, 2, 3] rfl (fX11_findBest_b43_ok C sf_13 hs_13 σ3 x1 x2 r2 hf)
    · refine g_icmp_eq_f (tgt := 43) C dX11_findBest_32 (by decide) c5 ?_
      refine g_iload_n C dX11_findBest_35 rfl 3 rfl ?_
      refine g_aload_n C dX11_findBest_36 rfl 0 rfl ?_
      refine g_get C (a_98 ad cy _) rfl hin_X11 31 (by decide) hF_X11_245 rfl rfl dX11_findBest_37 ?_
      rcases oi_e hf with ⟨c6, hf⟩ | ⟨c6, hf⟩
      · refine g_icmp_le_t (tgt := 47) C dX11_findBest_40 (by decide) c6 ?_
        refine g_iconst (v := 0) C dX11_findBest_47 (by decide) ?_
        exact g_sub [0, 1, 2, 3] rfl (fX11_findBest_b48_ok C sf_13 hs_13 σ3 x1 x2 r2 0 hf)
      · refine g_icmp_le_f (tgt := 47) C dX11_findBest_40 (by decide) c6 ?_
        exact g_sub [0, 1, 2, 3] rfl (fX11_findBest_b43_ok C sf_13 hs_13 σ3 x1 x2 r2 hf)
def fX11_findBest_h13  : Nat → S0 → Int32 → Int32 → Option (Int32 × S0)
  | 0 => fun _ _ _ => none
  | n + 1 => fun σ x1 x2 => fX11_findBest_b13  (fX11_findBest_h13  n) σ x1 x2
set_option maxHeartbeats 1000000 in
set_option maxRecDepth 100000 in
theorem fX11_findBest_h13_ok {p : Program} {l : Launch} {e : Env} {s : State} {m : MethodId} {args : Array Value} {below : List Frame} {meth : Method} {c : Code} {dC : Nat → ClassId} {dI : Nat → Nat → Nat} {ad : Nat → Nat} {cy : Nat → ClassId} {sz : Nat} (C : Cx p s m args meth c RX11 cX11_findBest 5 none dC dI ad cy sz) {rr : Int32} {ρ : S0}  : ∀ (n : Nat) (σ : S0) (x1 : Int32) (x2 : Int32)  (_hf : fX11_findBest_h13  n σ x1 x2 = some (rr, ρ)), Gw p l e rm_X11_findBest s m args below meth c (MQ below (QcV dC dI ad cy sz ρ) args s 0 0 (AW ad sz)) dC dI ad cy 5 sz 0 0 13 [(0, .ref (ad 98)), (1, .int x1), (2, .int x2)] [] σ
  | 0, _, _, _, hf => by cases hf
  | n + 1, σ, x1, x2, hf => fX11_findBest_b13_ok C  (fX11_findBest_h13  n) (fX11_findBest_h13_ok C  n) σ x1 x2 hf
def fX11_findBest (σ : S0) (x1 : Int32) : Option (Int32 × S0) := ol (su σ 98 30 ((-4))) (fun σ1 => ol (su σ1 98 31 0) (fun σ2 => fX11_findBest_h13 400 σ2 x1 0))
set_option maxHeartbeats 1000000 in
set_option maxRecDepth 100000 in
theorem fX11_findBest_ok {p : Program} {l : Launch} {e : Env} {s : State} {m : MethodId} {args : Array Value} {below : List Frame} {meth : Method} {c : Code} {dC : Nat → ClassId} {dI : Nat → Nat → Nat} {ad : Nat → Nat} {cy : Nat → ClassId} {sz : Nat} (C : Cx p s m args meth c RX11 cX11_findBest 5 none dC dI ad cy sz) {rr : Int32} {ρ : S0} (σ : S0) (x1 : Int32)  (hf : fX11_findBest σ x1 = some (rr, ρ)) : Gw p l e rm_X11_findBest s m args below meth c (MQ below (QcV dC dI ad cy sz ρ) args s 0 0 (AW ad sz)) dC dI ad cy 5 sz 0 0 0 [(0, .ref (ad 98)), (1, .int x1)] [] σ := by
  unfold fX11_findBest at hf
  refine g_aload_n C dX11_findBest_0 rfl 0 rfl ?_
  refine g_bipush (v := (-4)) C dX11_findBest_1 (by decide) ?_
  obtain ⟨σ1, eσ1, hf⟩ := ol_e hf
  refine g_put (ty := .int) C (a_98 ad cy _) rfl hin_X11 tyX11 tyX11_ok nmX11 30 (by decide) hF_X11_242 rfl rfl (by decide +kernel) rfl rfl (Nat.le_of_ble_eq_true rfl) (p_98_30 ad cy _ _) eσ1 dX11_findBest_3 ?_
  refine g_aload_n C dX11_findBest_6 rfl 0 rfl ?_
  refine g_iconst (v := 0) C dX11_findBest_7 (by decide) ?_
  obtain ⟨σ2, eσ2, hf⟩ := ol_e hf
  refine g_put (ty := .int) C (a_98 ad cy _) rfl hin_X11 tyX11 tyX11_ok nmX11 31 (by decide) hF_X11_245 rfl rfl (by decide +kernel) rfl rfl (Nat.le_of_ble_eq_true rfl) (p_98_31 ad cy _ _) eσ2 dX11_findBest_8 ?_
  refine g_iconst (v := 0) C dX11_findBest_11 (by decide) ?_
  refine g_istore_n (lv2 := [(0, .ref (ad 98)), (1, .int x1), (2, .int 0)]) C dX11_findBest_12 rfl (by decide) [1, 2, 0] rfl ?_
  exact g_sub [0, 1, 2] rfl (fX11_findBest_h13_ok C 400 σ2 x1 0 hf)
theorem c_X11_findBest (l : Launch) (dC : Nat → ClassId) (dI : Nat → Nat → Nat) (ad : Nat → Nat) (cy : Nat → ClassId) (x1 : Int32) : ConV l yX11_findBest cX11_findBest 5 none rm_X11_findBest dC dI ad cy [.ref (ad 98), .int x1] (fun σ => fX11_findBest σ x1) := con_v (own := RX11) (by decide) rfl (Nat.le_of_ble_eq_true rfl) (fun _ _ _ _ _ _ _ _ σ _ _ C hf => fX11_findBest_ok C σ x1 hf)
theorem cal_X11_findBest : CalV yX11_findBest RX11 cX11_findBest 5 none 1 := ⟨hI_X11_findBest, hS_X11_findBest, hIni_X11, hC_X11_findBest, by decide +kernel⟩
abbrev rm_X11_best : Room := { frames := 7, cells := 0, slots := 0, locals := 162 }
def fX11_best (σ : S0) (x1 : Int32) (x2 : Int32) : Option (Int32 × S0) := obp (fX11_isHouse σ x1) (fun r1 σ2 => if r1 = 0 then (some ((-1), σ2)) else (obp (fX11_in σ2 x2.toInt64 ((0 : Int64)) ((1 : Int64))) (fun r5 σ6 => if ¬ r5 = 0 then (obp (fX11_findBest σ6 x1) (fun r9 σ10 => if ¬ x2 = 0 then (some (σ10 98 31, σ10)) else (some (σ10 98 30, σ10)))) else (some ((-1), σ6)))))
set_option maxHeartbeats 1000000 in
set_option maxRecDepth 100000 in
theorem fX11_best_ok {p : Program} {l : Launch} {e : Env} {s : State} {m : MethodId} {args : Array Value} {below : List Frame} {meth : Method} {c : Code} {dC : Nat → ClassId} {dI : Nat → Nat → Nat} {ad : Nat → Nat} {cy : Nat → ClassId} {sz : Nat} (C : Cx p s m args meth c RX11 cX11_best 3 (some .int) dC dI ad cy sz) {rr : Int32} {ρ : S0} (σ : S0) (x1 : Int32) (x2 : Int32)  (hf : fX11_best σ x1 x2 = some (rr, ρ)) : Gw p l e rm_X11_best s m args below meth c (MQ below (QcI dC dI ad cy sz rr ρ) args s 0 0 (AW ad sz)) dC dI ad cy 3 sz 0 0 0 [(0, .ref (ad 98)), (1, .int x1), (2, .int x2)] [] σ := by
  unfold fX11_best at hf
  refine g_aload_n C dX11_best_0 rfl 0 rfl ?_
  refine g_iload_n C dX11_best_1 rfl 1 rfl ?_
  obtain ⟨r1, σ2, h3, hf⟩ := obp_e hf
  refine g_callVi (As := [.int x1]) (rest := []) C (a_98 ad cy _) rfl (c_X11_isHouse l dC dI ad cy x1) h3 hM_X11_186 cal_X11_isHouse ⟨Nat.zero_le _, Nat.zero_le _⟩ ⟨rfl, rfl⟩ ⟨Nat.le_of_ble_eq_true rfl, Nat.le_of_ble_eq_true rfl⟩ rfl rfl (Nat.le_of_ble_eq_true rfl) dX11_best_2 ?_
  rcases oi_e hf with ⟨c4, hf⟩ | ⟨c4, hf⟩
  · refine g_if_eq_t (tgt := 18) C dX11_best_5 (by decide) c4 ?_
    refine g_iconst (v := (-1)) C dX11_best_18 (by decide) ?_
    obtain ⟨rfl, rfl⟩ := os_e hf
    exact g_iret C rfl dX11_best_19
  · refine g_if_eq_f (tgt := 18) C dX11_best_5 (by decide) c4 ?_
    refine g_iload_n C dX11_best_8 rfl 2 rfl ?_
    refine g_i2l C dX11_best_9 ?_
    refine g_lconst (v := 0) C dX11_best_10 (by decide) ?_
    refine g_lconst (v := 1) C dX11_best_11 (by decide) ?_
    obtain ⟨r5, σ6, h7, hf⟩ := obp_e hf
    refine g_callSi (As := [.long x2.toInt64, .long 0, .long 1]) (rest := []) C (c_X11_in l dC dI ad cy x2.toInt64 ((0 : Int64)) ((1 : Int64))) h7 hM_X11_92 cal_X11_in ⟨Nat.zero_le _, Nat.zero_le _⟩ ⟨rfl, rfl⟩ ⟨Nat.le_of_ble_eq_true rfl, Nat.le_of_ble_eq_true rfl⟩ rfl rfl (Nat.le_of_ble_eq_true rfl) dX11_best_12 ?_
    rcases oi_e hf with ⟨c8, hf⟩ | ⟨c8, hf⟩
    · refine g_if_ne_t (tgt := 20) C dX11_best_15 (by decide) c8 ?_
      refine g_aload_n C dX11_best_20 rfl 0 rfl ?_
      refine g_iload_n C dX11_best_21 rfl 1 rfl ?_
      obtain ⟨r9, σ10, h11, hf⟩ := obp_e hf
      refine g_callVv (As := [.int x1]) (rest := []) C (a_98 ad cy _) rfl (c_X11_findBest l dC dI ad cy x1) h11 hM_X11_248 cal_X11_findBest ⟨Nat.zero_le _, Nat.zero_le _⟩ ⟨rfl, rfl⟩ ⟨Nat.le_of_ble_eq_true rfl, Nat.le_of_ble_eq_true rfl⟩ rfl rfl (Nat.le_of_ble_eq_true rfl) dX11_best_22 ?_
      refine g_iload_n C dX11_best_25 rfl 2 rfl ?_
      rcases oi_e hf with ⟨c12, hf⟩ | ⟨c12, hf⟩
      · refine g_if_ne_t (tgt := 36) C dX11_best_26 (by decide) c12 ?_
        refine g_aload_n C dX11_best_36 rfl 0 rfl ?_
        refine g_get C (a_98 ad cy _) rfl hin_X11 31 (by decide) hF_X11_245 rfl rfl dX11_best_37 ?_
        obtain ⟨rfl, rfl⟩ := os_e hf
        exact g_iret C rfl dX11_best_40
      · refine g_if_ne_f (tgt := 36) C dX11_best_26 (by decide) (Decidable.of_not_not c12) ?_
        refine g_aload_n C dX11_best_29 rfl 0 rfl ?_
        refine g_get C (a_98 ad cy _) rfl hin_X11 30 (by decide) hF_X11_242 rfl rfl dX11_best_30 ?_
        refine g_goto (tgt := 40) C dX11_best_33 (by decide) ?_
        obtain ⟨rfl, rfl⟩ := os_e hf
        exact g_iret C rfl dX11_best_40
    · refine g_if_ne_f (tgt := 20) C dX11_best_15 (by decide) (Decidable.of_not_not c8) ?_
      refine g_iconst (v := (-1)) C dX11_best_18 (by decide) ?_
      obtain ⟨rfl, rfl⟩ := os_e hf
      exact g_iret C rfl dX11_best_19
theorem c_X11_best (l : Launch) (dC : Nat → ClassId) (dI : Nat → Nat → Nat) (ad : Nat → Nat) (cy : Nat → ClassId) (x1 : Int32) (x2 : Int32) : ConI l yX11_best cX11_best 3 (some .int) rm_X11_best dC dI ad cy [.ref (ad 98), .int x1, .int x2] (fun σ => fX11_best σ x1 x2) := con_i (own := RX11) (by decide) rfl (Nat.le_of_ble_eq_true rfl) (fun _ _ _ _ _ _ _ _ σ _ _ C hf => fX11_best_ok C σ x1 x2 hf)
theorem cal_X11_best : CalV yX11_best RX11 cX11_best 3 (some .int) 2 := ⟨hI_X11_best, hS_X11_best, hIni_X11, hC_X11_best, by decide +kernel⟩
abbrev rm_X11_changes : Room := { frames := 7, cells := 0, slots := 0, locals := 162 }
def fX11_changes (σ : S0) (x1 : Int32) : Option (Int32 × S0) := obp (fX11_findBest σ x1) (fun r1 σ2 => obp (fX11_wageOf σ2 x1) (fun r4 σ5 => if (σ2 98 31) ≤ r4 then (some (0, σ5)) else (some (1, σ5))))
set_option maxHeartbeats 1000000 in
set_option maxRecDepth 100000 in
theorem fX11_changes_ok {p : Program} {l : Launch} {e : Env} {s : State} {m : MethodId} {args : Array Value} {below : List Frame} {meth : Method} {c : Code} {dC : Nat → ClassId} {dI : Nat → Nat → Nat} {ad : Nat → Nat} {cy : Nat → ClassId} {sz : Nat} (C : Cx p s m args meth c RX11 cX11_changes 2 (some .boolean) dC dI ad cy sz) {rr : Int32} {ρ : S0} (σ : S0) (x1 : Int32)  (hf : fX11_changes σ x1 = some (rr, ρ)) : Gw p l e rm_X11_changes s m args below meth c (MQ below (QcI dC dI ad cy sz rr ρ) args s 0 0 (AW ad sz)) dC dI ad cy 2 sz 0 0 0 [(0, .ref (ad 98)), (1, .int x1)] [] σ := by
  unfold fX11_changes at hf
  refine g_aload_n C dX11_changes_0 rfl 0 rfl ?_
  refine g_iload_n C dX11_changes_1 rfl 1 rfl ?_
  obtain ⟨r1, σ2, h3, hf⟩ := obp_e hf
  refine g_callVv (As := [.int x1]) (rest := []) C (a_98 ad cy _) rfl (c_X11_findBest l dC dI ad cy x1) h3 hM_X11_248 cal_X11_findBest ⟨Nat.zero_le _, Nat.zero_le _⟩ ⟨rfl, rfl⟩ ⟨Nat.le_of_ble_eq_true rfl, Nat.le_of_ble_eq_true rfl⟩ rfl rfl (Nat.le_of_ble_eq_true rfl) dX11_changes_2 ?_
  refine g_aload_n C dX11_changes_5 rfl 0 rfl ?_
  refine g_get C (a_98 ad cy _) rfl hin_X11 31 (by decide) hF_X11_245 rfl rfl dX11_changes_6 ?_
  refine g_aload_n C dX11_changes_9 rfl 0 rfl ?_
  refine g_iload_n C dX11_changes_10 rfl 1 rfl ?_
  obtain ⟨r4, σ5, h6, hf⟩ := obp_e hf
  refine g_callVi (As := [.int x1]) (rest := [.int (σ2 98 31)]) C (a_98 ad cy _) rfl (c_X11_wageOf l dC dI ad cy x1) h6 hM_X11_232 cal_X11_wageOf ⟨Nat.zero_le _, Nat.zero_le _⟩ ⟨rfl, rfl⟩ ⟨Nat.le_of_ble_eq_true rfl, Nat.le_of_ble_eq_true rfl⟩ rfl rfl (Nat.le_of_ble_eq_true rfl) dX11_changes_11 ?_
  rcases oi_e hf with ⟨c7, hf⟩ | ⟨c7, hf⟩
  · refine g_icmp_le_t (tgt := 21) C dX11_changes_14 (by decide) c7 ?_
    refine g_iconst (v := 0) C dX11_changes_21 (by decide) ?_
    obtain ⟨rfl, rfl⟩ := os_e hf
    exact g_zret C rfl (by decide) dX11_changes_22
  · refine g_icmp_le_f (tgt := 21) C dX11_changes_14 (by decide) c7 ?_
    refine g_iconst (v := 1) C dX11_changes_17 (by decide) ?_
    refine g_goto (tgt := 22) C dX11_changes_18 (by decide) ?_
    obtain ⟨rfl, rfl⟩ := os_e hf
    exact g_zret C rfl (by decide) dX11_changes_22
theorem c_X11_changes (l : Launch) (dC : Nat → ClassId) (dI : Nat → Nat → Nat) (ad : Nat → Nat) (cy : Nat → ClassId) (x1 : Int32) : ConI l yX11_changes cX11_changes 2 (some .boolean) rm_X11_changes dC dI ad cy [.ref (ad 98), .int x1] (fun σ => fX11_changes σ x1) := con_i (own := RX11) (by decide) rfl (Nat.le_of_ble_eq_true rfl) (fun _ _ _ _ _ _ _ _ σ _ _ C hf => fX11_changes_ok C σ x1 hf)
theorem cal_X11_changes : CalV yX11_changes RX11 cX11_changes 2 (some .boolean) 1 := ⟨hI_X11_changes, hS_X11_changes, hIni_X11, hC_X11_changes, by decide +kernel⟩
abbrev rm_X11_settle : Room := { frames := 8, cells := 0, slots := 0, locals := 183 }
def fX11_settle_b56 (sf_16 : S0 → Int32 → Int32 → Option (Int32 × S0)) (sf_26 : S0 → Int32 → Int32 → Int32 → Int32 → Option (Int32 × S0)) (σ : S0) (x1 : Int32) (x2 : Int32) (x3 : Int32) (x4 : Int32) : Option (Int32 × S0) := ol (x4 + 1) (fun v1 => sf_26 σ x1 x2 x3 v1)
set_option maxHeartbeats 1000000 in
set_option maxRecDepth 100000 in
theorem fX11_settle_b56_ok {p : Program} {l : Launch} {e : Env} {s : State} {m : MethodId} {args : Array Value} {below : List Frame} {meth : Method} {c : Code} {dC : Nat → ClassId} {dI : Nat → Nat → Nat} {ad : Nat → Nat} {cy : Nat → ClassId} {sz : Nat} (C : Cx p s m args meth c RX11 cX11_settle 5 (some .int) dC dI ad cy sz) {rr : Int32} {ρ : S0} (sf_16 : S0 → Int32 → Int32 → Option (Int32 × S0)) (hs_16 : ∀ (σ : S0) (x1 : Int32) (x2 : Int32) , sf_16 σ x1 x2 = some (rr, ρ) → Gw p l e rm_X11_settle s m args below meth c (MQ below (QcI dC dI ad cy sz rr ρ) args s 0 0 (AW ad sz)) dC dI ad cy 5 sz 0 0 16 [(0, .ref (ad 98)), (1, .int x1), (2, .int x2)] [] σ) (sf_26 : S0 → Int32 → Int32 → Int32 → Int32 → Option (Int32 × S0)) (hs_26 : ∀ (σ : S0) (x1 : Int32) (x2 : Int32) (x3 : Int32) (x4 : Int32) , sf_26 σ x1 x2 x3 x4 = some (rr, ρ) → Gw p l e rm_X11_settle s m args below meth c (MQ below (QcI dC dI ad cy sz rr ρ) args s 0 0 (AW ad sz)) dC dI ad cy 5 sz 0 0 26 [(0, .ref (ad 98)), (1, .int x1), (2, .int x2), (3, .int x3), (4, .int x4)] [] σ) (σ : S0) (x1 : Int32) (x2 : Int32) (x3 : Int32) (x4 : Int32)  (hf : fX11_settle_b56 sf_16 sf_26 σ x1 x2 x3 x4 = some (rr, ρ)) : Gw p l e rm_X11_settle s m args below meth c (MQ below (QcI dC dI ad cy sz rr ρ) args s 0 0 (AW ad sz)) dC dI ad cy 5 sz 0 0 56 [(0, .ref (ad 98)), (1, .int x1), (2, .int x2), (3, .int x3), (4, .int x4)] [] σ := by
  unfold fX11_settle_b56 at hf
  obtain ⟨v1, ev1, hf⟩ := ol_e hf
  refine g_iinc (j := 4) (w := 1) (lv2 := [(0, .ref (ad 98)), (1, .int x1), (2, .int x2), (3, .int x3), (4, .int v1)]) C dX11_settle_56 rfl (by decide) ev1 (by decide) [1, 2, 3, 4, 0] rfl ?_
  refine g_goto (tgt := 26) C dX11_settle_59 (by decide) ?_
  exact g_sub [0, 1, 2, 3, 4] rfl (hs_26 σ x1 x2 x3 v1 hf)
def fX11_settle_b26 (sf_16 : S0 → Int32 → Int32 → Option (Int32 × S0)) (sf_26 : S0 → Int32 → Int32 → Int32 → Int32 → Option (Int32 × S0)) (σ : S0) (x1 : Int32) (x2 : Int32) (x3 : Int32) (x4 : Int32) : Option (Int32 × S0) := if (σ 98 2) ≤ x4 then (if ¬ x3 = 0 then (ol (x2 + 1) (fun v3 => sf_16 σ x1 v3)) else (some (x2, σ))) else (obp (fX11_changes σ x4) (fun r4 σ5 => if r4 = 0 then (fX11_settle_b56 sf_16 sf_26 σ5 x1 x2 x3 x4) else (obp (fX11_asks σ5 x4 (σ5 98 30)) (fun r8 σ9 => fX11_settle_b56 sf_16 sf_26 σ9 x1 x2 1 x4))))
set_option maxHeartbeats 1000000 in
set_option maxRecDepth 100000 in
theorem fX11_settle_b26_ok {p : Program} {l : Launch} {e : Env} {s : State} {m : MethodId} {args : Array Value} {below : List Frame} {meth : Method} {c : Code} {dC : Nat → ClassId} {dI : Nat → Nat → Nat} {ad : Nat → Nat} {cy : Nat → ClassId} {sz : Nat} (C : Cx p s m args meth c RX11 cX11_settle 5 (some .int) dC dI ad cy sz) {rr : Int32} {ρ : S0} (sf_16 : S0 → Int32 → Int32 → Option (Int32 × S0)) (hs_16 : ∀ (σ : S0) (x1 : Int32) (x2 : Int32) , sf_16 σ x1 x2 = some (rr, ρ) → Gw p l e rm_X11_settle s m args below meth c (MQ below (QcI dC dI ad cy sz rr ρ) args s 0 0 (AW ad sz)) dC dI ad cy 5 sz 0 0 16 [(0, .ref (ad 98)), (1, .int x1), (2, .int x2)] [] σ) (sf_26 : S0 → Int32 → Int32 → Int32 → Int32 → Option (Int32 × S0)) (hs_26 : ∀ (σ : S0) (x1 : Int32) (x2 : Int32) (x3 : Int32) (x4 : Int32) , sf_26 σ x1 x2 x3 x4 = some (rr, ρ) → Gw p l e rm_X11_settle s m args below meth c (MQ below (QcI dC dI ad cy sz rr ρ) args s 0 0 (AW ad sz)) dC dI ad cy 5 sz 0 0 26 [(0, .ref (ad 98)), (1, .int x1), (2, .int x2), (3, .int x3), (4, .int x4)] [] σ) (σ : S0) (x1 : Int32) (x2 : Int32) (x3 : Int32) (x4 : Int32)  (hf : fX11_settle_b26 sf_16 sf_26 σ x1 x2 x3 x4 = some (rr, ρ)) : Gw p l e rm_X11_settle s m args below meth c (MQ below (QcI dC dI ad cy sz rr ρ) args s 0 0 (AW ad sz)) dC dI ad cy 5 sz 0 0 26 [(0, .ref (ad 98)), (1, .int x1), (2, .int x2), (3, .int x3), (4, .int x4)] [] σ := by
  unfold fX11_settle_b26 at hf
  refine g_iload C dX11_settle_26 4 rfl ?_
  refine g_aload_n C dX11_settle_28 rfl 0 rfl ?_
  refine g_get C (a_98 ad cy _) rfl hin_X11 2 (by decide) hF_X11_75 rfl rfl dX11_settle_29 ?_
  rcases oi_e hf with ⟨c1, hf⟩ | ⟨c1, hf⟩
  · refine g_icmp_ge_t (tgt := 62) C dX11_settle_32 (by decide) c1 ?_
    refine g_iload_n C dX11_settle_62 rfl 3 rfl ?_
    rcases oi_e hf with ⟨c2, hf⟩ | ⟨c2, hf⟩
    · refine g_if_ne_t (tgt := 68) C dX11_settle_63 (by decide) c2 ?_
      obtain ⟨v3, ev3, hf⟩ := ol_e hf
      refine g_iinc (j := 2) (w := 1) (lv2 := [(0, .ref (ad 98)), (1, .int x1), (2, .int v3), (3, .int x3), (4, .int x4)]) C dX11_settle_68 rfl (by decide) ev3 (by decide) [1, 2, 0, 3, 4] rfl ?_
      refine g_goto (tgt := 16) C dX11_settle_71 (by decide) ?_
      exact g_sub [0, 1, 2] rfl (hs_16 σ x1 v3 hf)
    · refine g_if_ne_f (tgt := 68) C dX11_settle_63 (by decide) (Decidable.of_not_not c2) ?_
      refine g_iload_n C dX11_settle_66 rfl 2 rfl ?_
      obtain ⟨rfl, rfl⟩ := os_e hf
      exact g_iret C rfl dX11_settle_67
  · refine g_icmp_ge_f (tgt := 62) C dX11_settle_32 (by decide) c1 ?_
    refine g_aload_n C dX11_settle_35 rfl 0 rfl ?_
    refine g_iload C dX11_settle_36 4 rfl ?_
    obtain ⟨r4, σ5, h6, hf⟩ := obp_e hf
    refine g_callVi (As := [.int x4]) (rest := []) C (a_98 ad cy _) rfl (c_X11_changes l dC dI ad cy x4) h6 hM_X11_253 cal_X11_changes ⟨Nat.zero_le _, Nat.zero_le _⟩ ⟨rfl, rfl⟩ ⟨Nat.le_of_ble_eq_true rfl, Nat.le_of_ble_eq_true rfl⟩ rfl rfl (Nat.le_of_ble_eq_true rfl) dX11_settle_38 ?_
    rcases oi_e hf with ⟨c7, hf⟩ | ⟨c7, hf⟩
    · refine g_if_eq_t (tgt := 56) C dX11_settle_41 (by decide) c7 ?_
      exact g_sub [0, 1, 2, 3, 4] rfl (fX11_settle_b56_ok C sf_16 hs_16 sf_26 hs_26 σ5 x1 x2 x3 x4 hf)
    · refine g_if_eq_f (tgt := 56) C dX11_settle_41 (by decide) c7 ?_
      refine g_aload_n C dX11_settle_44 rfl 0 rfl ?_
      refine g_iload C dX11_settle_45 4 rfl ?_
      refine g_aload_n C dX11_settle_47 rfl 0 rfl ?_
      refine g_get C (a_98 ad cy _) rfl hin_X11 30 (by decide) hF_X11_242 rfl rfl dX11_settle_48 ?_
      obtain ⟨r8, σ9, h10, hf⟩ := obp_e hf
      refine g_callVv (As := [.int x4, .int (σ5 98 30)]) (rest := []) C (a_98 ad cy _) rfl (c_X11_asks l dC dI ad cy x4 (σ5 98 30)) h10 hM_X11_235 cal_X11_asks ⟨Nat.zero_le _, Nat.zero_le _⟩ ⟨rfl, rfl⟩ ⟨Nat.le_of_ble_eq_true rfl, Nat.le_of_ble_eq_true rfl⟩ rfl rfl (Nat.le_of_ble_eq_true rfl) dX11_settle_51 ?_
      refine g_iconst (v := 1) C dX11_settle_54 (by decide) ?_
      refine g_istore_n (lv2 := [(0, .ref (ad 98)), (1, .int x1), (2, .int x2), (3, .int 1), (4, .int x4)]) C dX11_settle_55 rfl (by decide) [1, 2, 3, 0, 4] rfl ?_
      exact g_sub [0, 1, 2, 3, 4] rfl (fX11_settle_b56_ok C sf_16 hs_16 sf_26 hs_26 σ9 x1 x2 1 x4 hf)
def fX11_settle_h26 (sf_16 : S0 → Int32 → Int32 → Option (Int32 × S0)) : Nat → S0 → Int32 → Int32 → Int32 → Int32 → Option (Int32 × S0)
  | 0 => fun _ _ _ _ _ => none
  | n + 1 => fun σ x1 x2 x3 x4 => fX11_settle_b26 sf_16 (fX11_settle_h26 sf_16 n) σ x1 x2 x3 x4
set_option maxHeartbeats 1000000 in
set_option maxRecDepth 100000 in
theorem fX11_settle_h26_ok {p : Program} {l : Launch} {e : Env} {s : State} {m : MethodId} {args : Array Value} {below : List Frame} {meth : Method} {c : Code} {dC : Nat → ClassId} {dI : Nat → Nat → Nat} {ad : Nat → Nat} {cy : Nat → ClassId} {sz : Nat} (C : Cx p s m args meth c RX11 cX11_settle 5 (some .int) dC dI ad cy sz) {rr : Int32} {ρ : S0} (sf_16 : S0 → Int32 → Int32 → Option (Int32 × S0)) (hs_16 : ∀ (σ : S0) (x1 : Int32) (x2 : Int32) , sf_16 σ x1 x2 = some (rr, ρ) → Gw p l e rm_X11_settle s m args below meth c (MQ below (QcI dC dI ad cy sz rr ρ) args s 0 0 (AW ad sz)) dC dI ad cy 5 sz 0 0 16 [(0, .ref (ad 98)), (1, .int x1), (2, .int x2)] [] σ) : ∀ (n : Nat) (σ : S0) (x1 : Int32) (x2 : Int32) (x3 : Int32) (x4 : Int32)  (_hf : fX11_settle_h26 sf_16 n σ x1 x2 x3 x4 = some (rr, ρ)), Gw p l e rm_X11_settle s m args below meth c (MQ below (QcI dC dI ad cy sz rr ρ) args s 0 0 (AW ad sz)) dC dI ad cy 5 sz 0 0 26 [(0, .ref (ad 98)), (1, .int x1), (2, .int x2), (3, .int x3), (4, .int x4)] [] σ
  | 0, _, _, _, _, _, hf => by cases hf
  | n + 1, σ, x1, x2, x3, x4, hf => fX11_settle_b26_ok C sf_16 hs_16 (fX11_settle_h26 sf_16 n) (fX11_settle_h26_ok C sf_16 hs_16 n) σ x1 x2 x3 x4 hf
def fX11_settle_b16 (sf_16 : S0 → Int32 → Int32 → Option (Int32 × S0)) (σ : S0) (x1 : Int32) (x2 : Int32) : Option (Int32 × S0) := if x1 ≤ x2 then (some ((-4), σ)) else (fX11_settle_h26 sf_16 400 σ x1 x2 0 0)
set_option maxHeartbeats 1000000 in
set_option maxRecDepth 100000 in
theorem fX11_settle_b16_ok {p : Program} {l : Launch} {e : Env} {s : State} {m : MethodId} {args : Array Value} {below : List Frame} {meth : Method} {c : Code} {dC : Nat → ClassId} {dI : Nat → Nat → Nat} {ad : Nat → Nat} {cy : Nat → ClassId} {sz : Nat} (C : Cx p s m args meth c RX11 cX11_settle 5 (some .int) dC dI ad cy sz) {rr : Int32} {ρ : S0} (sf_16 : S0 → Int32 → Int32 → Option (Int32 × S0)) (hs_16 : ∀ (σ : S0) (x1 : Int32) (x2 : Int32) , sf_16 σ x1 x2 = some (rr, ρ) → Gw p l e rm_X11_settle s m args below meth c (MQ below (QcI dC dI ad cy sz rr ρ) args s 0 0 (AW ad sz)) dC dI ad cy 5 sz 0 0 16 [(0, .ref (ad 98)), (1, .int x1), (2, .int x2)] [] σ) (σ : S0) (x1 : Int32) (x2 : Int32)  (hf : fX11_settle_b16 sf_16 σ x1 x2 = some (rr, ρ)) : Gw p l e rm_X11_settle s m args below meth c (MQ below (QcI dC dI ad cy sz rr ρ) args s 0 0 (AW ad sz)) dC dI ad cy 5 sz 0 0 16 [(0, .ref (ad 98)), (1, .int x1), (2, .int x2)] [] σ := by
  unfold fX11_settle_b16 at hf
  refine g_iload_n C dX11_settle_16 rfl 2 rfl ?_
  refine g_iload_n C dX11_settle_17 rfl 1 rfl ?_
  rcases oi_e hf with ⟨c1, hf⟩ | ⟨c1, hf⟩
  · refine g_icmp_ge_t (tgt := 74) C dX11_settle_18 (by decide) c1 ?_
    refine g_bipush (v := (-4)) C dX11_settle_74 (by decide) ?_
    obtain ⟨rfl, rfl⟩ := os_e hf
    exact g_iret C rfl dX11_settle_76
  · refine g_icmp_ge_f (tgt := 74) C dX11_settle_18 (by decide) c1 ?_
    refine g_iconst (v := 0) C dX11_settle_21 (by decide) ?_
    refine g_istore_n (lv2 := [(0, .ref (ad 98)), (1, .int x1), (2, .int x2), (3, .int 0)]) C dX11_settle_22 rfl (by decide) [1, 2, 3, 0] rfl ?_
    refine g_iconst (v := 0) C dX11_settle_23 (by decide) ?_
    refine g_istore (lv2 := [(0, .ref (ad 98)), (1, .int x1), (2, .int x2), (3, .int 0), (4, .int 0)]) C dX11_settle_24 (by decide) [1, 2, 3, 4, 0] rfl ?_
    exact g_sub [0, 1, 2, 3, 4] rfl (fX11_settle_h26_ok C sf_16 hs_16 400 σ x1 x2 0 0 hf)
def fX11_settle_h16  : Nat → S0 → Int32 → Int32 → Option (Int32 × S0)
  | 0 => fun _ _ _ => none
  | n + 1 => fun σ x1 x2 => fX11_settle_b16  (fX11_settle_h16  n) σ x1 x2
set_option maxHeartbeats 1000000 in
set_option maxRecDepth 100000 in
theorem fX11_settle_h16_ok {p : Program} {l : Launch} {e : Env} {s : State} {m : MethodId} {args : Array Value} {below : List Frame} {meth : Method} {c : Code} {dC : Nat → ClassId} {dI : Nat → Nat → Nat} {ad : Nat → Nat} {cy : Nat → ClassId} {sz : Nat} (C : Cx p s m args meth c RX11 cX11_settle 5 (some .int) dC dI ad cy sz) {rr : Int32} {ρ : S0}  : ∀ (n : Nat) (σ : S0) (x1 : Int32) (x2 : Int32)  (_hf : fX11_settle_h16  n σ x1 x2 = some (rr, ρ)), Gw p l e rm_X11_settle s m args below meth c (MQ below (QcI dC dI ad cy sz rr ρ) args s 0 0 (AW ad sz)) dC dI ad cy 5 sz 0 0 16 [(0, .ref (ad 98)), (1, .int x1), (2, .int x2)] [] σ
  | 0, _, _, _, hf => by cases hf
  | n + 1, σ, x1, x2, hf => fX11_settle_b16_ok C  (fX11_settle_h16  n) (fX11_settle_h16_ok C  n) σ x1 x2 hf
def fX11_settle (σ : S0) (x1 : Int32) : Option (Int32 × S0) := obp (fX11_in σ x1.toInt64 ((1 : Int64)) ((30 : Int64))) (fun r1 σ2 => if ¬ r1 = 0 then (fX11_settle_h16 400 σ2 x1 0) else (some ((-1), σ2)))
set_option maxHeartbeats 1000000 in
set_option maxRecDepth 100000 in
theorem fX11_settle_ok {p : Program} {l : Launch} {e : Env} {s : State} {m : MethodId} {args : Array Value} {below : List Frame} {meth : Method} {c : Code} {dC : Nat → ClassId} {dI : Nat → Nat → Nat} {ad : Nat → Nat} {cy : Nat → ClassId} {sz : Nat} (C : Cx p s m args meth c RX11 cX11_settle 5 (some .int) dC dI ad cy sz) {rr : Int32} {ρ : S0} (σ : S0) (x1 : Int32)  (hf : fX11_settle σ x1 = some (rr, ρ)) : Gw p l e rm_X11_settle s m args below meth c (MQ below (QcI dC dI ad cy sz rr ρ) args s 0 0 (AW ad sz)) dC dI ad cy 5 sz 0 0 0 [(0, .ref (ad 98)), (1, .int x1)] [] σ := by
  unfold fX11_settle at hf
  refine g_iload_n C dX11_settle_0 rfl 1 rfl ?_
  refine g_i2l C dX11_settle_1 ?_
  refine g_lconst (v := 1) C dX11_settle_2 (by decide) ?_
  refine g_ldc2 (v := 30) C dX11_settle_3 hK_X11_251 ?_
  obtain ⟨r1, σ2, h3, hf⟩ := obp_e hf
  refine g_callSi (As := [.long x1.toInt64, .long 1, .long 30]) (rest := []) C (c_X11_in l dC dI ad cy x1.toInt64 ((1 : Int64)) ((30 : Int64))) h3 hM_X11_92 cal_X11_in ⟨Nat.zero_le _, Nat.zero_le _⟩ ⟨rfl, rfl⟩ ⟨Nat.le_of_ble_eq_true rfl, Nat.le_of_ble_eq_true rfl⟩ rfl rfl (Nat.le_of_ble_eq_true rfl) dX11_settle_6 ?_
  rcases oi_e hf with ⟨c4, hf⟩ | ⟨c4, hf⟩
  · refine g_if_ne_t (tgt := 14) C dX11_settle_9 (by decide) c4 ?_
    refine g_iconst (v := 0) C dX11_settle_14 (by decide) ?_
    refine g_istore_n (lv2 := [(0, .ref (ad 98)), (1, .int x1), (2, .int 0)]) C dX11_settle_15 rfl (by decide) [1, 2, 0] rfl ?_
    exact g_sub [0, 1, 2] rfl (fX11_settle_h16_ok C 400 σ2 x1 0 hf)
  · refine g_if_ne_f (tgt := 14) C dX11_settle_9 (by decide) (Decidable.of_not_not c4) ?_
    refine g_iconst (v := (-1)) C dX11_settle_12 (by decide) ?_
    obtain ⟨rfl, rfl⟩ := os_e hf
    exact g_iret C rfl dX11_settle_13
theorem c_X11_settle (l : Launch) (dC : Nat → ClassId) (dI : Nat → Nat → Nat) (ad : Nat → Nat) (cy : Nat → ClassId) (x1 : Int32) : ConI l yX11_settle cX11_settle 5 (some .int) rm_X11_settle dC dI ad cy [.ref (ad 98), .int x1] (fun σ => fX11_settle σ x1) := con_i (own := RX11) (by decide) rfl (Nat.le_of_ble_eq_true rfl) (fun _ _ _ _ _ _ _ _ σ _ _ C hf => fX11_settle_ok C σ x1 hf)
theorem cal_X11_settle : CalV yX11_settle RX11 cX11_settle 5 (some .int) 1 := ⟨hI_X11_settle, hS_X11_settle, hIni_X11, hC_X11_settle, by decide +kernel⟩
abbrev rm_X11_settled : Room := { frames := 8, cells := 0, slots := 0, locals := 183 }
def fX11_settled_b29 (sf_4 : S0 → Int32 → Int32 → Option (Int32 × S0)) (σ : S0) (x2 : Int32) (t0 : Int32) : Option (Int32 × S0) := ol (x2 + 1) (fun v1 => sf_4 σ t0 v1)
set_option maxHeartbeats 1000000 in
set_option maxRecDepth 100000 in
theorem fX11_settled_b29_ok {p : Program} {l : Launch} {e : Env} {s : State} {m : MethodId} {args : Array Value} {below : List Frame} {meth : Method} {c : Code} {dC : Nat → ClassId} {dI : Nat → Nat → Nat} {ad : Nat → Nat} {cy : Nat → ClassId} {sz : Nat} (C : Cx p s m args meth c RX11 cX11_settled 3 (some .int) dC dI ad cy sz) {rr : Int32} {ρ : S0} (sf_4 : S0 → Int32 → Int32 → Option (Int32 × S0)) (hs_4 : ∀ (σ : S0) (x1 : Int32) (x2 : Int32) , sf_4 σ x1 x2 = some (rr, ρ) → Gw p l e rm_X11_settled s m args below meth c (MQ below (QcI dC dI ad cy sz rr ρ) args s 0 0 (AW ad sz)) dC dI ad cy 3 sz 0 0 4 [(0, .ref (ad 98)), (1, .int x1), (2, .int x2)] [] σ) (σ : S0) (x2 : Int32) (t0 : Int32)  (hf : fX11_settled_b29 sf_4 σ x2 t0 = some (rr, ρ)) : Gw p l e rm_X11_settled s m args below meth c (MQ below (QcI dC dI ad cy sz rr ρ) args s 0 0 (AW ad sz)) dC dI ad cy 3 sz 0 0 29 [(0, .ref (ad 98)), (2, .int x2)] [.int t0] σ := by
  unfold fX11_settled_b29 at hf
  refine g_istore_n (lv2 := [(0, .ref (ad 98)), (1, .int t0), (2, .int x2)]) C dX11_settled_29 rfl (by decide) [1, 0, 2] rfl ?_
  obtain ⟨v1, ev1, hf⟩ := ol_e hf
  refine g_iinc (j := 2) (w := 1) (lv2 := [(0, .ref (ad 98)), (1, .int t0), (2, .int v1)]) C dX11_settled_30 rfl (by decide) ev1 (by decide) [1, 2, 0] rfl ?_
  refine g_goto (tgt := 4) C dX11_settled_33 (by decide) ?_
  exact g_sub [0, 1, 2] rfl (hs_4 σ t0 v1 hf)
def fX11_settled_b24 (sf_4 : S0 → Int32 → Int32 → Option (Int32 × S0)) (σ : S0) (x2 : Int32) : Option (Int32 × S0) := fX11_settled_b29 sf_4 σ x2 1
set_option maxHeartbeats 1000000 in
set_option maxRecDepth 100000 in
theorem fX11_settled_b24_ok {p : Program} {l : Launch} {e : Env} {s : State} {m : MethodId} {args : Array Value} {below : List Frame} {meth : Method} {c : Code} {dC : Nat → ClassId} {dI : Nat → Nat → Nat} {ad : Nat → Nat} {cy : Nat → ClassId} {sz : Nat} (C : Cx p s m args meth c RX11 cX11_settled 3 (some .int) dC dI ad cy sz) {rr : Int32} {ρ : S0} (sf_4 : S0 → Int32 → Int32 → Option (Int32 × S0)) (hs_4 : ∀ (σ : S0) (x1 : Int32) (x2 : Int32) , sf_4 σ x1 x2 = some (rr, ρ) → Gw p l e rm_X11_settled s m args below meth c (MQ below (QcI dC dI ad cy sz rr ρ) args s 0 0 (AW ad sz)) dC dI ad cy 3 sz 0 0 4 [(0, .ref (ad 98)), (1, .int x1), (2, .int x2)] [] σ) (σ : S0) (x2 : Int32)  (hf : fX11_settled_b24 sf_4 σ x2 = some (rr, ρ)) : Gw p l e rm_X11_settled s m args below meth c (MQ below (QcI dC dI ad cy sz rr ρ) args s 0 0 (AW ad sz)) dC dI ad cy 3 sz 0 0 24 [(0, .ref (ad 98)), (2, .int x2)] [] σ := by
  unfold fX11_settled_b24 at hf
  refine g_iconst (v := 1) C dX11_settled_24 (by decide) ?_
  refine g_goto (tgt := 29) C dX11_settled_25 (by decide) ?_
  exact g_sub [0, 1] rfl (fX11_settled_b29_ok C sf_4 hs_4 σ x2 1 hf)
def fX11_settled_b45  (σ : S0) (t0 : Int32) : Option (Int32 × S0) := obp (fX11_flag σ t0) (fun r1 σ2 => some (r1, σ2))
set_option maxHeartbeats 1000000 in
set_option maxRecDepth 100000 in
theorem fX11_settled_b45_ok {p : Program} {l : Launch} {e : Env} {s : State} {m : MethodId} {args : Array Value} {below : List Frame} {meth : Method} {c : Code} {dC : Nat → ClassId} {dI : Nat → Nat → Nat} {ad : Nat → Nat} {cy : Nat → ClassId} {sz : Nat} (C : Cx p s m args meth c RX11 cX11_settled 3 (some .int) dC dI ad cy sz) {rr : Int32} {ρ : S0}  (σ : S0) (t0 : Int32)  (hf : fX11_settled_b45 σ t0 = some (rr, ρ)) : Gw p l e rm_X11_settled s m args below meth c (MQ below (QcI dC dI ad cy sz rr ρ) args s 0 0 (AW ad sz)) dC dI ad cy 3 sz 0 0 45 [] [.int t0] σ := by
  unfold fX11_settled_b45 at hf
  obtain ⟨r1, σ2, h3, hf⟩ := obp_e hf
  refine g_callSi (As := [.int t0]) (rest := []) C (c_X11_flag l dC dI ad cy t0) h3 hM_X11_191 cal_X11_flag ⟨Nat.zero_le _, Nat.zero_le _⟩ ⟨rfl, rfl⟩ ⟨Nat.le_of_ble_eq_true rfl, Nat.le_of_ble_eq_true rfl⟩ rfl rfl (Nat.le_of_ble_eq_true rfl) dX11_settled_45 ?_
  obtain ⟨rfl, rfl⟩ := os_e hf
  exact g_iret C rfl dX11_settled_48
def fX11_settled_b4 (sf_4 : S0 → Int32 → Int32 → Option (Int32 × S0)) (σ : S0) (x1 : Int32) (x2 : Int32) : Option (Int32 × S0) := if (σ 98 2) ≤ x2 then (if ¬ x1 = 0 then (fX11_settled_b45 σ 0) else (fX11_settled_b45 σ 1)) else (if ¬ x1 = 0 then (fX11_settled_b24 sf_4 σ x2) else (obp (fX11_changes σ x2) (fun r4 σ5 => if r4 = 0 then (fX11_settled_b29 sf_4 σ5 x2 0) else (fX11_settled_b24 sf_4 σ5 x2))))
set_option maxHeartbeats 1000000 in
set_option maxRecDepth 100000 in
theorem fX11_settled_b4_ok {p : Program} {l : Launch} {e : Env} {s : State} {m : MethodId} {args : Array Value} {below : List Frame} {meth : Method} {c : Code} {dC : Nat → ClassId} {dI : Nat → Nat → Nat} {ad : Nat → Nat} {cy : Nat → ClassId} {sz : Nat} (C : Cx p s m args meth c RX11 cX11_settled 3 (some .int) dC dI ad cy sz) {rr : Int32} {ρ : S0} (sf_4 : S0 → Int32 → Int32 → Option (Int32 × S0)) (hs_4 : ∀ (σ : S0) (x1 : Int32) (x2 : Int32) , sf_4 σ x1 x2 = some (rr, ρ) → Gw p l e rm_X11_settled s m args below meth c (MQ below (QcI dC dI ad cy sz rr ρ) args s 0 0 (AW ad sz)) dC dI ad cy 3 sz 0 0 4 [(0, .ref (ad 98)), (1, .int x1), (2, .int x2)] [] σ) (σ : S0) (x1 : Int32) (x2 : Int32)  (hf : fX11_settled_b4 sf_4 σ x1 x2 = some (rr, ρ)) : Gw p l e rm_X11_settled s m args below meth c (MQ below (QcI dC dI ad cy sz rr ρ) args s 0 0 (AW ad sz)) dC dI ad cy 3 sz 0 0 4 [(0, .ref (ad 98)), (1, .int x1), (2, .int x2)] [] σ := by
  unfold fX11_settled_b4 at hf
  refine g_iload_n C dX11_settled_4 rfl 2 rfl ?_
  refine g_aload_n C dX11_settled_5 rfl 0 rfl ?_
  refine g_get C (a_98 ad cy _) rfl hin_X11 2 (by decide) hF_X11_75 rfl rfl dX11_settled_6 ?_
  rcases oi_e hf with ⟨c1, hf⟩ | ⟨c1, hf⟩
  · refine g_icmp_ge_t (tgt := 36) C dX11_settled_9 (by decide) c1 ?_
    refine g_iload_n C dX11_settled_36 rfl 1 rfl ?_
    rcases oi_e hf with ⟨c2, hf⟩ | ⟨c2, hf⟩
    · refine g_if_ne_t (tgt := 44) C dX11_settled_37 (by decide) c2 ?_
      refine g_iconst (v := 0) C dX11_settled_44 (by decide) ?_
      exact g_sub [] rfl (fX11_settled_b45_ok C σ 0 hf)
    · refine g_if_ne_f (tgt := 44) C dX11_settled_37 (by decide) (Decidable.of_not_not c2) ?_
      refine g_iconst (v := 1) C dX11_settled_40 (by decide) ?_
      refine g_goto (tgt := 45) C dX11_settled_41 (by decide) ?_
      exact g_sub [] rfl (fX11_settled_b45_ok C σ 1 hf)
  · refine g_icmp_ge_f (tgt := 36) C dX11_settled_9 (by decide) c1 ?_
    refine g_iload_n C dX11_settled_12 rfl 1 rfl ?_
    rcases oi_e hf with ⟨c3, hf⟩ | ⟨c3, hf⟩
    · refine g_if_ne_t (tgt := 24) C dX11_settled_13 (by decide) c3 ?_
      exact g_sub [0, 2] rfl (fX11_settled_b24_ok C sf_4 hs_4 σ x2 hf)
    · refine g_if_ne_f (tgt := 24) C dX11_settled_13 (by decide) (Decidable.of_not_not c3) ?_
      refine g_aload_n C dX11_settled_16 rfl 0 rfl ?_
      refine g_iload_n C dX11_settled_17 rfl 2 rfl ?_
      obtain ⟨r4, σ5, h6, hf⟩ := obp_e hf
      refine g_callVi (As := [.int x2]) (rest := []) C (a_98 ad cy _) rfl (c_X11_changes l dC dI ad cy x2) h6 hM_X11_253 cal_X11_changes ⟨Nat.zero_le _, Nat.zero_le _⟩ ⟨rfl, rfl⟩ ⟨Nat.le_of_ble_eq_true rfl, Nat.le_of_ble_eq_true rfl⟩ rfl rfl (Nat.le_of_ble_eq_true rfl) dX11_settled_18 ?_
      rcases oi_e hf with ⟨c7, hf⟩ | ⟨c7, hf⟩
      · refine g_if_eq_t (tgt := 28) C dX11_settled_21 (by decide) c7 ?_
        refine g_iconst (v := 0) C dX11_settled_28 (by decide) ?_
        exact g_sub [0, 2] rfl (fX11_settled_b29_ok C sf_4 hs_4 σ5 x2 0 hf)
      · refine g_if_eq_f (tgt := 28) C dX11_settled_21 (by decide) c7 ?_
        exact g_sub [0, 2] rfl (fX11_settled_b24_ok C sf_4 hs_4 σ5 x2 hf)
def fX11_settled_h4  : Nat → S0 → Int32 → Int32 → Option (Int32 × S0)
  | 0 => fun _ _ _ => none
  | n + 1 => fun σ x1 x2 => fX11_settled_b4  (fX11_settled_h4  n) σ x1 x2
set_option maxHeartbeats 1000000 in
set_option maxRecDepth 100000 in
theorem fX11_settled_h4_ok {p : Program} {l : Launch} {e : Env} {s : State} {m : MethodId} {args : Array Value} {below : List Frame} {meth : Method} {c : Code} {dC : Nat → ClassId} {dI : Nat → Nat → Nat} {ad : Nat → Nat} {cy : Nat → ClassId} {sz : Nat} (C : Cx p s m args meth c RX11 cX11_settled 3 (some .int) dC dI ad cy sz) {rr : Int32} {ρ : S0}  : ∀ (n : Nat) (σ : S0) (x1 : Int32) (x2 : Int32)  (_hf : fX11_settled_h4  n σ x1 x2 = some (rr, ρ)), Gw p l e rm_X11_settled s m args below meth c (MQ below (QcI dC dI ad cy sz rr ρ) args s 0 0 (AW ad sz)) dC dI ad cy 3 sz 0 0 4 [(0, .ref (ad 98)), (1, .int x1), (2, .int x2)] [] σ
  | 0, _, _, _, hf => by cases hf
  | n + 1, σ, x1, x2, hf => fX11_settled_b4_ok C  (fX11_settled_h4  n) (fX11_settled_h4_ok C  n) σ x1 x2 hf
def fX11_settled (σ : S0)  : Option (Int32 × S0) := fX11_settled_h4 400 σ 0 0
set_option maxHeartbeats 1000000 in
set_option maxRecDepth 100000 in
theorem fX11_settled_ok {p : Program} {l : Launch} {e : Env} {s : State} {m : MethodId} {args : Array Value} {below : List Frame} {meth : Method} {c : Code} {dC : Nat → ClassId} {dI : Nat → Nat → Nat} {ad : Nat → Nat} {cy : Nat → ClassId} {sz : Nat} (C : Cx p s m args meth c RX11 cX11_settled 3 (some .int) dC dI ad cy sz) {rr : Int32} {ρ : S0} (σ : S0)   (hf : fX11_settled σ = some (rr, ρ)) : Gw p l e rm_X11_settled s m args below meth c (MQ below (QcI dC dI ad cy sz rr ρ) args s 0 0 (AW ad sz)) dC dI ad cy 3 sz 0 0 0 [(0, .ref (ad 98))] [] σ := by
  unfold fX11_settled at hf
  refine g_iconst (v := 0) C dX11_settled_0 (by decide) ?_
  refine g_istore_n (lv2 := [(0, .ref (ad 98)), (1, .int 0)]) C dX11_settled_1 rfl (by decide) [1, 0] rfl ?_
  refine g_iconst (v := 0) C dX11_settled_2 (by decide) ?_
  refine g_istore_n (lv2 := [(0, .ref (ad 98)), (1, .int 0), (2, .int 0)]) C dX11_settled_3 rfl (by decide) [1, 2, 0] rfl ?_
  exact g_sub [0, 1, 2] rfl (fX11_settled_h4_ok C 400 σ 0 0 hf)
theorem c_X11_settled (l : Launch) (dC : Nat → ClassId) (dI : Nat → Nat → Nat) (ad : Nat → Nat) (cy : Nat → ClassId)  : ConI l yX11_settled cX11_settled 3 (some .int) rm_X11_settled dC dI ad cy [.ref (ad 98)] (fun σ => fX11_settled σ) := con_i (own := RX11) (by decide) rfl (Nat.le_of_ble_eq_true rfl) (fun _ _ _ _ _ _ _ _ σ _ _ C hf => fX11_settled_ok C σ  hf)
theorem cal_X11_settled : CalV yX11_settled RX11 cX11_settled 3 (some .int) 0 := ⟨hI_X11_settled, hS_X11_settled, hIni_X11, hC_X11_settled, by decide +kernel⟩
abbrev rm_X11_bitsOf : Room := { frames := 0, cells := 0, slots := 0, locals := 0 }
def fX11_bitsOf_b4 (sf_4 : S0 → Int32 → Int32 → Int32 → Option (Int32 × S0)) (σ : S0) (x0 : Int32) (x1 : Int32) (x2 : Int32) : Option (Int32 × S0) := if (12 : Int32) ≤ x2 then (some (x1, σ)) else (ol (x1 + ((x0 >>> (x2 &&& 31)) &&& 1)) (fun v2 => ol (x2 + 1) (fun v3 => sf_4 σ x0 v2 v3)))
set_option maxHeartbeats 1000000 in
set_option maxRecDepth 100000 in
theorem fX11_bitsOf_b4_ok {p : Program} {l : Launch} {e : Env} {s : State} {m : MethodId} {args : Array Value} {below : List Frame} {meth : Method} {c : Code} {dC : Nat → ClassId} {dI : Nat → Nat → Nat} {ad : Nat → Nat} {cy : Nat → ClassId} {sz : Nat} (C : Cx p s m args meth c RX11 cX11_bitsOf 3 (some .int) dC dI ad cy sz) {rr : Int32} {ρ : S0} (sf_4 : S0 → Int32 → Int32 → Int32 → Option (Int32 × S0)) (hs_4 : ∀ (σ : S0) (x0 : Int32) (x1 : Int32) (x2 : Int32) , sf_4 σ x0 x1 x2 = some (rr, ρ) → Gw p l e rm_X11_bitsOf s m args below meth c (MQ below (QcI dC dI ad cy sz rr ρ) args s 0 0 (AW ad sz)) dC dI ad cy 3 sz 0 0 4 [(0, .int x0), (1, .int x1), (2, .int x2)] [] σ) (σ : S0) (x0 : Int32) (x1 : Int32) (x2 : Int32)  (hf : fX11_bitsOf_b4 sf_4 σ x0 x1 x2 = some (rr, ρ)) : Gw p l e rm_X11_bitsOf s m args below meth c (MQ below (QcI dC dI ad cy sz rr ρ) args s 0 0 (AW ad sz)) dC dI ad cy 3 sz 0 0 4 [(0, .int x0), (1, .int x1), (2, .int x2)] [] σ := by
  unfold fX11_bitsOf_b4 at hf
  refine g_iload_n C dX11_bitsOf_4 rfl 2 rfl ?_
  refine g_bipush (v := 12) C dX11_bitsOf_5 (by decide) ?_
  rcases oi_e hf with ⟨c1, hf⟩ | ⟨c1, hf⟩
  · refine g_icmp_ge_t (tgt := 24) C dX11_bitsOf_7 (by decide) c1 ?_
    refine g_iload_n C dX11_bitsOf_24 rfl 1 rfl ?_
    obtain ⟨rfl, rfl⟩ := os_e hf
    exact g_iret C rfl dX11_bitsOf_25
  · refine g_icmp_ge_f (tgt := 24) C dX11_bitsOf_7 (by decide) c1 ?_
    refine g_iload_n C dX11_bitsOf_10 rfl 1 rfl ?_
    refine g_iload_n C dX11_bitsOf_11 rfl 0 rfl ?_
    refine g_iload_n C dX11_bitsOf_12 rfl 2 rfl ?_
    refine g_ishr C dX11_bitsOf_13 ?_
    refine g_iconst (v := 1) C dX11_bitsOf_14 (by decide) ?_
    refine g_iand C dX11_bitsOf_15 ?_
    refine g_iadd C dX11_bitsOf_16 ?_
    obtain ⟨v2, ev2, hf⟩ := ol_e hf
    refine g_nm ev2 ?_
    refine g_istore_n (lv2 := [(0, .int x0), (1, .int v2), (2, .int x2)]) C dX11_bitsOf_17 rfl (by decide) [1, 0, 2] rfl ?_
    obtain ⟨v3, ev3, hf⟩ := ol_e hf
    refine g_iinc (j := 2) (w := 1) (lv2 := [(0, .int x0), (1, .int v2), (2, .int v3)]) C dX11_bitsOf_18 rfl (by decide) ev3 (by decide) [1, 2, 0] rfl ?_
    refine g_goto (tgt := 4) C dX11_bitsOf_21 (by decide) ?_
    exact g_sub [0, 1, 2] rfl (hs_4 σ x0 v2 v3 hf)
def fX11_bitsOf_h4  : Nat → S0 → Int32 → Int32 → Int32 → Option (Int32 × S0)
  | 0 => fun _ _ _ _ => none
  | n + 1 => fun σ x0 x1 x2 => fX11_bitsOf_b4  (fX11_bitsOf_h4  n) σ x0 x1 x2
set_option maxHeartbeats 1000000 in
set_option maxRecDepth 100000 in
theorem fX11_bitsOf_h4_ok {p : Program} {l : Launch} {e : Env} {s : State} {m : MethodId} {args : Array Value} {below : List Frame} {meth : Method} {c : Code} {dC : Nat → ClassId} {dI : Nat → Nat → Nat} {ad : Nat → Nat} {cy : Nat → ClassId} {sz : Nat} (C : Cx p s m args meth c RX11 cX11_bitsOf 3 (some .int) dC dI ad cy sz) {rr : Int32} {ρ : S0}  : ∀ (n : Nat) (σ : S0) (x0 : Int32) (x1 : Int32) (x2 : Int32)  (_hf : fX11_bitsOf_h4  n σ x0 x1 x2 = some (rr, ρ)), Gw p l e rm_X11_bitsOf s m args below meth c (MQ below (QcI dC dI ad cy sz rr ρ) args s 0 0 (AW ad sz)) dC dI ad cy 3 sz 0 0 4 [(0, .int x0), (1, .int x1), (2, .int x2)] [] σ
  | 0, _, _, _, _, hf => by cases hf
  | n + 1, σ, x0, x1, x2, hf => fX11_bitsOf_b4_ok C  (fX11_bitsOf_h4  n) (fX11_bitsOf_h4_ok C  n) σ x0 x1 x2 hf
def fX11_bitsOf (σ : S0) (x0 : Int32) : Option (Int32 × S0) := fX11_bitsOf_h4 400 σ x0 0 0
set_option maxHeartbeats 1000000 in
set_option maxRecDepth 100000 in
theorem fX11_bitsOf_ok {p : Program} {l : Launch} {e : Env} {s : State} {m : MethodId} {args : Array Value} {below : List Frame} {meth : Method} {c : Code} {dC : Nat → ClassId} {dI : Nat → Nat → Nat} {ad : Nat → Nat} {cy : Nat → ClassId} {sz : Nat} (C : Cx p s m args meth c RX11 cX11_bitsOf 3 (some .int) dC dI ad cy sz) {rr : Int32} {ρ : S0} (σ : S0) (x0 : Int32)  (hf : fX11_bitsOf σ x0 = some (rr, ρ)) : Gw p l e rm_X11_bitsOf s m args below meth c (MQ below (QcI dC dI ad cy sz rr ρ) args s 0 0 (AW ad sz)) dC dI ad cy 3 sz 0 0 0 [(0, .int x0)] [] σ := by
  unfold fX11_bitsOf at hf
  refine g_iconst (v := 0) C dX11_bitsOf_0 (by decide) ?_
  refine g_istore_n (lv2 := [(0, .int x0), (1, .int 0)]) C dX11_bitsOf_1 rfl (by decide) [1, 0] rfl ?_
  refine g_iconst (v := 0) C dX11_bitsOf_2 (by decide) ?_
  refine g_istore_n (lv2 := [(0, .int x0), (1, .int 0), (2, .int 0)]) C dX11_bitsOf_3 rfl (by decide) [1, 2, 0] rfl ?_
  exact g_sub [0, 1, 2] rfl (fX11_bitsOf_h4_ok C 400 σ x0 0 0 hf)
theorem c_X11_bitsOf (l : Launch) (dC : Nat → ClassId) (dI : Nat → Nat → Nat) (ad : Nat → Nat) (cy : Nat → ClassId) (x0 : Int32) : ConI l yX11_bitsOf cX11_bitsOf 3 (some .int) rm_X11_bitsOf dC dI ad cy [.int x0] (fun σ => fX11_bitsOf σ x0) := con_i (own := RX11) (by decide) rfl (Nat.le_of_ble_eq_true rfl) (fun _ _ _ _ _ _ _ _ σ _ _ C hf => fX11_bitsOf_ok C σ x0 hf)
theorem cal_X11_bitsOf : CalS yX11_bitsOf cX11_bitsOf 3 (some .int) 1 := ⟨hSt_X11_bitsOf, hIni_X11, hC_X11_bitsOf, by decide +kernel⟩
abbrev rm_X11_isFair : Room := { frames := 2, cells := 0, slots := 0, locals := 47 }
def fX11_isFair_b46 (sf_11 : S0 → Int32 → Int32 → Int32 → Option (Int32 × S0)) (σ : S0) (x1 : Int32) (x2 : Int32) (x3 : Int32) : Option (Int32 × S0) := ol (x3 + 1) (fun v1 => sf_11 σ x1 x2 v1)
set_option maxHeartbeats 1000000 in
set_option maxRecDepth 100000 in
theorem fX11_isFair_b46_ok {p : Program} {l : Launch} {e : Env} {s : State} {m : MethodId} {args : Array Value} {below : List Frame} {meth : Method} {c : Code} {dC : Nat → ClassId} {dI : Nat → Nat → Nat} {ad : Nat → Nat} {cy : Nat → ClassId} {sz : Nat} (C : Cx p s m args meth c RX11 cX11_isFair 5 (some .boolean) dC dI ad cy sz) {rr : Int32} {ρ : S0} (sf_11 : S0 → Int32 → Int32 → Int32 → Option (Int32 × S0)) (hs_11 : ∀ (σ : S0) (x1 : Int32) (x2 : Int32) (x3 : Int32) , sf_11 σ x1 x2 x3 = some (rr, ρ) → Gw p l e rm_X11_isFair s m args below meth c (MQ below (QcI dC dI ad cy sz rr ρ) args s 0 0 (AW ad sz)) dC dI ad cy 5 sz 0 0 11 [(0, .ref (ad 98)), (1, .int x1), (2, .int x2), (3, .int x3)] [] σ) (σ : S0) (x1 : Int32) (x2 : Int32) (x3 : Int32)  (hf : fX11_isFair_b46 sf_11 σ x1 x2 x3 = some (rr, ρ)) : Gw p l e rm_X11_isFair s m args below meth c (MQ below (QcI dC dI ad cy sz rr ρ) args s 0 0 (AW ad sz)) dC dI ad cy 5 sz 0 0 46 [(0, .ref (ad 98)), (1, .int x1), (2, .int x2), (3, .int x3)] [] σ := by
  unfold fX11_isFair_b46 at hf
  obtain ⟨v1, ev1, hf⟩ := ol_e hf
  refine g_iinc (j := 3) (w := 1) (lv2 := [(0, .ref (ad 98)), (1, .int x1), (2, .int x2), (3, .int v1)]) C dX11_isFair_46 rfl (by decide) ev1 (by decide) [1, 2, 3, 0] rfl ?_
  refine g_goto (tgt := 11) C dX11_isFair_49 (by decide) ?_
  exact g_sub [0, 1, 2, 3] rfl (hs_11 σ x1 x2 v1 hf)
def fX11_isFair_b86 (sf_57 : S0 → Int32 → Int32 → Int32 → Option (Int32 × S0)) (σ : S0) (x2 : Int32) (x4 : Int32) (t0 : Int32) : Option (Int32 × S0) := ol (x4 + 1) (fun v1 => sf_57 σ x2 t0 v1)
set_option maxHeartbeats 1000000 in
set_option maxRecDepth 100000 in
theorem fX11_isFair_b86_ok {p : Program} {l : Launch} {e : Env} {s : State} {m : MethodId} {args : Array Value} {below : List Frame} {meth : Method} {c : Code} {dC : Nat → ClassId} {dI : Nat → Nat → Nat} {ad : Nat → Nat} {cy : Nat → ClassId} {sz : Nat} (C : Cx p s m args meth c RX11 cX11_isFair 5 (some .boolean) dC dI ad cy sz) {rr : Int32} {ρ : S0} (sf_57 : S0 → Int32 → Int32 → Int32 → Option (Int32 × S0)) (hs_57 : ∀ (σ : S0) (x2 : Int32) (x3 : Int32) (x4 : Int32) , sf_57 σ x2 x3 x4 = some (rr, ρ) → Gw p l e rm_X11_isFair s m args below meth c (MQ below (QcI dC dI ad cy sz rr ρ) args s 0 0 (AW ad sz)) dC dI ad cy 5 sz 0 0 57 [(0, .ref (ad 98)), (2, .int x2), (3, .int x3), (4, .int x4)] [] σ) (σ : S0) (x2 : Int32) (x4 : Int32) (t0 : Int32)  (hf : fX11_isFair_b86 sf_57 σ x2 x4 t0 = some (rr, ρ)) : Gw p l e rm_X11_isFair s m args below meth c (MQ below (QcI dC dI ad cy sz rr ρ) args s 0 0 (AW ad sz)) dC dI ad cy 5 sz 0 0 86 [(0, .ref (ad 98)), (2, .int x2), (4, .int x4)] [.int t0] σ := by
  unfold fX11_isFair_b86 at hf
  refine g_istore_n (lv2 := [(0, .ref (ad 98)), (2, .int x2), (3, .int t0), (4, .int x4)]) C dX11_isFair_86 rfl (by decide) [1, 2, 0, 3] rfl ?_
  obtain ⟨v1, ev1, hf⟩ := ol_e hf
  refine g_iinc (j := 3) (w := 1) (lv2 := [(0, .ref (ad 98)), (2, .int x2), (3, .int t0), (4, .int v1)]) C dX11_isFair_87 rfl (by decide) ev1 (by decide) [1, 2, 3, 0] rfl ?_
  refine g_goto (tgt := 57) C dX11_isFair_90 (by decide) ?_
  exact g_sub [0, 1, 2, 3] rfl (hs_57 σ x2 t0 v1 hf)
def fX11_isFair_b85 (sf_57 : S0 → Int32 → Int32 → Int32 → Option (Int32 × S0)) (σ : S0) (x2 : Int32) (x4 : Int32) : Option (Int32 × S0) := fX11_isFair_b86 sf_57 σ x2 x4 0
set_option maxHeartbeats 1000000 in
set_option maxRecDepth 100000 in
theorem fX11_isFair_b85_ok {p : Program} {l : Launch} {e : Env} {s : State} {m : MethodId} {args : Array Value} {below : List Frame} {meth : Method} {c : Code} {dC : Nat → ClassId} {dI : Nat → Nat → Nat} {ad : Nat → Nat} {cy : Nat → ClassId} {sz : Nat} (C : Cx p s m args meth c RX11 cX11_isFair 5 (some .boolean) dC dI ad cy sz) {rr : Int32} {ρ : S0} (sf_57 : S0 → Int32 → Int32 → Int32 → Option (Int32 × S0)) (hs_57 : ∀ (σ : S0) (x2 : Int32) (x3 : Int32) (x4 : Int32) , sf_57 σ x2 x3 x4 = some (rr, ρ) → Gw p l e rm_X11_isFair s m args below meth c (MQ below (QcI dC dI ad cy sz rr ρ) args s 0 0 (AW ad sz)) dC dI ad cy 5 sz 0 0 57 [(0, .ref (ad 98)), (2, .int x2), (3, .int x3), (4, .int x4)] [] σ) (σ : S0) (x2 : Int32) (x4 : Int32)  (hf : fX11_isFair_b85 sf_57 σ x2 x4 = some (rr, ρ)) : Gw p l e rm_X11_isFair s m args below meth c (MQ below (QcI dC dI ad cy sz rr ρ) args s 0 0 (AW ad sz)) dC dI ad cy 5 sz 0 0 85 [(0, .ref (ad 98)), (2, .int x2), (4, .int x4)] [] σ := by
  unfold fX11_isFair_b85 at hf
  refine g_iconst (v := 0) C dX11_isFair_85 (by decide) ?_
  exact g_sub [0, 1, 2] rfl (fX11_isFair_b86_ok C sf_57 hs_57 σ x2 x4 0 hf)
def fX11_isFair_b57 (sf_57 : S0 → Int32 → Int32 → Int32 → Option (Int32 × S0)) (σ : S0) (x2 : Int32) (x3 : Int32) (x4 : Int32) : Option (Int32 × S0) := if (σ 98 2) ≤ x4 then (og (x3 = 0 ∨ x3 = 1) (some (x3, σ))) else (if x3 = 0 then (fX11_isFair_b85 sf_57 σ x2 x4) else (og (¬ (x4 < 0 ∨ 6 ≤ x4.toNatClampNeg)) (ol (σ 105 x4.toNatClampNeg) (fun v5 => if x2 < v5 then (fX11_isFair_b85 sf_57 σ x2 x4) else (fX11_isFair_b86 sf_57 σ x2 x4 1)))))
set_option maxHeartbeats 1000000 in
set_option maxRecDepth 100000 in
theorem fX11_isFair_b57_ok {p : Program} {l : Launch} {e : Env} {s : State} {m : MethodId} {args : Array Value} {below : List Frame} {meth : Method} {c : Code} {dC : Nat → ClassId} {dI : Nat → Nat → Nat} {ad : Nat → Nat} {cy : Nat → ClassId} {sz : Nat} (C : Cx p s m args meth c RX11 cX11_isFair 5 (some .boolean) dC dI ad cy sz) {rr : Int32} {ρ : S0} (sf_57 : S0 → Int32 → Int32 → Int32 → Option (Int32 × S0)) (hs_57 : ∀ (σ : S0) (x2 : Int32) (x3 : Int32) (x4 : Int32) , sf_57 σ x2 x3 x4 = some (rr, ρ) → Gw p l e rm_X11_isFair s m args below meth c (MQ below (QcI dC dI ad cy sz rr ρ) args s 0 0 (AW ad sz)) dC dI ad cy 5 sz 0 0 57 [(0, .ref (ad 98)), (2, .int x2), (3, .int x3), (4, .int x4)] [] σ) (σ : S0) (x2 : Int32) (x3 : Int32) (x4 : Int32)  (hf : fX11_isFair_b57 sf_57 σ x2 x3 x4 = some (rr, ρ)) : Gw p l e rm_X11_isFair s m args below meth c (MQ below (QcI dC dI ad cy sz rr ρ) args s 0 0 (AW ad sz)) dC dI ad cy 5 sz 0 0 57 [(0, .ref (ad 98)), (2, .int x2), (3, .int x3), (4, .int x4)] [] σ := by
  unfold fX11_isFair_b57 at hf
  refine g_iload C dX11_isFair_57 3 rfl ?_
  refine g_aload_n C dX11_isFair_59 rfl 0 rfl ?_
  refine g_get C (a_98 ad cy _) rfl hin_X11 2 (by decide) hF_X11_75 rfl rfl dX11_isFair_60 ?_
  rcases oi_e hf with ⟨c1, hf⟩ | ⟨c1, hf⟩
  · refine g_icmp_ge_t (tgt := 93) C dX11_isFair_63 (by decide) c1 ?_
    refine g_iload_n C dX11_isFair_93 rfl 2 rfl ?_
    obtain ⟨h2, hf⟩ := og_e hf
    obtain ⟨rfl, rfl⟩ := os_e hf
    exact g_zret C rfl (zb_ok h2) dX11_isFair_94
  · refine g_icmp_ge_f (tgt := 93) C dX11_isFair_63 (by decide) c1 ?_
    refine g_iload_n C dX11_isFair_66 rfl 2 rfl ?_
    rcases oi_e hf with ⟨c3, hf⟩ | ⟨c3, hf⟩
    · refine g_if_eq_t (tgt := 85) C dX11_isFair_67 (by decide) c3 ?_
      exact g_sub [0, 1, 3] rfl (fX11_isFair_b85_ok C sf_57 hs_57 σ x2 x4 hf)
    · refine g_if_eq_f (tgt := 85) C dX11_isFair_67 (by decide) c3 ?_
      refine g_aload_n C dX11_isFair_70 rfl 0 rfl ?_
      refine g_get C (a_98 ad cy _) rfl hin_X11 28 (by decide) hF_X11_29 rfl rfl dX11_isFair_71 ?_
      refine g_iload C dX11_isFair_74 3 rfl ?_
      obtain ⟨h4, hf⟩ := og_e hf
      refine g_iald C (a_105 ad cy _) h4 dX11_isFair_76 ?_
      obtain ⟨v5, ev5, hf⟩ := ol_e hf
      refine g_nm ev5 ?_
      refine g_iload_n C dX11_isFair_77 rfl 1 rfl ?_
      rcases oi_e hf with ⟨c6, hf⟩ | ⟨c6, hf⟩
      · refine g_icmp_gt_t (tgt := 85) C dX11_isFair_78 (by decide) c6 ?_
        exact g_sub [0, 1, 3] rfl (fX11_isFair_b85_ok C sf_57 hs_57 σ x2 x4 hf)
      · refine g_icmp_gt_f (tgt := 85) C dX11_isFair_78 (by decide) c6 ?_
        refine g_iconst (v := 1) C dX11_isFair_81 (by decide) ?_
        refine g_goto (tgt := 86) C dX11_isFair_82 (by decide) ?_
        exact g_sub [0, 1, 3] rfl (fX11_isFair_b86_ok C sf_57 hs_57 σ x2 x4 1 hf)
def fX11_isFair_h57  : Nat → S0 → Int32 → Int32 → Int32 → Option (Int32 × S0)
  | 0 => fun _ _ _ _ => none
  | n + 1 => fun σ x2 x3 x4 => fX11_isFair_b57  (fX11_isFair_h57  n) σ x2 x3 x4
set_option maxHeartbeats 1000000 in
set_option maxRecDepth 100000 in
theorem fX11_isFair_h57_ok {p : Program} {l : Launch} {e : Env} {s : State} {m : MethodId} {args : Array Value} {below : List Frame} {meth : Method} {c : Code} {dC : Nat → ClassId} {dI : Nat → Nat → Nat} {ad : Nat → Nat} {cy : Nat → ClassId} {sz : Nat} (C : Cx p s m args meth c RX11 cX11_isFair 5 (some .boolean) dC dI ad cy sz) {rr : Int32} {ρ : S0}  : ∀ (n : Nat) (σ : S0) (x2 : Int32) (x3 : Int32) (x4 : Int32)  (_hf : fX11_isFair_h57  n σ x2 x3 x4 = some (rr, ρ)), Gw p l e rm_X11_isFair s m args below meth c (MQ below (QcI dC dI ad cy sz rr ρ) args s 0 0 (AW ad sz)) dC dI ad cy 5 sz 0 0 57 [(0, .ref (ad 98)), (2, .int x2), (3, .int x3), (4, .int x4)] [] σ
  | 0, _, _, _, _, hf => by cases hf
  | n + 1, σ, x2, x3, x4, hf => fX11_isFair_b57_ok C  (fX11_isFair_h57  n) (fX11_isFair_h57_ok C  n) σ x2 x3 x4 hf
def fX11_isFair_b11 (sf_11 : S0 → Int32 → Int32 → Int32 → Option (Int32 × S0)) (σ : S0) (x1 : Int32) (x2 : Int32) (x3 : Int32) : Option (Int32 × S0) := if (σ 98 5) ≤ x3 then (fX11_isFair_h57 400 σ x2 1 0) else (if ¬ ((x1 >>> (x3 &&& 31)) &&& 1) = 1 then (fX11_isFair_b46 sf_11 σ x1 x2 x3) else (obp (fX11_rings σ x3) (fun r3 σ4 => ol ((σ4 98 32) + (σ4 98 24)) (fun v6 => ol (su σ4 98 32 v6) (fun σ7 => fX11_isFair_b46 sf_11 σ7 x1 x2 x3)))))
set_option maxHeartbeats 1000000 in
set_option maxRecDepth 100000 in
theorem fX11_isFair_b11_ok {p : Program} {l : Launch} {e : Env} {s : State} {m : MethodId} {args : Array Value} {below : List Frame} {meth : Method} {c : Code} {dC : Nat → ClassId} {dI : Nat → Nat → Nat} {ad : Nat → Nat} {cy : Nat → ClassId} {sz : Nat} (C : Cx p s m args meth c RX11 cX11_isFair 5 (some .boolean) dC dI ad cy sz) {rr : Int32} {ρ : S0} (sf_11 : S0 → Int32 → Int32 → Int32 → Option (Int32 × S0)) (hs_11 : ∀ (σ : S0) (x1 : Int32) (x2 : Int32) (x3 : Int32) , sf_11 σ x1 x2 x3 = some (rr, ρ) → Gw p l e rm_X11_isFair s m args below meth c (MQ below (QcI dC dI ad cy sz rr ρ) args s 0 0 (AW ad sz)) dC dI ad cy 5 sz 0 0 11 [(0, .ref (ad 98)), (1, .int x1), (2, .int x2), (3, .int x3)] [] σ) (σ : S0) (x1 : Int32) (x2 : Int32) (x3 : Int32)  (hf : fX11_isFair_b11 sf_11 σ x1 x2 x3 = some (rr, ρ)) : Gw p l e rm_X11_isFair s m args below meth c (MQ below (QcI dC dI ad cy sz rr ρ) args s 0 0 (AW ad sz)) dC dI ad cy 5 sz 0 0 11 [(0, .ref (ad 98)), (1, .int x1), (2, .int x2), (3, .int x3)] [] σ := by
  unfold fX11_isFair_b11 at hf
  refine g_iload_n C dX11_isFair_11 rfl 3 rfl ?_
  refine g_aload_n C dX11_isFair_12 rfl 0 rfl ?_
  refine g_get C (a_98 ad cy _) rfl hin_X11 5 (by decide) hF_X11_84 rfl rfl dX11_isFair_13 ?_
  rcases oi_e hf with ⟨c1, hf⟩ | ⟨c1, hf⟩
  · refine g_icmp_ge_t (tgt := 52) C dX11_isFair_16 (by decide) c1 ?_
    refine g_iconst (v := 1) C dX11_isFair_52 (by decide) ?_
    refine g_istore_n (lv2 := [(0, .ref (ad 98)), (1, .int x1), (2, .int x2), (3, .int 1)]) C dX11_isFair_53 rfl (by decide) [1, 2, 3, 0] rfl ?_
    refine g_iconst (v := 0) C dX11_isFair_54 (by decide) ?_
    refine g_istore (lv2 := [(0, .ref (ad 98)), (1, .int x1), (2, .int x2), (3, .int 1), (4, .int 0)]) C dX11_isFair_55 (by decide) [1, 2, 3, 4, 0] rfl ?_
    exact g_sub [0, 2, 3, 4] rfl (fX11_isFair_h57_ok C 400 σ x2 1 0 hf)
  · refine g_icmp_ge_f (tgt := 52) C dX11_isFair_16 (by decide) c1 ?_
    refine g_iload_n C dX11_isFair_19 rfl 1 rfl ?_
    refine g_iload_n C dX11_isFair_20 rfl 3 rfl ?_
    refine g_ishr C dX11_isFair_21 ?_
    refine g_iconst (v := 1) C dX11_isFair_22 (by decide) ?_
    refine g_iand C dX11_isFair_23 ?_
    refine g_iconst (v := 1) C dX11_isFair_24 (by decide) ?_
    rcases oi_e hf with ⟨c2, hf⟩ | ⟨c2, hf⟩
    · refine g_icmp_ne_t (tgt := 46) C dX11_isFair_25 (by decide) c2 ?_
      exact g_sub [0, 1, 2, 3] rfl (fX11_isFair_b46_ok C sf_11 hs_11 σ x1 x2 x3 hf)
    · refine g_icmp_ne_f (tgt := 46) C dX11_isFair_25 (by decide) (Decidable.of_not_not c2) ?_
      refine g_aload_n C dX11_isFair_28 rfl 0 rfl ?_
      refine g_iload_n C dX11_isFair_29 rfl 3 rfl ?_
      obtain ⟨r3, σ4, h5, hf⟩ := obp_e hf
      refine g_callVv (As := [.int x3]) (rest := []) C (a_98 ad cy _) rfl (c_X11_rings l dC dI ad cy x3) h5 hM_X11_216 cal_X11_rings ⟨Nat.zero_le _, Nat.zero_le _⟩ ⟨rfl, rfl⟩ ⟨Nat.le_of_ble_eq_true rfl, Nat.le_of_ble_eq_true rfl⟩ rfl rfl (Nat.le_of_ble_eq_true rfl) dX11_isFair_30 ?_
      refine g_aload_n C dX11_isFair_33 rfl 0 rfl ?_
      refine g_dup C dX11_isFair_34 rfl ?_
      refine g_get C (a_98 ad cy _) rfl hin_X11 32 (by decide) hF_X11_259 rfl rfl dX11_isFair_35 ?_
      refine g_aload_n C dX11_isFair_38 rfl 0 rfl ?_
      refine g_get C (a_98 ad cy _) rfl hin_X11 24 (by decide) hF_X11_204 rfl rfl dX11_isFair_39 ?_
      refine g_iadd C dX11_isFair_42 ?_
      obtain ⟨v6, ev6, hf⟩ := ol_e hf
      refine g_nm ev6 ?_
      obtain ⟨σ7, eσ7, hf⟩ := ol_e hf
      refine g_put (ty := .int) C (a_98 ad cy _) rfl hin_X11 tyX11 tyX11_ok nmX11 32 (by decide) hF_X11_259 rfl rfl (by decide +kernel) rfl rfl (Nat.le_of_ble_eq_true rfl) (p_98_32 ad cy _ _) eσ7 dX11_isFair_43 ?_
      exact g_sub [0, 1, 2, 3] rfl (fX11_isFair_b46_ok C sf_11 hs_11 σ7 x1 x2 x3 hf)
def fX11_isFair_h11  : Nat → S0 → Int32 → Int32 → Int32 → Option (Int32 × S0)
  | 0 => fun _ _ _ _ => none
  | n + 1 => fun σ x1 x2 x3 => fX11_isFair_b11  (fX11_isFair_h11  n) σ x1 x2 x3
set_option maxHeartbeats 1000000 in
set_option maxRecDepth 100000 in
theorem fX11_isFair_h11_ok {p : Program} {l : Launch} {e : Env} {s : State} {m : MethodId} {args : Array Value} {below : List Frame} {meth : Method} {c : Code} {dC : Nat → ClassId} {dI : Nat → Nat → Nat} {ad : Nat → Nat} {cy : Nat → ClassId} {sz : Nat} (C : Cx p s m args meth c RX11 cX11_isFair 5 (some .boolean) dC dI ad cy sz) {rr : Int32} {ρ : S0}  : ∀ (n : Nat) (σ : S0) (x1 : Int32) (x2 : Int32) (x3 : Int32)  (_hf : fX11_isFair_h11  n σ x1 x2 x3 = some (rr, ρ)), Gw p l e rm_X11_isFair s m args below meth c (MQ below (QcI dC dI ad cy sz rr ρ) args s 0 0 (AW ad sz)) dC dI ad cy 5 sz 0 0 11 [(0, .ref (ad 98)), (1, .int x1), (2, .int x2), (3, .int x3)] [] σ
  | 0, _, _, _, _, hf => by cases hf
  | n + 1, σ, x1, x2, x3, hf => fX11_isFair_b11_ok C  (fX11_isFair_h11  n) (fX11_isFair_h11_ok C  n) σ x1 x2 x3 hf
def fX11_isFair (σ : S0) (x1 : Int32) (x2 : Int32) : Option (Int32 × S0) := obp (fX11_noRung σ) (fun r1 σ2 => ol (su σ2 98 32 0) (fun σ4 => fX11_isFair_h11 400 σ4 x1 x2 0))
set_option maxHeartbeats 1000000 in
set_option maxRecDepth 100000 in
theorem fX11_isFair_ok {p : Program} {l : Launch} {e : Env} {s : State} {m : MethodId} {args : Array Value} {below : List Frame} {meth : Method} {c : Code} {dC : Nat → ClassId} {dI : Nat → Nat → Nat} {ad : Nat → Nat} {cy : Nat → ClassId} {sz : Nat} (C : Cx p s m args meth c RX11 cX11_isFair 5 (some .boolean) dC dI ad cy sz) {rr : Int32} {ρ : S0} (σ : S0) (x1 : Int32) (x2 : Int32)  (hf : fX11_isFair σ x1 x2 = some (rr, ρ)) : Gw p l e rm_X11_isFair s m args below meth c (MQ below (QcI dC dI ad cy sz rr ρ) args s 0 0 (AW ad sz)) dC dI ad cy 5 sz 0 0 0 [(0, .ref (ad 98)), (1, .int x1), (2, .int x2)] [] σ := by
  unfold fX11_isFair at hf
  refine g_aload_n C dX11_isFair_0 rfl 0 rfl ?_
  obtain ⟨r1, σ2, h3, hf⟩ := obp_e hf
  refine g_callVv (As := []) (rest := []) C (a_98 ad cy _) rfl (c_X11_noRung l dC dI ad cy ) h3 hM_X11_256 cal_X11_noRung ⟨Nat.zero_le _, Nat.zero_le _⟩ ⟨rfl, rfl⟩ ⟨Nat.le_of_ble_eq_true rfl, Nat.le_of_ble_eq_true rfl⟩ rfl rfl (Nat.le_of_ble_eq_true rfl) dX11_isFair_1 ?_
  refine g_aload_n C dX11_isFair_4 rfl 0 rfl ?_
  refine g_iconst (v := 0) C dX11_isFair_5 (by decide) ?_
  obtain ⟨σ4, eσ4, hf⟩ := ol_e hf
  refine g_put (ty := .int) C (a_98 ad cy _) rfl hin_X11 tyX11 tyX11_ok nmX11 32 (by decide) hF_X11_259 rfl rfl (by decide +kernel) rfl rfl (Nat.le_of_ble_eq_true rfl) (p_98_32 ad cy _ _) eσ4 dX11_isFair_6 ?_
  refine g_iconst (v := 0) C dX11_isFair_9 (by decide) ?_
  refine g_istore_n (lv2 := [(0, .ref (ad 98)), (1, .int x1), (2, .int x2), (3, .int 0)]) C dX11_isFair_10 rfl (by decide) [1, 2, 3, 0] rfl ?_
  exact g_sub [0, 1, 2, 3] rfl (fX11_isFair_h11_ok C 400 σ4 x1 x2 0 hf)
theorem c_X11_isFair (l : Launch) (dC : Nat → ClassId) (dI : Nat → Nat → Nat) (ad : Nat → Nat) (cy : Nat → ClassId) (x1 : Int32) (x2 : Int32) : ConI l yX11_isFair cX11_isFair 5 (some .boolean) rm_X11_isFair dC dI ad cy [.ref (ad 98), .int x1, .int x2] (fun σ => fX11_isFair σ x1 x2) := con_i (own := RX11) (by decide) rfl (Nat.le_of_ble_eq_true rfl) (fun _ _ _ _ _ _ _ _ σ _ _ C hf => fX11_isFair_ok C σ x1 x2 hf)
theorem cal_X11_isFair : CalV yX11_isFair RX11 cX11_isFair 5 (some .boolean) 2 := ⟨hI_X11_isFair, hS_X11_isFair, hIni_X11, hC_X11_isFair, by decide +kernel⟩
