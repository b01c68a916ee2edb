abbrev rm_X11_in : Room := { frames := 0, cells := 0, slots := 0, locals := 0 }
def fX11_in (σ : S0) (x0 : Int64) (x2 : Int64) (x4 : Int64) : Option (Int32 × S0) := if (lg_cmp x0 x2) < 0 then (some (0, σ)) else (if 0 < (lg_cmp x0 x4) then (some (0, σ)) else (some (1, σ)))
set_option maxHeartbeats 1000000 in
set_option maxRecDepth 100000 in
theorem fX11_in_ok {p : Program} {l : Launch} {e : Env} {s : State} {m : MethodId} {args : Array Value} {below : List Frame} {meth : Method} {c : Code} {dC : Nat → ClassId} {dI : Nat → Nat → Nat} {ad : Nat → Nat} {cy : Nat → ClassId} {sz : Nat} (C : Cx p s m args meth c RX11 cX11_in 6 (some .boolean) dC dI ad cy sz) {rr : Int32} {ρ : S0} (σ : S0) (x0 : Int64) (x2 : Int64) (x4 : Int64)  (hf : fX11_in σ x0 x2 x4 = some (rr, ρ)) : Gw p l e rm_X11_in s m args below meth c (MQ below (QcI dC dI ad cy sz rr ρ) args s 0 0 (AW ad sz)) dC dI ad cy 6 sz 0 0 0 [(0, .long x0), (2, .long x2), (4, .long x4)] [] σ := by
  unfold fX11_in at hf
  refine g_lload_n C dX11_in_0 rfl 0 rfl ?_
  refine g_lload_n C dX11_in_1 rfl 1 rfl ?_
  refine g_lcmp C dX11_in_2 ?_
  rcases oi_e hf with ⟨c1, hf⟩ | ⟨c1, hf⟩
  · refine g_if_lt_t (tgt := 17) C dX11_in_3 (by decide) c1 ?_
    refine g_iconst (v := 0) C dX11_in_17 (by decide) ?_
    obtain ⟨rfl, rfl⟩ := os_e hf
    exact g_zret C rfl (by decide) dX11_in_18
  · refine g_if_lt_f (tgt := 17) C dX11_in_3 (by decide) c1 ?_
    refine g_lload_n C dX11_in_6 rfl 0 rfl ?_
    refine g_lload C dX11_in_7 2 rfl ?_
    refine g_lcmp C dX11_in_9 ?_
    rcases oi_e hf with ⟨c2, hf⟩ | ⟨c2, hf⟩
    · refine g_if_gt_t (tgt := 17) C dX11_in_10 (by decide) c2 ?_
      refine g_iconst (v := 0) C dX11_in_17 (by decide) ?_
      obtain ⟨rfl, rfl⟩ := os_e hf
      exact g_zret C rfl (by decide) dX11_in_18
    · refine g_if_gt_f (tgt := 17) C dX11_in_10 (by decide) c2 ?_
      refine g_iconst (v := 1) C dX11_in_13 (by decide) ?_
      refine g_goto (tgt := 18) C dX11_in_14 (by decide) ?_
      obtain ⟨rfl, rfl⟩ := os_e hf
      exact g_zret C rfl (by decide) dX11_in_18
theorem c_X11_in (l : Launch) (dC : Nat → ClassId) (dI : Nat → Nat → Nat) (ad : Nat → Nat) (cy : Nat → ClassId) (x0 : Int64) (x2 : Int64) (x4 : Int64) : ConI l yX11_in cX11_in 6 (some .boolean) rm_X11_in dC dI ad cy [.long x0, .long x2, .long x4] (fun σ => fX11_in σ x0 x2 x4) := con_i (own := RX11) (by decide) rfl (Nat.le_of_ble_eq_true rfl) (fun _ _ _ _ _ _ _ _ σ _ _ C hf => fX11_in_ok C σ x0 x2 x4 hf)
theorem cal_X11_in : CalS yX11_in cX11_in 6 (some .boolean) 3 := ⟨hSt_X11_in, hIni_X11, hC_X11_in, by decide +kernel⟩
abbrev rm_X11_flag : Room := { frames := 0, cells := 0, slots := 0, locals := 0 }
def fX11_flag (σ : S0) (x0 : Int32) : Option (Int32 × S0) := if x0 = 0 then (some (0, σ)) else (some (1, σ))
set_option maxHeartbeats 1000000 in
set_option maxRecDepth 100000 in
theorem fX11_flag_ok {p : Program} {l : Launch} {e : Env} {s : State} {m : MethodId} {args : Array Value} {below : List Frame} {meth : Method} {c : Code} {dC : Nat → ClassId} {dI : Nat → Nat → Nat} {ad : Nat → Nat} {cy : Nat → ClassId} {sz : Nat} (C : Cx p s m args meth c RX11 cX11_flag 1 (some .int) dC dI ad cy sz) {rr : Int32} {ρ : S0} (σ : S0) (x0 : Int32)  (hf : fX11_flag σ x0 = some (rr, ρ)) : Gw p l e rm_X11_flag s m args below meth c (MQ below (QcI dC dI ad cy sz rr ρ) args s 0 0 (AW ad sz)) dC dI ad cy 1 sz 0 0 0 [(0, .int x0)] [] σ := by
  unfold fX11_flag at hf
  refine g_iload_n C dX11_flag_0 rfl 0 rfl ?_
  rcases oi_e hf with ⟨c1, hf⟩ | ⟨c1, hf⟩
  · refine g_if_eq_t (tgt := 8) C dX11_flag_1 (by decide) c1 ?_
    refine g_iconst (v := 0) C dX11_flag_8 (by decide) ?_
    obtain ⟨rfl, rfl⟩ := os_e hf
    exact g_iret C rfl dX11_flag_9
  · refine g_if_eq_f (tgt := 8) C dX11_flag_1 (by decide) c1 ?_
    refine g_iconst (v := 1) C dX11_flag_4 (by decide) ?_
    refine g_goto (tgt := 9) C dX11_flag_5 (by decide) ?_
    obtain ⟨rfl, rfl⟩ := os_e hf
    exact g_iret C rfl dX11_flag_9
theorem c_X11_flag (l : Launch) (dC : Nat → ClassId) (dI : Nat → Nat → Nat) (ad : Nat → Nat) (cy : Nat → ClassId) (x0 : Int32) : ConI l yX11_flag cX11_flag 1 (some .int) rm_X11_flag dC dI ad cy [.int x0] (fun σ => fX11_flag σ x0) := con_i (own := RX11) (by decide) rfl (Nat.le_of_ble_eq_true rfl) (fun _ _ _ _ _ _ _ _ σ _ _ C hf => fX11_flag_ok C σ x0 hf)
theorem cal_X11_flag : CalS yX11_flag cX11_flag 1 (some .int) 1 := ⟨hSt_X11_flag, hIni_X11, hC_X11_flag, by decide +kernel⟩
abbrev rm_X11_size : Room := { frames := 0, cells := 0, slots := 0, locals := 0 }
def fX11_size (σ : S0) (x0 : Int32) : Option (Int32 × S0) := if 0 ≤ x0 then (some (x0, σ)) else (some (-x0, σ))
set_option maxHeartbeats 1000000 in
set_option maxRecDepth 100000 in
theorem fX11_size_ok {p : Program} {l : Launch} {e : Env} {s : State} {m : MethodId} {args : Array Value} {below : List Frame} {meth : Method} {c : Code} {dC : Nat → ClassId} {dI : Nat → Nat → Nat} {ad : Nat → Nat} {cy : Nat → ClassId} {sz : Nat} (C : Cx p s m args meth c RX11 cX11_size 1 (some .int) dC dI ad cy sz) {rr : Int32} {ρ : S0} (σ : S0) (x0 : Int32)  (hf : fX11_size σ x0 = some (rr, ρ)) : Gw p l e rm_X11_size s m args below meth c (MQ below (QcI dC dI ad cy sz rr ρ) args s 0 0 (AW ad sz)) dC dI ad cy 1 sz 0 0 0 [(0, .int x0)] [] σ := by
  unfold fX11_size at hf
  refine g_iload_n C dX11_size_0 rfl 0 rfl ?_
  rcases oi_e hf with ⟨c1, hf⟩ | ⟨c1, hf⟩
  · refine g_if_ge_t (tgt := 9) C dX11_size_1 (by decide) c1 ?_
    refine g_iload_n C dX11_size_9 rfl 0 rfl ?_
    obtain ⟨rfl, rfl⟩ := os_e hf
    exact g_iret C rfl dX11_size_10
  · refine g_if_ge_f (tgt := 9) C dX11_size_1 (by decide) c1 ?_
    refine g_iload_n C dX11_size_4 rfl 0 rfl ?_
    refine g_ineg C dX11_size_5 ?_
    refine g_goto (tgt := 10) C dX11_size_6 (by decide) ?_
    obtain ⟨rfl, rfl⟩ := os_e hf
    exact g_iret C rfl dX11_size_10
theorem c_X11_size (l : Launch) (dC : Nat → ClassId) (dI : Nat → Nat → Nat) (ad : Nat → Nat) (cy : Nat → ClassId) (x0 : Int32) : ConI l yX11_size cX11_size 1 (some .int) rm_X11_size dC dI ad cy [.int x0] (fun σ => fX11_size σ x0) := con_i (own := RX11) (by decide) rfl (Nat.le_of_ble_eq_true rfl) (fun _ _ _ _ _ _ _ _ σ _ _ C hf => fX11_size_ok C σ x0 hf)
theorem cal_X11_size : CalS yX11_size cX11_size 1 (some .int) 1 := ⟨hSt_X11_size, hIni_X11, hC_X11_size, by decide +kernel⟩
abbrev rm_X11_firstDraft : Room := { frames := 0, cells := 0, slots := 0, locals := 0 }
def fX11_firstDraft_b2 (sf_2 : S0 → Int32 → Option (Int32 × S0)) (σ : S0) (x1 : Int32) : Option (Int32 × S0) := if (80 : Int32) ≤ x1 then (ol (su σ 98 9 3) (fun σ2 => ol (su σ2 98 10 3) (fun σ3 => ol (su σ3 98 11 0) (fun σ4 => ol (su σ4 98 12 0) (fun σ5 => ol (su σ5 98 13 ((-4))) (fun σ6 => ol (su σ6 98 14 ((-4))) (fun σ7 => ol (su σ7 98 15 0) (fun σ8 => some (0, σ8))))))))) else (og (¬ (x1 < 0 ∨ 80 ≤ x1.toNatClampNeg)) (ol (su σ 102 x1.toNatClampNeg 0) (fun σ10 => ol (x1 + 1) (fun v11 => sf_2 σ10 v11))))
set_option maxHeartbeats 1000000 in
set_option maxRecDepth 100000 in
theorem fX11_firstDraft_b2_ok {p : Program} {l : Launch} {e : Env} {s : State} {m : MethodId} {args : Array Value} {below : List Frame} {meth : Method} {c : Code} {dC : Nat → ClassId} {dI : Nat → Nat → Nat} {ad : Nat → Nat} {cy : Nat → ClassId} {sz : Nat} (C : Cx p s m args meth c RX11 cX11_firstDraft 2 none dC dI ad cy sz) {rr : Int32} {ρ : S0} (sf_2 : S0 → Int32 → Option (Int32 × S0)) (hs_2 : ∀ (σ : S0) (x1 : Int32) , sf_2 σ x1 = some (rr, ρ) → Gw p l e rm_X11_firstDraft s m args below meth c (MQ below (QcV dC dI ad cy sz ρ) args s 0 0 (AW ad sz)) dC dI ad cy 2 sz 0 0 2 [(0, .ref (ad 98)), (1, .int x1)] [] σ) (σ : S0) (x1 : Int32)  (hf : fX11_firstDraft_b2 sf_2 σ x1 = some (rr, ρ)) : Gw p l e rm_X11_firstDraft s m args below meth c (MQ below (QcV dC dI ad cy sz ρ) args s 0 0 (AW ad sz)) dC dI ad cy 2 sz 0 0 2 [(0, .ref (ad 98)), (1, .int x1)] [] σ := by
  unfold fX11_firstDraft_b2 at hf
  refine g_iload_n C dX11_firstDraft_2 rfl 1 rfl ?_
  refine g_bipush (v := 80) C dX11_firstDraft_3 (by decide) ?_
  rcases oi_e hf with ⟨c1, hf⟩ | ⟨c1, hf⟩
  · refine g_icmp_ge_t (tgt := 21) C dX11_firstDraft_5 (by decide) c1 ?_
    refine g_aload_n C dX11_firstDraft_21 rfl 0 rfl ?_
    refine g_iconst (v := 3) C dX11_firstDraft_22 (by decide) ?_
    obtain ⟨σ2, eσ2, hf⟩ := ol_e hf
    refine g_put (ty := .int) C (a_98 ad cy _) rfl hin_X11 tyX11 tyX11_ok nmX11 9 (by decide) hF_X11_53 rfl rfl (by decide +kernel) rfl rfl (Nat.le_of_ble_eq_true rfl) (p_98_9 ad cy _ _) eσ2 dX11_firstDraft_23 ?_
    refine g_aload_n C dX11_firstDraft_26 rfl 0 rfl ?_
    refine g_iconst (v := 3) C dX11_firstDraft_27 (by decide) ?_
    obtain ⟨σ3, eσ3, hf⟩ := ol_e hf
    refine g_put (ty := .int) C (a_98 ad cy _) rfl hin_X11 tyX11 tyX11_ok nmX11 10 (by decide) hF_X11_57 rfl rfl (by decide +kernel) rfl rfl (Nat.le_of_ble_eq_true rfl) (p_98_10 ad cy _ _) eσ3 dX11_firstDraft_28 ?_
    refine g_aload_n C dX11_firstDraft_31 rfl 0 rfl ?_
    refine g_iconst (v := 0) C dX11_firstDraft_32 (by decide) ?_
    obtain ⟨σ4, eσ4, hf⟩ := ol_e hf
    refine g_put (ty := .int) C (a_98 ad cy _) rfl hin_X11 tyX11 tyX11_ok nmX11 11 (by decide) hF_X11_60 rfl rfl (by decide +kernel) rfl rfl (Nat.le_of_ble_eq_true rfl) (p_98_11 ad cy _ _) eσ4 dX11_firstDraft_33 ?_
    refine g_aload_n C dX11_firstDraft_36 rfl 0 rfl ?_
    refine g_iconst (v := 0) C dX11_firstDraft_37 (by decide) ?_
    obtain ⟨σ5, eσ5, hf⟩ := ol_e hf
    refine g_put (ty := .int) C (a_98 ad cy _) rfl hin_X11 tyX11 tyX11_ok nmX11 12 (by decide) hF_X11_63 rfl rfl (by decide +kernel) rfl rfl (Nat.le_of_ble_eq_true rfl) (p_98_12 ad cy _ _) eσ5 dX11_firstDraft_38 ?_
    refine g_aload_n C dX11_firstDraft_41 rfl 0 rfl ?_
    refine g_bipush (v := (-4)) C dX11_firstDraft_42 (by decide) ?_
    obtain ⟨σ6, eσ6, hf⟩ := ol_e hf
    refine g_put (ty := .int) C (a_98 ad cy _) rfl hin_X11 tyX11 tyX11_ok nmX11 13 (by decide) hF_X11_66 rfl rfl (by decide +kernel) rfl rfl (Nat.le_of_ble_eq_true rfl) (p_98_13 ad cy _ _) eσ6 dX11_firstDraft_44 ?_
    refine g_aload_n C dX11_firstDraft_47 rfl 0 rfl ?_
    refine g_bipush (v := (-4)) C dX11_firstDraft_48 (by decide) ?_
    obtain ⟨σ7, eσ7, hf⟩ := ol_e hf
    refine g_put (ty := .int) C (a_98 ad cy _) rfl hin_X11 tyX11 tyX11_ok nmX11 14 (by decide) hF_X11_69 rfl rfl (by decide +kernel) rfl rfl (Nat.le_of_ble_eq_true rfl) (p_98_14 ad cy _ _) eσ7 dX11_firstDraft_50 ?_
    refine g_aload_n C dX11_firstDraft_53 rfl 0 rfl ?_
    refine g_iconst (v := 0) C dX11_firstDraft_54 (by decide) ?_
    obtain ⟨σ8, eσ8, hf⟩ := ol_e hf
    refine g_put (ty := .int) C (a_98 ad cy _) rfl hin_X11 tyX11 tyX11_ok nmX11 15 (by decide) hF_X11_72 rfl rfl (by decide +kernel) rfl rfl (Nat.le_of_ble_eq_true rfl) (p_98_15 ad cy _ _) eσ8 dX11_firstDraft_55 ?_
    obtain ⟨rfl, rfl⟩ := os_e hf
    exact g_vret C rfl dX11_firstDraft_58
  · refine g_icmp_ge_f (tgt := 21) C dX11_firstDraft_5 (by decide) c1 ?_
    refine g_aload_n C dX11_firstDraft_8 rfl 0 rfl ?_
    refine g_get C (a_98 ad cy _) rfl hin_X11 7 (by decide) hF_X11_20 rfl rfl dX11_firstDraft_9 ?_
    refine g_iload_n C dX11_firstDraft_12 rfl 1 rfl ?_
    refine g_iconst (v := 0) C dX11_firstDraft_13 (by decide) ?_
    obtain ⟨h9, hf⟩ := og_e hf
    obtain ⟨σ10, eσ10, hf⟩ := ol_e hf
    refine g_iast C (a_102 ad cy _) h9 (w_102 ad cy _) eσ10 dX11_firstDraft_14 ?_
    obtain ⟨v11, ev11, hf⟩ := ol_e hf
    refine g_iinc (j := 1) (w := 1) (lv2 := [(0, .ref (ad 98)), (1, .int v11)]) C dX11_firstDraft_15 rfl (by decide) ev11 (by decide) [1, 0] rfl ?_
    refine g_goto (tgt := 2) C dX11_firstDraft_18 (by decide) ?_
    exact g_sub [0, 1] rfl (hs_2 σ10 v11 hf)
def fX11_firstDraft_h2  : Nat → S0 → Int32 → Option (Int32 × S0)
  | 0 => fun _ _ => none
  | n + 1 => fun σ x1 => fX11_firstDraft_b2  (fX11_firstDraft_h2  n) σ x1
set_option maxHeartbeats 1000000 in
set_option maxRecDepth 100000 in
theorem fX11_firstDraft_h2_ok {p : Program} {l : Launch} {e : Env} {s : State} {m : MethodId} {args : Array Value} {below : List Frame} {meth : Method} {c : Code} {dC : Nat → ClassId} {dI : Nat → Nat → Nat} {ad : Nat → Nat} {cy : Nat → ClassId} {sz : Nat} (C : Cx p s m args meth c RX11 cX11_firstDraft 2 none dC dI ad cy sz) {rr : Int32} {ρ : S0}  : ∀ (n : Nat) (σ : S0) (x1 : Int32)  (_hf : fX11_firstDraft_h2  n σ x1 = some (rr, ρ)), Gw p l e rm_X11_firstDraft s m args below meth c (MQ below (QcV dC dI ad cy sz ρ) args s 0 0 (AW ad sz)) dC dI ad cy 2 sz 0 0 2 [(0, .ref (ad 98)), (1, .int x1)] [] σ
  | 0, _, _, hf => by cases hf
  | n + 1, σ, x1, hf => fX11_firstDraft_b2_ok C  (fX11_firstDraft_h2  n) (fX11_firstDraft_h2_ok C  n) σ x1 hf
def fX11_firstDraft (σ : S0)  : Option (Int32 × S0) := fX11_firstDraft_h2 400 σ 0
set_option maxHeartbeats 1000000 in
set_option maxRecDepth 100000 in
theorem fX11_firstDraft_ok {p : Program} {l : Launch} {e : Env} {s : State} {m : MethodId} {args : Array Value} {below : List Frame} {meth : Method} {c : Code} {dC : Nat → ClassId} {dI : Nat → Nat → Nat} {ad : Nat → Nat} {cy : Nat → ClassId} {sz : Nat} (C : Cx p s m args meth c RX11 cX11_firstDraft 2 none dC dI ad cy sz) {rr : Int32} {ρ : S0} (σ : S0)   (hf : fX11_firstDraft σ = some (rr, ρ)) : Gw p l e rm_X11_firstDraft s m args below meth c (MQ below (QcV dC dI ad cy sz ρ) args s 0 0 (AW ad sz)) dC dI ad cy 2 sz 0 0 0 [(0, .ref (ad 98))] [] σ := by
  unfold fX11_firstDraft at hf
  refine g_iconst (v := 0) C dX11_firstDraft_0 (by decide) ?_
  refine g_istore_n (lv2 := [(0, .ref (ad 98)), (1, .int 0)]) C dX11_firstDraft_1 rfl (by decide) [1, 0] rfl ?_
  exact g_sub [0, 1] rfl (fX11_firstDraft_h2_ok C 400 σ 0 hf)
theorem c_X11_firstDraft (l : Launch) (dC : Nat → ClassId) (dI : Nat → Nat → Nat) (ad : Nat → Nat) (cy : Nat → ClassId)  : ConV l yX11_firstDraft cX11_firstDraft 2 none rm_X11_firstDraft dC dI ad cy [.ref (ad 98)] (fun σ => fX11_firstDraft σ) := con_v (own := RX11) (by decide) rfl (Nat.le_of_ble_eq_true rfl) (fun _ _ _ _ _ _ _ _ σ _ _ C hf => fX11_firstDraft_ok C σ  hf)
theorem cal_X11_firstDraft : CalV yX11_firstDraft RX11 cX11_firstDraft 2 none 0 := ⟨hI_X11_firstDraft, hS_X11_firstDraft, hIni_X11, hC_X11_firstDraft, by decide +kernel⟩
abbrev rm_X11_keepDraft : Room := { frames := 0, cells := 0, slots := 0, locals := 0 }
def fX11_keepDraft_b28 (sf_28 : S0 → Int32 → Option (Int32 × S0)) (σ : S0) (x1 : Int32) : Option (Int32 × S0) := if (84 : Int32) ≤ x1 then (ol (σ 98 9) (fun v2 => ol (su σ 98 2 v2) (fun σ3 => ol (σ3 98 10) (fun v4 => ol (su σ3 98 3 v4) (fun σ5 => ol (σ5 98 11) (fun v6 => ol (su σ5 98 4 v6) (fun σ7 => ol (σ7 98 12) (fun v8 => ol (su σ7 98 5 v8) (fun σ9 => og (¬ (((0 : Int32)) < 0 ∨ 2 ≤ ((0 : Int32)).toNatClampNeg)) (ol (su σ9 100 ((0 : Int32)).toNatClampNeg (vp_nar .boolean 0)) (fun σ11 => og (¬ (((1 : Int32)) < 0 ∨ 2 ≤ ((1 : Int32)).toNatClampNeg)) (ol (su σ11 100 ((1 : Int32)).toNatClampNeg (vp_nar .boolean 0)) (fun σ13 => some (0, σ13)))))))))))))) else (og (¬ (x1 < 0 ∨ 84 ≤ x1.toNatClampNeg)) (ol (σ 103 x1.toNatClampNeg) (fun v15 => og (¬ (x1 < 0 ∨ 84 ≤ x1.toNatClampNeg)) (ol (su σ 101 x1.toNatClampNeg v15) (fun σ17 => ol (x1 + 1) (fun v18 => sf_28 σ17 v18))))))
set_option maxHeartbeats 1000000 in
set_option maxRecDepth 100000 in
theorem fX11_keepDraft_b28_ok {p : Program} {l : Launch} {e : Env} {s : State} {m : MethodId} {args : Array Value} {below : List Frame} {meth : Method} {c : Code} {dC : Nat → ClassId} {dI : Nat → Nat → Nat} {ad : Nat → Nat} {cy : Nat → ClassId} {sz : Nat} (C : Cx p s m args meth c RX11 cX11_keepDraft 2 none dC dI ad cy sz) {rr : Int32} {ρ : S0} (sf_28 : S0 → Int32 → Option (Int32 × S0)) (hs_28 : ∀ (σ : S0) (x1 : Int32) , sf_28 σ x1 = some (rr, ρ) → Gw p l e rm_X11_keepDraft s m args below meth c (MQ below (QcV dC dI ad cy sz ρ) args s 0 0 (AW ad sz)) dC dI ad cy 2 sz 0 0 28 [(0, .ref (ad 98)), (1, .int x1)] [] σ) (σ : S0) (x1 : Int32)  (hf : fX11_keepDraft_b28 sf_28 σ x1 = some (rr, ρ)) : Gw p l e rm_X11_keepDraft s m args below meth c (MQ below (QcV dC dI ad cy sz ρ) args s 0 0 (AW ad sz)) dC dI ad cy 2 sz 0 0 28 [(0, .ref (ad 98)), (1, .int x1)] [] σ := by
  unfold fX11_keepDraft_b28 at hf
  refine g_iload_n C dX11_keepDraft_28 rfl 1 rfl ?_
  refine g_bipush (v := 84) C dX11_keepDraft_29 (by decide) ?_
  rcases oi_e hf with ⟨c1, hf⟩ | ⟨c1, hf⟩
  · refine g_icmp_ge_t (tgt := 52) C dX11_keepDraft_31 (by decide) c1 ?_
    refine g_aload_n C dX11_keepDraft_52 rfl 0 rfl ?_
    refine g_aload_n C dX11_keepDraft_53 rfl 0 rfl ?_
    refine g_get C (a_98 ad cy _) rfl hin_X11 9 (by decide) hF_X11_53 rfl rfl dX11_keepDraft_54 ?_
    obtain ⟨v2, ev2, hf⟩ := ol_e hf
    refine g_nm ev2 ?_
    obtain ⟨σ3, eσ3, hf⟩ := ol_e hf
    refine g_put (ty := .int) C (a_98 ad cy _) rfl hin_X11 tyX11 tyX11_ok nmX11 2 (by decide) hF_X11_75 rfl rfl (by decide +kernel) rfl rfl (Nat.le_of_ble_eq_true rfl) (p_98_2 ad cy _ _) eσ3 dX11_keepDraft_57 ?_
    refine g_aload_n C dX11_keepDraft_60 rfl 0 rfl ?_
    refine g_aload_n C dX11_keepDraft_61 rfl 0 rfl ?_
    refine g_get C (a_98 ad cy _) rfl hin_X11 10 (by decide) hF_X11_57 rfl rfl dX11_keepDraft_62 ?_
    obtain ⟨v4, ev4, hf⟩ := ol_e hf
    refine g_nm ev4 ?_
    obtain ⟨σ5, eσ5, hf⟩ := ol_e hf
    refine g_put (ty := .int) C (a_98 ad cy _) rfl hin_X11 tyX11 tyX11_ok nmX11 3 (by decide) hF_X11_78 rfl rfl (by decide +kernel) rfl rfl (Nat.le_of_ble_eq_true rfl) (p_98_3 ad cy _ _) eσ5 dX11_keepDraft_65 ?_
    refine g_aload_n C dX11_keepDraft_68 rfl 0 rfl ?_
    refine g_aload_n C dX11_keepDraft_69 rfl 0 rfl ?_
    refine g_get C (a_98 ad cy _) rfl hin_X11 11 (by decide) hF_X11_60 rfl rfl dX11_keepDraft_70 ?_
    obtain ⟨v6, ev6, hf⟩ := ol_e hf
    refine g_nm ev6 ?_
    obtain ⟨σ7, eσ7, hf⟩ := ol_e hf
    refine g_put (ty := .int) C (a_98 ad cy _) rfl hin_X11 tyX11 tyX11_ok nmX11 4 (by decide) hF_X11_81 rfl rfl (by decide +kernel) rfl rfl (Nat.le_of_ble_eq_true rfl) (p_98_4 ad cy _ _) eσ7 dX11_keepDraft_73 ?_
    refine g_aload_n C dX11_keepDraft_76 rfl 0 rfl ?_
    refine g_aload_n C dX11_keepDraft_77 rfl 0 rfl ?_
    refine g_get C (a_98 ad cy _) rfl hin_X11 12 (by decide) hF_X11_63 rfl rfl dX11_keepDraft_78 ?_
    obtain ⟨v8, ev8, hf⟩ := ol_e hf
    refine g_nm ev8 ?_
    obtain ⟨σ9, eσ9, hf⟩ := ol_e hf
    refine g_put (ty := .int) C (a_98 ad cy _) rfl hin_X11 tyX11 tyX11_ok nmX11 5 (by decide) hF_X11_84 rfl rfl (by decide +kernel) rfl rfl (Nat.le_of_ble_eq_true rfl) (p_98_5 ad cy _ _) eσ9 dX11_keepDraft_81 ?_
    refine g_aload_n C dX11_keepDraft_84 rfl 0 rfl ?_
    refine g_get C (a_98 ad cy _) rfl hin_X11 1 (by decide) hF_X11_13 rfl rfl dX11_keepDraft_85 ?_
    refine g_iconst (v := 0) C dX11_keepDraft_88 (by decide) ?_
    refine g_iconst (v := 0) C dX11_keepDraft_89 (by decide) ?_
    obtain ⟨h10, hf⟩ := og_e hf
    obtain ⟨σ11, eσ11, hf⟩ := ol_e hf
    refine g_zast C (a_100 ad cy _) h10 (w_100 ad cy _) eσ11 dX11_keepDraft_90 ?_
    refine g_aload_n C dX11_keepDraft_91 rfl 0 rfl ?_
    refine g_get C (a_98 ad cy _) rfl hin_X11 1 (by decide) hF_X11_13 rfl rfl dX11_keepDraft_92 ?_
    refine g_iconst (v := 1) C dX11_keepDraft_95 (by decide) ?_
    refine g_iconst (v := 0) C dX11_keepDraft_96 (by decide) ?_
    obtain ⟨h12, hf⟩ := og_e hf
    obtain ⟨σ13, eσ13, hf⟩ := ol_e hf
    refine g_zast C (a_100 ad cy _) h12 (w_100 ad cy _) eσ13 dX11_keepDraft_97 ?_
    obtain ⟨rfl, rfl⟩ := os_e hf
    exact g_vret C rfl dX11_keepDraft_98
  · refine g_icmp_ge_f (tgt := 52) C dX11_keepDraft_31 (by decide) c1 ?_
    refine g_aload_n C dX11_keepDraft_34 rfl 0 rfl ?_
    refine g_get C (a_98 ad cy _) rfl hin_X11 6 (by decide) hF_X11_17 rfl rfl dX11_keepDraft_35 ?_
    refine g_iload_n C dX11_keepDraft_38 rfl 1 rfl ?_
    refine g_aload_n C dX11_keepDraft_39 rfl 0 rfl ?_
    refine g_get C (a_98 ad cy _) rfl hin_X11 8 (by decide) hF_X11_23 rfl rfl dX11_keepDraft_40 ?_
    refine g_iload_n C dX11_keepDraft_43 rfl 1 rfl ?_
    obtain ⟨h14, hf⟩ := og_e hf
    refine g_iald C (a_103 ad cy _) h14 dX11_keepDraft_44 ?_
    obtain ⟨v15, ev15, hf⟩ := ol_e hf
    refine g_nm ev15 ?_
    obtain ⟨h16, hf⟩ := og_e hf
    obtain ⟨σ17, eσ17, hf⟩ := ol_e hf
    refine g_iast C (a_101 ad cy _) h16 (w_101 ad cy _) eσ17 dX11_keepDraft_45 ?_
    obtain ⟨v18, ev18, hf⟩ := ol_e hf
    refine g_iinc (j := 1) (w := 1) (lv2 := [(0, .ref (ad 98)), (1, .int v18)]) C dX11_keepDraft_46 rfl (by decide) ev18 (by decide) [1, 0] rfl ?_
    refine g_goto (tgt := 28) C dX11_keepDraft_49 (by decide) ?_
    exact g_sub [0, 1] rfl (hs_28 σ17 v18 hf)
def fX11_keepDraft_h28  : Nat → S0 → Int32 → Option (Int32 × S0)
  | 0 => fun _ _ => none
  | n + 1 => fun σ x1 => fX11_keepDraft_b28  (fX11_keepDraft_h28  n) σ x1
set_option maxHeartbeats 1000000 in
set_option maxRecDepth 100000 in
theorem fX11_keepDraft_h28_ok {p : Program} {l : Launch} {e : Env} {s : State} {m : MethodId} {args : Array Value} {below : List Frame} {meth : Method} {c : Code} {dC : Nat → ClassId} {dI : Nat → Nat → Nat} {ad : Nat → Nat} {cy : Nat → ClassId} {sz : Nat} (C : Cx p s m args meth c RX11 cX11_keepDraft 2 none dC dI ad cy sz) {rr : Int32} {ρ : S0}  : ∀ (n : Nat) (σ : S0) (x1 : Int32)  (_hf : fX11_keepDraft_h28  n σ x1 = some (rr, ρ)), Gw p l e rm_X11_keepDraft s m args below meth c (MQ below (QcV dC dI ad cy sz ρ) args s 0 0 (AW ad sz)) dC dI ad cy 2 sz 0 0 28 [(0, .ref (ad 98)), (1, .int x1)] [] σ
  | 0, _, _, hf => by cases hf
  | n + 1, σ, x1, hf => fX11_keepDraft_b28_ok C  (fX11_keepDraft_h28  n) (fX11_keepDraft_h28_ok C  n) σ x1 hf
def fX11_keepDraft_b2 (sf_2 : S0 → Int32 → Option (Int32 × S0)) (σ : S0) (x1 : Int32) : Option (Int32 × S0) := if (80 : Int32) ≤ x1 then (fX11_keepDraft_h28 400 σ 0) else (og (¬ (x1 < 0 ∨ 80 ≤ x1.toNatClampNeg)) (ol (σ 102 x1.toNatClampNeg) (fun v3 => og (¬ (x1 < 0 ∨ 240 ≤ x1.toNatClampNeg)) (ol (su σ 99 x1.toNatClampNeg v3) (fun σ5 => ol (x1 + 1) (fun v6 => sf_2 σ5 v6))))))
set_option maxHeartbeats 1000000 in
set_option maxRecDepth 100000 in
theorem fX11_keepDraft_b2_ok {p : Program} {l : Launch} {e : Env} {s : State} {m : MethodId} {args : Array Value} {below : List Frame} {meth : Method} {c : Code} {dC : Nat → ClassId} {dI : Nat → Nat → Nat} {ad : Nat → Nat} {cy : Nat → ClassId} {sz : Nat} (C : Cx p s m args meth c RX11 cX11_keepDraft 2 none dC dI ad cy sz) {rr : Int32} {ρ : S0} (sf_2 : S0 → Int32 → Option (Int32 × S0)) (hs_2 : ∀ (σ : S0) (x1 : Int32) , sf_2 σ x1 = some (rr, ρ) → Gw p l e rm_X11_keepDraft s m args below meth c (MQ below (QcV dC dI ad cy sz ρ) args s 0 0 (AW ad sz)) dC dI ad cy 2 sz 0 0 2 [(0, .ref (ad 98)), (1, .int x1)] [] σ) (σ : S0) (x1 : Int32)  (hf : fX11_keepDraft_b2 sf_2 σ x1 = some (rr, ρ)) : Gw p l e rm_X11_keepDraft s m args below meth c (MQ below (QcV dC dI ad cy sz ρ) args s 0 0 (AW ad sz)) dC dI ad cy 2 sz 0 0 2 [(0, .ref (ad 98)), (1, .int x1)] [] σ := by
  unfold fX11_keepDraft_b2 at hf
  refine g_iload_n C dX11_keepDraft_2 rfl 1 rfl ?_
  refine g_bipush (v := 80) C dX11_keepDraft_3 (by decide) ?_
  rcases oi_e hf with ⟨c1, hf⟩ | ⟨c1, hf⟩
  · refine g_icmp_ge_t (tgt := 26) C dX11_keepDraft_5 (by decide) c1 ?_
    refine g_iconst (v := 0) C dX11_keepDraft_26 (by decide) ?_
    refine g_istore_n (lv2 := [(0, .ref (ad 98)), (1, .int 0)]) C dX11_keepDraft_27 rfl (by decide) [1, 0] rfl ?_
    exact g_sub [0, 1] rfl (fX11_keepDraft_h28_ok C 400 σ 0 hf)
  · refine g_icmp_ge_f (tgt := 26) C dX11_keepDraft_5 (by decide) c1 ?_
    refine g_aload_n C dX11_keepDraft_8 rfl 0 rfl ?_
    refine g_get C (a_98 ad cy _) rfl hin_X11 0 (by decide) hF_X11_7 rfl rfl dX11_keepDraft_9 ?_
    refine g_iload_n C dX11_keepDraft_12 rfl 1 rfl ?_
    refine g_aload_n C dX11_keepDraft_13 rfl 0 rfl ?_
    refine g_get C (a_98 ad cy _) rfl hin_X11 7 (by decide) hF_X11_20 rfl rfl dX11_keepDraft_14 ?_
    refine g_iload_n C dX11_keepDraft_17 rfl 1 rfl ?_
    obtain ⟨h2, hf⟩ := og_e hf
    refine g_iald C (a_102 ad cy _) h2 dX11_keepDraft_18 ?_
    obtain ⟨v3, ev3, hf⟩ := ol_e hf
    refine g_nm ev3 ?_
    obtain ⟨h4, hf⟩ := og_e hf
    obtain ⟨σ5, eσ5, hf⟩ := ol_e hf
    refine g_iast C (a_99 ad cy _) h4 (w_99 ad cy _) eσ5 dX11_keepDraft_19 ?_
    obtain ⟨v6, ev6, hf⟩ := ol_e hf
    refine g_iinc (j := 1) (w := 1) (lv2 := [(0, .ref (ad 98)), (1, .int v6)]) C dX11_keepDraft_20 rfl (by decide) ev6 (by decide) [1, 0] rfl ?_
    refine g_goto (tgt := 2) C dX11_keepDraft_23 (by decide) ?_
    exact g_sub [0, 1] rfl (hs_2 σ5 v6 hf)
def fX11_keepDraft_h2  : Nat → S0 → Int32 → Option (Int32 × S0)
  | 0 => fun _ _ => none
  | n + 1 => fun σ x1 => fX11_keepDraft_b2  (fX11_keepDraft_h2  n) σ x1
set_option maxHeartbeats 1000000 in
set_option maxRecDepth 100000 in
theorem fX11_keepDraft_h2_ok {p : Program} {l : Launch} {e : Env} {s : State} {m : MethodId} {args : Array Value} {below : List Frame} {meth : Method} {c : Code} {dC : Nat → ClassId} {dI : Nat → Nat → Nat} {ad : Nat → Nat} {cy : Nat → ClassId} {sz : Nat} (C : Cx p s m args meth c RX11 cX11_keepDraft 2 none dC dI ad cy sz) {rr : Int32} {ρ : S0}  : ∀ (n : Nat) (σ : S0) (x1 : Int32)  (_hf : fX11_keepDraft_h2  n σ x1 = some (rr, ρ)), Gw p l e rm_X11_keepDraft s m args below meth c (MQ below (QcV dC dI ad cy sz ρ) args s 0 0 (AW ad sz)) dC dI ad cy 2 sz 0 0 2 [(0, .ref (ad 98)), (1, .int x1)] [] σ
  | 0, _, _, hf => by cases hf
  | n + 1, σ, x1, hf => fX11_keepDraft_b2_ok C  (fX11_keepDraft_h2  n) (fX11_keepDraft_h2_ok C  n) σ x1 hf
def fX11_keepDraft (σ : S0)  : Option (Int32 × S0) := fX11_keepDraft_h2 400 σ 0
set_option maxHeartbeats 1000000 in
set_option maxRecDepth 100000 in
theorem fX11_keepDraft_ok {p : Program} {l : Launch} {e : Env} {s : State} {m : MethodId} {args : Array Value} {below : List Frame} {meth : Method} {c : Code} {dC : Nat → ClassId} {dI : Nat → Nat → Nat} {ad : Nat → Nat} {cy : Nat → ClassId} {sz : Nat} (C : Cx p s m args meth c RX11 cX11_keepDraft 2 none dC dI ad cy sz) {rr : Int32} {ρ : S0} (σ : S0)   (hf : fX11_keepDraft σ = some (rr, ρ)) : Gw p l e rm_X11_keepDraft s m args below meth c (MQ below (QcV dC dI ad cy sz ρ) args s 0 0 (AW ad sz)) dC dI ad cy 2 sz 0 0 0 [(0, .ref (ad 98))] [] σ := by
  unfold fX11_keepDraft at hf
  refine g_iconst (v := 0) C dX11_keepDraft_0 (by decide) ?_
  refine g_istore_n (lv2 := [(0, .ref (ad 98)), (1, .int 0)]) C dX11_keepDraft_1 rfl (by decide) [1, 0] rfl ?_
  exact g_sub [0, 1] rfl (fX11_keepDraft_h2_ok C 400 σ 0 hf)
theorem c_X11_keepDraft (l : Launch) (dC : Nat → ClassId) (dI : Nat → Nat → Nat) (ad : Nat → Nat) (cy : Nat → ClassId)  : ConV l yX11_keepDraft cX11_keepDraft 2 none rm_X11_keepDraft dC dI ad cy [.ref (ad 98)] (fun σ => fX11_keepDraft σ) := con_v (own := RX11) (by decide) rfl (Nat.le_of_ble_eq_true rfl) (fun _ _ _ _ _ _ _ _ σ _ _ C hf => fX11_keepDraft_ok C σ  hf)
theorem cal_X11_keepDraft : CalV yX11_keepDraft RX11 cX11_keepDraft 2 none 0 := ⟨hI_X11_keepDraft, hS_X11_keepDraft, hIni_X11, hC_X11_keepDraft, by decide +kernel⟩
abbrev rm_X11_feed : Room := { frames := 0, cells := 0, slots := 0, locals := 0 }
def fX11_feed_b19 (sf_19 : S0 → Int64 → Int32 → Option (Int32 × S0)) (σ : S0) (x1 : Int64) (x3 : Int32) : Option (Int32 × S0) := if x3 < 0 then (some (σ 98 17, σ)) else (ol (((x1 >>> (((x3 : Int32)).toInt64 &&& 63)) &&& 255).toInt32) (fun v2 => ol (σ 98 17) (fun v3 => og (¬ (v3 < 0 ∨ 320 ≤ v3.toNatClampNeg)) (ol (su σ 104 v3.toNatClampNeg v2) (fun σ5 => ol ((σ5 98 17) + 1) (fun v6 => ol (su σ5 98 17 v6) (fun σ7 => ol (x3 + (-8)) (fun v8 => sf_19 σ7 x1 v8))))))))
set_option maxHeartbeats 1000000 in
set_option maxRecDepth 100000 in
theorem fX11_feed_b19_ok {p : Program} {l : Launch} {e : Env} {s : State} {m : MethodId} {args : Array Value} {below : List Frame} {meth : Method} {c : Code} {dC : Nat → ClassId} {dI : Nat → Nat → Nat} {ad : Nat → Nat} {cy : Nat → ClassId} {sz : Nat} (C : Cx p s m args meth c RX11 cX11_feed 4 (some .int) dC dI ad cy sz) {rr : Int32} {ρ : S0} (sf_19 : S0 → Int64 → Int32 → Option (Int32 × S0)) (hs_19 : ∀ (σ : S0) (x1 : Int64) (x3 : Int32) , sf_19 σ x1 x3 = some (rr, ρ) → Gw p l e rm_X11_feed s m args below meth c (MQ below (QcI dC dI ad cy sz rr ρ) args s 0 0 (AW ad sz)) dC dI ad cy 4 sz 0 0 19 [(0, .ref (ad 98)), (1, .long x1), (3, .int x3)] [] σ) (σ : S0) (x1 : Int64) (x3 : Int32)  (hf : fX11_feed_b19 sf_19 σ x1 x3 = some (rr, ρ)) : Gw p l e rm_X11_feed s m args below meth c (MQ below (QcI dC dI ad cy sz rr ρ) args s 0 0 (AW ad sz)) dC dI ad cy 4 sz 0 0 19 [(0, .ref (ad 98)), (1, .long x1), (3, .int x3)] [] σ := by
  unfold fX11_feed_b19 at hf
  refine g_iload_n C dX11_feed_19 rfl 2 rfl ?_
  rcases oi_e hf with ⟨c1, hf⟩ | ⟨c1, hf⟩
  · refine g_if_lt_t (tgt := 56) C dX11_feed_20 (by decide) c1 ?_
    refine g_aload_n C dX11_feed_56 rfl 0 rfl ?_
    refine g_get C (a_98 ad cy _) rfl hin_X11 17 (by decide) hF_X11_87 rfl rfl dX11_feed_57 ?_
    obtain ⟨rfl, rfl⟩ := os_e hf
    exact g_iret C rfl dX11_feed_60
  · refine g_if_lt_f (tgt := 56) C dX11_feed_20 (by decide) c1 ?_
    refine g_aload_n C dX11_feed_23 rfl 0 rfl ?_
    refine g_get C (a_98 ad cy _) rfl hin_X11 16 (by decide) hF_X11_26 rfl rfl dX11_feed_24 ?_
    refine g_aload_n C dX11_feed_27 rfl 0 rfl ?_
    refine g_get C (a_98 ad cy _) rfl hin_X11 17 (by decide) hF_X11_87 rfl rfl dX11_feed_28 ?_
    refine g_lload_n C dX11_feed_31 rfl 1 rfl ?_
    refine g_iload_n C dX11_feed_32 rfl 2 rfl ?_
    refine g_lshr C dX11_feed_33 ?_
    refine g_ldc2 (v := 255) C dX11_feed_34 hK_X11_90 ?_
    refine g_land C dX11_feed_37 ?_
    refine g_l2i C dX11_feed_38 ?_
    obtain ⟨v2, ev2, hf⟩ := ol_e hf
    refine g_nm ev2 ?_
    obtain ⟨v3, ev3, hf⟩ := ol_e hf
    refine g_nm2 ev3 ?_
    obtain ⟨h4, hf⟩ := og_e hf
    obtain ⟨σ5, eσ5, hf⟩ := ol_e hf
    refine g_iast C (a_104 ad cy _) h4 (w_104 ad cy _) eσ5 dX11_feed_39 ?_
    refine g_aload_n C dX11_feed_40 rfl 0 rfl ?_
    refine g_dup C dX11_feed_41 rfl ?_
    refine g_get C (a_98 ad cy _) rfl hin_X11 17 (by decide) hF_X11_87 rfl rfl dX11_feed_42 ?_
    refine g_iconst (v := 1) C dX11_feed_45 (by decide) ?_
    refine g_iadd C dX11_feed_46 ?_
    obtain ⟨v6, ev6, hf⟩ := ol_e hf
    refine g_nm ev6 ?_
    obtain ⟨σ7, eσ7, hf⟩ := ol_e hf
    refine g_put (ty := .int) C (a_98 ad cy _) rfl hin_X11 tyX11 tyX11_ok nmX11 17 (by decide) hF_X11_87 rfl rfl (by decide +kernel) rfl rfl (Nat.le_of_ble_eq_true rfl) (p_98_17 ad cy _ _) eσ7 dX11_feed_47 ?_
    obtain ⟨v8, ev8, hf⟩ := ol_e hf
    refine g_iinc (j := 2) (w := (-8)) (lv2 := [(0, .ref (ad 98)), (1, .long x1), (3, .int v8)]) C dX11_feed_50 rfl (by decide) ev8 (by decide) [1, 2, 0] rfl ?_
    refine g_goto (tgt := 19) C dX11_feed_53 (by decide) ?_
    exact g_sub [0, 1, 2] rfl (hs_19 σ7 x1 v8 hf)
def fX11_feed_h19  : Nat → S0 → Int64 → Int32 → Option (Int32 × S0)
  | 0 => fun _ _ _ => none
  | n + 1 => fun σ x1 x3 => fX11_feed_b19  (fX11_feed_h19  n) σ x1 x3
set_option maxHeartbeats 1000000 in
set_option maxRecDepth 100000 in
theorem fX11_feed_h19_ok {p : Program} {l : Launch} {e : Env} {s : State} {m : MethodId} {args : Array Value} {below : List Frame} {meth : Method} {c : Code} {dC : Nat → ClassId} {dI : Nat → Nat → Nat} {ad : Nat → Nat} {cy : Nat → ClassId} {sz : Nat} (C : Cx p s m args meth c RX11 cX11_feed 4 (some .int) dC dI ad cy sz) {rr : Int32} {ρ : S0}  : ∀ (n : Nat) (σ : S0) (x1 : Int64) (x3 : Int32)  (_hf : fX11_feed_h19  n σ x1 x3 = some (rr, ρ)), Gw p l e rm_X11_feed s m args below meth c (MQ below (QcI dC dI ad cy sz rr ρ) args s 0 0 (AW ad sz)) dC dI ad cy 4 sz 0 0 19 [(0, .ref (ad 98)), (1, .long x1), (3, .int x3)] [] σ
  | 0, _, _, _, hf => by cases hf
  | n + 1, σ, x1, x3, hf => fX11_feed_b19_ok C  (fX11_feed_h19  n) (fX11_feed_h19_ok C  n) σ x1 x3 hf
def fX11_feed (σ : S0) (x1 : Int64) : Option (Int32 × S0) := if ((σ 98 17) + 8) ≤ 320 then (fX11_feed_h19 400 σ x1 56) else (some ((-3), σ))
set_option maxHeartbeats 1000000 in
set_option maxRecDepth 100000 in
theorem fX11_feed_ok {p : Program} {l : Launch} {e : Env} {s : State} {m : MethodId} {args : Array Value} {below : List Frame} {meth : Method} {c : Code} {dC : Nat → ClassId} {dI : Nat → Nat → Nat} {ad : Nat → Nat} {cy : Nat → ClassId} {sz : Nat} (C : Cx p s m args meth c RX11 cX11_feed 4 (some .int) dC dI ad cy sz) {rr : Int32} {ρ : S0} (σ : S0) (x1 : Int64)  (hf : fX11_feed σ x1 = some (rr, ρ)) : Gw p l e rm_X11_feed s m args below meth c (MQ below (QcI dC dI ad cy sz rr ρ) args s 0 0 (AW ad sz)) dC dI ad cy 4 sz 0 0 0 [(0, .ref (ad 98)), (1, .long x1)] [] σ := by
  unfold fX11_feed at hf
  refine g_aload_n C dX11_feed_0 rfl 0 rfl ?_
  refine g_get C (a_98 ad cy _) rfl hin_X11 17 (by decide) hF_X11_87 rfl rfl dX11_feed_1 ?_
  refine g_bipush (v := 8) C dX11_feed_4 (by decide) ?_
  refine g_iadd C dX11_feed_6 ?_
  refine g_sipush (v := 320) C dX11_feed_7 (by decide) ?_
  rcases oi_e hf with ⟨c1, hf⟩ | ⟨c1, hf⟩
  · refine g_icmp_le_t (tgt := 16) C dX11_feed_10 (by decide) c1 ?_
    refine g_bipush (v := 56) C dX11_feed_16 (by decide) ?_
    refine g_istore_n (lv2 := [(0, .ref (ad 98)), (1, .long x1), (3, .int 56)]) C dX11_feed_18 rfl (by decide) [1, 2, 0] rfl ?_
    exact g_sub [0, 1, 2] rfl (fX11_feed_h19_ok C 400 σ x1 56 hf)
  · refine g_icmp_le_f (tgt := 16) C dX11_feed_10 (by decide) c1 ?_
    refine g_bipush (v := (-3)) C dX11_feed_13 (by decide) ?_
    obtain ⟨rfl, rfl⟩ := os_e hf
    exact g_iret C rfl dX11_feed_15
theorem c_X11_feed (l : Launch) (dC : Nat → ClassId) (dI : Nat → Nat → Nat) (ad : Nat → Nat) (cy : Nat → ClassId) (x1 : Int64) : ConI l yX11_feed cX11_feed 4 (some .int) rm_X11_feed dC dI ad cy [.ref (ad 98), .long x1] (fun σ => fX11_feed σ x1) := con_i (own := RX11) (by decide) rfl (Nat.le_of_ble_eq_true rfl) (fun _ _ _ _ _ _ _ _ σ _ _ C hf => fX11_feed_ok C σ x1 hf)
theorem cal_X11_feed : CalV yX11_feed RX11 cX11_feed 4 (some .int) 1 := ⟨hI_X11_feed, hS_X11_feed, hIni_X11, hC_X11_feed, by decide +kernel⟩
abbrev rm_X11_end : Room := { frames := 1, cells := 0, slots := 0, locals := 25 }
def fX11_end (σ : S0) (x1 : Int32) : Option (Int32 × S0) := obp (fX11_in σ x1.toInt64 ((0 : Int64)) ((σ 98 17).toInt64)) (fun r1 σ2 => if ¬ r1 = 0 then (ol (σ2 98 17) (fun v5 => ol (su σ2 98 17 x1) (fun σ6 => some (v5, σ6)))) else (some ((-1), σ2)))
set_option maxHeartbeats 1000000 in
set_option maxRecDepth 100000 in
theorem fX11_end_ok {p : Program} {l : Launch} {e : Env} {s : State} {m : MethodId} {args : Array Value} {below : List Frame} {meth : Method} {c : Code} {dC : Nat → ClassId} {dI : Nat → Nat → Nat} {ad : Nat → Nat} {cy : Nat → ClassId} {sz : Nat} (C : Cx p s m args meth c RX11 cX11_end 3 (some .int) dC dI ad cy sz) {rr : Int32} {ρ : S0} (σ : S0) (x1 : Int32)  (hf : fX11_end σ x1 = some (rr, ρ)) : Gw p l e rm_X11_end s m args below meth c (MQ below (QcI dC dI ad cy sz rr ρ) args s 0 0 (AW ad sz)) dC dI ad cy 3 sz 0 0 0 [(0, .ref (ad 98)), (1, .int x1)] [] σ := by
  unfold fX11_end at hf
  refine g_iload_n C dX11_end_0 rfl 1 rfl ?_
  refine g_i2l C dX11_end_1 ?_
  refine g_lconst (v := 0) C dX11_end_2 (by decide) ?_
  refine g_aload_n C dX11_end_3 rfl 0 rfl ?_
  refine g_get C (a_98 ad cy _) rfl hin_X11 17 (by decide) hF_X11_87 rfl rfl dX11_end_4 ?_
  refine g_i2l C dX11_end_7 ?_
  obtain ⟨r1, σ2, h3, hf⟩ := obp_e hf
  refine g_callSi (As := [.long x1.toInt64, .long 0, .long ((σ 98 17).toInt64)]) (rest := []) C (c_X11_in l dC dI ad cy x1.toInt64 ((0 : Int64)) ((σ 98 17).toInt64)) h3 hM_X11_92 cal_X11_in ⟨Nat.zero_le _, Nat.zero_le _⟩ ⟨rfl, rfl⟩ ⟨Nat.le_of_ble_eq_true rfl, Nat.le_of_ble_eq_true rfl⟩ rfl rfl (Nat.le_of_ble_eq_true rfl) dX11_end_8 ?_
  rcases oi_e hf with ⟨c4, hf⟩ | ⟨c4, hf⟩
  · refine g_if_ne_t (tgt := 16) C dX11_end_11 (by decide) c4 ?_
    refine g_aload_n C dX11_end_16 rfl 0 rfl ?_
    refine g_get C (a_98 ad cy _) rfl hin_X11 17 (by decide) hF_X11_87 rfl rfl dX11_end_17 ?_
    obtain ⟨v5, ev5, hf⟩ := ol_e hf
    refine g_nm ev5 ?_
    refine g_istore_n (lv2 := [(0, .ref (ad 98)), (1, .int x1), (2, .int v5)]) C dX11_end_20 rfl (by decide) [1, 2, 0] rfl ?_
    refine g_aload_n C dX11_end_21 rfl 0 rfl ?_
    refine g_iload_n C dX11_end_22 rfl 1 rfl ?_
    obtain ⟨σ6, eσ6, hf⟩ := ol_e hf
    refine g_put (ty := .int) C (a_98 ad cy _) rfl hin_X11 tyX11 tyX11_ok nmX11 17 (by decide) hF_X11_87 rfl rfl (by decide +kernel) rfl rfl (Nat.le_of_ble_eq_true rfl) (p_98_17 ad cy _ _) eσ6 dX11_end_23 ?_
    refine g_iload_n C dX11_end_26 rfl 2 rfl ?_
    obtain ⟨rfl, rfl⟩ := os_e hf
    exact g_iret C rfl dX11_end_27
  · refine g_if_ne_f (tgt := 16) C dX11_end_11 (by decide) (Decidable.of_not_not c4) ?_
    refine g_iconst (v := (-1)) C dX11_end_14 (by decide) ?_
    obtain ⟨rfl, rfl⟩ := os_e hf
    exact g_iret C rfl dX11_end_15
theorem c_X11_end (l : Launch) (dC : Nat → ClassId) (dI : Nat → Nat → Nat) (ad : Nat → Nat) (cy : Nat → ClassId) (x1 : Int32) : ConI l yX11_end cX11_end 3 (some .int) rm_X11_end dC dI ad cy [.ref (ad 98), .int x1] (fun σ => fX11_end σ x1) := con_i (own := RX11) (by decide) rfl (Nat.le_of_ble_eq_true rfl) (fun _ _ _ _ _ _ _ _ σ _ _ C hf => fX11_end_ok C σ x1 hf)
theorem cal_X11_end : CalV yX11_end RX11 cX11_end 3 (some .int) 1 := ⟨hI_X11_end, hS_X11_end, hIni_X11, hC_X11_end, by decide +kernel⟩
abbrev rm_X11_needs : Room := { frames := 0, cells := 0, slots := 0, locals := 0 }
def fX11_needs (σ : S0) (x1 : Int32) (x2 : Int32) : Option (Int32 × S0) := if ¬ x1 = 0 then (some (0, σ)) else (if ¬ (σ 98 22) = 0 then (some (0, σ)) else (ol (su σ 98 22 x2) (fun σ3 => ol (σ3 98 19) (fun v4 => ol (su σ3 98 23 v4) (fun σ5 => some (0, σ5))))))
set_option maxHeartbeats 1000000 in
set_option maxRecDepth 100000 in
theorem fX11_needs_ok {p : Program} {l : Launch} {e : Env} {s : State} {m : MethodId} {args : Array Value} {below : List Frame} {meth : Method} {c : Code} {dC : Nat → ClassId} {dI : Nat → Nat → Nat} {ad : Nat → Nat} {cy : Nat → ClassId} {sz : Nat} (C : Cx p s m args meth c RX11 cX11_needs 3 none dC dI ad cy sz) {rr : Int32} {ρ : S0} (σ : S0) (x1 : Int32) (x2 : Int32)  (hf : fX11_needs σ x1 x2 = some (rr, ρ)) : Gw p l e rm_X11_needs s m args below meth c (MQ below (QcV dC dI ad cy sz ρ) args s 0 0 (AW ad sz)) dC dI ad cy 3 sz 0 0 0 [(0, .ref (ad 98)), (1, .int x1), (2, .int x2)] [] σ := by
  unfold fX11_needs at hf
  refine g_iload_n C dX11_needs_0 rfl 1 rfl ?_
  rcases oi_e hf with ⟨c1, hf⟩ | ⟨c1, hf⟩
  · refine g_if_ne_t (tgt := 24) C dX11_needs_1 (by decide) c1 ?_
    obtain ⟨rfl, rfl⟩ := os_e hf
    exact g_vret C rfl dX11_needs_24
  · refine g_if_ne_f (tgt := 24) C dX11_needs_1 (by decide) (Decidable.of_not_not c1) ?_
    refine g_aload_n C dX11_needs_4 rfl 0 rfl ?_
    refine g_get C (a_98 ad cy _) rfl hin_X11 22 (by decide) hF_X11_96 rfl rfl dX11_needs_5 ?_
    rcases oi_e hf with ⟨c2, hf⟩ | ⟨c2, hf⟩
    · refine g_if_ne_t (tgt := 24) C dX11_needs_8 (by decide) c2 ?_
      obtain ⟨rfl, rfl⟩ := os_e hf
      exact g_vret C rfl dX11_needs_24
    · refine g_if_ne_f (tgt := 24) C dX11_needs_8 (by decide) (Decidable.of_not_not c2) ?_
      refine g_aload_n C dX11_needs_11 rfl 0 rfl ?_
      refine g_iload_n C dX11_needs_12 rfl 2 rfl ?_
      obtain ⟨σ3, eσ3, hf⟩ := ol_e hf
      refine g_put (ty := .int) C (a_98 ad cy _) rfl hin_X11 tyX11 tyX11_ok nmX11 22 (by decide) hF_X11_96 rfl rfl (by decide +kernel) rfl rfl (Nat.le_of_ble_eq_true rfl) (p_98_22 ad cy _ _) eσ3 dX11_needs_13 ?_
      refine g_aload_n C dX11_needs_16 rfl 0 rfl ?_
      refine g_aload_n C dX11_needs_17 rfl 0 rfl ?_
      refine g_get C (a_98 ad cy _) rfl hin_X11 19 (by decide) hF_X11_99 rfl rfl dX11_needs_18 ?_
      obtain ⟨v4, ev4, hf⟩ := ol_e hf
      refine g_nm ev4 ?_
      obtain ⟨σ5, eσ5, hf⟩ := ol_e hf
      refine g_put (ty := .int) C (a_98 ad cy _) rfl hin_X11 tyX11 tyX11_ok nmX11 23 (by decide) hF_X11_102 rfl rfl (by decide +kernel) rfl rfl (Nat.le_of_ble_eq_true rfl) (p_98_23 ad cy _ _) eσ5 dX11_needs_21 ?_
      obtain ⟨rfl, rfl⟩ := os_e hf
      exact g_vret C rfl dX11_needs_24
theorem c_X11_needs (l : Launch) (dC : Nat → ClassId) (dI : Nat → Nat → Nat) (ad : Nat → Nat) (cy : Nat → ClassId) (x1 : Int32) (x2 : Int32) : ConV l yX11_needs cX11_needs 3 none rm_X11_needs dC dI ad cy [.ref (ad 98), .int x1, .int x2] (fun σ => fX11_needs σ x1 x2) := con_v (own := RX11) (by decide) rfl (Nat.le_of_ble_eq_true rfl) (fun _ _ _ _ _ _ _ _ σ _ _ C hf => fX11_needs_ok C σ x1 x2 hf)
theorem cal_X11_needs : CalV yX11_needs RX11 cX11_needs 3 none 2 := ⟨hI_X11_needs, hS_X11_needs, hIni_X11, hC_X11_needs, by decide +kernel⟩
abbrev rm_X11_look : Room := { frames := 0, cells := 0, slots := 0, locals := 0 }
def fX11_look (σ : S0) (x1 : Int32) : Option (Int32 × S0) := if (σ 98 17) ≤ x1 then (some ((-1), σ)) else (og (¬ (x1 < 0 ∨ 320 ≤ x1.toNatClampNeg)) (ol (σ 104 x1.toNatClampNeg) (fun v3 => some (v3, σ))))
set_option maxHeartbeats 1000000 in
set_option maxRecDepth 100000 in
theorem fX11_look_ok {p : Program} {l : Launch} {e : Env} {s : State} {m : MethodId} {args : Array Value} {below : List Frame} {meth : Method} {c : Code} {dC : Nat → ClassId} {dI : Nat → Nat → Nat} {ad : Nat → Nat} {cy : Nat → ClassId} {sz : Nat} (C : Cx p s m args meth c RX11 cX11_look 2 (some .int) dC dI ad cy sz) {rr : Int32} {ρ : S0} (σ : S0) (x1 : Int32)  (hf : fX11_look σ x1 = some (rr, ρ)) : Gw p l e rm_X11_look s m args below meth c (MQ below (QcI dC dI ad cy sz rr ρ) args s 0 0 (AW ad sz)) dC dI ad cy 2 sz 0 0 0 [(0, .ref (ad 98)), (1, .int x1)] [] σ := by
  unfold fX11_look at hf
  refine g_iload_n C dX11_look_0 rfl 1 rfl ?_
  refine g_aload_n C dX11_look_1 rfl 0 rfl ?_
  refine g_get C (a_98 ad cy _) rfl hin_X11 17 (by decide) hF_X11_87 rfl rfl dX11_look_2 ?_
  rcases oi_e hf with ⟨c1, hf⟩ | ⟨c1, hf⟩
  · refine g_icmp_ge_t (tgt := 17) C dX11_look_5 (by decide) c1 ?_
    refine g_iconst (v := (-1)) C dX11_look_17 (by decide) ?_
    obtain ⟨rfl, rfl⟩ := os_e hf
    exact g_iret C rfl dX11_look_18
  · refine g_icmp_ge_f (tgt := 17) C dX11_look_5 (by decide) c1 ?_
    refine g_aload_n C dX11_look_8 rfl 0 rfl ?_
    refine g_get C (a_98 ad cy _) rfl hin_X11 16 (by decide) hF_X11_26 rfl rfl dX11_look_9 ?_
    refine g_iload_n C dX11_look_12 rfl 1 rfl ?_
    obtain ⟨h2, hf⟩ := og_e hf
    refine g_iald C (a_104 ad cy _) h2 dX11_look_13 ?_
    obtain ⟨v3, ev3, hf⟩ := ol_e hf
    refine g_nm ev3 ?_
    refine g_goto (tgt := 18) C dX11_look_14 (by decide) ?_
    obtain ⟨rfl, rfl⟩ := os_e hf
    exact g_iret C rfl dX11_look_18
theorem c_X11_look (l : Launch) (dC : Nat → ClassId) (dI : Nat → Nat → Nat) (ad : Nat → Nat) (cy : Nat → ClassId) (x1 : Int32) : ConI l yX11_look cX11_look 2 (some .int) rm_X11_look dC dI ad cy [.ref (ad 98), .int x1] (fun σ => fX11_look σ x1) := con_i (own := RX11) (by decide) rfl (Nat.le_of_ble_eq_true rfl) (fun _ _ _ _ _ _ _ _ σ _ _ C hf => fX11_look_ok C σ x1 hf)
theorem cal_X11_look : CalV yX11_look RX11 cX11_look 2 (some .int) 1 := ⟨hI_X11_look, hS_X11_look, hIni_X11, hC_X11_look, by decide +kernel⟩
abbrev rm_X11_is : Room := { frames := 1, cells := 0, slots := 0, locals := 21 }
def fX11_is_b74  (σ : S0)  : Option (Int32 × S0) := some (1, σ)
set_option maxHeartbeats 1000000 in
set_option maxRecDepth 100000 in
theorem fX11_is_b74_ok {p : Program} {l : Launch} {e : Env} {s : State} {m : MethodId} {args : Array Value} {below : List Frame} {meth : Method} {c : Code} {dC : Nat → ClassId} {dI : Nat → Nat → Nat} {ad : Nat → Nat} {cy : Nat → ClassId} {sz : Nat} (C : Cx p s m args meth c RX11 cX11_is 6 (some .boolean) dC dI ad cy sz) {rr : Int32} {ρ : S0}  (σ : S0)   (hf : fX11_is_b74 σ = some (rr, ρ)) : Gw p l e rm_X11_is s m args below meth c (MQ below (QcI dC dI ad cy sz rr ρ) args s 0 0 (AW ad sz)) dC dI ad cy 6 sz 0 0 74 [] [] σ := by
  unfold fX11_is_b74 at hf
  refine g_iconst (v := 1) C dX11_is_74 (by decide) ?_
  refine g_goto (tgt := 79) C dX11_is_75 (by decide) ?_
  obtain ⟨rfl, rfl⟩ := os_e hf
  exact g_zret C rfl (by decide) dX11_is_79
def fX11_is (σ : S0) (x1 : Int32) (x2 : Int32) (x3 : Int32) (x4 : Int32) (x5 : Int32) : Option (Int32 × S0) := if ¬ ((σ 98 18) - (σ 98 19)) = x1 then (some (0, σ)) else (obp (fX11_look σ (σ 98 19)) (fun r2 σ3 => if ¬ r2 = x2 then (some (0, σ3)) else (obp (fX11_look σ3 ((σ3 98 19) + 1)) (fun r6 σ7 => if ¬ r6 = x3 then (some (0, σ7)) else (obp (fX11_look σ7 ((σ7 98 19) + 2)) (fun r10 σ11 => if ¬ r10 = x4 then (some (0, σ11)) else (if x1 < 4 then (fX11_is_b74 σ11) else (obp (fX11_look σ11 ((σ11 98 19) + 3)) (fun r15 σ16 => if ¬ r15 = x5 then (some (0, σ16)) else (fX11_is_b74 σ16))))))))))
set_option maxHeartbeats 1000000 in
set_option maxRecDepth 100000 in
theorem fX11_is_ok {p : Program} {l : Launch} {e : Env} {s : State} {m : MethodId} {args : Array Value} {below : List Frame} {meth : Method} {c : Code} {dC : Nat → ClassId} {dI : Nat → Nat → Nat} {ad : Nat → Nat} {cy : Nat → ClassId} {sz : Nat} (C : Cx p s m args meth c RX11 cX11_is 6 (some .boolean) dC dI ad cy sz) {rr : Int32} {ρ : S0} (σ : S0) (x1 : Int32) (x2 : Int32) (x3 : Int32) (x4 : Int32) (x5 : Int32)  (hf : fX11_is σ x1 x2 x3 x4 x5 = some (rr, ρ)) : Gw p l e rm_X11_is s m args below meth c (MQ below (QcI dC dI ad cy sz rr ρ) args s 0 0 (AW ad sz)) dC dI ad cy 6 sz 0 0 0 [(0, .ref (ad 98)), (1, .int x1), (2, .int x2), (3, .int x3), (4, .int x4), (5, .int x5)] [] σ := by
  unfold fX11_is at hf
  refine g_aload_n C dX11_is_0 rfl 0 rfl ?_
  refine g_get C (a_98 ad cy _) rfl hin_X11 18 (by decide) hF_X11_105 rfl rfl dX11_is_1 ?_
  refine g_aload_n C dX11_is_4 rfl 0 rfl ?_
  refine g_get C (a_98 ad cy _) rfl hin_X11 19 (by decide) hF_X11_99 rfl rfl dX11_is_5 ?_
  refine g_isub C dX11_is_8 ?_
  refine g_iload_n C dX11_is_9 rfl 1 rfl ?_
  rcases oi_e hf with ⟨c1, hf⟩ | ⟨c1, hf⟩
  · refine g_icmp_ne_t (tgt := 78) C dX11_is_10 (by decide) c1 ?_
    refine g_iconst (v := 0) C dX11_is_78 (by decide) ?_
    obtain ⟨rfl, rfl⟩ := os_e hf
    exact g_zret C rfl (by decide) dX11_is_79
  · refine g_icmp_ne_f (tgt := 78) C dX11_is_10 (by decide) (Decidable.of_not_not c1) ?_
    refine g_aload_n C dX11_is_13 rfl 0 rfl ?_
    refine g_aload_n C dX11_is_14 rfl 0 rfl ?_
    refine g_get C (a_98 ad cy _) rfl hin_X11 19 (by decide) hF_X11_99 rfl rfl dX11_is_15 ?_
    obtain ⟨r2, σ3, h4, hf⟩ := obp_e hf
    refine g_callVi (As := [.int (σ 98 19)]) (rest := []) C (a_98 ad cy _) rfl (c_X11_look l dC dI ad cy (σ 98 19)) h4 hM_X11_108 cal_X11_look ⟨Nat.zero_le _, Nat.zero_le _⟩ ⟨rfl, rfl⟩ ⟨Nat.le_of_ble_eq_true rfl, Nat.le_of_ble_eq_true rfl⟩ rfl rfl (Nat.le_of_ble_eq_true rfl) dX11_is_18 ?_
    refine g_iload_n C dX11_is_21 rfl 2 rfl ?_
    rcases oi_e hf with ⟨c5, hf⟩ | ⟨c5, hf⟩
    · refine g_icmp_ne_t (tgt := 78) C dX11_is_22 (by decide) c5 ?_
      refine g_iconst (v := 0) C dX11_is_78 (by decide) ?_
      obtain ⟨rfl, rfl⟩ := os_e hf
      exact g_zret C rfl (by decide) dX11_is_79
    · refine g_icmp_ne_f (tgt := 78) C dX11_is_22 (by decide) (Decidable.of_not_not c5) ?_
      refine g_aload_n C dX11_is_25 rfl 0 rfl ?_
      refine g_aload_n C dX11_is_26 rfl 0 rfl ?_
      refine g_get C (a_98 ad cy _) rfl hin_X11 19 (by decide) hF_X11_99 rfl rfl dX11_is_27 ?_
      refine g_iconst (v := 1) C dX11_is_30 (by decide) ?_
      refine g_iadd C dX11_is_31 ?_
      obtain ⟨r6, σ7, h8, hf⟩ := obp_e hf
      refine g_callVi (As := [.int ((σ3 98 19) + 1)]) (rest := []) C (a_98 ad cy _) rfl (c_X11_look l dC dI ad cy ((σ3 98 19) + 1)) h8 hM_X11_108 cal_X11_look ⟨Nat.zero_le _, Nat.zero_le _⟩ ⟨rfl, rfl⟩ ⟨Nat.le_of_ble_eq_true rfl, Nat.le_of_ble_eq_true rfl⟩ rfl rfl (Nat.le_of_ble_eq_true rfl) dX11_is_32 ?_
      refine g_iload_n C dX11_is_35 rfl 3 rfl ?_
      rcases oi_e hf with ⟨c9, hf⟩ | ⟨c9, hf⟩
      · refine g_icmp_ne_t (tgt := 78) C dX11_is_36 (by decide) c9 ?_
        refine g_iconst (v := 0) C dX11_is_78 (by decide) ?_
        obtain ⟨rfl, rfl⟩ := os_e hf
        exact g_zret C rfl (by decide) dX11_is_79
      · refine g_icmp_ne_f (tgt := 78) C dX11_is_36 (by decide) (Decidable.of_not_not c9) ?_
        refine g_aload_n C dX11_is_39 rfl 0 rfl ?_
        refine g_aload_n C dX11_is_40 rfl 0 rfl ?_
        refine g_get C (a_98 ad cy _) rfl hin_X11 19 (by decide) hF_X11_99 rfl rfl dX11_is_41 ?_
        refine g_iconst (v := 2) C dX11_is_44 (by decide) ?_
        refine g_iadd C dX11_is_45 ?_
        obtain ⟨r10, σ11, h12, hf⟩ := obp_e hf
        refine g_callVi (As := [.int ((σ7 98 19) + 2)]) (rest := []) C (a_98 ad cy _) rfl (c_X11_look l dC dI ad cy ((σ7 98 19) + 2)) h12 hM_X11_108 cal_X11_look ⟨Nat.zero_le _, Nat.zero_le _⟩ ⟨rfl, rfl⟩ ⟨Nat.le_of_ble_eq_true rfl, Nat.le_of_ble_eq_true rfl⟩ rfl rfl (Nat.le_of_ble_eq_true rfl) dX11_is_46 ?_
        refine g_iload C dX11_is_49 4 rfl ?_
        rcases oi_e hf with ⟨c13, hf⟩ | ⟨c13, hf⟩
        · refine g_icmp_ne_t (tgt := 78) C dX11_is_51 (by decide) c13 ?_
          refine g_iconst (v := 0) C dX11_is_78 (by decide) ?_
          obtain ⟨rfl, rfl⟩ := os_e hf
          exact g_zret C rfl (by decide) dX11_is_79
        · refine g_icmp_ne_f (tgt := 78) C dX11_is_51 (by decide) (Decidable.of_not_not c13) ?_
          refine g_iload_n C dX11_is_54 rfl 1 rfl ?_
          refine g_iconst (v := 4) C dX11_is_55 (by decide) ?_
          rcases oi_e hf with ⟨c14, hf⟩ | ⟨c14, hf⟩
          · refine g_icmp_lt_t (tgt := 74) C dX11_is_56 (by decide) c14 ?_
            exact g_sub [] rfl (fX11_is_b74_ok C σ11 hf)
          · refine g_icmp_lt_f (tgt := 74) C dX11_is_56 (by decide) c14 ?_
            refine g_aload_n C dX11_is_59 rfl 0 rfl ?_
            refine g_aload_n C dX11_is_60 rfl 0 rfl ?_
            refine g_get C (a_98 ad cy _) rfl hin_X11 19 (by decide) hF_X11_99 rfl rfl dX11_is_61 ?_
            refine g_iconst (v := 3) C dX11_is_64 (by decide) ?_
            refine g_iadd C dX11_is_65 ?_
            obtain ⟨r15, σ16, h17, hf⟩ := obp_e hf
            refine g_callVi (As := [.int ((σ11 98 19) + 3)]) (rest := []) C (a_98 ad cy _) rfl (c_X11_look l dC dI ad cy ((σ11 98 19) + 3)) h17 hM_X11_108 cal_X11_look ⟨Nat.zero_le _, Nat.zero_le _⟩ ⟨rfl, rfl⟩ ⟨Nat.le_of_ble_eq_true rfl, Nat.le_of_ble_eq_true rfl⟩ rfl rfl (Nat.le_of_ble_eq_true rfl) dX11_is_66 ?_
            refine g_iload C dX11_is_69 5 rfl ?_
            rcases oi_e hf with ⟨c18, hf⟩ | ⟨c18, hf⟩
            · refine g_icmp_ne_t (tgt := 78) C dX11_is_71 (by decide) c18 ?_
              refine g_iconst (v := 0) C dX11_is_78 (by decide) ?_
              obtain ⟨rfl, rfl⟩ := os_e hf
              exact g_zret C rfl (by decide) dX11_is_79
            · refine g_icmp_ne_f (tgt := 78) C dX11_is_71 (by decide) (Decidable.of_not_not c18) ?_
              exact g_sub [] rfl (fX11_is_b74_ok C σ16 hf)
theorem c_X11_is (l : Launch) (dC : Nat → ClassId) (dI : Nat → Nat → Nat) (ad : Nat → Nat) (cy : Nat → ClassId) (x1 : Int32) (x2 : Int32) (x3 : Int32) (x4 : Int32) (x5 : Int32) : ConI l yX11_is cX11_is 6 (some .boolean) rm_X11_is dC dI ad cy [.ref (ad 98), .int x1, .int x2, .int x3, .int x4, .int x5] (fun σ => fX11_is σ x1 x2 x3 x4 x5) := con_i (own := RX11) (by decide) rfl (Nat.le_of_ble_eq_true rfl) (fun _ _ _ _ _ _ _ _ σ _ _ C hf => fX11_is_ok C σ x1 x2 x3 x4 x5 hf)
theorem cal_X11_is : CalV yX11_is RX11 cX11_is 6 (some .boolean) 5 := ⟨hI_X11_is, hS_X11_is, hIni_X11, hC_X11_is, by decide +kernel⟩
abbrev rm_X11_nameNow : Room := { frames := 2, cells := 0, slots := 0, locals := 46 }
def fX11_nameNow_b49  (σ : S0)  : Option (Int32 × S0) := obp (fX11_is σ ((3 : Int32)) ((103 : Int32)) ((97 : Int32)) ((112 : Int32)) ((0 : Int32))) (fun r1 σ2 => if r1 = 0 then (obp (fX11_is σ2 ((4 : Int32)) ((98 : Int32)) ((101 : Int32)) ((108 : Int32)) ((108 : Int32))) (fun r5 σ6 => if r5 = 0 then (obp (fX11_is σ6 ((4 : Int32)) ((116 : Int32)) ((117 : Int32)) ((110 : Int32)) ((101 : Int32))) (fun r9 σ10 => if r9 = 0 then (obp (fX11_is σ10 ((4 : Int32)) ((102 : Int32)) ((101 : Int32)) ((117 : Int32)) ((100 : Int32))) (fun r13 σ14 => if r13 = 0 then (some ((-4), σ14)) else (some (4, σ14)))) else (some (3, σ10)))) else (some (2, σ6)))) else (some (1, σ2)))
set_option maxHeartbeats 1000000 in
set_option maxRecDepth 100000 in
theorem fX11_nameNow_b49_ok {p : Program} {l : Launch} {e : Env} {s : State} {m : MethodId} {args : Array Value} {below : List Frame} {meth : Method} {c : Code} {dC : Nat → ClassId} {dI : Nat → Nat → Nat} {ad : Nat → Nat} {cy : Nat → ClassId} {sz : Nat} (C : Cx p s m args meth c RX11 cX11_nameNow 1 (some .int) dC dI ad cy sz) {rr : Int32} {ρ : S0}  (σ : S0)   (hf : fX11_nameNow_b49 σ = some (rr, ρ)) : Gw p l e rm_X11_nameNow s m args below meth c (MQ below (QcI dC dI ad cy sz rr ρ) args s 0 0 (AW ad sz)) dC dI ad cy 1 sz 0 0 49 [(0, .ref (ad 98))] [] σ := by
  unfold fX11_nameNow_b49 at hf
  refine g_aload_n C dX11_nameNow_49 rfl 0 rfl ?_
  refine g_iconst (v := 3) C dX11_nameNow_50 (by decide) ?_
  refine g_bipush (v := 103) C dX11_nameNow_51 (by decide) ?_
  refine g_bipush (v := 97) C dX11_nameNow_53 (by decide) ?_
  refine g_bipush (v := 112) C dX11_nameNow_55 (by decide) ?_
  refine g_iconst (v := 0) C dX11_nameNow_57 (by decide) ?_
  obtain ⟨r1, σ2, h3, hf⟩ := obp_e hf
  refine g_callVi (As := [.int 3, .int 103, .int 97, .int 112, .int 0]) (rest := []) C (a_98 ad cy _) rfl (c_X11_is l dC dI ad cy ((3 : Int32)) ((103 : Int32)) ((97 : Int32)) ((112 : Int32)) ((0 : Int32))) h3 hM_X11_112 cal_X11_is ⟨Nat.zero_le _, Nat.zero_le _⟩ ⟨rfl, rfl⟩ ⟨Nat.le_of_ble_eq_true rfl, Nat.le_of_ble_eq_true rfl⟩ rfl rfl (Nat.le_of_ble_eq_true rfl) dX11_nameNow_58 ?_
  rcases oi_e hf with ⟨c4, hf⟩ | ⟨c4, hf⟩
  · refine g_if_eq_t (tgt := 66) C dX11_nameNow_61 (by decide) c4 ?_
    refine g_aload_n C dX11_nameNow_66 rfl 0 rfl ?_
    refine g_iconst (v := 4) C dX11_nameNow_67 (by decide) ?_
    refine g_bipush (v := 98) C dX11_nameNow_68 (by decide) ?_
    refine g_bipush (v := 101) C dX11_nameNow_70 (by decide) ?_
    refine g_bipush (v := 108) C dX11_nameNow_72 (by decide) ?_
    refine g_bipush (v := 108) C dX11_nameNow_74 (by decide) ?_
    obtain ⟨r5, σ6, h7, hf⟩ := obp_e hf
    refine g_callVi (As := [.int 4, .int 98, .int 101, .int 108, .int 108]) (rest := []) C (a_98 ad cy _) rfl (c_X11_is l dC dI ad cy ((4 : Int32)) ((98 : Int32)) ((101 : Int32)) ((108 : Int32)) ((108 : Int32))) h7 hM_X11_112 cal_X11_is ⟨Nat.zero_le _, Nat.zero_le _⟩ ⟨rfl, rfl⟩ ⟨Nat.le_of_ble_eq_true rfl, Nat.le_of_ble_eq_true rfl⟩ rfl rfl (Nat.le_of_ble_eq_true rfl) dX11_nameNow_76 ?_
    rcases oi_e hf with ⟨c8, hf⟩ | ⟨c8, hf⟩
    · refine g_if_eq_t (tgt := 84) C dX11_nameNow_79 (by decide) c8 ?_
      refine g_aload_n C dX11_nameNow_84 rfl 0 rfl ?_
      refine g_iconst (v := 4) C dX11_nameNow_85 (by decide) ?_
      refine g_bipush (v := 116) C dX11_nameNow_86 (by decide) ?_
      refine g_bipush (v := 117) C dX11_nameNow_88 (by decide) ?_
      refine g_bipush (v := 110) C dX11_nameNow_90 (by decide) ?_
      refine g_bipush (v := 101) C dX11_nameNow_92 (by decide) ?_
      obtain ⟨r9, σ10, h11, hf⟩ := obp_e hf
      refine g_callVi (As := [.int 4, .int 116, .int 117, .int 110, .int 101]) (rest := []) C (a_98 ad cy _) rfl (c_X11_is l dC dI ad cy ((4 : Int32)) ((116 : Int32)) ((117 : Int32)) ((110 : Int32)) ((101 : Int32))) h11 hM_X11_112 cal_X11_is ⟨Nat.zero_le _, Nat.zero_le _⟩ ⟨rfl, rfl⟩ ⟨Nat.le_of_ble_eq_true rfl, Nat.le_of_ble_eq_true rfl⟩ rfl rfl (Nat.le_of_ble_eq_true rfl) dX11_nameNow_94 ?_
      rcases oi_e hf with ⟨c12, hf⟩ | ⟨c12, hf⟩
      · refine g_if_eq_t (tgt := 104) C dX11_nameNow_97 (by decide) c12 ?_
        refine g_aload_n C dX11_nameNow_104 rfl 0 rfl ?_
        refine g_iconst (v := 4) C dX11_nameNow_105 (by decide) ?_
        refine g_bipush (v := 102) C dX11_nameNow_106 (by decide) ?_
        refine g_bipush (v := 101) C dX11_nameNow_108 (by decide) ?_
        refine g_bipush (v := 117) C dX11_nameNow_110 (by decide) ?_
        refine g_bipush (v := 100) C dX11_nameNow_112 (by decide) ?_
        obtain ⟨r13, σ14, h15, hf⟩ := obp_e hf
        refine g_callVi (As := [.int 4, .int 102, .int 101, .int 117, .int 100]) (rest := []) C (a_98 ad cy _) rfl (c_X11_is l dC dI ad cy ((4 : Int32)) ((102 : Int32)) ((101 : Int32)) ((117 : Int32)) ((100 : Int32))) h15 hM_X11_112 cal_X11_is ⟨Nat.zero_le _, Nat.zero_le _⟩ ⟨rfl, rfl⟩ ⟨Nat.le_of_ble_eq_true rfl, Nat.le_of_ble_eq_true rfl⟩ rfl rfl (Nat.le_of_ble_eq_true rfl) dX11_nameNow_114 ?_
        rcases oi_e hf with ⟨c16, hf⟩ | ⟨c16, hf⟩
        · refine g_if_eq_t (tgt := 124) C dX11_nameNow_117 (by decide) c16 ?_
          refine g_bipush (v := (-4)) C dX11_nameNow_124 (by decide) ?_
          obtain ⟨rfl, rfl⟩ := os_e hf
          exact g_iret C rfl dX11_nameNow_126
        · refine g_if_eq_f (tgt := 124) C dX11_nameNow_117 (by decide) c16 ?_
          refine g_iconst (v := 4) C dX11_nameNow_120 (by decide) ?_
          refine g_goto (tgt := 126) C dX11_nameNow_121 (by decide) ?_
          obtain ⟨rfl, rfl⟩ := os_e hf
          exact g_iret C rfl dX11_nameNow_126
      · refine g_if_eq_f (tgt := 104) C dX11_nameNow_97 (by decide) c12 ?_
        refine g_iconst (v := 3) C dX11_nameNow_100 (by decide) ?_
        refine g_goto (tgt := 126) C dX11_nameNow_101 (by decide) ?_
        obtain ⟨rfl, rfl⟩ := os_e hf
        exact g_iret C rfl dX11_nameNow_126
    · refine g_if_eq_f (tgt := 84) C dX11_nameNow_79 (by decide) c8 ?_
      refine g_iconst (v := 2) C dX11_nameNow_82 (by decide) ?_
      obtain ⟨rfl, rfl⟩ := os_e hf
      exact g_iret C rfl dX11_nameNow_83
  · refine g_if_eq_f (tgt := 66) C dX11_nameNow_61 (by decide) c4 ?_
    refine g_iconst (v := 1) C dX11_nameNow_64 (by decide) ?_
    obtain ⟨rfl, rfl⟩ := os_e hf
    exact g_iret C rfl dX11_nameNow_65
def fX11_nameNow (σ : S0)  : Option (Int32 × S0) := obp (fX11_is σ ((6 : Int32)) ((104 : Int32)) ((111 : Int32)) ((117 : Int32)) ((115 : Int32))) (fun r1 σ2 => if r1 = 0 then (fX11_nameNow_b49 σ2) else (obp (fX11_look σ2 ((σ2 98 19) + 4)) (fun r5 σ6 => if ¬ r5 = 101 then (fX11_nameNow_b49 σ6) else (obp (fX11_look σ6 ((σ6 98 19) + 5)) (fun r9 σ10 => if ¬ r9 = 115 then (fX11_nameNow_b49 σ10) else (some (0, σ10)))))))
set_option maxHeartbeats 1000000 in
set_option maxRecDepth 100000 in
theorem fX11_nameNow_ok {p : Program} {l : Launch} {e : Env} {s : State} {m : MethodId} {args : Array Value} {below : List Frame} {meth : Method} {c : Code} {dC : Nat → ClassId} {dI : Nat → Nat → Nat} {ad : Nat → Nat} {cy : Nat → ClassId} {sz : Nat} (C : Cx p s m args meth c RX11 cX11_nameNow 1 (some .int) dC dI ad cy sz) {rr : Int32} {ρ : S0} (σ : S0)   (hf : fX11_nameNow σ = some (rr, ρ)) : Gw p l e rm_X11_nameNow s m args below meth c (MQ below (QcI dC dI ad cy sz rr ρ) args s 0 0 (AW ad sz)) dC dI ad cy 1 sz 0 0 0 [(0, .ref (ad 98))] [] σ := by
  unfold fX11_nameNow at hf
  refine g_aload_n C dX11_nameNow_0 rfl 0 rfl ?_
  refine g_bipush (v := 6) C dX11_nameNow_1 (by decide) ?_
  refine g_bipush (v := 104) C dX11_nameNow_3 (by decide) ?_
  refine g_bipush (v := 111) C dX11_nameNow_5 (by decide) ?_
  refine g_bipush (v := 117) C dX11_nameNow_7 (by decide) ?_
  refine g_bipush (v := 115) C dX11_nameNow_9 (by decide) ?_
  obtain ⟨r1, σ2, h3, hf⟩ := obp_e hf
  refine g_callVi (As := [.int 6, .int 104, .int 111, .int 117, .int 115]) (rest := []) C (a_98 ad cy _) rfl (c_X11_is l dC dI ad cy ((6 : Int32)) ((104 : Int32)) ((111 : Int32)) ((117 : Int32)) ((115 : Int32))) h3 hM_X11_112 cal_X11_is ⟨Nat.zero_le _, Nat.zero_le _⟩ ⟨rfl, rfl⟩ ⟨Nat.le_of_ble_eq_true rfl, Nat.le_of_ble_eq_true rfl⟩ rfl rfl (Nat.le_of_ble_eq_true rfl) dX11_nameNow_11 ?_
  rcases oi_e hf with ⟨c4, hf⟩ | ⟨c4, hf⟩
  · refine g_if_eq_t (tgt := 49) C dX11_nameNow_14 (by decide) c4 ?_
    exact g_sub [0] rfl (fX11_nameNow_b49_ok C σ2 hf)
  · refine g_if_eq_f (tgt := 49) C dX11_nameNow_14 (by decide) c4 ?_
    refine g_aload_n C dX11_nameNow_17 rfl 0 rfl ?_
    refine g_aload_n C dX11_nameNow_18 rfl 0 rfl ?_
    refine g_get C (a_98 ad cy _) rfl hin_X11 19 (by decide) hF_X11_99 rfl rfl dX11_nameNow_19 ?_
    refine g_iconst (v := 4) C dX11_nameNow_22 (by decide) ?_
    refine g_iadd C dX11_nameNow_23 ?_
    obtain ⟨r5, σ6, h7, hf⟩ := obp_e hf
    refine g_callVi (As := [.int ((σ2 98 19) + 4)]) (rest := []) C (a_98 ad cy _) rfl (c_X11_look l dC dI ad cy ((σ2 98 19) + 4)) h7 hM_X11_108 cal_X11_look ⟨Nat.zero_le _, Nat.zero_le _⟩ ⟨rfl, rfl⟩ ⟨Nat.le_of_ble_eq_true rfl, Nat.le_of_ble_eq_true rfl⟩ rfl rfl (Nat.le_of_ble_eq_true rfl) dX11_nameNow_24 ?_
    refine g_bipush (v := 101) C dX11_nameNow_27 (by decide) ?_
    rcases oi_e hf with ⟨c8, hf⟩ | ⟨c8, hf⟩
    · refine g_icmp_ne_t (tgt := 49) C dX11_nameNow_29 (by decide) c8 ?_
      exact g_sub [0] rfl (fX11_nameNow_b49_ok C σ6 hf)
    · refine g_icmp_ne_f (tgt := 49) C dX11_nameNow_29 (by decide) (Decidable.of_not_not c8) ?_
      refine g_aload_n C dX11_nameNow_32 rfl 0 rfl ?_
      refine g_aload_n C dX11_nameNow_33 rfl 0 rfl ?_
      refine g_get C (a_98 ad cy _) rfl hin_X11 19 (by decide) hF_X11_99 rfl rfl dX11_nameNow_34 ?_
      refine g_iconst (v := 5) C dX11_nameNow_37 (by decide) ?_
      refine g_iadd C dX11_nameNow_38 ?_
      obtain ⟨r9, σ10, h11, hf⟩ := obp_e hf
      refine g_callVi (As := [.int ((σ6 98 19) + 5)]) (rest := []) C (a_98 ad cy _) rfl (c_X11_look l dC dI ad cy ((σ6 98 19) + 5)) h11 hM_X11_108 cal_X11_look ⟨Nat.zero_le _, Nat.zero_le _⟩ ⟨rfl, rfl⟩ ⟨Nat.le_of_ble_eq_true rfl, Nat.le_of_ble_eq_true rfl⟩ rfl rfl (Nat.le_of_ble_eq_true rfl) dX11_nameNow_39 ?_
      refine g_bipush (v := 115) C dX11_nameNow_42 (by decide) ?_
      rcases oi_e hf with ⟨c12, hf⟩ | ⟨c12, hf⟩
      · refine g_icmp_ne_t (tgt := 49) C dX11_nameNow_44 (by decide) c12 ?_
        exact g_sub [0] rfl (fX11_nameNow_b49_ok C σ10 hf)
      · refine g_icmp_ne_f (tgt := 49) C dX11_nameNow_44 (by decide) (Decidable.of_not_not c12) ?_
        refine g_iconst (v := 0) C dX11_nameNow_47 (by decide) ?_
        obtain ⟨rfl, rfl⟩ := os_e hf
        exact g_iret C rfl dX11_nameNow_48
theorem c_X11_nameNow (l : Launch) (dC : Nat → ClassId) (dI : Nat → Nat → Nat) (ad : Nat → Nat) (cy : Nat → ClassId)  : ConI l yX11_nameNow cX11_nameNow 1 (some .int) rm_X11_nameNow dC dI ad cy [.ref (ad 98)] (fun σ => fX11_nameNow σ) := con_i (own := RX11) (by decide) rfl (Nat.le_of_ble_eq_true rfl) (fun _ _ _ _ _ _ _ _ σ _ _ C hf => fX11_nameNow_ok C σ  hf)
theorem cal_X11_nameNow : CalV yX11_nameNow RX11 cX11_nameNow 1 (some .int) 0 := ⟨hI_X11_nameNow, hS_X11_nameNow, hIni_X11, hC_X11_nameNow, by decide +kernel⟩
abbrev rm_X11_withNow : Room := { frames := 2, cells := 0, slots := 0, locals := 46 }
def fX11_withNow (σ : S0)  : Option (Int32 × S0) := obp (fX11_is σ ((4 : Int32)) ((104 : Int32)) ((97 : Int32)) ((108 : Int32)) ((102 : Int32))) (fun r1 σ2 => if r1 = 0 then (obp (fX11_is σ2 ((4 : Int32)) ((115 : Int32)) ((104 : Int32)) ((117 : Int32)) ((116 : Int32))) (fun r5 σ6 => if r5 = 0 then (some ((-4), σ6)) else (some (11, σ6)))) else (some (10, σ2)))
set_option maxHeartbeats 1000000 in
set_option maxRecDepth 100000 in
theorem fX11_withNow_ok {p : Program} {l : Launch} {e : Env} {s : State} {m : MethodId} {args : Array Value} {below : List Frame} {meth : Method} {c : Code} {dC : Nat → ClassId} {dI : Nat → Nat → Nat} {ad : Nat → Nat} {cy : Nat → ClassId} {sz : Nat} (C : Cx p s m args meth c RX11 cX11_withNow 1 (some .int) dC dI ad cy sz) {rr : Int32} {ρ : S0} (σ : S0)   (hf : fX11_withNow σ = some (rr, ρ)) : Gw p l e rm_X11_withNow s m args below meth c (MQ below (QcI dC dI ad cy sz rr ρ) args s 0 0 (AW ad sz)) dC dI ad cy 1 sz 0 0 0 [(0, .ref (ad 98))] [] σ := by
  unfold fX11_withNow at hf
  refine g_aload_n C dX11_withNow_0 rfl 0 rfl ?_
  refine g_iconst (v := 4) C dX11_withNow_1 (by decide) ?_
  refine g_bipush (v := 104) C dX11_withNow_2 (by decide) ?_
  refine g_bipush (v := 97) C dX11_withNow_4 (by decide) ?_
  refine g_bipush (v := 108) C dX11_withNow_6 (by decide) ?_
  refine g_bipush (v := 102) C dX11_withNow_8 (by decide) ?_
  obtain ⟨r1, σ2, h3, hf⟩ := obp_e hf
  refine g_callVi (As := [.int 4, .int 104, .int 97, .int 108, .int 102]) (rest := []) C (a_98 ad cy _) rfl (c_X11_is l dC dI ad cy ((4 : Int32)) ((104 : Int32)) ((97 : Int32)) ((108 : Int32)) ((102 : Int32))) h3 hM_X11_112 cal_X11_is ⟨Nat.zero_le _, Nat.zero_le _⟩ ⟨rfl, rfl⟩ ⟨Nat.le_of_ble_eq_true rfl, Nat.le_of_ble_eq_true rfl⟩ rfl rfl (Nat.le_of_ble_eq_true rfl) dX11_withNow_10 ?_
  rcases oi_e hf with ⟨c4, hf⟩ | ⟨c4, hf⟩
  · refine g_if_eq_t (tgt := 21) C dX11_withNow_13 (by decide) c4 ?_
    refine g_aload_n C dX11_withNow_21 rfl 0 rfl ?_
    refine g_iconst (v := 4) C dX11_withNow_22 (by decide) ?_
    refine g_bipush (v := 115) C dX11_withNow_23 (by decide) ?_
    refine g_bipush (v := 104) C dX11_withNow_25 (by decide) ?_
    refine g_bipush (v := 117) C dX11_withNow_27 (by decide) ?_
    refine g_bipush (v := 116) C dX11_withNow_29 (by decide) ?_
    obtain ⟨r5, σ6, h7, hf⟩ := obp_e hf
    refine g_callVi (As := [.int 4, .int 115, .int 104, .int 117, .int 116]) (rest := []) C (a_98 ad cy _) rfl (c_X11_is l dC dI ad cy ((4 : Int32)) ((115 : Int32)) ((104 : Int32)) ((117 : Int32)) ((116 : Int32))) h7 hM_X11_112 cal_X11_is ⟨Nat.zero_le _, Nat.zero_le _⟩ ⟨rfl, rfl⟩ ⟨Nat.le_of_ble_eq_true rfl, Nat.le_of_ble_eq_true rfl⟩ rfl rfl (Nat.le_of_ble_eq_true rfl) dX11_withNow_31 ?_
    rcases oi_e hf with ⟨c8, hf⟩ | ⟨c8, hf⟩
    · refine g_if_eq_t (tgt := 42) C dX11_withNow_34 (by decide) c8 ?_
      refine g_bipush (v := (-4)) C dX11_withNow_42 (by decide) ?_
      obtain ⟨rfl, rfl⟩ := os_e hf
      exact g_iret C rfl dX11_withNow_44
    · refine g_if_eq_f (tgt := 42) C dX11_withNow_34 (by decide) c8 ?_
      refine g_bipush (v := 11) C dX11_withNow_37 (by decide) ?_
      refine g_goto (tgt := 44) C dX11_withNow_39 (by decide) ?_
      obtain ⟨rfl, rfl⟩ := os_e hf
      exact g_iret C rfl dX11_withNow_44
  · refine g_if_eq_f (tgt := 21) C dX11_withNow_13 (by decide) c4 ?_
    refine g_bipush (v := 10) C dX11_withNow_16 (by decide) ?_
    refine g_goto (tgt := 44) C dX11_withNow_18 (by decide) ?_
    obtain ⟨rfl, rfl⟩ := os_e hf
    exact g_iret C rfl dX11_withNow_44
theorem c_X11_withNow (l : Launch) (dC : Nat → ClassId) (dI : Nat → Nat → Nat) (ad : Nat → Nat) (cy : Nat → ClassId)  : ConI l yX11_withNow cX11_withNow 1 (some .int) rm_X11_withNow dC dI ad cy [.ref (ad 98)] (fun σ => fX11_withNow σ) := con_i (own := RX11) (by decide) rfl (Nat.le_of_ble_eq_true rfl) (fun _ _ _ _ _ _ _ _ σ _ _ C hf => fX11_withNow_ok C σ  hf)
theorem cal_X11_withNow : CalV yX11_withNow RX11 cX11_withNow 1 (some .int) 0 := ⟨hI_X11_withNow, hS_X11_withNow, hIni_X11, hC_X11_withNow, by decide +kernel⟩
abbrev rm_X11_next : Room := { frames := 1, cells := 0, slots := 0, locals := 25 }
def fX11_next_b260  (σ : S0) (t0 : Int32) : Option (Int32 × S0) := obp (fX11_needs σ t0 ((1 : Int32))) (fun r1 σ2 => ol ((σ2 98 18) + 1) (fun v4 => ol (su σ2 98 18 v4) (fun σ5 => some (0, σ5))))
set_option maxHeartbeats 1000000 in
set_option maxRecDepth 100000 in
theorem fX11_next_b260_ok {p : Program} {l : Launch} {e : Env} {s : State} {m : MethodId} {args : Array Value} {below : List Frame} {meth : Method} {c : Code} {dC : Nat → ClassId} {dI : Nat → Nat → Nat} {ad : Nat → Nat} {cy : Nat → ClassId} {sz : Nat} (C : Cx p s m args meth c RX11 cX11_next 2 none dC dI ad cy sz) {rr : Int32} {ρ : S0}  (σ : S0) (t0 : Int32)  (hf : fX11_next_b260 σ t0 = some (rr, ρ)) : Gw p l e rm_X11_next s m args below meth c (MQ below (QcV dC dI ad cy sz ρ) args s 0 0 (AW ad sz)) dC dI ad cy 2 sz 0 0 260 [(0, .ref (ad 98))] [.int t0, .ref (ad 98)] σ := by
  unfold fX11_next_b260 at hf
  refine g_iconst (v := 1) C dX11_next_260 (by decide) ?_
  obtain ⟨r1, σ2, h3, hf⟩ := obp_e hf
  refine g_callVv (As := [.int t0, .int 1]) (rest := []) C (a_98 ad cy _) rfl (c_X11_needs l dC dI ad cy t0 ((1 : Int32))) h3 hM_X11_130 cal_X11_needs ⟨Nat.zero_le _, Nat.zero_le _⟩ ⟨rfl, rfl⟩ ⟨Nat.le_of_ble_eq_true rfl, Nat.le_of_ble_eq_true rfl⟩ rfl rfl (Nat.le_of_ble_eq_true rfl) dX11_next_261 ?_
  refine g_aload_n C dX11_next_264 rfl 0 rfl ?_
  refine g_dup C dX11_next_265 rfl ?_
  refine g_get C (a_98 ad cy _) rfl hin_X11 18 (by decide) hF_X11_105 rfl rfl dX11_next_266 ?_
  refine g_iconst (v := 1) C dX11_next_269 (by decide) ?_
  refine g_iadd C dX11_next_270 ?_
  obtain ⟨v4, ev4, hf⟩ := ol_e hf
  refine g_nm ev4 ?_
  obtain ⟨σ5, eσ5, hf⟩ := ol_e hf
  refine g_put (ty := .int) C (a_98 ad cy _) rfl hin_X11 tyX11 tyX11_ok nmX11 18 (by decide) hF_X11_105 rfl rfl (by decide +kernel) rfl rfl (Nat.le_of_ble_eq_true rfl) (p_98_18 ad cy _ _) eσ5 dX11_next_271 ?_
  obtain ⟨rfl, rfl⟩ := os_e hf
  exact g_vret C rfl dX11_next_274
def fX11_next_b82 (sf_82 : S0 → Option (Int32 × S0)) (σ : S0)  : Option (Int32 × S0) := obp (fX11_look σ (σ 98 18)) (fun r1 σ2 => obp (fX11_in σ2 r1.toInt64 ((97 : Int64)) ((122 : Int64))) (fun r4 σ5 => if r4 = 0 then (some (0, σ5)) else (ol ((σ5 98 18) + 1) (fun v8 => ol (su σ5 98 18 v8) (fun σ9 => sf_82 σ9)))))
set_option maxHeartbeats 1000000 in
set_option maxRecDepth 100000 in
theorem fX11_next_b82_ok {p : Program} {l : Launch} {e : Env} {s : State} {m : MethodId} {args : Array Value} {below : List Frame} {meth : Method} {c : Code} {dC : Nat → ClassId} {dI : Nat → Nat → Nat} {ad : Nat → Nat} {cy : Nat → ClassId} {sz : Nat} (C : Cx p s m args meth c RX11 cX11_next 2 none dC dI ad cy sz) {rr : Int32} {ρ : S0} (sf_82 : S0 → Option (Int32 × S0)) (hs_82 : ∀ (σ : S0)  , sf_82 σ = some (rr, ρ) → Gw p l e rm_X11_next s m args below meth c (MQ below (QcV dC dI ad cy sz ρ) args s 0 0 (AW ad sz)) dC dI ad cy 2 sz 0 0 82 [(0, .ref (ad 98))] [] σ) (σ : S0)   (hf : fX11_next_b82 sf_82 σ = some (rr, ρ)) : Gw p l e rm_X11_next s m args below meth c (MQ below (QcV dC dI ad cy sz ρ) args s 0 0 (AW ad sz)) dC dI ad cy 2 sz 0 0 82 [(0, .ref (ad 98))] [] σ := by
  unfold fX11_next_b82 at hf
  refine g_aload_n C dX11_next_82 rfl 0 rfl ?_
  refine g_aload_n C dX11_next_83 rfl 0 rfl ?_
  refine g_get C (a_98 ad cy _) rfl hin_X11 18 (by decide) hF_X11_105 rfl rfl dX11_next_84 ?_
  obtain ⟨r1, σ2, h3, hf⟩ := obp_e hf
  refine g_callVi (As := [.int (σ 98 18)]) (rest := []) C (a_98 ad cy _) rfl (c_X11_look l dC dI ad cy (σ 98 18)) h3 hM_X11_108 cal_X11_look ⟨Nat.zero_le _, Nat.zero_le _⟩ ⟨rfl, rfl⟩ ⟨Nat.le_of_ble_eq_true rfl, Nat.le_of_ble_eq_true rfl⟩ rfl rfl (Nat.le_of_ble_eq_true rfl) dX11_next_87 ?_
  refine g_i2l C dX11_next_90 ?_
  refine g_ldc2 (v := 97) C dX11_next_91 hK_X11_119 ?_
  refine g_ldc2 (v := 122) C dX11_next_94 hK_X11_121 ?_
  obtain ⟨r4, σ5, h6, hf⟩ := obp_e hf
  refine g_callSi (As := [.long r1.toInt64, .long 97, .long 122]) (rest := []) C (c_X11_in l dC dI ad cy r1.toInt64 ((97 : Int64)) ((122 : Int64))) h6 hM_X11_92 cal_X11_in ⟨Nat.zero_le _, Nat.zero_le _⟩ ⟨rfl, rfl⟩ ⟨Nat.le_of_ble_eq_true rfl, Nat.le_of_ble_eq_true rfl⟩ rfl rfl (Nat.le_of_ble_eq_true rfl) dX11_next_97 ?_
  rcases oi_e hf with ⟨c7, hf⟩ | ⟨c7, hf⟩
  · refine g_if_eq_t (tgt := 274) C dX11_next_100 (by decide) c7 ?_
    obtain ⟨rfl, rfl⟩ := os_e hf
    exact g_vret C rfl dX11_next_274
  · refine g_if_eq_f (tgt := 274) C dX11_next_100 (by decide) c7 ?_
    refine g_aload_n C dX11_next_103 rfl 0 rfl ?_
    refine g_dup C dX11_next_104 rfl ?_
    refine g_get C (a_98 ad cy _) rfl hin_X11 18 (by decide) hF_X11_105 rfl rfl dX11_next_105 ?_
    refine g_iconst (v := 1) C dX11_next_108 (by decide) ?_
    refine g_iadd C dX11_next_109 ?_
    obtain ⟨v8, ev8, hf⟩ := ol_e hf
    refine g_nm ev8 ?_
    obtain ⟨σ9, eσ9, hf⟩ := ol_e hf
    refine g_put (ty := .int) C (a_98 ad cy _) rfl hin_X11 tyX11 tyX11_ok nmX11 18 (by decide) hF_X11_105 rfl rfl (by decide +kernel) rfl rfl (Nat.le_of_ble_eq_true rfl) (p_98_18 ad cy _ _) eσ9 dX11_next_110 ?_
    refine g_goto (tgt := 82) C dX11_next_113 (by decide) ?_
    exact g_sub [0] rfl (hs_82 σ9 hf)
def fX11_next_h82  : Nat → S0 → Option (Int32 × S0)
  | 0 => fun _ => none
  | n + 1 => fun σ => fX11_next_b82  (fX11_next_h82  n) σ
set_option maxHeartbeats 1000000 in
set_option maxRecDepth 100000 in
theorem fX11_next_h82_ok {p : Program} {l : Launch} {e : Env} {s : State} {m : MethodId} {args : Array Value} {below : List Frame} {meth : Method} {c : Code} {dC : Nat → ClassId} {dI : Nat → Nat → Nat} {ad : Nat → Nat} {cy : Nat → ClassId} {sz : Nat} (C : Cx p s m args meth c RX11 cX11_next 2 none dC dI ad cy sz) {rr : Int32} {ρ : S0}  : ∀ (n : Nat) (σ : S0)   (_hf : fX11_next_h82  n σ = some (rr, ρ)), Gw p l e rm_X11_next s m args below meth c (MQ below (QcV dC dI ad cy sz ρ) args s 0 0 (AW ad sz)) dC dI ad cy 2 sz 0 0 82 [(0, .ref (ad 98))] [] σ
  | 0, _, hf => by cases hf
  | n + 1, σ, hf => fX11_next_b82_ok C  (fX11_next_h82  n) (fX11_next_h82_ok C  n) σ hf
def fX11_next_b201 (sf_140 : S0 → Option (Int32 × S0)) (σ : S0) (t0 : Int32) : Option (Int32 × S0) := ol (su σ 98 21 t0) (fun σ1 => ol ((σ1 98 18) + 1) (fun v2 => ol (su σ1 98 18 v2) (fun σ3 => sf_140 σ3)))
set_option maxHeartbeats 1000000 in
set_option maxRecDepth 100000 in
theorem fX11_next_b201_ok {p : Program} {l : Launch} {e : Env} {s : State} {m : MethodId} {args : Array Value} {below : List Frame} {meth : Method} {c : Code} {dC : Nat → ClassId} {dI : Nat → Nat → Nat} {ad : Nat → Nat} {cy : Nat → ClassId} {sz : Nat} (C : Cx p s m args meth c RX11 cX11_next 2 none dC dI ad cy sz) {rr : Int32} {ρ : S0} (sf_140 : S0 → Option (Int32 × S0)) (hs_140 : ∀ (σ : S0)  , sf_140 σ = some (rr, ρ) → Gw p l e rm_X11_next s m args below meth c (MQ below (QcV dC dI ad cy sz ρ) args s 0 0 (AW ad sz)) dC dI ad cy 2 sz 0 0 140 [(0, .ref (ad 98))] [] σ) (σ : S0) (t0 : Int32)  (hf : fX11_next_b201 sf_140 σ t0 = some (rr, ρ)) : Gw p l e rm_X11_next s m args below meth c (MQ below (QcV dC dI ad cy sz ρ) args s 0 0 (AW ad sz)) dC dI ad cy 2 sz 0 0 201 [(0, .ref (ad 98))] [.int t0, .ref (ad 98)] σ := by
  unfold fX11_next_b201 at hf
  obtain ⟨σ1, eσ1, hf⟩ := ol_e hf
  refine g_put (ty := .int) C (a_98 ad cy _) rfl hin_X11 tyX11 tyX11_ok nmX11 21 (by decide) hF_X11_127 rfl rfl (by decide +kernel) rfl rfl (Nat.le_of_ble_eq_true rfl) (p_98_21 ad cy _ _) eσ1 dX11_next_201 ?_
  refine g_aload_n C dX11_next_204 rfl 0 rfl ?_
  refine g_dup C dX11_next_205 rfl ?_
  refine g_get C (a_98 ad cy _) rfl hin_X11 18 (by decide) hF_X11_105 rfl rfl dX11_next_206 ?_
  refine g_iconst (v := 1) C dX11_next_209 (by decide) ?_
  refine g_iadd C dX11_next_210 ?_
  obtain ⟨v2, ev2, hf⟩ := ol_e hf
  refine g_nm ev2 ?_
  obtain ⟨σ3, eσ3, hf⟩ := ol_e hf
  refine g_put (ty := .int) C (a_98 ad cy _) rfl hin_X11 tyX11 tyX11_ok nmX11 18 (by decide) hF_X11_105 rfl rfl (by decide +kernel) rfl rfl (Nat.le_of_ble_eq_true rfl) (p_98_18 ad cy _ _) eσ3 dX11_next_211 ?_
  refine g_goto (tgt := 140) C dX11_next_214 (by decide) ?_
  exact g_sub [0] rfl (hs_140 σ3 hf)
def fX11_next_b236  (σ : S0) (t0 : Int32) : Option (Int32 × S0) := obp (fX11_needs σ t0 ((1 : Int32))) (fun r1 σ2 => some (0, σ2))
set_option maxHeartbeats 1000000 in
set_option maxRecDepth 100000 in
theorem fX11_next_b236_ok {p : Program} {l : Launch} {e : Env} {s : State} {m : MethodId} {args : Array Value} {below : List Frame} {meth : Method} {c : Code} {dC : Nat → ClassId} {dI : Nat → Nat → Nat} {ad : Nat → Nat} {cy : Nat → ClassId} {sz : Nat} (C : Cx p s m args meth c RX11 cX11_next 2 none dC dI ad cy sz) {rr : Int32} {ρ : S0}  (σ : S0) (t0 : Int32)  (hf : fX11_next_b236 σ t0 = some (rr, ρ)) : Gw p l e rm_X11_next s m args below meth c (MQ below (QcV dC dI ad cy sz ρ) args s 0 0 (AW ad sz)) dC dI ad cy 2 sz 0 0 236 [] [.int t0, .ref (ad 98)] σ := by
  unfold fX11_next_b236 at hf
  refine g_iconst (v := 1) C dX11_next_236 (by decide) ?_
  obtain ⟨r1, σ2, h3, hf⟩ := obp_e hf
  refine g_callVv (As := [.int t0, .int 1]) (rest := []) C (a_98 ad cy _) rfl (c_X11_needs l dC dI ad cy t0 ((1 : Int32))) h3 hM_X11_130 cal_X11_needs ⟨Nat.zero_le _, Nat.zero_le _⟩ ⟨rfl, rfl⟩ ⟨Nat.le_of_ble_eq_true rfl, Nat.le_of_ble_eq_true rfl⟩ rfl rfl (Nat.le_of_ble_eq_true rfl) dX11_next_237 ?_
  refine g_goto (tgt := 274) C dX11_next_240 (by decide) ?_
  obtain ⟨rfl, rfl⟩ := os_e hf
  exact g_vret C rfl dX11_next_274
def fX11_next_b140 (sf_140 : S0 → Option (Int32 × S0)) (σ : S0)  : Option (Int32 × S0) := obp (fX11_look σ (σ 98 18)) (fun r1 σ2 => obp (fX11_in σ2 r1.toInt64 ((48 : Int64)) ((57 : Int64))) (fun r4 σ5 => if r4 = 0 then (if (2 : Int32) < ((σ5 98 18) - (σ5 98 19)) then (fX11_next_b236 σ5 0) else (fX11_next_b236 σ5 1)) else (if (2 : Int32) ≤ ((σ5 98 18) - (σ5 98 19)) then (fX11_next_b201 sf_140 σ5 (σ5 98 21)) else (obp (fX11_look σ5 (σ5 98 18)) (fun r10 σ11 => fX11_next_b201 sf_140 σ11 (((10 * (σ5 98 21)) + r10) - 48))))))
set_option maxHeartbeats 1000000 in
set_option maxRecDepth 100000 in
theorem fX11_next_b140_ok {p : Program} {l : Launch} {e : Env} {s : State} {m : MethodId} {args : Array Value} {below : List Frame} {meth : Method} {c : Code} {dC : Nat → ClassId} {dI : Nat → Nat → Nat} {ad : Nat → Nat} {cy : Nat → ClassId} {sz : Nat} (C : Cx p s m args meth c RX11 cX11_next 2 none dC dI ad cy sz) {rr : Int32} {ρ : S0} (sf_140 : S0 → Option (Int32 × S0)) (hs_140 : ∀ (σ : S0)  , sf_140 σ = some (rr, ρ) → Gw p l e rm_X11_next s m args below meth c (MQ below (QcV dC dI ad cy sz ρ) args s 0 0 (AW ad sz)) dC dI ad cy 2 sz 0 0 140 [(0, .ref (ad 98))] [] σ) (σ : S0)   (hf : fX11_next_b140 sf_140 σ = some (rr, ρ)) : Gw p l e rm_X11_next s m args below meth c (MQ below (QcV dC dI ad cy sz ρ) args s 0 0 (AW ad sz)) dC dI ad cy 2 sz 0 0 140 [(0, .ref (ad 98))] [] σ := by
  unfold fX11_next_b140 at hf
  refine g_aload_n C dX11_next_140 rfl 0 rfl ?_
  refine g_aload_n C dX11_next_141 rfl 0 rfl ?_
  refine g_get C (a_98 ad cy _) rfl hin_X11 18 (by decide) hF_X11_105 rfl rfl dX11_next_142 ?_
  obtain ⟨r1, σ2, h3, hf⟩ := obp_e hf
  refine g_callVi (As := [.int (σ 98 18)]) (rest := []) C (a_98 ad cy _) rfl (c_X11_look l dC dI ad cy (σ 98 18)) h3 hM_X11_108 cal_X11_look ⟨Nat.zero_le _, Nat.zero_le _⟩ ⟨rfl, rfl⟩ ⟨Nat.le_of_ble_eq_true rfl, Nat.le_of_ble_eq_true rfl⟩ rfl rfl (Nat.le_of_ble_eq_true rfl) dX11_next_145 ?_
  refine g_i2l C dX11_next_148 ?_
  refine g_ldc2 (v := 48) C dX11_next_149 hK_X11_123 ?_
  refine g_ldc2 (v := 57) C dX11_next_152 hK_X11_125 ?_
  obtain ⟨r4, σ5, h6, hf⟩ := obp_e hf
  refine g_callSi (As := [.long r1.toInt64, .long 48, .long 57]) (rest := []) C (c_X11_in l dC dI ad cy r1.toInt64 ((48 : Int64)) ((57 : Int64))) h6 hM_X11_92 cal_X11_in ⟨Nat.zero_le _, Nat.zero_le _⟩ ⟨rfl, rfl⟩ ⟨Nat.le_of_ble_eq_true rfl, Nat.le_of_ble_eq_true rfl⟩ rfl rfl (Nat.le_of_ble_eq_true rfl) dX11_next_155 ?_
  rcases oi_e hf with ⟨c7, hf⟩ | ⟨c7, hf⟩
  · refine g_if_eq_t (tgt := 217) C dX11_next_158 (by decide) c7 ?_
    refine g_aload_n C dX11_next_217 rfl 0 rfl ?_
    refine g_aload_n C dX11_next_218 rfl 0 rfl ?_
    refine g_get C (a_98 ad cy _) rfl hin_X11 18 (by decide) hF_X11_105 rfl rfl dX11_next_219 ?_
    refine g_aload_n C dX11_next_222 rfl 0 rfl ?_
    refine g_get C (a_98 ad cy _) rfl hin_X11 19 (by decide) hF_X11_99 rfl rfl dX11_next_223 ?_
    refine g_isub C dX11_next_226 ?_
    refine g_iconst (v := 2) C dX11_next_227 (by decide) ?_
    rcases oi_e hf with ⟨c8, hf⟩ | ⟨c8, hf⟩
    · refine g_icmp_gt_t (tgt := 235) C dX11_next_228 (by decide) c8 ?_
      refine g_iconst (v := 0) C dX11_next_235 (by decide) ?_
      exact g_sub [] rfl (fX11_next_b236_ok C σ5 0 hf)
    · refine g_icmp_gt_f (tgt := 235) C dX11_next_228 (by decide) c8 ?_
      refine g_iconst (v := 1) C dX11_next_231 (by decide) ?_
      refine g_goto (tgt := 236) C dX11_next_232 (by decide) ?_
      exact g_sub [] rfl (fX11_next_b236_ok C σ5 1 hf)
  · refine g_if_eq_f (tgt := 217) C dX11_next_158 (by decide) c7 ?_
    refine g_aload_n C dX11_next_161 rfl 0 rfl ?_
    refine g_aload_n C dX11_next_162 rfl 0 rfl ?_
    refine g_get C (a_98 ad cy _) rfl hin_X11 18 (by decide) hF_X11_105 rfl rfl dX11_next_163 ?_
    refine g_aload_n C dX11_next_166 rfl 0 rfl ?_
    refine g_get C (a_98 ad cy _) rfl hin_X11 19 (by decide) hF_X11_99 rfl rfl dX11_next_167 ?_
    refine g_isub C dX11_next_170 ?_
    refine g_iconst (v := 2) C dX11_next_171 (by decide) ?_
    rcases oi_e hf with ⟨c9, hf⟩ | ⟨c9, hf⟩
    · refine g_icmp_ge_t (tgt := 197) C dX11_next_172 (by decide) c9 ?_
      refine g_aload_n C dX11_next_197 rfl 0 rfl ?_
      refine g_get C (a_98 ad cy _) rfl hin_X11 21 (by decide) hF_X11_127 rfl rfl dX11_next_198 ?_
      exact g_sub [0] rfl (fX11_next_b201_ok C sf_140 hs_140 σ5 (σ5 98 21) hf)
    · refine g_icmp_ge_f (tgt := 197) C dX11_next_172 (by decide) c9 ?_
      refine g_bipush (v := 10) C dX11_next_175 (by decide) ?_
      refine g_aload_n C dX11_next_177 rfl 0 rfl ?_
      refine g_get C (a_98 ad cy _) rfl hin_X11 21 (by decide) hF_X11_127 rfl rfl dX11_next_178 ?_
      refine g_imul C dX11_next_181 ?_
      refine g_aload_n C dX11_next_182 rfl 0 rfl ?_
      refine g_aload_n C dX11_next_183 rfl 0 rfl ?_
      refine g_get C (a_98 ad cy _) rfl hin_X11 18 (by decide) hF_X11_105 rfl rfl dX11_next_184 ?_
      obtain ⟨r10, σ11, h12, hf⟩ := obp_e hf
      refine g_callVi (As := [.int (σ5 98 18)]) (rest := [.int (10 * (σ5 98 21)), .ref (ad 98)]) C (a_98 ad cy _) rfl (c_X11_look l dC dI ad cy (σ5 98 18)) h12 hM_X11_108 cal_X11_look ⟨Nat.zero_le _, Nat.zero_le _⟩ ⟨rfl, rfl⟩ ⟨Nat.le_of_ble_eq_true rfl, Nat.le_of_ble_eq_true rfl⟩ rfl rfl (Nat.le_of_ble_eq_true rfl) dX11_next_187 ?_
      refine g_iadd C dX11_next_190 ?_
      refine g_bipush (v := 48) C dX11_next_191 (by decide) ?_
      refine g_isub C dX11_next_193 ?_
      refine g_goto (tgt := 201) C dX11_next_194 (by decide) ?_
      exact g_sub [0] rfl (fX11_next_b201_ok C sf_140 hs_140 σ11 (((10 * (σ5 98 21)) + r10) - 48) hf)
def fX11_next_h140  : Nat → S0 → Option (Int32 × S0)
  | 0 => fun _ => none
  | n + 1 => fun σ => fX11_next_b140  (fX11_next_h140  n) σ
set_option maxHeartbeats 1000000 in
set_option maxRecDepth 100000 in
theorem fX11_next_h140_ok {p : Program} {l : Launch} {e : Env} {s : State} {m : MethodId} {args : Array Value} {below : List Frame} {meth : Method} {c : Code} {dC : Nat → ClassId} {dI : Nat → Nat → Nat} {ad : Nat → Nat} {cy : Nat → ClassId} {sz : Nat} (C : Cx p s m args meth c RX11 cX11_next 2 none dC dI ad cy sz) {rr : Int32} {ρ : S0}  : ∀ (n : Nat) (σ : S0)   (_hf : fX11_next_h140  n σ = some (rr, ρ)), Gw p l e rm_X11_next s m args below meth c (MQ below (QcV dC dI ad cy sz ρ) args s 0 0 (AW ad sz)) dC dI ad cy 2 sz 0 0 140 [(0, .ref (ad 98))] [] σ
  | 0, _, hf => by cases hf
  | n + 1, σ, hf => fX11_next_b140_ok C  (fX11_next_h140  n) (fX11_next_h140_ok C  n) σ hf
def fX11_next_b8 (sf_8 : S0 → Option (Int32 × S0)) (σ : S0)  : Option (Int32 × S0) := obp (fX11_look σ (σ 98 18)) (fun r1 σ2 => if ¬ r1 = 32 then (ol (σ2 98 18) (fun v5 => ol (su σ2 98 19 v5) (fun σ6 => obp (fX11_look σ6 (σ6 98 18)) (fun r7 σ8 => if 0 ≤ r7 then (obp (fX11_in σ8 r7.toInt64 ((97 : Int64)) ((122 : Int64))) (fun r11 σ12 => if r11 = 0 then (obp (fX11_in σ12 r7.toInt64 ((48 : Int64)) ((57 : Int64))) (fun r15 σ16 => if r15 = 0 then (ol (su σ16 98 20 3) (fun σ19 => if ¬ r7 = 59 then (fX11_next_b260 σ19 0) else (fX11_next_b260 σ19 1))) else (ol (su σ16 98 20 2) (fun σ21 => ol (su σ21 98 21 0) (fun σ22 => fX11_next_h140 400 σ22))))) else (ol (su σ12 98 20 1) (fun σ23 => fX11_next_h82 400 σ23)))) else (ol (su σ8 98 20 0) (fun σ24 => some (0, σ24))))))) else (ol ((σ2 98 18) + 1) (fun v25 => ol (su σ2 98 18 v25) (fun σ26 => sf_8 σ26))))
set_option maxHeartbeats 1000000 in
set_option maxRecDepth 100000 in
theorem fX11_next_b8_ok {p : Program} {l : Launch} {e : Env} {s : State} {m : MethodId} {args : Array Value} {below : List Frame} {meth : Method} {c : Code} {dC : Nat → ClassId} {dI : Nat → Nat → Nat} {ad : Nat → Nat} {cy : Nat → ClassId} {sz : Nat} (C : Cx p s m args meth c RX11 cX11_next 2 none dC dI ad cy sz) {rr : Int32} {ρ : S0} (sf_8 : S0 → Option (Int32 × S0)) (hs_8 : ∀ (σ : S0)  , sf_8 σ = some (rr, ρ) → Gw p l e rm_X11_next s m args below meth c (MQ below (QcV dC dI ad cy sz ρ) args s 0 0 (AW ad sz)) dC dI ad cy 2 sz 0 0 8 [(0, .ref (ad 98))] [] σ) (σ : S0)   (hf : fX11_next_b8 sf_8 σ = some (rr, ρ)) : Gw p l e rm_X11_next s m args below meth c (MQ below (QcV dC dI ad cy sz ρ) args s 0 0 (AW ad sz)) dC dI ad cy 2 sz 0 0 8 [(0, .ref (ad 98))] [] σ := by
  unfold fX11_next_b8 at hf
  refine g_aload_n C dX11_next_8 rfl 0 rfl ?_
  refine g_aload_n C dX11_next_9 rfl 0 rfl ?_
  refine g_get C (a_98 ad cy _) rfl hin_X11 18 (by decide) hF_X11_105 rfl rfl dX11_next_10 ?_
  obtain ⟨r1, σ2, h3, hf⟩ := obp_e hf
  refine g_callVi (As := [.int (σ 98 18)]) (rest := []) C (a_98 ad cy _) rfl (c_X11_look l dC dI ad cy (σ 98 18)) h3 hM_X11_108 cal_X11_look ⟨Nat.zero_le _, Nat.zero_le _⟩ ⟨rfl, rfl⟩ ⟨Nat.le_of_ble_eq_true rfl, Nat.le_of_ble_eq_true rfl⟩ rfl rfl (Nat.le_of_ble_eq_true rfl) dX11_next_13 ?_
  refine g_bipush (v := 32) C dX11_next_16 (by decide) ?_
  rcases oi_e hf with ⟨c4, hf⟩ | ⟨c4, hf⟩
  · refine g_icmp_ne_t (tgt := 34) C dX11_next_18 (by decide) c4 ?_
    refine g_aload_n C dX11_next_34 rfl 0 rfl ?_
    refine g_aload_n C dX11_next_35 rfl 0 rfl ?_
    refine g_get C (a_98 ad cy _) rfl hin_X11 18 (by decide) hF_X11_105 rfl rfl dX11_next_36 ?_
    obtain ⟨v5, ev5, hf⟩ := ol_e hf
    refine g_nm ev5 ?_
    obtain ⟨σ6, eσ6, hf⟩ := ol_e hf
    refine g_put (ty := .int) C (a_98 ad cy _) rfl hin_X11 tyX11 tyX11_ok nmX11 19 (by decide) hF_X11_99 rfl rfl (by decide +kernel) rfl rfl (Nat.le_of_ble_eq_true rfl) (p_98_19 ad cy _ _) eσ6 dX11_next_39 ?_
    refine g_aload_n C dX11_next_42 rfl 0 rfl ?_
    refine g_aload_n C dX11_next_43 rfl 0 rfl ?_
    refine g_get C (a_98 ad cy _) rfl hin_X11 18 (by decide) hF_X11_105 rfl rfl dX11_next_44 ?_
    obtain ⟨r7, σ8, h9, hf⟩ := obp_e hf
    refine g_callVi (As := [.int (σ6 98 18)]) (rest := []) C (a_98 ad cy _) rfl (c_X11_look l dC dI ad cy (σ6 98 18)) h9 hM_X11_108 cal_X11_look ⟨Nat.zero_le _, Nat.zero_le _⟩ ⟨rfl, rfl⟩ ⟨Nat.le_of_ble_eq_true rfl, Nat.le_of_ble_eq_true rfl⟩ rfl rfl (Nat.le_of_ble_eq_true rfl) dX11_next_47 ?_
    refine g_istore_n (lv2 := [(0, .ref (ad 98)), (1, .int r7)]) C dX11_next_50 rfl (by decide) [1, 0] rfl ?_
    refine g_iload_n C dX11_next_51 rfl 1 rfl ?_
    rcases oi_e hf with ⟨c10, hf⟩ | ⟨c10, hf⟩
    · refine g_if_ge_t (tgt := 63) C dX11_next_52 (by decide) c10 ?_
      refine g_iload_n C dX11_next_63 rfl 1 rfl ?_
      refine g_i2l C dX11_next_64 ?_
      refine g_ldc2 (v := 97) C dX11_next_65 hK_X11_119 ?_
      refine g_ldc2 (v := 122) C dX11_next_68 hK_X11_121 ?_
      obtain ⟨r11, σ12, h13, hf⟩ := obp_e hf
      refine g_callSi (As := [.long r7.toInt64, .long 97, .long 122]) (rest := []) C (c_X11_in l dC dI ad cy r7.toInt64 ((97 : Int64)) ((122 : Int64))) h13 hM_X11_92 cal_X11_in ⟨Nat.zero_le _, Nat.zero_le _⟩ ⟨rfl, rfl⟩ ⟨Nat.le_of_ble_eq_true rfl, Nat.le_of_ble_eq_true rfl⟩ rfl rfl (Nat.le_of_ble_eq_true rfl) dX11_next_71 ?_
      rcases oi_e hf with ⟨c14, hf⟩ | ⟨c14, hf⟩
      · refine g_if_eq_t (tgt := 116) C dX11_next_74 (by decide) c14 ?_
        refine g_iload_n C dX11_next_116 rfl 1 rfl ?_
        refine g_i2l C dX11_next_117 ?_
        refine g_ldc2 (v := 48) C dX11_next_118 hK_X11_123 ?_
        refine g_ldc2 (v := 57) C dX11_next_121 hK_X11_125 ?_
        obtain ⟨r15, σ16, h17, hf⟩ := obp_e hf
        refine g_callSi (As := [.long r7.toInt64, .long 48, .long 57]) (rest := []) C (c_X11_in l dC dI ad cy r7.toInt64 ((48 : Int64)) ((57 : Int64))) h17 hM_X11_92 cal_X11_in ⟨Nat.zero_le _, Nat.zero_le _⟩ ⟨rfl, rfl⟩ ⟨Nat.le_of_ble_eq_true rfl, Nat.le_of_ble_eq_true rfl⟩ rfl rfl (Nat.le_of_ble_eq_true rfl) dX11_next_124 ?_
        rcases oi_e hf with ⟨c18, hf⟩ | ⟨c18, hf⟩
        · refine g_if_eq_t (tgt := 243) C dX11_next_127 (by decide) c18 ?_
          refine g_aload_n C dX11_next_243 rfl 0 rfl ?_
          refine g_iconst (v := 3) C dX11_next_244 (by decide) ?_
          obtain ⟨σ19, eσ19, hf⟩ := ol_e hf
          refine g_put (ty := .int) C (a_98 ad cy _) rfl hin_X11 tyX11 tyX11_ok nmX11 20 (by decide) hF_X11_116 rfl rfl (by decide +kernel) rfl rfl (Nat.le_of_ble_eq_true rfl) (p_98_20 ad cy _ _) eσ19 dX11_next_245 ?_
          refine g_aload_n C dX11_next_248 rfl 0 rfl ?_
          refine g_iload_n C dX11_next_249 rfl 1 rfl ?_
          refine g_bipush (v := 59) C dX11_next_250 (by decide) ?_
          rcases oi_e hf with ⟨c20, hf⟩ | ⟨c20, hf⟩
          · refine g_icmp_ne_t (tgt := 259) C dX11_next_252 (by decide) c20 ?_
            refine g_iconst (v := 0) C dX11_next_259 (by decide) ?_
            exact g_sub [0] rfl (fX11_next_b260_ok C σ19 0 hf)
          · refine g_icmp_ne_f (tgt := 259) C dX11_next_252 (by decide) (Decidable.of_not_not c20) ?_
            refine g_iconst (v := 1) C dX11_next_255 (by decide) ?_
            refine g_goto (tgt := 260) C dX11_next_256 (by decide) ?_
            exact g_sub [0] rfl (fX11_next_b260_ok C σ19 1 hf)
        · refine g_if_eq_f (tgt := 243) C dX11_next_127 (by decide) c18 ?_
          refine g_aload_n C dX11_next_130 rfl 0 rfl ?_
          refine g_iconst (v := 2) C dX11_next_131 (by decide) ?_
          obtain ⟨σ21, eσ21, hf⟩ := ol_e hf
          refine g_put (ty := .int) C (a_98 ad cy _) rfl hin_X11 tyX11 tyX11_ok nmX11 20 (by decide) hF_X11_116 rfl rfl (by decide +kernel) rfl rfl (Nat.le_of_ble_eq_true rfl) (p_98_20 ad cy _ _) eσ21 dX11_next_132 ?_
          refine g_aload_n C dX11_next_135 rfl 0 rfl ?_
          refine g_iconst (v := 0) C dX11_next_136 (by decide) ?_
          obtain ⟨σ22, eσ22, hf⟩ := ol_e hf
          refine g_put (ty := .int) C (a_98 ad cy _) rfl hin_X11 tyX11 tyX11_ok nmX11 21 (by decide) hF_X11_127 rfl rfl (by decide +kernel) rfl rfl (Nat.le_of_ble_eq_true rfl) (p_98_21 ad cy _ _) eσ22 dX11_next_137 ?_
          exact g_sub [0] rfl (fX11_next_h140_ok C 400 σ22 hf)
      · refine g_if_eq_f (tgt := 116) C dX11_next_74 (by decide) c14 ?_
        refine g_aload_n C dX11_next_77 rfl 0 rfl ?_
        refine g_iconst (v := 1) C dX11_next_78 (by decide) ?_
        obtain ⟨σ23, eσ23, hf⟩ := ol_e hf
        refine g_put (ty := .int) C (a_98 ad cy _) rfl hin_X11 tyX11 tyX11_ok nmX11 20 (by decide) hF_X11_116 rfl rfl (by decide +kernel) rfl rfl (Nat.le_of_ble_eq_true rfl) (p_98_20 ad cy _ _) eσ23 dX11_next_79 ?_
        exact g_sub [0] rfl (fX11_next_h82_ok C 400 σ23 hf)
    · refine g_if_ge_f (tgt := 63) C dX11_next_52 (by decide) c10 ?_
      refine g_aload_n C dX11_next_55 rfl 0 rfl ?_
      refine g_iconst (v := 0) C dX11_next_56 (by decide) ?_
      obtain ⟨σ24, eσ24, hf⟩ := ol_e hf
      refine g_put (ty := .int) C (a_98 ad cy _) rfl hin_X11 tyX11 tyX11_ok nmX11 20 (by decide) hF_X11_116 rfl rfl (by decide +kernel) rfl rfl (Nat.le_of_ble_eq_true rfl) (p_98_20 ad cy _ _) eσ24 dX11_next_57 ?_
      refine g_goto (tgt := 274) C dX11_next_60 (by decide) ?_
      obtain ⟨rfl, rfl⟩ := os_e hf
      exact g_vret C rfl dX11_next_274
  · refine g_icmp_ne_f (tgt := 34) C dX11_next_18 (by decide) (Decidable.of_not_not c4) ?_
    refine g_aload_n C dX11_next_21 rfl 0 rfl ?_
    refine g_dup C dX11_next_22 rfl ?_
    refine g_get C (a_98 ad cy _) rfl hin_X11 18 (by decide) hF_X11_105 rfl rfl dX11_next_23 ?_
    refine g_iconst (v := 1) C dX11_next_26 (by decide) ?_
    refine g_iadd C dX11_next_27 ?_
    obtain ⟨v25, ev25, hf⟩ := ol_e hf
    refine g_nm ev25 ?_
    obtain ⟨σ26, eσ26, hf⟩ := ol_e hf
    refine g_put (ty := .int) C (a_98 ad cy _) rfl hin_X11 tyX11 tyX11_ok nmX11 18 (by decide) hF_X11_105 rfl rfl (by decide +kernel) rfl rfl (Nat.le_of_ble_eq_true rfl) (p_98_18 ad cy _ _) eσ26 dX11_next_28 ?_
    refine g_goto (tgt := 8) C dX11_next_31 (by decide) ?_
    exact g_sub [0] rfl (hs_8 σ26 hf)
def fX11_next_h8  : Nat → S0 → Option (Int32 × S0)
  | 0 => fun _ => none
  | n + 1 => fun σ => fX11_next_b8  (fX11_next_h8  n) σ
set_option maxHeartbeats 1000000 in
set_option maxRecDepth 100000 in
theorem fX11_next_h8_ok {p : Program} {l : Launch} {e : Env} {s : State} {m : MethodId} {args : Array Value} {below : List Frame} {meth : Method} {c : Code} {dC : Nat → ClassId} {dI : Nat → Nat → Nat} {ad : Nat → Nat} {cy : Nat → ClassId} {sz : Nat} (C : Cx p s m args meth c RX11 cX11_next 2 none dC dI ad cy sz) {rr : Int32} {ρ : S0}  : ∀ (n : Nat) (σ : S0)   (_hf : fX11_next_h8  n σ = some (rr, ρ)), Gw p l e rm_X11_next s m args below meth c (MQ below (QcV dC dI ad cy sz ρ) args s 0 0 (AW ad sz)) dC dI ad cy 2 sz 0 0 8 [(0, .ref (ad 98))] [] σ
  | 0, _, hf => by cases hf
  | n + 1, σ, hf => fX11_next_b8_ok C  (fX11_next_h8  n) (fX11_next_h8_ok C  n) σ hf
def fX11_next (σ : S0)  : Option (Int32 × S0) := if (σ 98 22) ≤ 0 then (fX11_next_h8 400 σ) else (some (0, σ))
set_option maxHeartbeats 1000000 in
set_option maxRecDepth 100000 in
theorem fX11_next_ok {p : Program} {l : Launch} {e : Env} {s : State} {m : MethodId} {args : Array Value} {below : List Frame} {meth : Method} {c : Code} {dC : Nat → ClassId} {dI : Nat → Nat → Nat} {ad : Nat → Nat} {cy : Nat → ClassId} {sz : Nat} (C : Cx p s m args meth c RX11 cX11_next 2 none dC dI ad cy sz) {rr : Int32} {ρ : S0} (σ : S0)   (hf : fX11_next σ = some (rr, ρ)) : Gw p l e rm_X11_next s m args below meth c (MQ below (QcV dC dI ad cy sz ρ) args s 0 0 (AW ad sz)) dC dI ad cy 2 sz 0 0 0 [(0, .ref (ad 98))] [] σ := by
  unfold fX11_next at hf
  refine g_aload_n C dX11_next_0 rfl 0 rfl ?_
  refine g_get C (a_98 ad cy _) rfl hin_X11 22 (by decide) hF_X11_96 rfl rfl dX11_next_1 ?_
  rcases oi_e hf with ⟨c1, hf⟩ | ⟨c1, hf⟩
  · refine g_if_le_t (tgt := 8) C dX11_next_4 (by decide) c1 ?_
    exact g_sub [0] rfl (fX11_next_h8_ok C 400 σ hf)
  · refine g_if_le_f (tgt := 8) C dX11_next_4 (by decide) c1 ?_
    obtain ⟨rfl, rfl⟩ := os_e hf
    exact g_vret C rfl dX11_next_7
theorem c_X11_next (l : Launch) (dC : Nat → ClassId) (dI : Nat → Nat → Nat) (ad : Nat → Nat) (cy : Nat → ClassId)  : ConV l yX11_next cX11_next 2 none rm_X11_next dC dI ad cy [.ref (ad 98)] (fun σ => fX11_next σ) := con_v (own := RX11) (by decide) rfl (Nat.le_of_ble_eq_true rfl) (fun _ _ _ _ _ _ _ _ σ _ _ C hf => fX11_next_ok C σ  hf)
theorem cal_X11_next : CalV yX11_next RX11 cX11_next 2 none 0 := ⟨hI_X11_next, hS_X11_next, hIni_X11, hC_X11_next, by decide +kernel⟩
abbrev rm_X11_looked : Room := { frames := 1, cells := 0, slots := 0, locals := 25 }
def fX11_looked_b49  (σ : S0)  : Option (Int32 × S0) := if ¬ (σ 98 22) = 0 then (some (0, σ)) else (some (σ 98 21, σ))
set_option maxHeartbeats 1000000 in
set_option maxRecDepth 100000 in
theorem fX11_looked_b49_ok {p : Program} {l : Launch} {e : Env} {s : State} {m : MethodId} {args : Array Value} {below : List Frame} {meth : Method} {c : Code} {dC : Nat → ClassId} {dI : Nat → Nat → Nat} {ad : Nat → Nat} {cy : Nat → ClassId} {sz : Nat} (C : Cx p s m args meth c RX11 cX11_looked 3 (some .int) dC dI ad cy sz) {rr : Int32} {ρ : S0}  (σ : S0)   (hf : fX11_looked_b49 σ = some (rr, ρ)) : Gw p l e rm_X11_looked s m args below meth c (MQ below (QcI dC dI ad cy sz rr ρ) args s 0 0 (AW ad sz)) dC dI ad cy 3 sz 0 0 49 [(0, .ref (ad 98))] [] σ := by
  unfold fX11_looked_b49 at hf
  refine g_aload_n C dX11_looked_49 rfl 0 rfl ?_
  refine g_get C (a_98 ad cy _) rfl hin_X11 22 (by decide) hF_X11_96 rfl rfl dX11_looked_50 ?_
  rcases oi_e hf with ⟨c1, hf⟩ | ⟨c1, hf⟩
  · refine g_if_ne_t (tgt := 63) C dX11_looked_53 (by decide) c1 ?_
    refine g_iconst (v := 0) C dX11_looked_63 (by decide) ?_
    obtain ⟨rfl, rfl⟩ := os_e hf
    exact g_iret C rfl dX11_looked_64
  · refine g_if_ne_f (tgt := 63) C dX11_looked_53 (by decide) (Decidable.of_not_not c1) ?_
    refine g_aload_n C dX11_looked_56 rfl 0 rfl ?_
    refine g_get C (a_98 ad cy _) rfl hin_X11 21 (by decide) hF_X11_127 rfl rfl dX11_looked_57 ?_
    refine g_goto (tgt := 64) C dX11_looked_60 (by decide) ?_
    obtain ⟨rfl, rfl⟩ := os_e hf
    exact g_iret C rfl dX11_looked_64
def fX11_looked_b25  (σ : S0) (x1 : Int32) (x2 : Int32) : Option (Int32 × S0) := if ¬ (σ 98 22) = 0 then (fX11_looked_b49 σ) else (obp (fX11_in σ ((σ 98 21).toInt64) x1.toInt64 x2.toInt64) (fun r2 σ3 => obp (fX11_needs σ3 r2 ((3 : Int32))) (fun r5 σ6 => fX11_looked_b49 σ6)))
set_option maxHeartbeats 1000000 in
set_option maxRecDepth 100000 in
theorem fX11_looked_b25_ok {p : Program} {l : Launch} {e : Env} {s : State} {m : MethodId} {args : Array Value} {below : List Frame} {meth : Method} {c : Code} {dC : Nat → ClassId} {dI : Nat → Nat → Nat} {ad : Nat → Nat} {cy : Nat → ClassId} {sz : Nat} (C : Cx p s m args meth c RX11 cX11_looked 3 (some .int) dC dI ad cy sz) {rr : Int32} {ρ : S0}  (σ : S0) (x1 : Int32) (x2 : Int32)  (hf : fX11_looked_b25 σ x1 x2 = some (rr, ρ)) : Gw p l e rm_X11_looked s m args below meth c (MQ below (QcI dC dI ad cy sz rr ρ) args s 0 0 (AW ad sz)) dC dI ad cy 3 sz 0 0 25 [(0, .ref (ad 98)), (1, .int x1), (2, .int x2)] [] σ := by
  unfold fX11_looked_b25 at hf
  refine g_aload_n C dX11_looked_25 rfl 0 rfl ?_
  refine g_get C (a_98 ad cy _) rfl hin_X11 22 (by decide) hF_X11_96 rfl rfl dX11_looked_26 ?_
  rcases oi_e hf with ⟨c1, hf⟩ | ⟨c1, hf⟩
  · refine g_if_ne_t (tgt := 49) C dX11_looked_29 (by decide) c1 ?_
    exact g_sub [0] rfl (fX11_looked_b49_ok C σ hf)
  · refine g_if_ne_f (tgt := 49) C dX11_looked_29 (by decide) (Decidable.of_not_not c1) ?_
    refine g_aload_n C dX11_looked_32 rfl 0 rfl ?_
    refine g_aload_n C dX11_looked_33 rfl 0 rfl ?_
    refine g_get C (a_98 ad cy _) rfl hin_X11 21 (by decide) hF_X11_127 rfl rfl dX11_looked_34 ?_
    refine g_i2l C dX11_looked_37 ?_
    refine g_iload_n C dX11_looked_38 rfl 1 rfl ?_
    refine g_i2l C dX11_looked_39 ?_
    refine g_iload_n C dX11_looked_40 rfl 2 rfl ?_
    refine g_i2l C dX11_looked_41 ?_
    obtain ⟨r2, σ3, h4, hf⟩ := obp_e hf
    refine g_callSi (As := [.long ((σ 98 21).toInt64), .long x1.toInt64, .long x2.toInt64]) (rest := [.ref (ad 98)]) C (c_X11_in l dC dI ad cy ((σ 98 21).toInt64) x1.toInt64 x2.toInt64) h4 hM_X11_92 cal_X11_in ⟨Nat.zero_le _, Nat.zero_le _⟩ ⟨rfl, rfl⟩ ⟨Nat.le_of_ble_eq_true rfl, Nat.le_of_ble_eq_true rfl⟩ rfl rfl (Nat.le_of_ble_eq_true rfl) dX11_looked_42 ?_
    refine g_iconst (v := 3) C dX11_looked_45 (by decide) ?_
    obtain ⟨r5, σ6, h7, hf⟩ := obp_e hf
    refine g_callVv (As := [.int r2, .int 3]) (rest := []) C (a_98 ad cy _) rfl (c_X11_needs l dC dI ad cy r2 ((3 : Int32))) h7 hM_X11_130 cal_X11_needs ⟨Nat.zero_le _, Nat.zero_le _⟩ ⟨rfl, rfl⟩ ⟨Nat.le_of_ble_eq_true rfl, Nat.le_of_ble_eq_true rfl⟩ rfl rfl (Nat.le_of_ble_eq_true rfl) dX11_looked_46 ?_
    exact g_sub [0] rfl (fX11_looked_b49_ok C σ6 hf)
def fX11_looked_b21  (σ : S0) (x1 : Int32) (x2 : Int32) (t0 : Int32) : Option (Int32 × S0) := obp (fX11_needs σ t0 ((2 : Int32))) (fun r1 σ2 => fX11_looked_b25 σ2 x1 x2)
set_option maxHeartbeats 1000000 in
set_option maxRecDepth 100000 in
theorem fX11_looked_b21_ok {p : Program} {l : Launch} {e : Env} {s : State} {m : MethodId} {args : Array Value} {below : List Frame} {meth : Method} {c : Code} {dC : Nat → ClassId} {dI : Nat → Nat → Nat} {ad : Nat → Nat} {cy : Nat → ClassId} {sz : Nat} (C : Cx p s m args meth c RX11 cX11_looked 3 (some .int) dC dI ad cy sz) {rr : Int32} {ρ : S0}  (σ : S0) (x1 : Int32) (x2 : Int32) (t0 : Int32)  (hf : fX11_looked_b21 σ x1 x2 t0 = some (rr, ρ)) : Gw p l e rm_X11_looked s m args below meth c (MQ below (QcI dC dI ad cy sz rr ρ) args s 0 0 (AW ad sz)) dC dI ad cy 3 sz 0 0 21 [(0, .ref (ad 98)), (1, .int x1), (2, .int x2)] [.int t0, .ref (ad 98)] σ := by
  unfold fX11_looked_b21 at hf
  refine g_iconst (v := 2) C dX11_looked_21 (by decide) ?_
  obtain ⟨r1, σ2, h3, hf⟩ := obp_e hf
  refine g_callVv (As := [.int t0, .int 2]) (rest := []) C (a_98 ad cy _) rfl (c_X11_needs l dC dI ad cy t0 ((2 : Int32))) h3 hM_X11_130 cal_X11_needs ⟨Nat.zero_le _, Nat.zero_le _⟩ ⟨rfl, rfl⟩ ⟨Nat.le_of_ble_eq_true rfl, Nat.le_of_ble_eq_true rfl⟩ rfl rfl (Nat.le_of_ble_eq_true rfl) dX11_looked_22 ?_
  exact g_sub [0, 1, 2] rfl (fX11_looked_b25_ok C σ2 x1 x2 hf)
def fX11_looked (σ : S0) (x1 : Int32) (x2 : Int32) : Option (Int32 × S0) := if ¬ (σ 98 22) = 0 then (fX11_looked_b25 σ x1 x2) else (if ¬ (σ 98 20) = 2 then (fX11_looked_b21 σ x1 x2 0) else (fX11_looked_b21 σ x1 x2 1))
set_option maxHeartbeats 1000000 in
set_option maxRecDepth 100000 in
theorem fX11_looked_ok {p : Program} {l : Launch} {e : Env} {s : State} {m : MethodId} {args : Array Value} {below : List Frame} {meth : Method} {c : Code} {dC : Nat → ClassId} {dI : Nat → Nat → Nat} {ad : Nat → Nat} {cy : Nat → ClassId} {sz : Nat} (C : Cx p s m args meth c RX11 cX11_looked 3 (some .int) dC dI ad cy sz) {rr : Int32} {ρ : S0} (σ : S0) (x1 : Int32) (x2 : Int32)  (hf : fX11_looked σ x1 x2 = some (rr, ρ)) : Gw p l e rm_X11_looked s m args below meth c (MQ below (QcI dC dI ad cy sz rr ρ) args s 0 0 (AW ad sz)) dC dI ad cy 3 sz 0 0 0 [(0, .ref (ad 98)), (1, .int x1), (2, .int x2)] [] σ := by
  unfold fX11_looked at hf
  refine g_aload_n C dX11_looked_0 rfl 0 rfl ?_
  refine g_get C (a_98 ad cy _) rfl hin_X11 22 (by decide) hF_X11_96 rfl rfl dX11_looked_1 ?_
  rcases oi_e hf with ⟨c1, hf⟩ | ⟨c1, hf⟩
  · refine g_if_ne_t (tgt := 25) C dX11_looked_4 (by decide) c1 ?_
    exact g_sub [0, 1, 2] rfl (fX11_looked_b25_ok C σ x1 x2 hf)
  · refine g_if_ne_f (tgt := 25) C dX11_looked_4 (by decide) (Decidable.of_not_not c1) ?_
    refine g_aload_n C dX11_looked_7 rfl 0 rfl ?_
    refine g_aload_n C dX11_looked_8 rfl 0 rfl ?_
    refine g_get C (a_98 ad cy _) rfl hin_X11 20 (by decide) hF_X11_116 rfl rfl dX11_looked_9 ?_
    refine g_iconst (v := 2) C dX11_looked_12 (by decide) ?_
    rcases oi_e hf with ⟨c2, hf⟩ | ⟨c2, hf⟩
    · refine g_icmp_ne_t (tgt := 20) C dX11_looked_13 (by decide) c2 ?_
      refine g_iconst (v := 0) C dX11_looked_20 (by decide) ?_
      exact g_sub [0, 1, 2] rfl (fX11_looked_b21_ok C σ x1 x2 0 hf)
    · refine g_icmp_ne_f (tgt := 20) C dX11_looked_13 (by decide) (Decidable.of_not_not c2) ?_
      refine g_iconst (v := 1) C dX11_looked_16 (by decide) ?_
      refine g_goto (tgt := 21) C dX11_looked_17 (by decide) ?_
      exact g_sub [0, 1, 2] rfl (fX11_looked_b21_ok C σ x1 x2 1 hf)
theorem c_X11_looked (l : Launch) (dC : Nat → ClassId) (dI : Nat → Nat → Nat) (ad : Nat → Nat) (cy : Nat → ClassId) (x1 : Int32) (x2 : Int32) : ConI l yX11_looked cX11_looked 3 (some .int) rm_X11_looked dC dI ad cy [.ref (ad 98), .int x1, .int x2] (fun σ => fX11_looked σ x1 x2) := con_i (own := RX11) (by decide) rfl (Nat.le_of_ble_eq_true rfl) (fun _ _ _ _ _ _ _ _ σ _ _ C hf => fX11_looked_ok C σ x1 x2 hf)
theorem cal_X11_looked : CalV yX11_looked RX11 cX11_looked 3 (some .int) 2 := ⟨hI_X11_looked, hS_X11_looked, hIni_X11, hC_X11_looked, by decide +kernel⟩
