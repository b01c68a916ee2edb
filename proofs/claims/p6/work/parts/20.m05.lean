abbrev rm_X11_hear : Room := { frames := 2, cells := 0, slots := 0, locals := 46 }
def fX11_hear_b16  (σ : S0) (x1 : Int32) : Option (Int32 × S0) := og (¬ (((66 : Int32)) < 0 ∨ 240 ≤ ((66 : Int32)).toNatClampNeg)) (ol (σ 99 ((66 : Int32)).toNatClampNeg) (fun v2 => if ¬ v2 = 12 then (og (¬ (((66 : Int32)) < 0 ∨ 240 ≤ ((66 : Int32)).toNatClampNeg)) (ol (σ 99 ((66 : Int32)).toNatClampNeg) (fun v5 => ol (67 + v5) (fun v6 => og (¬ (v6 < 0 ∨ 240 ≤ v6.toNatClampNeg)) (ol (su σ 99 v6.toNatClampNeg x1) (fun σ8 => og (¬ (((66 : Int32)) < 0 ∨ 240 ≤ ((66 : Int32)).toNatClampNeg)) (ol (σ8 99 ((66 : Int32)).toNatClampNeg) (fun v10 => ol (v10 + 1) (fun v11 => og (¬ (((66 : Int32)) < 0 ∨ 240 ≤ ((66 : Int32)).toNatClampNeg)) (ol (su σ8 99 ((66 : Int32)).toNatClampNeg v11) (fun σ13 => og (¬ (((66 : Int32)) < 0 ∨ 240 ≤ ((66 : Int32)).toNatClampNeg)) (ol (σ13 99 ((66 : Int32)).toNatClampNeg) (fun v15 => some (v15, σ13)))))))))))))) else (some ((-3), σ))))
set_option maxHeartbeats 1000000 in
set_option maxRecDepth 100000 in
theorem fX11_hear_b16_ok {p : Program} {l : Launch} {e : Env} {s : State} {m : MethodId} {args : Array Value} {below : List Frame} {meth : Method} {c : Code} {dC : Nat → ClassId} {dI : Nat → Nat → Nat} {ad : Nat → Nat} {cy : Nat → ClassId} {sz : Nat} (C : Cx p s m args meth c RX11 cX11_hear 2 (some .int) dC dI ad cy sz) {rr : Int32} {ρ : S0}  (σ : S0) (x1 : Int32)  (hf : fX11_hear_b16 σ x1 = some (rr, ρ)) : Gw p l e rm_X11_hear s m args below meth c (MQ below (QcI dC dI ad cy sz rr ρ) args s 0 0 (AW ad sz)) dC dI ad cy 2 sz 0 0 16 [(0, .ref (ad 98)), (1, .int x1)] [] σ := by
  unfold fX11_hear_b16 at hf
  refine g_aload_n C dX11_hear_16 rfl 0 rfl ?_
  refine g_get C (a_98 ad cy _) rfl hin_X11 0 (by decide) hF_X11_7 rfl rfl dX11_hear_17 ?_
  refine g_bipush (v := 66) C dX11_hear_20 (by decide) ?_
  obtain ⟨h1, hf⟩ := og_e hf
  refine g_iald C (a_99 ad cy _) h1 dX11_hear_22 ?_
  obtain ⟨v2, ev2, hf⟩ := ol_e hf
  refine g_nm ev2 ?_
  refine g_bipush (v := 12) C dX11_hear_23 (by decide) ?_
  rcases oi_e hf with ⟨c3, hf⟩ | ⟨c3, hf⟩
  · refine g_icmp_ne_t (tgt := 31) C dX11_hear_25 (by decide) c3 ?_
    refine g_aload_n C dX11_hear_31 rfl 0 rfl ?_
    refine g_get C (a_98 ad cy _) rfl hin_X11 0 (by decide) hF_X11_7 rfl rfl dX11_hear_32 ?_
    refine g_bipush (v := 67) C dX11_hear_35 (by decide) ?_
    refine g_aload_n C dX11_hear_37 rfl 0 rfl ?_
    refine g_get C (a_98 ad cy _) rfl hin_X11 0 (by decide) hF_X11_7 rfl rfl dX11_hear_38 ?_
    refine g_bipush (v := 66) C dX11_hear_41 (by decide) ?_
    obtain ⟨h4, hf⟩ := og_e hf
    refine g_iald C (a_99 ad cy _) h4 dX11_hear_43 ?_
    obtain ⟨v5, ev5, hf⟩ := ol_e hf
    refine g_nm ev5 ?_
    refine g_iadd C dX11_hear_44 ?_
    refine g_iload_n C dX11_hear_45 rfl 1 rfl ?_
    obtain ⟨v6, ev6, hf⟩ := ol_e hf
    refine g_nm2 ev6 ?_
    obtain ⟨h7, hf⟩ := og_e hf
    obtain ⟨σ8, eσ8, hf⟩ := ol_e hf
    refine g_iast C (a_99 ad cy _) h7 (w_99 ad cy _) eσ8 dX11_hear_46 ?_
    refine g_aload_n C dX11_hear_47 rfl 0 rfl ?_
    refine g_get C (a_98 ad cy _) rfl hin_X11 0 (by decide) hF_X11_7 rfl rfl dX11_hear_48 ?_
    refine g_bipush (v := 66) C dX11_hear_51 (by decide) ?_
    refine g_dup2 C dX11_hear_53 rfl rfl ?_
    obtain ⟨h9, hf⟩ := og_e hf
    refine g_iald C (a_99 ad cy _) h9 dX11_hear_54 ?_
    obtain ⟨v10, ev10, hf⟩ := ol_e hf
    refine g_nm ev10 ?_
    refine g_iconst (v := 1) C dX11_hear_55 (by decide) ?_
    refine g_iadd C dX11_hear_56 ?_
    obtain ⟨v11, ev11, hf⟩ := ol_e hf
    refine g_nm ev11 ?_
    obtain ⟨h12, hf⟩ := og_e hf
    obtain ⟨σ13, eσ13, hf⟩ := ol_e hf
    refine g_iast C (a_99 ad cy _) h12 (w_99 ad cy _) eσ13 dX11_hear_57 ?_
    refine g_aload_n C dX11_hear_58 rfl 0 rfl ?_
    refine g_get C (a_98 ad cy _) rfl hin_X11 0 (by decide) hF_X11_7 rfl rfl dX11_hear_59 ?_
    refine g_bipush (v := 66) C dX11_hear_62 (by decide) ?_
    obtain ⟨h14, hf⟩ := og_e hf
    refine g_iald C (a_99 ad cy _) h14 dX11_hear_64 ?_
    obtain ⟨v15, ev15, hf⟩ := ol_e hf
    refine g_nm ev15 ?_
    obtain ⟨rfl, rfl⟩ := os_e hf
    exact g_iret C rfl dX11_hear_65
  · refine g_icmp_ne_f (tgt := 31) C dX11_hear_25 (by decide) (Decidable.of_not_not c3) ?_
    refine g_bipush (v := (-3)) C dX11_hear_28 (by decide) ?_
    obtain ⟨rfl, rfl⟩ := os_e hf
    exact g_iret C rfl dX11_hear_30
def fX11_hear (σ : S0) (x1 : Int32) : Option (Int32 × S0) := if x1 = ((-4)) then (fX11_hear_b16 σ x1) else (obp (fX11_isBell σ x1) (fun r2 σ3 => if ¬ r2 = 0 then (fX11_hear_b16 σ3 x1) else (some ((-1), σ3))))
set_option maxHeartbeats 1000000 in
set_option maxRecDepth 100000 in
theorem fX11_hear_ok {p : Program} {l : Launch} {e : Env} {s : State} {m : MethodId} {args : Array Value} {below : List Frame} {meth : Method} {c : Code} {dC : Nat → ClassId} {dI : Nat → Nat → Nat} {ad : Nat → Nat} {cy : Nat → ClassId} {sz : Nat} (C : Cx p s m args meth c RX11 cX11_hear 2 (some .int) dC dI ad cy sz) {rr : Int32} {ρ : S0} (σ : S0) (x1 : Int32)  (hf : fX11_hear σ x1 = some (rr, ρ)) : Gw p l e rm_X11_hear s m args below meth c (MQ below (QcI dC dI ad cy sz rr ρ) args s 0 0 (AW ad sz)) dC dI ad cy 2 sz 0 0 0 [(0, .ref (ad 98)), (1, .int x1)] [] σ := by
  unfold fX11_hear at hf
  refine g_iload_n C dX11_hear_0 rfl 1 rfl ?_
  refine g_bipush (v := (-4)) C dX11_hear_1 (by decide) ?_
  rcases oi_e hf with ⟨c1, hf⟩ | ⟨c1, hf⟩
  · refine g_icmp_eq_t (tgt := 16) C dX11_hear_3 (by decide) c1 ?_
    exact g_sub [0, 1] rfl (fX11_hear_b16_ok C σ x1 hf)
  · refine g_icmp_eq_f (tgt := 16) C dX11_hear_3 (by decide) c1 ?_
    refine g_aload_n C dX11_hear_6 rfl 0 rfl ?_
    refine g_iload_n C dX11_hear_7 rfl 1 rfl ?_
    obtain ⟨r2, σ3, h4, hf⟩ := obp_e hf
    refine g_callVi (As := [.int x1]) (rest := []) C (a_98 ad cy _) rfl (c_X11_isBell l dC dI ad cy x1) h4 hM_X11_166 cal_X11_isBell ⟨Nat.zero_le _, Nat.zero_le _⟩ ⟨rfl, rfl⟩ ⟨Nat.le_of_ble_eq_true rfl, Nat.le_of_ble_eq_true rfl⟩ rfl rfl (Nat.le_of_ble_eq_true rfl) dX11_hear_8 ?_
    rcases oi_e hf with ⟨c5, hf⟩ | ⟨c5, hf⟩
    · refine g_if_ne_t (tgt := 16) C dX11_hear_11 (by decide) c5 ?_
      exact g_sub [0, 1] rfl (fX11_hear_b16_ok C σ3 x1 hf)
    · refine g_if_ne_f (tgt := 16) C dX11_hear_11 (by decide) (Decidable.of_not_not c5) ?_
      refine g_iconst (v := (-1)) C dX11_hear_14 (by decide) ?_
      obtain ⟨rfl, rfl⟩ := os_e hf
      exact g_iret C rfl dX11_hear_15
theorem c_X11_hear (l : Launch) (dC : Nat → ClassId) (dI : Nat → Nat → Nat) (ad : Nat → Nat) (cy : Nat → ClassId) (x1 : Int32) : ConI l yX11_hear cX11_hear 2 (some .int) rm_X11_hear dC dI ad cy [.ref (ad 98), .int x1] (fun σ => fX11_hear σ x1) := con_i (own := RX11) (by decide) rfl (Nat.le_of_ble_eq_true rfl) (fun _ _ _ _ _ _ _ _ σ _ _ C hf => fX11_hear_ok C σ x1 hf)
theorem cal_X11_hear : CalV yX11_hear RX11 cX11_hear 2 (some .int) 1 := ⟨hI_X11_hear, hS_X11_hear, hIni_X11, hC_X11_hear, by decide +kernel⟩
abbrev rm_X11_hush : Room := { frames := 0, cells := 0, slots := 0, locals := 0 }
def fX11_hush (σ : S0)  : Option (Int32 × S0) := og (¬ (((66 : Int32)) < 0 ∨ 240 ≤ ((66 : Int32)).toNatClampNeg)) (ol (σ 99 ((66 : Int32)).toNatClampNeg) (fun v2 => og (¬ (((66 : Int32)) < 0 ∨ 240 ≤ ((66 : Int32)).toNatClampNeg)) (ol (su σ 99 ((66 : Int32)).toNatClampNeg 0) (fun σ4 => some (v2, σ4)))))
set_option maxHeartbeats 1000000 in
set_option maxRecDepth 100000 in
theorem fX11_hush_ok {p : Program} {l : Launch} {e : Env} {s : State} {m : MethodId} {args : Array Value} {below : List Frame} {meth : Method} {c : Code} {dC : Nat → ClassId} {dI : Nat → Nat → Nat} {ad : Nat → Nat} {cy : Nat → ClassId} {sz : Nat} (C : Cx p s m args meth c RX11 cX11_hush 2 (some .int) dC dI ad cy sz) {rr : Int32} {ρ : S0} (σ : S0)   (hf : fX11_hush σ = some (rr, ρ)) : Gw p l e rm_X11_hush s m args below meth c (MQ below (QcI dC dI ad cy sz rr ρ) args s 0 0 (AW ad sz)) dC dI ad cy 2 sz 0 0 0 [(0, .ref (ad 98))] [] σ := by
  unfold fX11_hush at hf
  refine g_aload_n C dX11_hush_0 rfl 0 rfl ?_
  refine g_get C (a_98 ad cy _) rfl hin_X11 0 (by decide) hF_X11_7 rfl rfl dX11_hush_1 ?_
  refine g_bipush (v := 66) C dX11_hush_4 (by decide) ?_
  obtain ⟨h1, hf⟩ := og_e hf
  refine g_iald C (a_99 ad cy _) h1 dX11_hush_6 ?_
  obtain ⟨v2, ev2, hf⟩ := ol_e hf
  refine g_nm ev2 ?_
  refine g_istore_n (lv2 := [(0, .ref (ad 98)), (1, .int v2)]) C dX11_hush_7 rfl (by decide) [1, 0] rfl ?_
  refine g_aload_n C dX11_hush_8 rfl 0 rfl ?_
  refine g_get C (a_98 ad cy _) rfl hin_X11 0 (by decide) hF_X11_7 rfl rfl dX11_hush_9 ?_
  refine g_bipush (v := 66) C dX11_hush_12 (by decide) ?_
  refine g_iconst (v := 0) C dX11_hush_14 (by decide) ?_
  obtain ⟨h3, hf⟩ := og_e hf
  obtain ⟨σ4, eσ4, hf⟩ := ol_e hf
  refine g_iast C (a_99 ad cy _) h3 (w_99 ad cy _) eσ4 dX11_hush_15 ?_
  refine g_iload_n C dX11_hush_16 rfl 1 rfl ?_
  obtain ⟨rfl, rfl⟩ := os_e hf
  exact g_iret C rfl dX11_hush_17
theorem c_X11_hush (l : Launch) (dC : Nat → ClassId) (dI : Nat → Nat → Nat) (ad : Nat → Nat) (cy : Nat → ClassId)  : ConI l yX11_hush cX11_hush 2 (some .int) rm_X11_hush dC dI ad cy [.ref (ad 98)] (fun σ => fX11_hush σ) := con_i (own := RX11) (by decide) rfl (Nat.le_of_ble_eq_true rfl) (fun _ _ _ _ _ _ _ _ σ _ _ C hf => fX11_hush_ok C σ  hf)
theorem cal_X11_hush : CalV yX11_hush RX11 cX11_hush 2 (some .int) 0 := ⟨hI_X11_hush, hS_X11_hush, hIni_X11, hC_X11_hush, by decide +kernel⟩
abbrev rm_X11_isFit : Room := { frames := 1, cells := 0, slots := 0, locals := 22 }
def fX11_isFit_b139 (sf_31 : S0 → Int32 → Int32 → Int32 → Int32 → Option (Int32 × S0)) (σ : S0) (x1 : Int32) (x2 : Int32) (x4 : Int32) (t0 : Int32) : Option (Int32 × S0) := ol (x4 + 1) (fun v1 => sf_31 σ x1 x2 t0 v1)
set_option maxHeartbeats 1000000 in
set_option maxRecDepth 100000 in
theorem fX11_isFit_b139_ok {p : Program} {l : Launch} {e : Env} {s : State} {m : MethodId} {args : Array Value} {below : List Frame} {meth : Method} {c : Code} {dC : Nat → ClassId} {dI : Nat → Nat → Nat} {ad : Nat → Nat} {cy : Nat → ClassId} {sz : Nat} (C : Cx p s m args meth c RX11 cX11_isFit 7 (some .boolean) dC dI ad cy sz) {rr : Int32} {ρ : S0} (sf_31 : S0 → Int32 → Int32 → Int32 → Int32 → Option (Int32 × S0)) (hs_31 : ∀ (σ : S0) (x1 : Int32) (x2 : Int32) (x3 : Int32) (x4 : Int32) , sf_31 σ x1 x2 x3 x4 = some (rr, ρ) → Gw p l e rm_X11_isFit s m args below meth c (MQ below (QcI dC dI ad cy sz rr ρ) args s 0 0 (AW ad sz)) dC dI ad cy 7 sz 0 0 31 [(0, .ref (ad 98)), (1, .int x1), (2, .int x2), (3, .int x3), (4, .int x4)] [] σ) (σ : S0) (x1 : Int32) (x2 : Int32) (x4 : Int32) (t0 : Int32)  (hf : fX11_isFit_b139 sf_31 σ x1 x2 x4 t0 = some (rr, ρ)) : Gw p l e rm_X11_isFit s m args below meth c (MQ below (QcI dC dI ad cy sz rr ρ) args s 0 0 (AW ad sz)) dC dI ad cy 7 sz 0 0 139 [(0, .ref (ad 98)), (1, .int x1), (2, .int x2), (4, .int x4)] [.int t0] σ := by
  unfold fX11_isFit_b139 at hf
  refine g_istore_n (lv2 := [(0, .ref (ad 98)), (1, .int x1), (2, .int x2), (3, .int t0), (4, .int x4)]) C dX11_isFit_139 rfl (by decide) [1, 2, 3, 0, 4] rfl ?_
  obtain ⟨v1, ev1, hf⟩ := ol_e hf
  refine g_iinc (j := 4) (w := 1) (lv2 := [(0, .ref (ad 98)), (1, .int x1), (2, .int x2), (3, .int t0), (4, .int v1)]) C dX11_isFit_140 rfl (by decide) ev1 (by decide) [1, 2, 3, 4, 0] rfl ?_
  refine g_goto (tgt := 31) C dX11_isFit_143 (by decide) ?_
  exact g_sub [0, 1, 2, 3, 4] rfl (hs_31 σ x1 x2 t0 v1 hf)
def fX11_isFit_b134 (sf_31 : S0 → Int32 → Int32 → Int32 → Int32 → Option (Int32 × S0)) (σ : S0) (x1 : Int32) (x2 : Int32) (x4 : Int32) : Option (Int32 × S0) := fX11_isFit_b139 sf_31 σ x1 x2 x4 1
set_option maxHeartbeats 1000000 in
set_option maxRecDepth 100000 in
theorem fX11_isFit_b134_ok {p : Program} {l : Launch} {e : Env} {s : State} {m : MethodId} {args : Array Value} {below : List Frame} {meth : Method} {c : Code} {dC : Nat → ClassId} {dI : Nat → Nat → Nat} {ad : Nat → Nat} {cy : Nat → ClassId} {sz : Nat} (C : Cx p s m args meth c RX11 cX11_isFit 7 (some .boolean) dC dI ad cy sz) {rr : Int32} {ρ : S0} (sf_31 : S0 → Int32 → Int32 → Int32 → Int32 → Option (Int32 × S0)) (hs_31 : ∀ (σ : S0) (x1 : Int32) (x2 : Int32) (x3 : Int32) (x4 : Int32) , sf_31 σ x1 x2 x3 x4 = some (rr, ρ) → Gw p l e rm_X11_isFit s m args below meth c (MQ below (QcI dC dI ad cy sz rr ρ) args s 0 0 (AW ad sz)) dC dI ad cy 7 sz 0 0 31 [(0, .ref (ad 98)), (1, .int x1), (2, .int x2), (3, .int x3), (4, .int x4)] [] σ) (σ : S0) (x1 : Int32) (x2 : Int32) (x4 : Int32)  (hf : fX11_isFit_b134 sf_31 σ x1 x2 x4 = some (rr, ρ)) : Gw p l e rm_X11_isFit s m args below meth c (MQ below (QcI dC dI ad cy sz rr ρ) args s 0 0 (AW ad sz)) dC dI ad cy 7 sz 0 0 134 [(0, .ref (ad 98)), (1, .int x1), (2, .int x2), (4, .int x4)] [] σ := by
  unfold fX11_isFit_b134 at hf
  refine g_iconst (v := 1) C dX11_isFit_134 (by decide) ?_
  refine g_goto (tgt := 139) C dX11_isFit_135 (by decide) ?_
  exact g_sub [0, 1, 2, 3] rfl (fX11_isFit_b139_ok C sf_31 hs_31 σ x1 x2 x4 1 hf)
def fX11_isFit_b113 (sf_31 : S0 → Int32 → Int32 → Int32 → Int32 → Option (Int32 × S0)) (σ : S0) (x1 : Int32) (x4 : Int32) (x5 : Int32) (t0 : Int32) (t1 : Int32) : Option (Int32 × S0) := ol (t1 ||| t0) (fun v1 => if x5 = ((-4)) then (fX11_isFit_b134 sf_31 σ x1 v1 x4) else (obp (fX11_stroke σ x1 x4) (fun r3 σ4 => if ¬ x5 = r3 then (fX11_isFit_b139 sf_31 σ4 x1 v1 x4 0) else (fX11_isFit_b134 sf_31 σ4 x1 v1 x4))))
set_option maxHeartbeats 1000000 in
set_option maxRecDepth 100000 in
theorem fX11_isFit_b113_ok {p : Program} {l : Launch} {e : Env} {s : State} {m : MethodId} {args : Array Value} {below : List Frame} {meth : Method} {c : Code} {dC : Nat → ClassId} {dI : Nat → Nat → Nat} {ad : Nat → Nat} {cy : Nat → ClassId} {sz : Nat} (C : Cx p s m args meth c RX11 cX11_isFit 7 (some .boolean) dC dI ad cy sz) {rr : Int32} {ρ : S0} (sf_31 : S0 → Int32 → Int32 → Int32 → Int32 → Option (Int32 × S0)) (hs_31 : ∀ (σ : S0) (x1 : Int32) (x2 : Int32) (x3 : Int32) (x4 : Int32) , sf_31 σ x1 x2 x3 x4 = some (rr, ρ) → Gw p l e rm_X11_isFit s m args below meth c (MQ below (QcI dC dI ad cy sz rr ρ) args s 0 0 (AW ad sz)) dC dI ad cy 7 sz 0 0 31 [(0, .ref (ad 98)), (1, .int x1), (2, .int x2), (3, .int x3), (4, .int x4)] [] σ) (σ : S0) (x1 : Int32) (x4 : Int32) (x5 : Int32) (t0 : Int32) (t1 : Int32)  (hf : fX11_isFit_b113 sf_31 σ x1 x4 x5 t0 t1 = some (rr, ρ)) : Gw p l e rm_X11_isFit s m args below meth c (MQ below (QcI dC dI ad cy sz rr ρ) args s 0 0 (AW ad sz)) dC dI ad cy 7 sz 0 0 113 [(0, .ref (ad 98)), (1, .int x1), (4, .int x4), (5, .int x5)] [.int t0, .int t1] σ := by
  unfold fX11_isFit_b113 at hf
  refine g_ior C dX11_isFit_113 ?_
  obtain ⟨v1, ev1, hf⟩ := ol_e hf
  refine g_nm ev1 ?_
  refine g_istore_n (lv2 := [(0, .ref (ad 98)), (1, .int x1), (2, .int v1), (4, .int x4), (5, .int x5)]) C dX11_isFit_114 rfl (by decide) [1, 2, 0, 3, 4] rfl ?_
  refine g_iload C dX11_isFit_115 4 rfl ?_
  refine g_bipush (v := (-4)) C dX11_isFit_117 (by decide) ?_
  rcases oi_e hf with ⟨c2, hf⟩ | ⟨c2, hf⟩
  · refine g_icmp_eq_t (tgt := 134) C dX11_isFit_119 (by decide) c2 ?_
    exact g_sub [0, 1, 2, 3] rfl (fX11_isFit_b134_ok C sf_31 hs_31 σ x1 v1 x4 hf)
  · refine g_icmp_eq_f (tgt := 134) C dX11_isFit_119 (by decide) c2 ?_
    refine g_iload C dX11_isFit_122 4 rfl ?_
    refine g_aload_n C dX11_isFit_124 rfl 0 rfl ?_
    refine g_iload_n C dX11_isFit_125 rfl 1 rfl ?_
    refine g_iload C dX11_isFit_126 3 rfl ?_
    obtain ⟨r3, σ4, h5, hf⟩ := obp_e hf
    refine g_callVi (As := [.int x1, .int x4]) (rest := [.int x5]) C (a_98 ad cy _) rfl (c_X11_stroke l dC dI ad cy x1 x4) h5 hM_X11_183 cal_X11_stroke ⟨Nat.zero_le _, Nat.zero_le _⟩ ⟨rfl, rfl⟩ ⟨Nat.le_of_ble_eq_true rfl, Nat.le_of_ble_eq_true rfl⟩ rfl rfl (Nat.le_of_ble_eq_true rfl) dX11_isFit_128 ?_
    rcases oi_e hf with ⟨c6, hf⟩ | ⟨c6, hf⟩
    · refine g_icmp_ne_t (tgt := 138) C dX11_isFit_131 (by decide) c6 ?_
      refine g_iconst (v := 0) C dX11_isFit_138 (by decide) ?_
      exact g_sub [0, 1, 2, 3] rfl (fX11_isFit_b139_ok C sf_31 hs_31 σ4 x1 v1 x4 0 hf)
    · refine g_icmp_ne_f (tgt := 138) C dX11_isFit_131 (by decide) (Decidable.of_not_not c6) ?_
      exact g_sub [0, 1, 2, 3] rfl (fX11_isFit_b134_ok C sf_31 hs_31 σ4 x1 v1 x4 hf)
def fX11_isFit_b93 (sf_31 : S0 → Int32 → Int32 → Int32 → Int32 → Option (Int32 × S0)) (σ : S0) (x1 : Int32) (x2 : Int32) (x4 : Int32) (x5 : Int32) (x6 : Int32) (t0 : Int32) (t1 : Int32) : Option (Int32 × S0) := ol (t1 ||| t0) (fun v1 => ol (su σ 98 35 v1) (fun σ2 => if ¬ x5 = ((-4)) then (fX11_isFit_b113 sf_31 σ2 x1 x4 x5 ((1 : Int32) <<< (x6 &&& 31)) x2) else (fX11_isFit_b113 sf_31 σ2 x1 x4 x5 0 x2)))
set_option maxHeartbeats 1000000 in
set_option maxRecDepth 100000 in
theorem fX11_isFit_b93_ok {p : Program} {l : Launch} {e : Env} {s : State} {m : MethodId} {args : Array Value} {below : List Frame} {meth : Method} {c : Code} {dC : Nat → ClassId} {dI : Nat → Nat → Nat} {ad : Nat → Nat} {cy : Nat → ClassId} {sz : Nat} (C : Cx p s m args meth c RX11 cX11_isFit 7 (some .boolean) dC dI ad cy sz) {rr : Int32} {ρ : S0} (sf_31 : S0 → Int32 → Int32 → Int32 → Int32 → Option (Int32 × S0)) (hs_31 : ∀ (σ : S0) (x1 : Int32) (x2 : Int32) (x3 : Int32) (x4 : Int32) , sf_31 σ x1 x2 x3 x4 = some (rr, ρ) → Gw p l e rm_X11_isFit s m args below meth c (MQ below (QcI dC dI ad cy sz rr ρ) args s 0 0 (AW ad sz)) dC dI ad cy 7 sz 0 0 31 [(0, .ref (ad 98)), (1, .int x1), (2, .int x2), (3, .int x3), (4, .int x4)] [] σ) (σ : S0) (x1 : Int32) (x2 : Int32) (x4 : Int32) (x5 : Int32) (x6 : Int32) (t0 : Int32) (t1 : Int32)  (hf : fX11_isFit_b93 sf_31 σ x1 x2 x4 x5 x6 t0 t1 = some (rr, ρ)) : Gw p l e rm_X11_isFit s m args below meth c (MQ below (QcI dC dI ad cy sz rr ρ) args s 0 0 (AW ad sz)) dC dI ad cy 7 sz 0 0 93 [(0, .ref (ad 98)), (1, .int x1), (2, .int x2), (4, .int x4), (5, .int x5), (6, .int x6)] [.int t0, .int t1, .ref (ad 98)] σ := by
  unfold fX11_isFit_b93 at hf
  refine g_ior C dX11_isFit_93 ?_
  obtain ⟨v1, ev1, hf⟩ := ol_e hf
  refine g_nm ev1 ?_
  obtain ⟨σ2, eσ2, hf⟩ := ol_e hf
  refine g_put (ty := .int) C (a_98 ad cy _) rfl hin_X11 tyX11 tyX11_ok nmX11 35 (by decide) hF_X11_297 rfl rfl (by decide +kernel) rfl rfl (Nat.le_of_ble_eq_true rfl) (p_98_35 ad cy _ _) eσ2 dX11_isFit_94 ?_
  refine g_iload_n C dX11_isFit_97 rfl 2 rfl ?_
  refine g_iload C dX11_isFit_98 4 rfl ?_
  refine g_bipush (v := (-4)) C dX11_isFit_100 (by decide) ?_
  rcases oi_e hf with ⟨c3, hf⟩ | ⟨c3, hf⟩
  · refine g_icmp_ne_t (tgt := 109) C dX11_isFit_102 (by decide) c3 ?_
    refine g_iconst (v := 1) C dX11_isFit_109 (by decide) ?_
    refine g_iload C dX11_isFit_110 5 rfl ?_
    refine g_ishl C dX11_isFit_112 ?_
    exact g_sub [0, 1, 3, 4] rfl (fX11_isFit_b113_ok C sf_31 hs_31 σ2 x1 x4 x5 ((1 : Int32) <<< (x6 &&& 31)) x2 hf)
  · refine g_icmp_ne_f (tgt := 109) C dX11_isFit_102 (by decide) (Decidable.of_not_not c3) ?_
    refine g_iconst (v := 0) C dX11_isFit_105 (by decide) ?_
    refine g_goto (tgt := 113) C dX11_isFit_106 (by decide) ?_
    exact g_sub [0, 1, 3, 4] rfl (fX11_isFit_b113_ok C sf_31 hs_31 σ2 x1 x4 x5 0 x2 hf)
def fX11_isFit_b146  (σ : S0) (x2 : Int32) (x3 : Int32) : Option (Int32 × S0) := if x3 = 0 then (some (0, σ)) else (if ¬ (x2 &&& (σ 98 35)) = 0 then (some (0, σ)) else (some (1, σ)))
set_option maxHeartbeats 1000000 in
set_option maxRecDepth 100000 in
theorem fX11_isFit_b146_ok {p : Program} {l : Launch} {e : Env} {s : State} {m : MethodId} {args : Array Value} {below : List Frame} {meth : Method} {c : Code} {dC : Nat → ClassId} {dI : Nat → Nat → Nat} {ad : Nat → Nat} {cy : Nat → ClassId} {sz : Nat} (C : Cx p s m args meth c RX11 cX11_isFit 7 (some .boolean) dC dI ad cy sz) {rr : Int32} {ρ : S0}  (σ : S0) (x2 : Int32) (x3 : Int32)  (hf : fX11_isFit_b146 σ x2 x3 = some (rr, ρ)) : Gw p l e rm_X11_isFit s m args below meth c (MQ below (QcI dC dI ad cy sz rr ρ) args s 0 0 (AW ad sz)) dC dI ad cy 7 sz 0 0 146 [(0, .ref (ad 98)), (2, .int x2), (3, .int x3)] [] σ := by
  unfold fX11_isFit_b146 at hf
  refine g_iload_n C dX11_isFit_146 rfl 2 rfl ?_
  rcases oi_e hf with ⟨c1, hf⟩ | ⟨c1, hf⟩
  · refine g_if_eq_t (tgt := 163) C dX11_isFit_147 (by decide) c1 ?_
    refine g_iconst (v := 0) C dX11_isFit_163 (by decide) ?_
    obtain ⟨rfl, rfl⟩ := os_e hf
    exact g_zret C rfl (by decide) dX11_isFit_164
  · refine g_if_eq_f (tgt := 163) C dX11_isFit_147 (by decide) c1 ?_
    refine g_iload_n C dX11_isFit_150 rfl 1 rfl ?_
    refine g_aload_n C dX11_isFit_151 rfl 0 rfl ?_
    refine g_get C (a_98 ad cy _) rfl hin_X11 35 (by decide) hF_X11_297 rfl rfl dX11_isFit_152 ?_
    refine g_iand C dX11_isFit_155 ?_
    rcases oi_e hf with ⟨c2, hf⟩ | ⟨c2, hf⟩
    · refine g_if_ne_t (tgt := 163) C dX11_isFit_156 (by decide) c2 ?_
      refine g_iconst (v := 0) C dX11_isFit_163 (by decide) ?_
      obtain ⟨rfl, rfl⟩ := os_e hf
      exact g_zret C rfl (by decide) dX11_isFit_164
    · refine g_if_ne_f (tgt := 163) C dX11_isFit_156 (by decide) (Decidable.of_not_not c2) ?_
      refine g_iconst (v := 1) C dX11_isFit_159 (by decide) ?_
      refine g_goto (tgt := 164) C dX11_isFit_160 (by decide) ?_
      obtain ⟨rfl, rfl⟩ := os_e hf
      exact g_zret C rfl (by decide) dX11_isFit_164
def fX11_isFit_b31 (sf_31 : S0 → Int32 → Int32 → Int32 → Int32 → Option (Int32 × S0)) (σ : S0) (x1 : Int32) (x2 : Int32) (x3 : Int32) (x4 : Int32) : Option (Int32 × S0) := og (¬ (((66 : Int32)) < 0 ∨ 240 ≤ ((66 : Int32)).toNatClampNeg)) (ol (σ 99 ((66 : Int32)).toNatClampNeg) (fun v2 => if v2 ≤ x4 then (fX11_isFit_b146 σ x2 x3) else (if x3 = 0 then (fX11_isFit_b146 σ x2 x3) else (ol (67 + x4) (fun v5 => og (¬ (v5 < 0 ∨ 240 ≤ v5.toNatClampNeg)) (ol (σ 99 v5.toNatClampNeg) (fun v7 => obp (fX11_stroke σ x1 x4) (fun r8 σ9 => obp (fX11_of σ9 r8 ((0 : Int32))) (fun r11 σ12 => if ¬ v7 = ((-4)) then (fX11_isFit_b93 sf_31 σ12 x1 x2 x4 v7 r11 0 (σ12 98 35)) else (fX11_isFit_b93 sf_31 σ12 x1 x2 x4 v7 r11 ((1 : Int32) <<< (r11 &&& 31)) (σ12 98 35)))))))))))
set_option maxHeartbeats 1000000 in
set_option maxRecDepth 100000 in
theorem fX11_isFit_b31_ok {p : Program} {l : Launch} {e : Env} {s : State} {m : MethodId} {args : Array Value} {below : List Frame} {meth : Method} {c : Code} {dC : Nat → ClassId} {dI : Nat → Nat → Nat} {ad : Nat → Nat} {cy : Nat → ClassId} {sz : Nat} (C : Cx p s m args meth c RX11 cX11_isFit 7 (some .boolean) dC dI ad cy sz) {rr : Int32} {ρ : S0} (sf_31 : S0 → Int32 → Int32 → Int32 → Int32 → Option (Int32 × S0)) (hs_31 : ∀ (σ : S0) (x1 : Int32) (x2 : Int32) (x3 : Int32) (x4 : Int32) , sf_31 σ x1 x2 x3 x4 = some (rr, ρ) → Gw p l e rm_X11_isFit s m args below meth c (MQ below (QcI dC dI ad cy sz rr ρ) args s 0 0 (AW ad sz)) dC dI ad cy 7 sz 0 0 31 [(0, .ref (ad 98)), (1, .int x1), (2, .int x2), (3, .int x3), (4, .int x4)] [] σ) (σ : S0) (x1 : Int32) (x2 : Int32) (x3 : Int32) (x4 : Int32)  (hf : fX11_isFit_b31 sf_31 σ x1 x2 x3 x4 = some (rr, ρ)) : Gw p l e rm_X11_isFit s m args below meth c (MQ below (QcI dC dI ad cy sz rr ρ) args s 0 0 (AW ad sz)) dC dI ad cy 7 sz 0 0 31 [(0, .ref (ad 98)), (1, .int x1), (2, .int x2), (3, .int x3), (4, .int x4)] [] σ := by
  unfold fX11_isFit_b31 at hf
  refine g_iload C dX11_isFit_31 4 rfl ?_
  refine g_aload_n C dX11_isFit_33 rfl 0 rfl ?_
  refine g_get C (a_98 ad cy _) rfl hin_X11 0 (by decide) hF_X11_7 rfl rfl dX11_isFit_34 ?_
  refine g_bipush (v := 66) C dX11_isFit_37 (by decide) ?_
  obtain ⟨h1, hf⟩ := og_e hf
  refine g_iald C (a_99 ad cy _) h1 dX11_isFit_39 ?_
  obtain ⟨v2, ev2, hf⟩ := ol_e hf
  refine g_nm ev2 ?_
  rcases oi_e hf with ⟨c3, hf⟩ | ⟨c3, hf⟩
  · refine g_icmp_ge_t (tgt := 146) C dX11_isFit_40 (by decide) c3 ?_
    exact g_sub [0, 2, 3] rfl (fX11_isFit_b146_ok C σ x2 x3 hf)
  · refine g_icmp_ge_f (tgt := 146) C dX11_isFit_40 (by decide) c3 ?_
    refine g_iload_n C dX11_isFit_43 rfl 3 rfl ?_
    rcases oi_e hf with ⟨c4, hf⟩ | ⟨c4, hf⟩
    · refine g_if_eq_t (tgt := 146) C dX11_isFit_44 (by decide) c4 ?_
      exact g_sub [0, 2, 3] rfl (fX11_isFit_b146_ok C σ x2 x3 hf)
    · refine g_if_eq_f (tgt := 146) C dX11_isFit_44 (by decide) c4 ?_
      refine g_aload_n C dX11_isFit_47 rfl 0 rfl ?_
      refine g_get C (a_98 ad cy _) rfl hin_X11 0 (by decide) hF_X11_7 rfl rfl dX11_isFit_48 ?_
      refine g_bipush (v := 67) C dX11_isFit_51 (by decide) ?_
      refine g_iload C dX11_isFit_53 4 rfl ?_
      refine g_iadd C dX11_isFit_55 ?_
      obtain ⟨v5, ev5, hf⟩ := ol_e hf
      refine g_nm ev5 ?_
      obtain ⟨h6, hf⟩ := og_e hf
      refine g_iald C (a_99 ad cy _) h6 dX11_isFit_56 ?_
      obtain ⟨v7, ev7, hf⟩ := ol_e hf
      refine g_nm ev7 ?_
      refine g_istore (lv2 := [(0, .ref (ad 98)), (1, .int x1), (2, .int x2), (3, .int x3), (4, .int x4), (5, .int v7)]) C dX11_isFit_57 (by decide) [1, 2, 3, 4, 5, 0] rfl ?_
      refine g_aload_n C dX11_isFit_59 rfl 0 rfl ?_
      refine g_aload_n C dX11_isFit_60 rfl 0 rfl ?_
      refine g_iload_n C dX11_isFit_61 rfl 1 rfl ?_
      refine g_iload C dX11_isFit_62 4 rfl ?_
      obtain ⟨r8, σ9, h10, hf⟩ := obp_e hf
      refine g_callVi (As := [.int x1, .int x4]) (rest := [.ref (ad 98)]) C (a_98 ad cy _) rfl (c_X11_stroke l dC dI ad cy x1 x4) h10 hM_X11_183 cal_X11_stroke ⟨Nat.zero_le _, Nat.zero_le _⟩ ⟨rfl, rfl⟩ ⟨Nat.le_of_ble_eq_true rfl, Nat.le_of_ble_eq_true rfl⟩ rfl rfl (Nat.le_of_ble_eq_true rfl) dX11_isFit_64 ?_
      refine g_iconst (v := 0) C dX11_isFit_67 (by decide) ?_
      obtain ⟨r11, σ12, h13, hf⟩ := obp_e hf
      refine g_callVi (As := [.int r8, .int 0]) (rest := []) C (a_98 ad cy _) rfl (c_X11_of l dC dI ad cy r8 ((0 : Int32))) h13 hM_X11_172 cal_X11_of ⟨Nat.zero_le _, Nat.zero_le _⟩ ⟨rfl, rfl⟩ ⟨Nat.le_of_ble_eq_true rfl, Nat.le_of_ble_eq_true rfl⟩ rfl rfl (Nat.le_of_ble_eq_true rfl) dX11_isFit_68 ?_
      refine g_istore (lv2 := [(0, .ref (ad 98)), (1, .int x1), (2, .int x2), (3, .int x3), (4, .int x4), (5, .int v7), (6, .int r11)]) C dX11_isFit_71 (by decide) [1, 2, 3, 4, 5, 6, 0] rfl ?_
      refine g_aload_n C dX11_isFit_73 rfl 0 rfl ?_
      refine g_dup C dX11_isFit_74 rfl ?_
      refine g_get C (a_98 ad cy _) rfl hin_X11 35 (by decide) hF_X11_297 rfl rfl dX11_isFit_75 ?_
      refine g_iload C dX11_isFit_78 5 rfl ?_
      refine g_bipush (v := (-4)) C dX11_isFit_80 (by decide) ?_
      rcases oi_e hf with ⟨c14, hf⟩ | ⟨c14, hf⟩
      · refine g_icmp_ne_t (tgt := 92) C dX11_isFit_82 (by decide) c14 ?_
        refine g_iconst (v := 0) C dX11_isFit_92 (by decide) ?_
        exact g_sub [0, 1, 2, 4, 5, 6] rfl (fX11_isFit_b93_ok C sf_31 hs_31 σ12 x1 x2 x4 v7 r11 0 (σ12 98 35) hf)
      · refine g_icmp_ne_f (tgt := 92) C dX11_isFit_82 (by decide) (Decidable.of_not_not c14) ?_
        refine g_iconst (v := 1) C dX11_isFit_85 (by decide) ?_
        refine g_iload C dX11_isFit_86 6 rfl ?_
        refine g_ishl C dX11_isFit_88 ?_
        refine g_goto (tgt := 93) C dX11_isFit_89 (by decide) ?_
        exact g_sub [0, 1, 2, 4, 5, 6] rfl (fX11_isFit_b93_ok C sf_31 hs_31 σ12 x1 x2 x4 v7 r11 ((1 : Int32) <<< (r11 &&& 31)) (σ12 98 35) hf)
def fX11_isFit_h31  : Nat → S0 → Int32 → Int32 → Int32 → Int32 → Option (Int32 × S0)
  | 0 => fun _ _ _ _ _ => none
  | n + 1 => fun σ x1 x2 x3 x4 => fX11_isFit_b31  (fX11_isFit_h31  n) σ x1 x2 x3 x4
set_option maxHeartbeats 1000000 in
set_option maxRecDepth 100000 in
theorem fX11_isFit_h31_ok {p : Program} {l : Launch} {e : Env} {s : State} {m : MethodId} {args : Array Value} {below : List Frame} {meth : Method} {c : Code} {dC : Nat → ClassId} {dI : Nat → Nat → Nat} {ad : Nat → Nat} {cy : Nat → ClassId} {sz : Nat} (C : Cx p s m args meth c RX11 cX11_isFit 7 (some .boolean) dC dI ad cy sz) {rr : Int32} {ρ : S0}  : ∀ (n : Nat) (σ : S0) (x1 : Int32) (x2 : Int32) (x3 : Int32) (x4 : Int32)  (_hf : fX11_isFit_h31  n σ x1 x2 x3 x4 = some (rr, ρ)), Gw p l e rm_X11_isFit s m args below meth c (MQ below (QcI dC dI ad cy sz rr ρ) args s 0 0 (AW ad sz)) dC dI ad cy 7 sz 0 0 31 [(0, .ref (ad 98)), (1, .int x1), (2, .int x2), (3, .int x3), (4, .int x4)] [] σ
  | 0, _, _, _, _, _, hf => by cases hf
  | n + 1, σ, x1, x2, x3, x4, hf => fX11_isFit_b31_ok C  (fX11_isFit_h31  n) (fX11_isFit_h31_ok C  n) σ x1 x2 x3 x4 hf
def fX11_isFit_b27  (σ : S0) (x1 : Int32) (x2 : Int32) (t0 : Int32) : Option (Int32 × S0) := fX11_isFit_h31 400 σ x1 x2 t0 0
set_option maxHeartbeats 1000000 in
set_option maxRecDepth 100000 in
theorem fX11_isFit_b27_ok {p : Program} {l : Launch} {e : Env} {s : State} {m : MethodId} {args : Array Value} {below : List Frame} {meth : Method} {c : Code} {dC : Nat → ClassId} {dI : Nat → Nat → Nat} {ad : Nat → Nat} {cy : Nat → ClassId} {sz : Nat} (C : Cx p s m args meth c RX11 cX11_isFit 7 (some .boolean) dC dI ad cy sz) {rr : Int32} {ρ : S0}  (σ : S0) (x1 : Int32) (x2 : Int32) (t0 : Int32)  (hf : fX11_isFit_b27 σ x1 x2 t0 = some (rr, ρ)) : Gw p l e rm_X11_isFit s m args below meth c (MQ below (QcI dC dI ad cy sz rr ρ) args s 0 0 (AW ad sz)) dC dI ad cy 7 sz 0 0 27 [(0, .ref (ad 98)), (1, .int x1), (2, .int x2)] [.int t0] σ := by
  unfold fX11_isFit_b27 at hf
  refine g_istore_n (lv2 := [(0, .ref (ad 98)), (1, .int x1), (2, .int x2), (3, .int t0)]) C dX11_isFit_27 rfl (by decide) [1, 2, 3, 0] rfl ?_
  refine g_iconst (v := 0) C dX11_isFit_28 (by decide) ?_
  refine g_istore (lv2 := [(0, .ref (ad 98)), (1, .int x1), (2, .int x2), (3, .int t0), (4, .int 0)]) C dX11_isFit_29 (by decide) [1, 2, 3, 4, 0] rfl ?_
  exact g_sub [0, 1, 2, 3, 4] rfl (fX11_isFit_h31_ok C 400 σ x1 x2 t0 0 hf)
def fX11_isFit (σ : S0) (x1 : Int32) : Option (Int32 × S0) := ol (su σ 98 35 0) (fun σ1 => obp (fX11_strokes σ1 x1) (fun r2 σ3 => og (¬ (((66 : Int32)) < 0 ∨ 240 ≤ ((66 : Int32)).toNatClampNeg)) (ol (σ3 99 ((66 : Int32)).toNatClampNeg) (fun v6 => if ¬ r2 = v6 then (fX11_isFit_b27 σ3 x1 0 0) else (fX11_isFit_b27 σ3 x1 0 1)))))
set_option maxHeartbeats 1000000 in
set_option maxRecDepth 100000 in
theorem fX11_isFit_ok {p : Program} {l : Launch} {e : Env} {s : State} {m : MethodId} {args : Array Value} {below : List Frame} {meth : Method} {c : Code} {dC : Nat → ClassId} {dI : Nat → Nat → Nat} {ad : Nat → Nat} {cy : Nat → ClassId} {sz : Nat} (C : Cx p s m args meth c RX11 cX11_isFit 7 (some .boolean) dC dI ad cy sz) {rr : Int32} {ρ : S0} (σ : S0) (x1 : Int32)  (hf : fX11_isFit σ x1 = some (rr, ρ)) : Gw p l e rm_X11_isFit s m args below meth c (MQ below (QcI dC dI ad cy sz rr ρ) args s 0 0 (AW ad sz)) dC dI ad cy 7 sz 0 0 0 [(0, .ref (ad 98)), (1, .int x1)] [] σ := by
  unfold fX11_isFit at hf
  refine g_aload_n C dX11_isFit_0 rfl 0 rfl ?_
  refine g_iconst (v := 0) C dX11_isFit_1 (by decide) ?_
  obtain ⟨σ1, eσ1, hf⟩ := ol_e hf
  refine g_put (ty := .int) C (a_98 ad cy _) rfl hin_X11 tyX11 tyX11_ok nmX11 35 (by decide) hF_X11_297 rfl rfl (by decide +kernel) rfl rfl (Nat.le_of_ble_eq_true rfl) (p_98_35 ad cy _ _) eσ1 dX11_isFit_2 ?_
  refine g_iconst (v := 0) C dX11_isFit_5 (by decide) ?_
  refine g_istore_n (lv2 := [(0, .ref (ad 98)), (1, .int x1), (2, .int 0)]) C dX11_isFit_6 rfl (by decide) [1, 2, 0] rfl ?_
  refine g_aload_n C dX11_isFit_7 rfl 0 rfl ?_
  refine g_iload_n C dX11_isFit_8 rfl 1 rfl ?_
  obtain ⟨r2, σ3, h4, hf⟩ := obp_e hf
  refine g_callVi (As := [.int x1]) (rest := []) C (a_98 ad cy _) rfl (c_X11_strokes l dC dI ad cy x1) h4 hM_X11_180 cal_X11_strokes ⟨Nat.zero_le _, Nat.zero_le _⟩ ⟨rfl, rfl⟩ ⟨Nat.le_of_ble_eq_true rfl, Nat.le_of_ble_eq_true rfl⟩ rfl rfl (Nat.le_of_ble_eq_true rfl) dX11_isFit_9 ?_
  refine g_aload_n C dX11_isFit_12 rfl 0 rfl ?_
  refine g_get C (a_98 ad cy _) rfl hin_X11 0 (by decide) hF_X11_7 rfl rfl dX11_isFit_13 ?_
  refine g_bipush (v := 66) C dX11_isFit_16 (by decide) ?_
  obtain ⟨h5, hf⟩ := og_e hf
  refine g_iald C (a_99 ad cy _) h5 dX11_isFit_18 ?_
  obtain ⟨v6, ev6, hf⟩ := ol_e hf
  refine g_nm ev6 ?_
  rcases oi_e hf with ⟨c7, hf⟩ | ⟨c7, hf⟩
  · refine g_icmp_ne_t (tgt := 26) C dX11_isFit_19 (by decide) c7 ?_
    refine g_iconst (v := 0) C dX11_isFit_26 (by decide) ?_
    exact g_sub [0, 1, 2] rfl (fX11_isFit_b27_ok C σ3 x1 0 0 hf)
  · refine g_icmp_ne_f (tgt := 26) C dX11_isFit_19 (by decide) (Decidable.of_not_not c7) ?_
    refine g_iconst (v := 1) C dX11_isFit_22 (by decide) ?_
    refine g_goto (tgt := 27) C dX11_isFit_23 (by decide) ?_
    exact g_sub [0, 1, 2] rfl (fX11_isFit_b27_ok C σ3 x1 0 1 hf)
theorem c_X11_isFit (l : Launch) (dC : Nat → ClassId) (dI : Nat → Nat → Nat) (ad : Nat → Nat) (cy : Nat → ClassId) (x1 : Int32) : ConI l yX11_isFit cX11_isFit 7 (some .boolean) rm_X11_isFit dC dI ad cy [.ref (ad 98), .int x1] (fun σ => fX11_isFit σ x1) := con_i (own := RX11) (by decide) rfl (Nat.le_of_ble_eq_true rfl) (fun _ _ _ _ _ _ _ _ σ _ _ C hf => fX11_isFit_ok C σ x1 hf)
theorem cal_X11_isFit : CalV yX11_isFit RX11 cX11_isFit 7 (some .boolean) 1 := ⟨hI_X11_isFit, hS_X11_isFit, hIni_X11, hC_X11_isFit, by decide +kernel⟩
abbrev rm_X11_fits : Room := { frames := 2, cells := 0, slots := 0, locals := 48 }
def fX11_fits (σ : S0) (x1 : Int32) : Option (Int32 × S0) := obp (fX11_isTune σ x1) (fun r1 σ2 => if ¬ r1 = 0 then (og (¬ (((66 : Int32)) < 0 ∨ 240 ≤ ((66 : Int32)).toNatClampNeg)) (ol (σ2 99 ((66 : Int32)).toNatClampNeg) (fun v6 => if ¬ v6 = 0 then (obp (fX11_isFit σ2 x1) (fun r8 σ9 => obp (fX11_flag σ9 r8) (fun r11 σ12 => some (r11, σ12)))) else (some ((-2), σ2))))) else (some ((-1), σ2)))
set_option maxHeartbeats 1000000 in
set_option maxRecDepth 100000 in
theorem fX11_fits_ok {p : Program} {l : Launch} {e : Env} {s : State} {m : MethodId} {args : Array Value} {below : List Frame} {meth : Method} {c : Code} {dC : Nat → ClassId} {dI : Nat → Nat → Nat} {ad : Nat → Nat} {cy : Nat → ClassId} {sz : Nat} (C : Cx p s m args meth c RX11 cX11_fits 2 (some .int) dC dI ad cy sz) {rr : Int32} {ρ : S0} (σ : S0) (x1 : Int32)  (hf : fX11_fits σ x1 = some (rr, ρ)) : Gw p l e rm_X11_fits s m args below meth c (MQ below (QcI dC dI ad cy sz rr ρ) args s 0 0 (AW ad sz)) dC dI ad cy 2 sz 0 0 0 [(0, .ref (ad 98)), (1, .int x1)] [] σ := by
  unfold fX11_fits at hf
  refine g_aload_n C dX11_fits_0 rfl 0 rfl ?_
  refine g_iload_n C dX11_fits_1 rfl 1 rfl ?_
  obtain ⟨r1, σ2, h3, hf⟩ := obp_e hf
  refine g_callVi (As := [.int x1]) (rest := []) C (a_98 ad cy _) rfl (c_X11_isTune l dC dI ad cy x1) h3 hM_X11_175 cal_X11_isTune ⟨Nat.zero_le _, Nat.zero_le _⟩ ⟨rfl, rfl⟩ ⟨Nat.le_of_ble_eq_true rfl, Nat.le_of_ble_eq_true rfl⟩ rfl rfl (Nat.le_of_ble_eq_true rfl) dX11_fits_2 ?_
  rcases oi_e hf with ⟨c4, hf⟩ | ⟨c4, hf⟩
  · refine g_if_ne_t (tgt := 10) C dX11_fits_5 (by decide) c4 ?_
    refine g_aload_n C dX11_fits_10 rfl 0 rfl ?_
    refine g_get C (a_98 ad cy _) rfl hin_X11 0 (by decide) hF_X11_7 rfl rfl dX11_fits_11 ?_
    refine g_bipush (v := 66) C dX11_fits_14 (by decide) ?_
    obtain ⟨h5, hf⟩ := og_e hf
    refine g_iald C (a_99 ad cy _) h5 dX11_fits_16 ?_
    obtain ⟨v6, ev6, hf⟩ := ol_e hf
    refine g_nm ev6 ?_
    rcases oi_e hf with ⟨c7, hf⟩ | ⟨c7, hf⟩
    · refine g_if_ne_t (tgt := 25) C dX11_fits_17 (by decide) c7 ?_
      refine g_aload_n C dX11_fits_25 rfl 0 rfl ?_
      refine g_iload_n C dX11_fits_26 rfl 1 rfl ?_
      obtain ⟨r8, σ9, h10, hf⟩ := obp_e hf
      refine g_callVi (As := [.int x1]) (rest := []) C (a_98 ad cy _) rfl (c_X11_isFit l dC dI ad cy x1) h10 hM_X11_300 cal_X11_isFit ⟨Nat.zero_le _, Nat.zero_le _⟩ ⟨rfl, rfl⟩ ⟨Nat.le_of_ble_eq_true rfl, Nat.le_of_ble_eq_true rfl⟩ rfl rfl (Nat.le_of_ble_eq_true rfl) dX11_fits_27 ?_
      obtain ⟨r11, σ12, h13, hf⟩ := obp_e hf
      refine g_callSi (As := [.int r8]) (rest := []) C (c_X11_flag l dC dI ad cy r8) h13 hM_X11_191 cal_X11_flag ⟨Nat.zero_le _, Nat.zero_le _⟩ ⟨rfl, rfl⟩ ⟨Nat.le_of_ble_eq_true rfl, Nat.le_of_ble_eq_true rfl⟩ rfl rfl (Nat.le_of_ble_eq_true rfl) dX11_fits_30 ?_
      obtain ⟨rfl, rfl⟩ := os_e hf
      exact g_iret C rfl dX11_fits_33
    · refine g_if_ne_f (tgt := 25) C dX11_fits_17 (by decide) (Decidable.of_not_not c7) ?_
      refine g_bipush (v := (-2)) C dX11_fits_20 (by decide) ?_
      refine g_goto (tgt := 33) C dX11_fits_22 (by decide) ?_
      obtain ⟨rfl, rfl⟩ := os_e hf
      exact g_iret C rfl dX11_fits_33
  · refine g_if_ne_f (tgt := 10) C dX11_fits_5 (by decide) (Decidable.of_not_not c4) ?_
    refine g_iconst (v := (-1)) C dX11_fits_8 (by decide) ?_
    obtain ⟨rfl, rfl⟩ := os_e hf
    exact g_iret C rfl dX11_fits_9
theorem c_X11_fits (l : Launch) (dC : Nat → ClassId) (dI : Nat → Nat → Nat) (ad : Nat → Nat) (cy : Nat → ClassId) (x1 : Int32) : ConI l yX11_fits cX11_fits 2 (some .int) rm_X11_fits dC dI ad cy [.ref (ad 98), .int x1] (fun σ => fX11_fits σ x1) := con_i (own := RX11) (by decide) rfl (Nat.le_of_ble_eq_true rfl) (fun _ _ _ _ _ _ _ _ σ _ _ C hf => fX11_fits_ok C σ x1 hf)
theorem cal_X11_fits : CalV yX11_fits RX11 cX11_fits 2 (some .int) 1 := ⟨hI_X11_fits, hS_X11_fits, hIni_X11, hC_X11_fits, by decide +kernel⟩
abbrev rm_X11_which : Room := { frames := 2, cells := 0, slots := 0, locals := 48 }
def fX11_which_b99 (sf_43 : S0 → Int32 → Int32 → Int32 → Int32 → Int32 → Int32 → Option (Int32 × S0)) (σ : S0) (x1 : Int32) (x2 : Int32) (x3 : Int32) (x4 : Int32) (x5 : Int32) (x6 : Int32) : Option (Int32 × S0) := ol (x6 + 1) (fun v1 => sf_43 σ x1 x2 x3 x4 x5 v1)
set_option maxHeartbeats 1000000 in
set_option maxRecDepth 100000 in
theorem fX11_which_b99_ok {p : Program} {l : Launch} {e : Env} {s : State} {m : MethodId} {args : Array Value} {below : List Frame} {meth : Method} {c : Code} {dC : Nat → ClassId} {dI : Nat → Nat → Nat} {ad : Nat → Nat} {cy : Nat → ClassId} {sz : Nat} (C : Cx p s m args meth c RX11 cX11_which 7 (some .int) dC dI ad cy sz) {rr : Int32} {ρ : S0} (sf_43 : S0 → Int32 → Int32 → Int32 → Int32 → Int32 → Int32 → Option (Int32 × S0)) (hs_43 : ∀ (σ : S0) (x1 : Int32) (x2 : Int32) (x3 : Int32) (x4 : Int32) (x5 : Int32) (x6 : Int32) , sf_43 σ x1 x2 x3 x4 x5 x6 = some (rr, ρ) → Gw p l e rm_X11_which s m args below meth c (MQ below (QcI dC dI ad cy sz rr ρ) args s 0 0 (AW ad sz)) dC dI ad cy 7 sz 0 0 43 [(0, .ref (ad 98)), (1, .int x1), (2, .int x2), (3, .int x3), (4, .int x4), (5, .int x5), (6, .int x6)] [] σ) (σ : S0) (x1 : Int32) (x2 : Int32) (x3 : Int32) (x4 : Int32) (x5 : Int32) (x6 : Int32)  (hf : fX11_which_b99 sf_43 σ x1 x2 x3 x4 x5 x6 = some (rr, ρ)) : Gw p l e rm_X11_which s m args below meth c (MQ below (QcI dC dI ad cy sz rr ρ) args s 0 0 (AW ad sz)) dC dI ad cy 7 sz 0 0 99 [(0, .ref (ad 98)), (1, .int x1), (2, .int x2), (3, .int x3), (4, .int x4), (5, .int x5), (6, .int x6)] [] σ := by
  unfold fX11_which_b99 at hf
  obtain ⟨v1, ev1, hf⟩ := ol_e hf
  refine g_iinc (j := 6) (w := 1) (lv2 := [(0, .ref (ad 98)), (1, .int x1), (2, .int x2), (3, .int x3), (4, .int x4), (5, .int x5), (6, .int v1)]) C dX11_which_99 rfl (by decide) ev1 (by decide) [1, 2, 3, 4, 5, 6, 0] rfl ?_
  refine g_goto (tgt := 43) C dX11_which_102 (by decide) ?_
  exact g_sub [0, 1, 2, 3, 4, 5, 6] rfl (hs_43 σ x1 x2 x3 x4 x5 v1 hf)
def fX11_which_b85 (sf_43 : S0 → Int32 → Int32 → Int32 → Int32 → Int32 → Int32 → Option (Int32 × S0)) (σ : S0) (x1 : Int32) (x2 : Int32) (x3 : Int32) (x5 : Int32) (x6 : Int32) (t0 : Int32) : Option (Int32 × S0) := ol (x5 &&& (σ 98 35)) (fun v1 => ol (x2 + 1) (fun v2 => fX11_which_b99 sf_43 σ x1 v2 x3 t0 v1 x6))
set_option maxHeartbeats 1000000 in
set_option maxRecDepth 100000 in
theorem fX11_which_b85_ok {p : Program} {l : Launch} {e : Env} {s : State} {m : MethodId} {args : Array Value} {below : List Frame} {meth : Method} {c : Code} {dC : Nat → ClassId} {dI : Nat → Nat → Nat} {ad : Nat → Nat} {cy : Nat → ClassId} {sz : Nat} (C : Cx p s m args meth c RX11 cX11_which 7 (some .int) dC dI ad cy sz) {rr : Int32} {ρ : S0} (sf_43 : S0 → Int32 → Int32 → Int32 → Int32 → Int32 → Int32 → Option (Int32 × S0)) (hs_43 : ∀ (σ : S0) (x1 : Int32) (x2 : Int32) (x3 : Int32) (x4 : Int32) (x5 : Int32) (x6 : Int32) , sf_43 σ x1 x2 x3 x4 x5 x6 = some (rr, ρ) → Gw p l e rm_X11_which s m args below meth c (MQ below (QcI dC dI ad cy sz rr ρ) args s 0 0 (AW ad sz)) dC dI ad cy 7 sz 0 0 43 [(0, .ref (ad 98)), (1, .int x1), (2, .int x2), (3, .int x3), (4, .int x4), (5, .int x5), (6, .int x6)] [] σ) (σ : S0) (x1 : Int32) (x2 : Int32) (x3 : Int32) (x5 : Int32) (x6 : Int32) (t0 : Int32)  (hf : fX11_which_b85 sf_43 σ x1 x2 x3 x5 x6 t0 = some (rr, ρ)) : Gw p l e rm_X11_which s m args below meth c (MQ below (QcI dC dI ad cy sz rr ρ) args s 0 0 (AW ad sz)) dC dI ad cy 7 sz 0 0 85 [(0, .ref (ad 98)), (1, .int x1), (2, .int x2), (3, .int x3), (5, .int x5), (6, .int x6)] [.int t0] σ := by
  unfold fX11_which_b85 at hf
  refine g_istore (lv2 := [(0, .ref (ad 98)), (1, .int x1), (2, .int x2), (3, .int x3), (4, .int t0), (5, .int x5), (6, .int x6)]) C dX11_which_85 (by decide) [1, 2, 3, 4, 0, 5, 6] rfl ?_
  refine g_iload C dX11_which_87 5 rfl ?_
  refine g_aload_n C dX11_which_89 rfl 0 rfl ?_
  refine g_get C (a_98 ad cy _) rfl hin_X11 35 (by decide) hF_X11_297 rfl rfl dX11_which_90 ?_
  refine g_iand C dX11_which_93 ?_
  obtain ⟨v1, ev1, hf⟩ := ol_e hf
  refine g_nm ev1 ?_
  refine g_istore (lv2 := [(0, .ref (ad 98)), (1, .int x1), (2, .int x2), (3, .int x3), (4, .int t0), (5, .int v1), (6, .int x6)]) C dX11_which_94 (by decide) [1, 2, 3, 4, 5, 0, 6] rfl ?_
  obtain ⟨v2, ev2, hf⟩ := ol_e hf
  refine g_iinc (j := 2) (w := 1) (lv2 := [(0, .ref (ad 98)), (1, .int x1), (2, .int v2), (3, .int x3), (4, .int t0), (5, .int v1), (6, .int x6)]) C dX11_which_96 rfl (by decide) ev2 (by decide) [1, 2, 0, 3, 4, 5, 6] rfl ?_
  exact g_sub [0, 1, 2, 3, 4, 5, 6] rfl (fX11_which_b99_ok C sf_43 hs_43 σ x1 v2 x3 t0 v1 x6 hf)
def fX11_which_b71 (sf_43 : S0 → Int32 → Int32 → Int32 → Int32 → Int32 → Int32 → Option (Int32 × S0)) (σ : S0) (x1 : Int32) (x2 : Int32) (x4 : Int32) (x5 : Int32) (x6 : Int32) (t0 : Int32) : Option (Int32 × S0) := if ¬ x2 = 0 then (fX11_which_b85 sf_43 σ x1 x2 t0 x5 x6 x4) else (fX11_which_b85 sf_43 σ x1 x2 t0 x5 x6 (σ 98 35))
set_option maxHeartbeats 1000000 in
set_option maxRecDepth 100000 in
theorem fX11_which_b71_ok {p : Program} {l : Launch} {e : Env} {s : State} {m : MethodId} {args : Array Value} {below : List Frame} {meth : Method} {c : Code} {dC : Nat → ClassId} {dI : Nat → Nat → Nat} {ad : Nat → Nat} {cy : Nat → ClassId} {sz : Nat} (C : Cx p s m args meth c RX11 cX11_which 7 (some .int) dC dI ad cy sz) {rr : Int32} {ρ : S0} (sf_43 : S0 → Int32 → Int32 → Int32 → Int32 → Int32 → Int32 → Option (Int32 × S0)) (hs_43 : ∀ (σ : S0) (x1 : Int32) (x2 : Int32) (x3 : Int32) (x4 : Int32) (x5 : Int32) (x6 : Int32) , sf_43 σ x1 x2 x3 x4 x5 x6 = some (rr, ρ) → Gw p l e rm_X11_which s m args below meth c (MQ below (QcI dC dI ad cy sz rr ρ) args s 0 0 (AW ad sz)) dC dI ad cy 7 sz 0 0 43 [(0, .ref (ad 98)), (1, .int x1), (2, .int x2), (3, .int x3), (4, .int x4), (5, .int x5), (6, .int x6)] [] σ) (σ : S0) (x1 : Int32) (x2 : Int32) (x4 : Int32) (x5 : Int32) (x6 : Int32) (t0 : Int32)  (hf : fX11_which_b71 sf_43 σ x1 x2 x4 x5 x6 t0 = some (rr, ρ)) : Gw p l e rm_X11_which s m args below meth c (MQ below (QcI dC dI ad cy sz rr ρ) args s 0 0 (AW ad sz)) dC dI ad cy 7 sz 0 0 71 [(0, .ref (ad 98)), (1, .int x1), (2, .int x2), (4, .int x4), (5, .int x5), (6, .int x6)] [.int t0] σ := by
  unfold fX11_which_b71 at hf
  refine g_istore_n (lv2 := [(0, .ref (ad 98)), (1, .int x1), (2, .int x2), (3, .int t0), (4, .int x4), (5, .int x5), (6, .int x6)]) C dX11_which_71 rfl (by decide) [1, 2, 3, 0, 4, 5, 6] rfl ?_
  refine g_iload_n C dX11_which_72 rfl 2 rfl ?_
  rcases oi_e hf with ⟨c1, hf⟩ | ⟨c1, hf⟩
  · refine g_if_ne_t (tgt := 83) C dX11_which_73 (by decide) c1 ?_
    refine g_iload C dX11_which_83 4 rfl ?_
    exact g_sub [0, 1, 2, 3, 5, 6] rfl (fX11_which_b85_ok C sf_43 hs_43 σ x1 x2 t0 x5 x6 x4 hf)
  · refine g_if_ne_f (tgt := 83) C dX11_which_73 (by decide) (Decidable.of_not_not c1) ?_
    refine g_aload_n C dX11_which_76 rfl 0 rfl ?_
    refine g_get C (a_98 ad cy _) rfl hin_X11 35 (by decide) hF_X11_297 rfl rfl dX11_which_77 ?_
    refine g_goto (tgt := 85) C dX11_which_80 (by decide) ?_
    exact g_sub [0, 1, 2, 3, 5, 6] rfl (fX11_which_b85_ok C sf_43 hs_43 σ x1 x2 t0 x5 x6 (σ 98 35) hf)
def fX11_which_b43 (sf_43 : S0 → Int32 → Int32 → Int32 → Int32 → Int32 → Int32 → Option (Int32 × S0)) (σ : S0) (x1 : Int32) (x2 : Int32) (x3 : Int32) (x4 : Int32) (x5 : Int32) (x6 : Int32) : Option (Int32 × S0) := if (σ 98 5) ≤ x6 then (if ¬ x1 = 0 then (if ¬ x2 = 0 then (if ¬ x1 = 1 then (if ¬ x1 = 2 then (some (x5, σ)) else (some (x4, σ))) else (some (x3, σ))) else (some ((-4), σ))) else (some (x2, σ))) else (obp (fX11_isFit σ x6) (fun r6 σ7 => if r6 = 0 then (fX11_which_b99 sf_43 σ7 x1 x2 x3 x4 x5 x6) else (if ¬ x2 = 0 then (fX11_which_b71 sf_43 σ7 x1 x2 x4 x5 x6 x3) else (fX11_which_b71 sf_43 σ7 x1 x2 x4 x5 x6 x6))))
set_option maxHeartbeats 1000000 in
set_option maxRecDepth 100000 in
theorem fX11_which_b43_ok {p : Program} {l : Launch} {e : Env} {s : State} {m : MethodId} {args : Array Value} {below : List Frame} {meth : Method} {c : Code} {dC : Nat → ClassId} {dI : Nat → Nat → Nat} {ad : Nat → Nat} {cy : Nat → ClassId} {sz : Nat} (C : Cx p s m args meth c RX11 cX11_which 7 (some .int) dC dI ad cy sz) {rr : Int32} {ρ : S0} (sf_43 : S0 → Int32 → Int32 → Int32 → Int32 → Int32 → Int32 → Option (Int32 × S0)) (hs_43 : ∀ (σ : S0) (x1 : Int32) (x2 : Int32) (x3 : Int32) (x4 : Int32) (x5 : Int32) (x6 : Int32) , sf_43 σ x1 x2 x3 x4 x5 x6 = some (rr, ρ) → Gw p l e rm_X11_which s m args below meth c (MQ below (QcI dC dI ad cy sz rr ρ) args s 0 0 (AW ad sz)) dC dI ad cy 7 sz 0 0 43 [(0, .ref (ad 98)), (1, .int x1), (2, .int x2), (3, .int x3), (4, .int x4), (5, .int x5), (6, .int x6)] [] σ) (σ : S0) (x1 : Int32) (x2 : Int32) (x3 : Int32) (x4 : Int32) (x5 : Int32) (x6 : Int32)  (hf : fX11_which_b43 sf_43 σ x1 x2 x3 x4 x5 x6 = some (rr, ρ)) : Gw p l e rm_X11_which s m args below meth c (MQ below (QcI dC dI ad cy sz rr ρ) args s 0 0 (AW ad sz)) dC dI ad cy 7 sz 0 0 43 [(0, .ref (ad 98)), (1, .int x1), (2, .int x2), (3, .int x3), (4, .int x4), (5, .int x5), (6, .int x6)] [] σ := by
  unfold fX11_which_b43 at hf
  refine g_iload C dX11_which_43 6 rfl ?_
  refine g_aload_n C dX11_which_45 rfl 0 rfl ?_
  refine g_get C (a_98 ad cy _) rfl hin_X11 5 (by decide) hF_X11_84 rfl rfl dX11_which_46 ?_
  rcases oi_e hf with ⟨c1, hf⟩ | ⟨c1, hf⟩
  · refine g_icmp_ge_t (tgt := 105) C dX11_which_49 (by decide) c1 ?_
    refine g_iload_n C dX11_which_105 rfl 1 rfl ?_
    rcases oi_e hf with ⟨c2, hf⟩ | ⟨c2, hf⟩
    · refine g_if_ne_t (tgt := 113) C dX11_which_106 (by decide) c2 ?_
      refine g_iload_n C dX11_which_113 rfl 2 rfl ?_
      rcases oi_e hf with ⟨c3, hf⟩ | ⟨c3, hf⟩
      · refine g_if_ne_t (tgt := 122) C dX11_which_114 (by decide) c3 ?_
        refine g_iload_n C dX11_which_122 rfl 1 rfl ?_
        refine g_iconst (v := 1) C dX11_which_123 (by decide) ?_
        rcases oi_e hf with ⟨c4, hf⟩ | ⟨c4, hf⟩
        · refine g_icmp_ne_t (tgt := 131) C dX11_which_124 (by decide) c4 ?_
          refine g_iload_n C dX11_which_131 rfl 1 rfl ?_
          refine g_iconst (v := 2) C dX11_which_132 (by decide) ?_
          rcases oi_e hf with ⟨c5, hf⟩ | ⟨c5, hf⟩
          · refine g_icmp_ne_t (tgt := 141) C dX11_which_133 (by decide) c5 ?_
            refine g_iload C dX11_which_141 5 rfl ?_
            obtain ⟨rfl, rfl⟩ := os_e hf
            exact g_iret C rfl dX11_which_143
          · refine g_icmp_ne_f (tgt := 141) C dX11_which_133 (by decide) (Decidable.of_not_not c5) ?_
            refine g_iload C dX11_which_136 4 rfl ?_
            refine g_goto (tgt := 143) C dX11_which_138 (by decide) ?_
            obtain ⟨rfl, rfl⟩ := os_e hf
            exact g_iret C rfl dX11_which_143
        · refine g_icmp_ne_f (tgt := 131) C dX11_which_124 (by decide) (Decidable.of_not_not c4) ?_
          refine g_iload_n C dX11_which_127 rfl 3 rfl ?_
          refine g_goto (tgt := 143) C dX11_which_128 (by decide) ?_
          obtain ⟨rfl, rfl⟩ := os_e hf
          exact g_iret C rfl dX11_which_143
      · refine g_if_ne_f (tgt := 122) C dX11_which_114 (by decide) (Decidable.of_not_not c3) ?_
        refine g_bipush (v := (-4)) C dX11_which_117 (by decide) ?_
        refine g_goto (tgt := 143) C dX11_which_119 (by decide) ?_
        obtain ⟨rfl, rfl⟩ := os_e hf
        exact g_iret C rfl dX11_which_143
    · refine g_if_ne_f (tgt := 113) C dX11_which_106 (by decide) (Decidable.of_not_not c2) ?_
      refine g_iload_n C dX11_which_109 rfl 2 rfl ?_
      refine g_goto (tgt := 143) C dX11_which_110 (by decide) ?_
      obtain ⟨rfl, rfl⟩ := os_e hf
      exact g_iret C rfl dX11_which_143
  · refine g_icmp_ge_f (tgt := 105) C dX11_which_49 (by decide) c1 ?_
    refine g_aload_n C dX11_which_52 rfl 0 rfl ?_
    refine g_iload C dX11_which_53 6 rfl ?_
    obtain ⟨r6, σ7, h8, hf⟩ := obp_e hf
    refine g_callVi (As := [.int x6]) (rest := []) C (a_98 ad cy _) rfl (c_X11_isFit l dC dI ad cy x6) h8 hM_X11_300 cal_X11_isFit ⟨Nat.zero_le _, Nat.zero_le _⟩ ⟨rfl, rfl⟩ ⟨Nat.le_of_ble_eq_true rfl, Nat.le_of_ble_eq_true rfl⟩ rfl rfl (Nat.le_of_ble_eq_true rfl) dX11_which_55 ?_
    rcases oi_e hf with ⟨c9, hf⟩ | ⟨c9, hf⟩
    · refine g_if_eq_t (tgt := 99) C dX11_which_58 (by decide) c9 ?_
      exact g_sub [0, 1, 2, 3, 4, 5, 6] rfl (fX11_which_b99_ok C sf_43 hs_43 σ7 x1 x2 x3 x4 x5 x6 hf)
    · refine g_if_eq_f (tgt := 99) C dX11_which_58 (by decide) c9 ?_
      refine g_iload_n C dX11_which_61 rfl 2 rfl ?_
      rcases oi_e hf with ⟨c10, hf⟩ | ⟨c10, hf⟩
      · refine g_if_ne_t (tgt := 70) C dX11_which_62 (by decide) c10 ?_
        refine g_iload_n C dX11_which_70 rfl 3 rfl ?_
        exact g_sub [0, 1, 2, 4, 5, 6] rfl (fX11_which_b71_ok C sf_43 hs_43 σ7 x1 x2 x4 x5 x6 x3 hf)
      · refine g_if_ne_f (tgt := 70) C dX11_which_62 (by decide) (Decidable.of_not_not c10) ?_
        refine g_iload C dX11_which_65 6 rfl ?_
        refine g_goto (tgt := 71) C dX11_which_67 (by decide) ?_
        exact g_sub [0, 1, 2, 4, 5, 6] rfl (fX11_which_b71_ok C sf_43 hs_43 σ7 x1 x2 x4 x5 x6 x6 hf)
def fX11_which_h43  : Nat → S0 → Int32 → Int32 → Int32 → Int32 → Int32 → Int32 → Option (Int32 × S0)
  | 0 => fun _ _ _ _ _ _ _ => none
  | n + 1 => fun σ x1 x2 x3 x4 x5 x6 => fX11_which_b43  (fX11_which_h43  n) σ x1 x2 x3 x4 x5 x6
set_option maxHeartbeats 1000000 in
set_option maxRecDepth 100000 in
theorem fX11_which_h43_ok {p : Program} {l : Launch} {e : Env} {s : State} {m : MethodId} {args : Array Value} {below : List Frame} {meth : Method} {c : Code} {dC : Nat → ClassId} {dI : Nat → Nat → Nat} {ad : Nat → Nat} {cy : Nat → ClassId} {sz : Nat} (C : Cx p s m args meth c RX11 cX11_which 7 (some .int) dC dI ad cy sz) {rr : Int32} {ρ : S0}  : ∀ (n : Nat) (σ : S0) (x1 : Int32) (x2 : Int32) (x3 : Int32) (x4 : Int32) (x5 : Int32) (x6 : Int32)  (_hf : fX11_which_h43  n σ x1 x2 x3 x4 x5 x6 = some (rr, ρ)), Gw p l e rm_X11_which s m args below meth c (MQ below (QcI dC dI ad cy sz rr ρ) args s 0 0 (AW ad sz)) dC dI ad cy 7 sz 0 0 43 [(0, .ref (ad 98)), (1, .int x1), (2, .int x2), (3, .int x3), (4, .int x4), (5, .int x5), (6, .int x6)] [] σ
  | 0, _, _, _, _, _, _, _, hf => by cases hf
  | n + 1, σ, x1, x2, x3, x4, x5, x6, hf => fX11_which_b43_ok C  (fX11_which_h43  n) (fX11_which_h43_ok C  n) σ x1 x2 x3 x4 x5 x6 hf
def fX11_which (σ : S0) (x1 : Int32) : Option (Int32 × S0) := obp (fX11_in σ x1.toInt64 ((0 : Int64)) ((3 : Int64))) (fun r1 σ2 => if ¬ r1 = 0 then (og (¬ (((66 : Int32)) < 0 ∨ 240 ≤ ((66 : Int32)).toNatClampNeg)) (ol (σ2 99 ((66 : Int32)).toNatClampNeg) (fun v6 => if ¬ v6 = 0 then (fX11_which_h43 400 σ2 x1 0 ((-4)) ((-4)) 63 0) else (some ((-2), σ2))))) else (some ((-1), σ2)))
set_option maxHeartbeats 1000000 in
set_option maxRecDepth 100000 in
theorem fX11_which_ok {p : Program} {l : Launch} {e : Env} {s : State} {m : MethodId} {args : Array Value} {below : List Frame} {meth : Method} {c : Code} {dC : Nat → ClassId} {dI : Nat → Nat → Nat} {ad : Nat → Nat} {cy : Nat → ClassId} {sz : Nat} (C : Cx p s m args meth c RX11 cX11_which 7 (some .int) dC dI ad cy sz) {rr : Int32} {ρ : S0} (σ : S0) (x1 : Int32)  (hf : fX11_which σ x1 = some (rr, ρ)) : Gw p l e rm_X11_which s m args below meth c (MQ below (QcI dC dI ad cy sz rr ρ) args s 0 0 (AW ad sz)) dC dI ad cy 7 sz 0 0 0 [(0, .ref (ad 98)), (1, .int x1)] [] σ := by
  unfold fX11_which at hf
  refine g_iload_n C dX11_which_0 rfl 1 rfl ?_
  refine g_i2l C dX11_which_1 ?_
  refine g_lconst (v := 0) C dX11_which_2 (by decide) ?_
  refine g_ldc2 (v := 3) C dX11_which_3 hK_X11_303 ?_
  obtain ⟨r1, σ2, h3, hf⟩ := obp_e hf
  refine g_callSi (As := [.long x1.toInt64, .long 0, .long 3]) (rest := []) C (c_X11_in l dC dI ad cy x1.toInt64 ((0 : Int64)) ((3 : Int64))) h3 hM_X11_92 cal_X11_in ⟨Nat.zero_le _, Nat.zero_le _⟩ ⟨rfl, rfl⟩ ⟨Nat.le_of_ble_eq_true rfl, Nat.le_of_ble_eq_true rfl⟩ rfl rfl (Nat.le_of_ble_eq_true rfl) dX11_which_6 ?_
  rcases oi_e hf with ⟨c4, hf⟩ | ⟨c4, hf⟩
  · refine g_if_ne_t (tgt := 14) C dX11_which_9 (by decide) c4 ?_
    refine g_aload_n C dX11_which_14 rfl 0 rfl ?_
    refine g_get C (a_98 ad cy _) rfl hin_X11 0 (by decide) hF_X11_7 rfl rfl dX11_which_15 ?_
    refine g_bipush (v := 66) C dX11_which_18 (by decide) ?_
    obtain ⟨h5, hf⟩ := og_e hf
    refine g_iald C (a_99 ad cy _) h5 dX11_which_20 ?_
    obtain ⟨v6, ev6, hf⟩ := ol_e hf
    refine g_nm ev6 ?_
    rcases oi_e hf with ⟨c7, hf⟩ | ⟨c7, hf⟩
    · refine g_if_ne_t (tgt := 27) C dX11_which_21 (by decide) c7 ?_
      refine g_iconst (v := 0) C dX11_which_27 (by decide) ?_
      refine g_istore_n (lv2 := [(0, .ref (ad 98)), (1, .int x1), (2, .int 0)]) C dX11_which_28 rfl (by decide) [1, 2, 0] rfl ?_
      refine g_bipush (v := (-4)) C dX11_which_29 (by decide) ?_
      refine g_istore_n (lv2 := [(0, .ref (ad 98)), (1, .int x1), (2, .int 0), (3, .int ((-4)))]) C dX11_which_31 rfl (by decide) [1, 2, 3, 0] rfl ?_
      refine g_bipush (v := (-4)) C dX11_which_32 (by decide) ?_
      refine g_istore (lv2 := [(0, .ref (ad 98)), (1, .int x1), (2, .int 0), (3, .int ((-4))), (4, .int ((-4)))]) C dX11_which_34 (by decide) [1, 2, 3, 4, 0] rfl ?_
      refine g_bipush (v := 63) C dX11_which_36 (by decide) ?_
      refine g_istore (lv2 := [(0, .ref (ad 98)), (1, .int x1), (2, .int 0), (3, .int ((-4))), (4, .int ((-4))), (5, .int 63)]) C dX11_which_38 (by decide) [1, 2, 3, 4, 5, 0] rfl ?_
      refine g_iconst (v := 0) C dX11_which_40 (by decide) ?_
      refine g_istore (lv2 := [(0, .ref (ad 98)), (1, .int x1), (2, .int 0), (3, .int ((-4))), (4, .int ((-4))), (5, .int 63), (6, .int 0)]) C dX11_which_41 (by decide) [1, 2, 3, 4, 5, 6, 0] rfl ?_
      exact g_sub [0, 1, 2, 3, 4, 5, 6] rfl (fX11_which_h43_ok C 400 σ2 x1 0 ((-4)) ((-4)) 63 0 hf)
    · refine g_if_ne_f (tgt := 27) C dX11_which_21 (by decide) (Decidable.of_not_not c7) ?_
      refine g_bipush (v := (-2)) C dX11_which_24 (by decide) ?_
      obtain ⟨rfl, rfl⟩ := os_e hf
      exact g_iret C rfl dX11_which_26
  · refine g_if_ne_f (tgt := 14) C dX11_which_9 (by decide) (Decidable.of_not_not c4) ?_
    refine g_iconst (v := (-1)) C dX11_which_12 (by decide) ?_
    obtain ⟨rfl, rfl⟩ := os_e hf
    exact g_iret C rfl dX11_which_13
theorem c_X11_which (l : Launch) (dC : Nat → ClassId) (dI : Nat → Nat → Nat) (ad : Nat → Nat) (cy : Nat → ClassId) (x1 : Int32) : ConI l yX11_which cX11_which 7 (some .int) rm_X11_which dC dI ad cy [.ref (ad 98), .int x1] (fun σ => fX11_which σ x1) := con_i (own := RX11) (by decide) rfl (Nat.le_of_ble_eq_true rfl) (fun _ _ _ _ _ _ _ _ σ _ _ C hf => fX11_which_ok C σ x1 hf)
theorem cal_X11_which : CalV yX11_which RX11 cX11_which 7 (some .int) 1 := ⟨hI_X11_which, hS_X11_which, hIni_X11, hC_X11_which, by decide +kernel⟩
abbrev rm_X11_copies : Room := { frames := 0, cells := 0, slots := 0, locals := 0 }
def fX11_copies_b2 (sf_2 : S0 → Int32 → Int32 → Int32 → Option (Int32 × S0)) (σ : S0) (x1 : Int32) (x2 : Int32) (x3 : Int32) : Option (Int32 × S0) := if (80 : Int32) ≤ x3 then (some (0, σ)) else (ol (x2 + x3) (fun v2 => og (¬ (v2 < 0 ∨ 240 ≤ v2.toNatClampNeg)) (ol (σ 99 v2.toNatClampNeg) (fun v4 => ol (x1 + x3) (fun v5 => og (¬ (v5 < 0 ∨ 240 ≤ v5.toNatClampNeg)) (ol (su σ 99 v5.toNatClampNeg v4) (fun σ7 => ol (x3 + 1) (fun v8 => sf_2 σ7 x1 x2 v8))))))))
set_option maxHeartbeats 1000000 in
set_option maxRecDepth 100000 in
theorem fX11_copies_b2_ok {p : Program} {l : Launch} {e : Env} {s : State} {m : MethodId} {args : Array Value} {below : List Frame} {meth : Method} {c : Code} {dC : Nat → ClassId} {dI : Nat → Nat → Nat} {ad : Nat → Nat} {cy : Nat → ClassId} {sz : Nat} (C : Cx p s m args meth c RX11 cX11_copies 4 none dC dI ad cy sz) {rr : Int32} {ρ : S0} (sf_2 : S0 → Int32 → Int32 → Int32 → Option (Int32 × S0)) (hs_2 : ∀ (σ : S0) (x1 : Int32) (x2 : Int32) (x3 : Int32) , sf_2 σ x1 x2 x3 = some (rr, ρ) → Gw p l e rm_X11_copies s m args below meth c (MQ below (QcV dC dI ad cy sz ρ) args s 0 0 (AW ad sz)) dC dI ad cy 4 sz 0 0 2 [(0, .ref (ad 98)), (1, .int x1), (2, .int x2), (3, .int x3)] [] σ) (σ : S0) (x1 : Int32) (x2 : Int32) (x3 : Int32)  (hf : fX11_copies_b2 sf_2 σ x1 x2 x3 = some (rr, ρ)) : Gw p l e rm_X11_copies s m args below meth c (MQ below (QcV dC dI ad cy sz ρ) args s 0 0 (AW ad sz)) dC dI ad cy 4 sz 0 0 2 [(0, .ref (ad 98)), (1, .int x1), (2, .int x2), (3, .int x3)] [] σ := by
  unfold fX11_copies_b2 at hf
  refine g_iload_n C dX11_copies_2 rfl 3 rfl ?_
  refine g_bipush (v := 80) C dX11_copies_3 (by decide) ?_
  rcases oi_e hf with ⟨c1, hf⟩ | ⟨c1, hf⟩
  · refine g_icmp_ge_t (tgt := 30) C dX11_copies_5 (by decide) c1 ?_
    obtain ⟨rfl, rfl⟩ := os_e hf
    exact g_vret C rfl dX11_copies_30
  · refine g_icmp_ge_f (tgt := 30) C dX11_copies_5 (by decide) c1 ?_
    refine g_aload_n C dX11_copies_8 rfl 0 rfl ?_
    refine g_get C (a_98 ad cy _) rfl hin_X11 0 (by decide) hF_X11_7 rfl rfl dX11_copies_9 ?_
    refine g_iload_n C dX11_copies_12 rfl 1 rfl ?_
    refine g_iload_n C dX11_copies_13 rfl 3 rfl ?_
    refine g_iadd C dX11_copies_14 ?_
    refine g_aload_n C dX11_copies_15 rfl 0 rfl ?_
    refine g_get C (a_98 ad cy _) rfl hin_X11 0 (by decide) hF_X11_7 rfl rfl dX11_copies_16 ?_
    refine g_iload_n C dX11_copies_19 rfl 2 rfl ?_
    refine g_iload_n C dX11_copies_20 rfl 3 rfl ?_
    refine g_iadd C dX11_copies_21 ?_
    obtain ⟨v2, ev2, hf⟩ := ol_e hf
    refine g_nm ev2 ?_
    obtain ⟨h3, hf⟩ := og_e hf
    refine g_iald C (a_99 ad cy _) h3 dX11_copies_22 ?_
    obtain ⟨v4, ev4, hf⟩ := ol_e hf
    refine g_nm ev4 ?_
    obtain ⟨v5, ev5, hf⟩ := ol_e hf
    refine g_nm2 ev5 ?_
    obtain ⟨h6, hf⟩ := og_e hf
    obtain ⟨σ7, eσ7, hf⟩ := ol_e hf
    refine g_iast C (a_99 ad cy _) h6 (w_99 ad cy _) eσ7 dX11_copies_23 ?_
    obtain ⟨v8, ev8, hf⟩ := ol_e hf
    refine g_iinc (j := 3) (w := 1) (lv2 := [(0, .ref (ad 98)), (1, .int x1), (2, .int x2), (3, .int v8)]) C dX11_copies_24 rfl (by decide) ev8 (by decide) [1, 2, 3, 0] rfl ?_
    refine g_goto (tgt := 2) C dX11_copies_27 (by decide) ?_
    exact g_sub [0, 1, 2, 3] rfl (hs_2 σ7 x1 x2 v8 hf)
def fX11_copies_h2  : Nat → S0 → Int32 → Int32 → Int32 → Option (Int32 × S0)
  | 0 => fun _ _ _ _ => none
  | n + 1 => fun σ x1 x2 x3 => fX11_copies_b2  (fX11_copies_h2  n) σ x1 x2 x3
set_option maxHeartbeats 1000000 in
set_option maxRecDepth 100000 in
theorem fX11_copies_h2_ok {p : Program} {l : Launch} {e : Env} {s : State} {m : MethodId} {args : Array Value} {below : List Frame} {meth : Method} {c : Code} {dC : Nat → ClassId} {dI : Nat → Nat → Nat} {ad : Nat → Nat} {cy : Nat → ClassId} {sz : Nat} (C : Cx p s m args meth c RX11 cX11_copies 4 none dC dI ad cy sz) {rr : Int32} {ρ : S0}  : ∀ (n : Nat) (σ : S0) (x1 : Int32) (x2 : Int32) (x3 : Int32)  (_hf : fX11_copies_h2  n σ x1 x2 x3 = some (rr, ρ)), Gw p l e rm_X11_copies s m args below meth c (MQ below (QcV dC dI ad cy sz ρ) args s 0 0 (AW ad sz)) dC dI ad cy 4 sz 0 0 2 [(0, .ref (ad 98)), (1, .int x1), (2, .int x2), (3, .int x3)] [] σ
  | 0, _, _, _, _, hf => by cases hf
  | n + 1, σ, x1, x2, x3, hf => fX11_copies_b2_ok C  (fX11_copies_h2  n) (fX11_copies_h2_ok C  n) σ x1 x2 x3 hf
def fX11_copies (σ : S0) (x1 : Int32) (x2 : Int32) : Option (Int32 × S0) := fX11_copies_h2 400 σ x1 x2 0
set_option maxHeartbeats 1000000 in
set_option maxRecDepth 100000 in
theorem fX11_copies_ok {p : Program} {l : Launch} {e : Env} {s : State} {m : MethodId} {args : Array Value} {below : List Frame} {meth : Method} {c : Code} {dC : Nat → ClassId} {dI : Nat → Nat → Nat} {ad : Nat → Nat} {cy : Nat → ClassId} {sz : Nat} (C : Cx p s m args meth c RX11 cX11_copies 4 none dC dI ad cy sz) {rr : Int32} {ρ : S0} (σ : S0) (x1 : Int32) (x2 : Int32)  (hf : fX11_copies σ x1 x2 = some (rr, ρ)) : Gw p l e rm_X11_copies s m args below meth c (MQ below (QcV dC dI ad cy sz ρ) args s 0 0 (AW ad sz)) dC dI ad cy 4 sz 0 0 0 [(0, .ref (ad 98)), (1, .int x1), (2, .int x2)] [] σ := by
  unfold fX11_copies at hf
  refine g_iconst (v := 0) C dX11_copies_0 (by decide) ?_
  refine g_istore_n (lv2 := [(0, .ref (ad 98)), (1, .int x1), (2, .int x2), (3, .int 0)]) C dX11_copies_1 rfl (by decide) [1, 2, 3, 0] rfl ?_
  exact g_sub [0, 1, 2, 3] rfl (fX11_copies_h2_ok C 400 σ x1 x2 0 hf)
theorem c_X11_copies (l : Launch) (dC : Nat → ClassId) (dI : Nat → Nat → Nat) (ad : Nat → Nat) (cy : Nat → ClassId) (x1 : Int32) (x2 : Int32) : ConV l yX11_copies cX11_copies 4 none rm_X11_copies dC dI ad cy [.ref (ad 98), .int x1, .int x2] (fun σ => fX11_copies σ x1 x2) := con_v (own := RX11) (by decide) rfl (Nat.le_of_ble_eq_true rfl) (fun _ _ _ _ _ _ _ _ σ _ _ C hf => fX11_copies_ok C σ x1 x2 hf)
theorem cal_X11_copies : CalV yX11_copies RX11 cX11_copies 4 none 2 := ⟨hI_X11_copies, hS_X11_copies, hIni_X11, hC_X11_copies, by decide +kernel⟩
abbrev rm_X11_keep : Room := { frames := 1, cells := 0, slots := 0, locals := 25 }
def fX11_keep (σ : S0) (x1 : Int32) : Option (Int32 × S0) := obp (fX11_in σ x1.toInt64 ((0 : Int64)) ((1 : Int64))) (fun r1 σ2 => if ¬ r1 = 0 then (og (¬ (x1 < 0 ∨ 2 ≤ x1.toNatClampNeg)) (ol (σ2 100 x1.toNatClampNeg) (fun v6 => obp (fX11_flag σ2 v6) (fun r7 σ8 => og (¬ (x1 < 0 ∨ 2 ≤ x1.toNatClampNeg)) (ol (su σ8 100 x1.toNatClampNeg (vp_nar .boolean 1)) (fun σ11 => obp (fX11_copies σ11 (80 * (x1 + 1)) ((0 : Int32))) (fun r12 σ13 => some (r7, σ13)))))))) else (some ((-1), σ2)))
set_option maxHeartbeats 1000000 in
set_option maxRecDepth 100000 in
theorem fX11_keep_ok {p : Program} {l : Launch} {e : Env} {s : State} {m : MethodId} {args : Array Value} {below : List Frame} {meth : Method} {c : Code} {dC : Nat → ClassId} {dI : Nat → Nat → Nat} {ad : Nat → Nat} {cy : Nat → ClassId} {sz : Nat} (C : Cx p s m args meth c RX11 cX11_keep 3 (some .int) dC dI ad cy sz) {rr : Int32} {ρ : S0} (σ : S0) (x1 : Int32)  (hf : fX11_keep σ x1 = some (rr, ρ)) : Gw p l e rm_X11_keep s m args below meth c (MQ below (QcI dC dI ad cy sz rr ρ) args s 0 0 (AW ad sz)) dC dI ad cy 3 sz 0 0 0 [(0, .ref (ad 98)), (1, .int x1)] [] σ := by
  unfold fX11_keep at hf
  refine g_iload_n C dX11_keep_0 rfl 1 rfl ?_
  refine g_i2l C dX11_keep_1 ?_
  refine g_lconst (v := 0) C dX11_keep_2 (by decide) ?_
  refine g_lconst (v := 1) C dX11_keep_3 (by decide) ?_
  obtain ⟨r1, σ2, h3, hf⟩ := obp_e hf
  refine g_callSi (As := [.long x1.toInt64, .long 0, .long 1]) (rest := []) C (c_X11_in l dC dI ad cy x1.toInt64 ((0 : Int64)) ((1 : Int64))) h3 hM_X11_92 cal_X11_in ⟨Nat.zero_le _, Nat.zero_le _⟩ ⟨rfl, rfl⟩ ⟨Nat.le_of_ble_eq_true rfl, Nat.le_of_ble_eq_true rfl⟩ rfl rfl (Nat.le_of_ble_eq_true rfl) dX11_keep_4 ?_
  rcases oi_e hf with ⟨c4, hf⟩ | ⟨c4, hf⟩
  · refine g_if_ne_t (tgt := 12) C dX11_keep_7 (by decide) c4 ?_
    refine g_aload_n C dX11_keep_12 rfl 0 rfl ?_
    refine g_get C (a_98 ad cy _) rfl hin_X11 1 (by decide) hF_X11_13 rfl rfl dX11_keep_13 ?_
    refine g_iload_n C dX11_keep_16 rfl 1 rfl ?_
    obtain ⟨h5, hf⟩ := og_e hf
    refine g_zald C (a_100 ad cy _) h5 dX11_keep_17 ?_
    obtain ⟨v6, ev6, hf⟩ := ol_e hf
    refine g_nm ev6 ?_
    obtain ⟨r7, σ8, h9, hf⟩ := obp_e hf
    refine g_callSi (As := [.int v6]) (rest := []) C (c_X11_flag l dC dI ad cy v6) h9 hM_X11_191 cal_X11_flag ⟨Nat.zero_le _, Nat.zero_le _⟩ ⟨rfl, rfl⟩ ⟨Nat.le_of_ble_eq_true rfl, Nat.le_of_ble_eq_true rfl⟩ rfl rfl (Nat.le_of_ble_eq_true rfl) dX11_keep_18 ?_
    refine g_istore_n (lv2 := [(0, .ref (ad 98)), (1, .int x1), (2, .int r7)]) C dX11_keep_21 rfl (by decide) [1, 2, 0] rfl ?_
    refine g_aload_n C dX11_keep_22 rfl 0 rfl ?_
    refine g_get C (a_98 ad cy _) rfl hin_X11 1 (by decide) hF_X11_13 rfl rfl dX11_keep_23 ?_
    refine g_iload_n C dX11_keep_26 rfl 1 rfl ?_
    refine g_iconst (v := 1) C dX11_keep_27 (by decide) ?_
    obtain ⟨h10, hf⟩ := og_e hf
    obtain ⟨σ11, eσ11, hf⟩ := ol_e hf
    refine g_zast C (a_100 ad cy _) h10 (w_100 ad cy _) eσ11 dX11_keep_28 ?_
    refine g_aload_n C dX11_keep_29 rfl 0 rfl ?_
    refine g_bipush (v := 80) C dX11_keep_30 (by decide) ?_
    refine g_iload_n C dX11_keep_32 rfl 1 rfl ?_
    refine g_iconst (v := 1) C dX11_keep_33 (by decide) ?_
    refine g_iadd C dX11_keep_34 ?_
    refine g_imul C dX11_keep_35 ?_
    refine g_iconst (v := 0) C dX11_keep_36 (by decide) ?_
    obtain ⟨r12, σ13, h14, hf⟩ := obp_e hf
    refine g_callVv (As := [.int (80 * (x1 + 1)), .int 0]) (rest := []) C (a_98 ad cy _) rfl (c_X11_copies l dC dI ad cy (80 * (x1 + 1)) ((0 : Int32))) h14 hM_X11_305 cal_X11_copies ⟨Nat.zero_le _, Nat.zero_le _⟩ ⟨rfl, rfl⟩ ⟨Nat.le_of_ble_eq_true rfl, Nat.le_of_ble_eq_true rfl⟩ rfl rfl (Nat.le_of_ble_eq_true rfl) dX11_keep_37 ?_
    refine g_iload_n C dX11_keep_40 rfl 2 rfl ?_
    obtain ⟨rfl, rfl⟩ := os_e hf
    exact g_iret C rfl dX11_keep_41
  · refine g_if_ne_f (tgt := 12) C dX11_keep_7 (by decide) (Decidable.of_not_not c4) ?_
    refine g_iconst (v := (-1)) C dX11_keep_10 (by decide) ?_
    obtain ⟨rfl, rfl⟩ := os_e hf
    exact g_iret C rfl dX11_keep_11
theorem c_X11_keep (l : Launch) (dC : Nat → ClassId) (dI : Nat → Nat → Nat) (ad : Nat → Nat) (cy : Nat → ClassId) (x1 : Int32) : ConI l yX11_keep cX11_keep 3 (some .int) rm_X11_keep dC dI ad cy [.ref (ad 98), .int x1] (fun σ => fX11_keep σ x1) := con_i (own := RX11) (by decide) rfl (Nat.le_of_ble_eq_true rfl) (fun _ _ _ _ _ _ _ _ σ _ _ C hf => fX11_keep_ok C σ x1 hf)
theorem cal_X11_keep : CalV yX11_keep RX11 cX11_keep 3 (some .int) 1 := ⟨hI_X11_keep, hS_X11_keep, hIni_X11, hC_X11_keep, by decide +kernel⟩
abbrev rm_X11_back : Room := { frames := 4, cells := 0, slots := 0, locals := 92 }
def fX11_back (σ : S0) (x1 : Int32) : Option (Int32 × S0) := obp (fX11_in σ x1.toInt64 ((0 : Int64)) ((1 : Int64))) (fun r1 σ2 => if ¬ r1 = 0 then (og (¬ (x1 < 0 ∨ 2 ≤ x1.toNatClampNeg)) (ol (σ2 100 x1.toNatClampNeg) (fun v6 => if ¬ v6 = 0 then (obp (fX11_copies σ2 ((0 : Int32)) (80 * (x1 + 1))) (fun r8 σ9 => obp (fX11_takenNow σ9) (fun r11 σ12 => some (r11, σ12)))) else (some ((-2), σ2))))) else (some ((-1), σ2)))
set_option maxHeartbeats 1000000 in
set_option maxRecDepth 100000 in
theorem fX11_back_ok {p : Program} {l : Launch} {e : Env} {s : State} {m : MethodId} {args : Array Value} {below : List Frame} {meth : Method} {c : Code} {dC : Nat → ClassId} {dI : Nat → Nat → Nat} {ad : Nat → Nat} {cy : Nat → ClassId} {sz : Nat} (C : Cx p s m args meth c RX11 cX11_back 2 (some .int) dC dI ad cy sz) {rr : Int32} {ρ : S0} (σ : S0) (x1 : Int32)  (hf : fX11_back σ x1 = some (rr, ρ)) : Gw p l e rm_X11_back s m args below meth c (MQ below (QcI dC dI ad cy sz rr ρ) args s 0 0 (AW ad sz)) dC dI ad cy 2 sz 0 0 0 [(0, .ref (ad 98)), (1, .int x1)] [] σ := by
  unfold fX11_back at hf
  refine g_iload_n C dX11_back_0 rfl 1 rfl ?_
  refine g_i2l C dX11_back_1 ?_
  refine g_lconst (v := 0) C dX11_back_2 (by decide) ?_
  refine g_lconst (v := 1) C dX11_back_3 (by decide) ?_
  obtain ⟨r1, σ2, h3, hf⟩ := obp_e hf
  refine g_callSi (As := [.long x1.toInt64, .long 0, .long 1]) (rest := []) C (c_X11_in l dC dI ad cy x1.toInt64 ((0 : Int64)) ((1 : Int64))) h3 hM_X11_92 cal_X11_in ⟨Nat.zero_le _, Nat.zero_le _⟩ ⟨rfl, rfl⟩ ⟨Nat.le_of_ble_eq_true rfl, Nat.le_of_ble_eq_true rfl⟩ rfl rfl (Nat.le_of_ble_eq_true rfl) dX11_back_4 ?_
  rcases oi_e hf with ⟨c4, hf⟩ | ⟨c4, hf⟩
  · refine g_if_ne_t (tgt := 12) C dX11_back_7 (by decide) c4 ?_
    refine g_aload_n C dX11_back_12 rfl 0 rfl ?_
    refine g_get C (a_98 ad cy _) rfl hin_X11 1 (by decide) hF_X11_13 rfl rfl dX11_back_13 ?_
    refine g_iload_n C dX11_back_16 rfl 1 rfl ?_
    obtain ⟨h5, hf⟩ := og_e hf
    refine g_zald C (a_100 ad cy _) h5 dX11_back_17 ?_
    obtain ⟨v6, ev6, hf⟩ := ol_e hf
    refine g_nm ev6 ?_
    rcases oi_e hf with ⟨c7, hf⟩ | ⟨c7, hf⟩
    · refine g_if_ne_t (tgt := 24) C dX11_back_18 (by decide) c7 ?_
      refine g_aload_n C dX11_back_24 rfl 0 rfl ?_
      refine g_iconst (v := 0) C dX11_back_25 (by decide) ?_
      refine g_bipush (v := 80) C dX11_back_26 (by decide) ?_
      refine g_iload_n C dX11_back_28 rfl 1 rfl ?_
      refine g_iconst (v := 1) C dX11_back_29 (by decide) ?_
      refine g_iadd C dX11_back_30 ?_
      refine g_imul C dX11_back_31 ?_
      obtain ⟨r8, σ9, h10, hf⟩ := obp_e hf
      refine g_callVv (As := [.int 0, .int (80 * (x1 + 1))]) (rest := []) C (a_98 ad cy _) rfl (c_X11_copies l dC dI ad cy ((0 : Int32)) (80 * (x1 + 1))) h10 hM_X11_305 cal_X11_copies ⟨Nat.zero_le _, Nat.zero_le _⟩ ⟨rfl, rfl⟩ ⟨Nat.le_of_ble_eq_true rfl, Nat.le_of_ble_eq_true rfl⟩ rfl rfl (Nat.le_of_ble_eq_true rfl) dX11_back_32 ?_
      refine g_aload_n C dX11_back_35 rfl 0 rfl ?_
      obtain ⟨r11, σ12, h13, hf⟩ := obp_e hf
      refine g_callVi (As := []) (rest := []) C (a_98 ad cy _) rfl (c_X11_takenNow l dC dI ad cy ) h13 hM_X11_223 cal_X11_takenNow ⟨Nat.zero_le _, Nat.zero_le _⟩ ⟨rfl, rfl⟩ ⟨Nat.le_of_ble_eq_true rfl, Nat.le_of_ble_eq_true rfl⟩ rfl rfl (Nat.le_of_ble_eq_true rfl) dX11_back_36 ?_
      obtain ⟨rfl, rfl⟩ := os_e hf
      exact g_iret C rfl dX11_back_39
    · refine g_if_ne_f (tgt := 24) C dX11_back_18 (by decide) (Decidable.of_not_not c7) ?_
      refine g_bipush (v := (-2)) C dX11_back_21 (by decide) ?_
      obtain ⟨rfl, rfl⟩ := os_e hf
      exact g_iret C rfl dX11_back_23
  · refine g_if_ne_f (tgt := 12) C dX11_back_7 (by decide) (Decidable.of_not_not c4) ?_
    refine g_iconst (v := (-1)) C dX11_back_10 (by decide) ?_
    obtain ⟨rfl, rfl⟩ := os_e hf
    exact g_iret C rfl dX11_back_11
theorem c_X11_back (l : Launch) (dC : Nat → ClassId) (dI : Nat → Nat → Nat) (ad : Nat → Nat) (cy : Nat → ClassId) (x1 : Int32) : ConI l yX11_back cX11_back 2 (some .int) rm_X11_back dC dI ad cy [.ref (ad 98), .int x1] (fun σ => fX11_back σ x1) := con_i (own := RX11) (by decide) rfl (Nat.le_of_ble_eq_true rfl) (fun _ _ _ _ _ _ _ _ σ _ _ C hf => fX11_back_ok C σ x1 hf)
theorem cal_X11_back : CalV yX11_back RX11 cX11_back 2 (some .int) 1 := ⟨hI_X11_back, hS_X11_back, hIni_X11, hC_X11_back, by decide +kernel⟩
abbrev rm_X11_isSheet : Room := { frames := 1, cells := 0, slots := 0, locals := 25 }
def fX11_isSheet (σ : S0) (x0 : Int32) (x1 : Int32) : Option (Int32 × S0) := obp (fX11_in σ x0.toInt64 ((0 : Int64)) ((3 : Int64))) (fun r1 σ2 => if r1 = 0 then (some (0, σ2)) else (obp (fX11_in σ2 x1.toInt64 ((0 : Int64)) ((2 : Int64))) (fun r5 σ6 => if r5 = 0 then (some (0, σ6)) else (some (1, σ6)))))
set_option maxHeartbeats 1000000 in
set_option maxRecDepth 100000 in
theorem fX11_isSheet_ok {p : Program} {l : Launch} {e : Env} {s : State} {m : MethodId} {args : Array Value} {below : List Frame} {meth : Method} {c : Code} {dC : Nat → ClassId} {dI : Nat → Nat → Nat} {ad : Nat → Nat} {cy : Nat → ClassId} {sz : Nat} (C : Cx p s m args meth c RX11 cX11_isSheet 2 (some .boolean) dC dI ad cy sz) {rr : Int32} {ρ : S0} (σ : S0) (x0 : Int32) (x1 : Int32)  (hf : fX11_isSheet σ x0 x1 = some (rr, ρ)) : Gw p l e rm_X11_isSheet s m args below meth c (MQ below (QcI dC dI ad cy sz rr ρ) args s 0 0 (AW ad sz)) dC dI ad cy 2 sz 0 0 0 [(0, .int x0), (1, .int x1)] [] σ := by
  unfold fX11_isSheet at hf
  refine g_iload_n C dX11_isSheet_0 rfl 0 rfl ?_
  refine g_i2l C dX11_isSheet_1 ?_
  refine g_lconst (v := 0) C dX11_isSheet_2 (by decide) ?_
  refine g_ldc2 (v := 3) C dX11_isSheet_3 hK_X11_303 ?_
  obtain ⟨r1, σ2, h3, hf⟩ := obp_e hf
  refine g_callSi (As := [.long x0.toInt64, .long 0, .long 3]) (rest := []) C (c_X11_in l dC dI ad cy x0.toInt64 ((0 : Int64)) ((3 : Int64))) h3 hM_X11_92 cal_X11_in ⟨Nat.zero_le _, Nat.zero_le _⟩ ⟨rfl, rfl⟩ ⟨Nat.le_of_ble_eq_true rfl, Nat.le_of_ble_eq_true rfl⟩ rfl rfl (Nat.le_of_ble_eq_true rfl) dX11_isSheet_6 ?_
  rcases oi_e hf with ⟨c4, hf⟩ | ⟨c4, hf⟩
  · refine g_if_eq_t (tgt := 28) C dX11_isSheet_9 (by decide) c4 ?_
    refine g_iconst (v := 0) C dX11_isSheet_28 (by decide) ?_
    obtain ⟨rfl, rfl⟩ := os_e hf
    exact g_zret C rfl (by decide) dX11_isSheet_29
  · refine g_if_eq_f (tgt := 28) C dX11_isSheet_9 (by decide) c4 ?_
    refine g_iload_n C dX11_isSheet_12 rfl 1 rfl ?_
    refine g_i2l C dX11_isSheet_13 ?_
    refine g_lconst (v := 0) C dX11_isSheet_14 (by decide) ?_
    refine g_ldc2 (v := 2) C dX11_isSheet_15 hK_X11_308 ?_
    obtain ⟨r5, σ6, h7, hf⟩ := obp_e hf
    refine g_callSi (As := [.long x1.toInt64, .long 0, .long 2]) (rest := []) C (c_X11_in l dC dI ad cy x1.toInt64 ((0 : Int64)) ((2 : Int64))) h7 hM_X11_92 cal_X11_in ⟨Nat.zero_le _, Nat.zero_le _⟩ ⟨rfl, rfl⟩ ⟨Nat.le_of_ble_eq_true rfl, Nat.le_of_ble_eq_true rfl⟩ rfl rfl (Nat.le_of_ble_eq_true rfl) dX11_isSheet_18 ?_
    rcases oi_e hf with ⟨c8, hf⟩ | ⟨c8, hf⟩
    · refine g_if_eq_t (tgt := 28) C dX11_isSheet_21 (by decide) c8 ?_
      refine g_iconst (v := 0) C dX11_isSheet_28 (by decide) ?_
      obtain ⟨rfl, rfl⟩ := os_e hf
      exact g_zret C rfl (by decide) dX11_isSheet_29
    · refine g_if_eq_f (tgt := 28) C dX11_isSheet_21 (by decide) c8 ?_
      refine g_iconst (v := 1) C dX11_isSheet_24 (by decide) ?_
      refine g_goto (tgt := 29) C dX11_isSheet_25 (by decide) ?_
      obtain ⟨rfl, rfl⟩ := os_e hf
      exact g_zret C rfl (by decide) dX11_isSheet_29
theorem c_X11_isSheet (l : Launch) (dC : Nat → ClassId) (dI : Nat → Nat → Nat) (ad : Nat → Nat) (cy : Nat → ClassId) (x0 : Int32) (x1 : Int32) : ConI l yX11_isSheet cX11_isSheet 2 (some .boolean) rm_X11_isSheet dC dI ad cy [.int x0, .int x1] (fun σ => fX11_isSheet σ x0 x1) := con_i (own := RX11) (by decide) rfl (Nat.le_of_ble_eq_true rfl) (fun _ _ _ _ _ _ _ _ σ _ _ C hf => fX11_isSheet_ok C σ x0 x1 hf)
theorem cal_X11_isSheet : CalS yX11_isSheet cX11_isSheet 2 (some .boolean) 2 := ⟨hSt_X11_isSheet, hIni_X11, hC_X11_isSheet, by decide +kernel⟩
abbrev rm_X11_sheet : Room := { frames := 2, cells := 0, slots := 0, locals := 46 }
def fX11_sheet_b40 (sf_40 : S0 → Int32 → Int32 → Option (Int32 × S0)) (σ : S0) (x1 : Int32) (x4 : Int32) : Option (Int32 × S0) := if (40 : Int32) ≤ x4 then (some (1, σ)) else (ol ((40 * x1) + x4) (fun v2 => og (¬ (v2 < 0 ∨ 160 ≤ v2.toNatClampNeg)) (ol (su σ 110 v2.toNatClampNeg 0) (fun σ4 => ol (x4 + 1) (fun v5 => sf_40 σ4 x1 v5)))))
set_option maxHeartbeats 1000000 in
set_option maxRecDepth 100000 in
theorem fX11_sheet_b40_ok {p : Program} {l : Launch} {e : Env} {s : State} {m : MethodId} {args : Array Value} {below : List Frame} {meth : Method} {c : Code} {dC : Nat → ClassId} {dI : Nat → Nat → Nat} {ad : Nat → Nat} {cy : Nat → ClassId} {sz : Nat} (C : Cx p s m args meth c RX11 cX11_sheet 5 (some .int) dC dI ad cy sz) {rr : Int32} {ρ : S0} (sf_40 : S0 → Int32 → Int32 → Option (Int32 × S0)) (hs_40 : ∀ (σ : S0) (x1 : Int32) (x4 : Int32) , sf_40 σ x1 x4 = some (rr, ρ) → Gw p l e rm_X11_sheet s m args below meth c (MQ below (QcI dC dI ad cy sz rr ρ) args s 0 0 (AW ad sz)) dC dI ad cy 5 sz 0 0 40 [(0, .ref (ad 98)), (1, .int x1), (4, .int x4)] [] σ) (σ : S0) (x1 : Int32) (x4 : Int32)  (hf : fX11_sheet_b40 sf_40 σ x1 x4 = some (rr, ρ)) : Gw p l e rm_X11_sheet s m args below meth c (MQ below (QcI dC dI ad cy sz rr ρ) args s 0 0 (AW ad sz)) dC dI ad cy 5 sz 0 0 40 [(0, .ref (ad 98)), (1, .int x1), (4, .int x4)] [] σ := by
  unfold fX11_sheet_b40 at hf
  refine g_iload C dX11_sheet_40 2 rfl ?_
  refine g_bipush (v := 40) C dX11_sheet_42 (by decide) ?_
  rcases oi_e hf with ⟨c1, hf⟩ | ⟨c1, hf⟩
  · refine g_icmp_ge_t (tgt := 66) C dX11_sheet_44 (by decide) c1 ?_
    refine g_iconst (v := 1) C dX11_sheet_66 (by decide) ?_
    obtain ⟨rfl, rfl⟩ := os_e hf
    exact g_iret C rfl dX11_sheet_67
  · refine g_icmp_ge_f (tgt := 66) C dX11_sheet_44 (by decide) c1 ?_
    refine g_aload_n C dX11_sheet_47 rfl 0 rfl ?_
    refine g_get C (a_98 ad cy _) rfl hin_X11 38 (by decide) hF_X11_44 rfl rfl dX11_sheet_48 ?_
    refine g_bipush (v := 40) C dX11_sheet_51 (by decide) ?_
    refine g_iload_n C dX11_sheet_53 rfl 1 rfl ?_
    refine g_imul C dX11_sheet_54 ?_
    refine g_iload C dX11_sheet_55 2 rfl ?_
    refine g_iadd C dX11_sheet_57 ?_
    refine g_iconst (v := 0) C dX11_sheet_58 (by decide) ?_
    obtain ⟨v2, ev2, hf⟩ := ol_e hf
    refine g_nm2 ev2 ?_
    obtain ⟨h3, hf⟩ := og_e hf
    obtain ⟨σ4, eσ4, hf⟩ := ol_e hf
    refine g_iast C (a_110 ad cy _) h3 (w_110 ad cy _) eσ4 dX11_sheet_59 ?_
    obtain ⟨v5, ev5, hf⟩ := ol_e hf
    refine g_iinc (j := 2) (w := 1) (lv2 := [(0, .ref (ad 98)), (1, .int x1), (4, .int v5)]) C dX11_sheet_60 rfl (by decide) ev5 (by decide) [1, 2, 0] rfl ?_
    refine g_goto (tgt := 40) C dX11_sheet_63 (by decide) ?_
    exact g_sub [0, 1, 2] rfl (hs_40 σ4 x1 v5 hf)
def fX11_sheet_h40  : Nat → S0 → Int32 → Int32 → Option (Int32 × S0)
  | 0 => fun _ _ _ => none
  | n + 1 => fun σ x1 x4 => fX11_sheet_b40  (fX11_sheet_h40  n) σ x1 x4
set_option maxHeartbeats 1000000 in
set_option maxRecDepth 100000 in
theorem fX11_sheet_h40_ok {p : Program} {l : Launch} {e : Env} {s : State} {m : MethodId} {args : Array Value} {below : List Frame} {meth : Method} {c : Code} {dC : Nat → ClassId} {dI : Nat → Nat → Nat} {ad : Nat → Nat} {cy : Nat → ClassId} {sz : Nat} (C : Cx p s m args meth c RX11 cX11_sheet 5 (some .int) dC dI ad cy sz) {rr : Int32} {ρ : S0}  : ∀ (n : Nat) (σ : S0) (x1 : Int32) (x4 : Int32)  (_hf : fX11_sheet_h40  n σ x1 x4 = some (rr, ρ)), Gw p l e rm_X11_sheet s m args below meth c (MQ below (QcI dC dI ad cy sz rr ρ) args s 0 0 (AW ad sz)) dC dI ad cy 5 sz 0 0 40 [(0, .ref (ad 98)), (1, .int x1), (4, .int x4)] [] σ
  | 0, _, _, _, hf => by cases hf
  | n + 1, σ, x1, x4, hf => fX11_sheet_b40_ok C  (fX11_sheet_h40  n) (fX11_sheet_h40_ok C  n) σ x1 x4 hf
def fX11_sheet (σ : S0) (x1 : Int32) (x2 : Int32) (x3 : Int32) : Option (Int32 × S0) := obp (fX11_isSheet σ x1 x2) (fun r1 σ2 => if r1 = 0 then (some ((-1), σ2)) else (if x3 ≤ 40 then (if 0 ≤ x3 then (og (¬ (x1 < 0 ∨ 4 ≤ x1.toNatClampNeg)) (ol (su σ2 108 x1.toNatClampNeg x2) (fun σ8 => og (¬ (x1 < 0 ∨ 4 ≤ x1.toNatClampNeg)) (ol (su σ8 109 x1.toNatClampNeg x3) (fun σ10 => fX11_sheet_h40 400 σ10 x1 0))))) else (some ((-14), σ2))) else (some ((-1), σ2))))
set_option maxHeartbeats 1000000 in
set_option maxRecDepth 100000 in
theorem fX11_sheet_ok {p : Program} {l : Launch} {e : Env} {s : State} {m : MethodId} {args : Array Value} {below : List Frame} {meth : Method} {c : Code} {dC : Nat → ClassId} {dI : Nat → Nat → Nat} {ad : Nat → Nat} {cy : Nat → ClassId} {sz : Nat} (C : Cx p s m args meth c RX11 cX11_sheet 5 (some .int) dC dI ad cy sz) {rr : Int32} {ρ : S0} (σ : S0) (x1 : Int32) (x2 : Int32) (x3 : Int32)  (hf : fX11_sheet σ x1 x2 x3 = some (rr, ρ)) : Gw p l e rm_X11_sheet s m args below meth c (MQ below (QcI dC dI ad cy sz rr ρ) args s 0 0 (AW ad sz)) dC dI ad cy 5 sz 0 0 0 [(0, .ref (ad 98)), (1, .int x1), (2, .int x2), (3, .int x3)] [] σ := by
  unfold fX11_sheet at hf
  refine g_iload_n C dX11_sheet_0 rfl 1 rfl ?_
  refine g_iload_n C dX11_sheet_1 rfl 2 rfl ?_
  obtain ⟨r1, σ2, h3, hf⟩ := obp_e hf
  refine g_callSi (As := [.int x1, .int x2]) (rest := []) C (c_X11_isSheet l dC dI ad cy x1 x2) h3 hM_X11_310 cal_X11_isSheet ⟨Nat.zero_le _, Nat.zero_le _⟩ ⟨rfl, rfl⟩ ⟨Nat.le_of_ble_eq_true rfl, Nat.le_of_ble_eq_true rfl⟩ rfl rfl (Nat.le_of_ble_eq_true rfl) dX11_sheet_2 ?_
  rcases oi_e hf with ⟨c4, hf⟩ | ⟨c4, hf⟩
  · refine g_if_eq_t (tgt := 14) C dX11_sheet_5 (by decide) c4 ?_
    refine g_iconst (v := (-1)) C dX11_sheet_14 (by decide) ?_
    obtain ⟨rfl, rfl⟩ := os_e hf
    exact g_iret C rfl dX11_sheet_15
  · refine g_if_eq_f (tgt := 14) C dX11_sheet_5 (by decide) c4 ?_
    refine g_iload_n C dX11_sheet_8 rfl 3 rfl ?_
    refine g_bipush (v := 40) C dX11_sheet_9 (by decide) ?_
    rcases oi_e hf with ⟨c5, hf⟩ | ⟨c5, hf⟩
    · refine g_icmp_le_t (tgt := 16) C dX11_sheet_11 (by decide) c5 ?_
      refine g_iload_n C dX11_sheet_16 rfl 3 rfl ?_
      rcases oi_e hf with ⟨c6, hf⟩ | ⟨c6, hf⟩
      · refine g_if_ge_t (tgt := 23) C dX11_sheet_17 (by decide) c6 ?_
        refine g_aload_n C dX11_sheet_23 rfl 0 rfl ?_
        refine g_get C (a_98 ad cy _) rfl hin_X11 36 (by decide) hF_X11_38 rfl rfl dX11_sheet_24 ?_
        refine g_iload_n C dX11_sheet_27 rfl 1 rfl ?_
        refine g_iload_n C dX11_sheet_28 rfl 2 rfl ?_
        obtain ⟨h7, hf⟩ := og_e hf
        obtain ⟨σ8, eσ8, hf⟩ := ol_e hf
        refine g_iast C (a_108 ad cy _) h7 (w_108 ad cy _) eσ8 dX11_sheet_29 ?_
        refine g_aload_n C dX11_sheet_30 rfl 0 rfl ?_
        refine g_get C (a_98 ad cy _) rfl hin_X11 37 (by decide) hF_X11_41 rfl rfl dX11_sheet_31 ?_
        refine g_iload_n C dX11_sheet_34 rfl 1 rfl ?_
        refine g_iload_n C dX11_sheet_35 rfl 3 rfl ?_
        obtain ⟨h9, hf⟩ := og_e hf
        obtain ⟨σ10, eσ10, hf⟩ := ol_e hf
        refine g_iast C (a_109 ad cy _) h9 (w_109 ad cy _) eσ10 dX11_sheet_36 ?_
        refine g_iconst (v := 0) C dX11_sheet_37 (by decide) ?_
        refine g_istore (lv2 := [(0, .ref (ad 98)), (1, .int x1), (2, .int x2), (3, .int x3), (4, .int 0)]) C dX11_sheet_38 (by decide) [1, 2, 3, 4, 0] rfl ?_
        exact g_sub [0, 1, 4] rfl (fX11_sheet_h40_ok C 400 σ10 x1 0 hf)
      · refine g_if_ge_f (tgt := 23) C dX11_sheet_17 (by decide) c6 ?_
        refine g_bipush (v := (-14)) C dX11_sheet_20 (by decide) ?_
        obtain ⟨rfl, rfl⟩ := os_e hf
        exact g_iret C rfl dX11_sheet_22
    · refine g_icmp_le_f (tgt := 16) C dX11_sheet_11 (by decide) c5 ?_
      refine g_iconst (v := (-1)) C dX11_sheet_14 (by decide) ?_
      obtain ⟨rfl, rfl⟩ := os_e hf
      exact g_iret C rfl dX11_sheet_15
theorem c_X11_sheet (l : Launch) (dC : Nat → ClassId) (dI : Nat → Nat → Nat) (ad : Nat → Nat) (cy : Nat → ClassId) (x1 : Int32) (x2 : Int32) (x3 : Int32) : ConI l yX11_sheet cX11_sheet 5 (some .int) rm_X11_sheet dC dI ad cy [.ref (ad 98), .int x1, .int x2, .int x3] (fun σ => fX11_sheet σ x1 x2 x3) := con_i (own := RX11) (by decide) rfl (Nat.le_of_ble_eq_true rfl) (fun _ _ _ _ _ _ _ _ σ _ _ C hf => fX11_sheet_ok C σ x1 x2 x3 hf)
theorem cal_X11_sheet : CalV yX11_sheet RX11 cX11_sheet 5 (some .int) 3 := ⟨hI_X11_sheet, hS_X11_sheet, hIni_X11, hC_X11_sheet, by decide +kernel⟩
abbrev rm_X11_lay : Room := { frames := 2, cells := 0, slots := 0, locals := 46 }
def fX11_lay_b85  (σ : S0) (t0 : Int32) (t1 : Int32) : Option (Int32 × S0) := og (¬ (t1 < 0 ∨ 160 ≤ t1.toNatClampNeg)) (ol (su σ 110 t1.toNatClampNeg t0) (fun σ2 => some (1, σ2)))
set_option maxHeartbeats 1000000 in
set_option maxRecDepth 100000 in
theorem fX11_lay_b85_ok {p : Program} {l : Launch} {e : Env} {s : State} {m : MethodId} {args : Array Value} {below : List Frame} {meth : Method} {c : Code} {dC : Nat → ClassId} {dI : Nat → Nat → Nat} {ad : Nat → Nat} {cy : Nat → ClassId} {sz : Nat} (C : Cx p s m args meth c RX11 cX11_lay 4 (some .int) dC dI ad cy sz) {rr : Int32} {ρ : S0}  (σ : S0) (t0 : Int32) (t1 : Int32)  (hf : fX11_lay_b85 σ t0 t1 = some (rr, ρ)) : Gw p l e rm_X11_lay s m args below meth c (MQ below (QcI dC dI ad cy sz rr ρ) args s 0 0 (AW ad sz)) dC dI ad cy 4 sz 0 0 85 [] [.int t0, .int t1, .ref (ad 110)] σ := by
  unfold fX11_lay_b85 at hf
  obtain ⟨h1, hf⟩ := og_e hf
  obtain ⟨σ2, eσ2, hf⟩ := ol_e hf
  refine g_iast C (a_110 ad cy _) h1 (w_110 ad cy _) eσ2 dX11_lay_85 ?_
  refine g_iconst (v := 1) C dX11_lay_86 (by decide) ?_
  obtain ⟨rfl, rfl⟩ := os_e hf
  exact g_iret C rfl dX11_lay_87
def fX11_lay (σ : S0) (x1 : Int32) (x2 : Int32) (x3 : Int32) : Option (Int32 × S0) := obp (fX11_isSheet σ x1 ((0 : Int32))) (fun r1 σ2 => if ¬ r1 = 0 then (og (¬ (x1 < 0 ∨ 4 ≤ x1.toNatClampNeg)) (ol (σ2 108 x1.toNatClampNeg) (fun v6 => if ¬ v6 = ((-4)) then (og (¬ (x1 < 0 ∨ 4 ≤ x1.toNatClampNeg)) (ol (σ2 109 x1.toNatClampNeg) (fun v9 => obp (fX11_in σ2 x2.toInt64 ((0 : Int64)) ((v9 - 1).toInt64)) (fun r10 σ11 => if ¬ r10 = 0 then (og (¬ (x1 < 0 ∨ 4 ≤ x1.toNatClampNeg)) (ol (σ11 108 x1.toNatClampNeg) (fun v15 => if ¬ v15 = 0 then (og (¬ (x1 < 0 ∨ 4 ≤ x1.toNatClampNeg)) (ol (σ11 108 x1.toNatClampNeg) (fun v18 => if ¬ v18 = 1 then (fX11_lay_b85 σ11 x3 ((40 * x1) + x2)) else (fX11_lay_b85 σ11 x3.toInt16.toInt32 ((40 * x1) + x2))))) else (fX11_lay_b85 σ11 x3.toInt8.toInt32 ((40 * x1) + x2))))) else (some ((-12), σ11)))))) else (some ((-11), σ2))))) else (some ((-1), σ2)))
set_option maxHeartbeats 1000000 in
set_option maxRecDepth 100000 in
theorem fX11_lay_ok {p : Program} {l : Launch} {e : Env} {s : State} {m : MethodId} {args : Array Value} {below : List Frame} {meth : Method} {c : Code} {dC : Nat → ClassId} {dI : Nat → Nat → Nat} {ad : Nat → Nat} {cy : Nat → ClassId} {sz : Nat} (C : Cx p s m args meth c RX11 cX11_lay 4 (some .int) dC dI ad cy sz) {rr : Int32} {ρ : S0} (σ : S0) (x1 : Int32) (x2 : Int32) (x3 : Int32)  (hf : fX11_lay σ x1 x2 x3 = some (rr, ρ)) : Gw p l e rm_X11_lay s m args below meth c (MQ below (QcI dC dI ad cy sz rr ρ) args s 0 0 (AW ad sz)) dC dI ad cy 4 sz 0 0 0 [(0, .ref (ad 98)), (1, .int x1), (2, .int x2), (3, .int x3)] [] σ := by
  unfold fX11_lay at hf
  refine g_iload_n C dX11_lay_0 rfl 1 rfl ?_
  refine g_iconst (v := 0) C dX11_lay_1 (by decide) ?_
  obtain ⟨r1, σ2, h3, hf⟩ := obp_e hf
  refine g_callSi (As := [.int x1, .int 0]) (rest := []) C (c_X11_isSheet l dC dI ad cy x1 ((0 : Int32))) h3 hM_X11_310 cal_X11_isSheet ⟨Nat.zero_le _, Nat.zero_le _⟩ ⟨rfl, rfl⟩ ⟨Nat.le_of_ble_eq_true rfl, Nat.le_of_ble_eq_true rfl⟩ rfl rfl (Nat.le_of_ble_eq_true rfl) dX11_lay_2 ?_
  rcases oi_e hf with ⟨c4, hf⟩ | ⟨c4, hf⟩
  · refine g_if_ne_t (tgt := 10) C dX11_lay_5 (by decide) c4 ?_
    refine g_aload_n C dX11_lay_10 rfl 0 rfl ?_
    refine g_get C (a_98 ad cy _) rfl hin_X11 36 (by decide) hF_X11_38 rfl rfl dX11_lay_11 ?_
    refine g_iload_n C dX11_lay_14 rfl 1 rfl ?_
    obtain ⟨h5, hf⟩ := og_e hf
    refine g_iald C (a_108 ad cy _) h5 dX11_lay_15 ?_
    obtain ⟨v6, ev6, hf⟩ := ol_e hf
    refine g_nm ev6 ?_
    refine g_bipush (v := (-4)) C dX11_lay_16 (by decide) ?_
    rcases oi_e hf with ⟨c7, hf⟩ | ⟨c7, hf⟩
    · refine g_icmp_ne_t (tgt := 24) C dX11_lay_18 (by decide) c7 ?_
      refine g_iload_n C dX11_lay_24 rfl 2 rfl ?_
      refine g_i2l C dX11_lay_25 ?_
      refine g_lconst (v := 0) C dX11_lay_26 (by decide) ?_
      refine g_aload_n C dX11_lay_27 rfl 0 rfl ?_
      refine g_get C (a_98 ad cy _) rfl hin_X11 37 (by decide) hF_X11_41 rfl rfl dX11_lay_28 ?_
      refine g_iload_n C dX11_lay_31 rfl 1 rfl ?_
      obtain ⟨h8, hf⟩ := og_e hf
      refine g_iald C (a_109 ad cy _) h8 dX11_lay_32 ?_
      obtain ⟨v9, ev9, hf⟩ := ol_e hf
      refine g_nm ev9 ?_
      refine g_iconst (v := 1) C dX11_lay_33 (by decide) ?_
      refine g_isub C dX11_lay_34 ?_
      refine g_i2l C dX11_lay_35 ?_
      obtain ⟨r10, σ11, h12, hf⟩ := obp_e hf
      refine g_callSi (As := [.long x2.toInt64, .long 0, .long ((v9 - 1).toInt64)]) (rest := []) C (c_X11_in l dC dI ad cy x2.toInt64 ((0 : Int64)) ((v9 - 1).toInt64)) h12 hM_X11_92 cal_X11_in ⟨Nat.zero_le _, Nat.zero_le _⟩ ⟨rfl, rfl⟩ ⟨Nat.le_of_ble_eq_true rfl, Nat.le_of_ble_eq_true rfl⟩ rfl rfl (Nat.le_of_ble_eq_true rfl) dX11_lay_36 ?_
      rcases oi_e hf with ⟨c13, hf⟩ | ⟨c13, hf⟩
      · refine g_if_ne_t (tgt := 45) C dX11_lay_39 (by decide) c13 ?_
        refine g_aload_n C dX11_lay_45 rfl 0 rfl ?_
        refine g_get C (a_98 ad cy _) rfl hin_X11 38 (by decide) hF_X11_44 rfl rfl dX11_lay_46 ?_
        refine g_bipush (v := 40) C dX11_lay_49 (by decide) ?_
        refine g_iload_n C dX11_lay_51 rfl 1 rfl ?_
        refine g_imul C dX11_lay_52 ?_
        refine g_iload_n C dX11_lay_53 rfl 2 rfl ?_
        refine g_iadd C dX11_lay_54 ?_
        refine g_aload_n C dX11_lay_55 rfl 0 rfl ?_
        refine g_get C (a_98 ad cy _) rfl hin_X11 36 (by decide) hF_X11_38 rfl rfl dX11_lay_56 ?_
        refine g_iload_n C dX11_lay_59 rfl 1 rfl ?_
        obtain ⟨h14, hf⟩ := og_e hf
        refine g_iald C (a_108 ad cy _) h14 dX11_lay_60 ?_
        obtain ⟨v15, ev15, hf⟩ := ol_e hf
        refine g_nm ev15 ?_
        rcases oi_e hf with ⟨c16, hf⟩ | ⟨c16, hf⟩
        · refine g_if_ne_t (tgt := 69) C dX11_lay_61 (by decide) c16 ?_
          refine g_aload_n C dX11_lay_69 rfl 0 rfl ?_
          refine g_get C (a_98 ad cy _) rfl hin_X11 36 (by decide) hF_X11_38 rfl rfl dX11_lay_70 ?_
          refine g_iload_n C dX11_lay_73 rfl 1 rfl ?_
          obtain ⟨h17, hf⟩ := og_e hf
          refine g_iald C (a_108 ad cy _) h17 dX11_lay_74 ?_
          obtain ⟨v18, ev18, hf⟩ := ol_e hf
          refine g_nm ev18 ?_
          refine g_iconst (v := 1) C dX11_lay_75 (by decide) ?_
          rcases oi_e hf with ⟨c19, hf⟩ | ⟨c19, hf⟩
          · refine g_icmp_ne_t (tgt := 84) C dX11_lay_76 (by decide) c19 ?_
            refine g_iload_n C dX11_lay_84 rfl 3 rfl ?_
            exact g_sub [] rfl (fX11_lay_b85_ok C σ11 x3 ((40 * x1) + x2) hf)
          · refine g_icmp_ne_f (tgt := 84) C dX11_lay_76 (by decide) (Decidable.of_not_not c19) ?_
            refine g_iload_n C dX11_lay_79 rfl 3 rfl ?_
            refine g_i2s C dX11_lay_80 ?_
            refine g_goto (tgt := 85) C dX11_lay_81 (by decide) ?_
            exact g_sub [] rfl (fX11_lay_b85_ok C σ11 x3.toInt16.toInt32 ((40 * x1) + x2) hf)
        · refine g_if_ne_f (tgt := 69) C dX11_lay_61 (by decide) (Decidable.of_not_not c16) ?_
          refine g_iload_n C dX11_lay_64 rfl 3 rfl ?_
          refine g_i2b C dX11_lay_65 ?_
          refine g_goto (tgt := 85) C dX11_lay_66 (by decide) ?_
          exact g_sub [] rfl (fX11_lay_b85_ok C σ11 x3.toInt8.toInt32 ((40 * x1) + x2) hf)
      · refine g_if_ne_f (tgt := 45) C dX11_lay_39 (by decide) (Decidable.of_not_not c13) ?_
        refine g_bipush (v := (-12)) C dX11_lay_42 (by decide) ?_
        obtain ⟨rfl, rfl⟩ := os_e hf
        exact g_iret C rfl dX11_lay_44
    · refine g_icmp_ne_f (tgt := 24) C dX11_lay_18 (by decide) (Decidable.of_not_not c7) ?_
      refine g_bipush (v := (-11)) C dX11_lay_21 (by decide) ?_
      obtain ⟨rfl, rfl⟩ := os_e hf
      exact g_iret C rfl dX11_lay_23
  · refine g_if_ne_f (tgt := 10) C dX11_lay_5 (by decide) (Decidable.of_not_not c4) ?_
    refine g_iconst (v := (-1)) C dX11_lay_8 (by decide) ?_
    obtain ⟨rfl, rfl⟩ := os_e hf
    exact g_iret C rfl dX11_lay_9
theorem c_X11_lay (l : Launch) (dC : Nat → ClassId) (dI : Nat → Nat → Nat) (ad : Nat → Nat) (cy : Nat → ClassId) (x1 : Int32) (x2 : Int32) (x3 : Int32) : ConI l yX11_lay cX11_lay 4 (some .int) rm_X11_lay dC dI ad cy [.ref (ad 98), .int x1, .int x2, .int x3] (fun σ => fX11_lay σ x1 x2 x3) := con_i (own := RX11) (by decide) rfl (Nat.le_of_ble_eq_true rfl) (fun _ _ _ _ _ _ _ _ σ _ _ C hf => fX11_lay_ok C σ x1 x2 x3 hf)
theorem cal_X11_lay : CalV yX11_lay RX11 cX11_lay 4 (some .int) 3 := ⟨hI_X11_lay, hS_X11_lay, hIni_X11, hC_X11_lay, by decide +kernel⟩
abbrev rm_X11_read : Room := { frames := 3, cells := 0, slots := 0, locals := 67 }
def fX11_read_b176 (sf_41 : S0 → Int32 → Int32 → Int32 → Int32 → Int32 → Int32 → Int32 → Int32 → Option (Int32 × S0)) (σ : S0) (x1 : Int32) (x2 : Int32) (x3 : Int32) (x4 : Int32) (x5 : Int32) (x6 : Int32) (x7 : Int32) (x8 : Int32) : Option (Int32 × S0) := ol (x8 + 1) (fun v1 => sf_41 σ x1 x2 x3 x4 x5 x6 x7 v1)
set_option maxHeartbeats 1000000 in
set_option maxRecDepth 100000 in
theorem fX11_read_b176_ok {p : Program} {l : Launch} {e : Env} {s : State} {m : MethodId} {args : Array Value} {below : List Frame} {meth : Method} {c : Code} {dC : Nat → ClassId} {dI : Nat → Nat → Nat} {ad : Nat → Nat} {cy : Nat → ClassId} {sz : Nat} (C : Cx p s m args meth c RX11 cX11_read 12 (some .int) dC dI ad cy sz) {rr : Int32} {ρ : S0} (sf_41 : S0 → Int32 → Int32 → Int32 → Int32 → Int32 → Int32 → Int32 → Int32 → Option (Int32 × S0)) (hs_41 : ∀ (σ : S0) (x1 : Int32) (x2 : Int32) (x3 : Int32) (x4 : Int32) (x5 : Int32) (x6 : Int32) (x7 : Int32) (x8 : Int32) , sf_41 σ x1 x2 x3 x4 x5 x6 x7 x8 = some (rr, ρ) → Gw p l e rm_X11_read s m args below meth c (MQ below (QcI dC dI ad cy sz rr ρ) args s 0 0 (AW ad sz)) dC dI ad cy 12 sz 0 0 41 [(0, .ref (ad 98)), (1, .int x1), (2, .int x2), (3, .int x3), (4, .int x4), (5, .int x5), (6, .int x6), (7, .int x7), (8, .int x8)] [] σ) (σ : S0) (x1 : Int32) (x2 : Int32) (x3 : Int32) (x4 : Int32) (x5 : Int32) (x6 : Int32) (x7 : Int32) (x8 : Int32)  (hf : fX11_read_b176 sf_41 σ x1 x2 x3 x4 x5 x6 x7 x8 = some (rr, ρ)) : Gw p l e rm_X11_read s m args below meth c (MQ below (QcI dC dI ad cy sz rr ρ) args s 0 0 (AW ad sz)) dC dI ad cy 12 sz 0 0 176 [(0, .ref (ad 98)), (1, .int x1), (2, .int x2), (3, .int x3), (4, .int x4), (5, .int x5), (6, .int x6), (7, .int x7), (8, .int x8)] [] σ := by
  unfold fX11_read_b176 at hf
  obtain ⟨v1, ev1, hf⟩ := ol_e hf
  refine g_iinc (j := 8) (w := 1) (lv2 := [(0, .ref (ad 98)), (1, .int x1), (2, .int x2), (3, .int x3), (4, .int x4), (5, .int x5), (6, .int x6), (7, .int x7), (8, .int v1)]) C dX11_read_176 rfl (by decide) ev1 (by decide) [1, 2, 3, 4, 5, 6, 7, 8, 0] rfl ?_
  refine g_goto (tgt := 41) C dX11_read_179 (by decide) ?_
  exact g_sub [0, 1, 2, 3, 4, 5, 6, 7, 8] rfl (hs_41 σ x1 x2 x3 x4 x5 x6 x7 v1 hf)
def fX11_read_b115 (sf_41 : S0 → Int32 → Int32 → Int32 → Int32 → Int32 → Int32 → Int32 → Int32 → Option (Int32 × S0)) (σ : S0) (x1 : Int32) (x2 : Int32) (x3 : Int32) (x4 : Int32) (x5 : Int32) (x7 : Int32) (x8 : Int32) (t0 : Int32) : Option (Int32 × S0) := if ¬ t0 = 0 then (fX11_read_b176 sf_41 σ x1 x2 x3 x4 x5 t0 x7 x8) else (ol (((40 * x1) + x3) + x8) (fun v2 => og (¬ (v2 < 0 ∨ 160 ≤ v2.toNatClampNeg)) (ol (σ 110 v2.toNatClampNeg) (fun v4 => obp (fX11_hear σ v4) (fun r5 σ6 => if 0 ≤ r5 then (ol (x7 + 1) (fun v9 => fX11_read_b176 sf_41 σ6 x1 x2 x3 x4 x5 t0 v9 x8)) else (og (¬ (((66 : Int32)) < 0 ∨ 240 ≤ ((66 : Int32)).toNatClampNeg)) (ol (su σ6 99 ((66 : Int32)).toNatClampNeg x5) (fun σ11 => if ¬ r5 = ((-1)) then (some ((-3), σ11)) else (some (((-20)) - x8, σ11))))))))))
set_option maxHeartbeats 1000000 in
set_option maxRecDepth 100000 in
theorem fX11_read_b115_ok {p : Program} {l : Launch} {e : Env} {s : State} {m : MethodId} {args : Array Value} {below : List Frame} {meth : Method} {c : Code} {dC : Nat → ClassId} {dI : Nat → Nat → Nat} {ad : Nat → Nat} {cy : Nat → ClassId} {sz : Nat} (C : Cx p s m args meth c RX11 cX11_read 12 (some .int) dC dI ad cy sz) {rr : Int32} {ρ : S0} (sf_41 : S0 → Int32 → Int32 → Int32 → Int32 → Int32 → Int32 → Int32 → Int32 → Option (Int32 × S0)) (hs_41 : ∀ (σ : S0) (x1 : Int32) (x2 : Int32) (x3 : Int32) (x4 : Int32) (x5 : Int32) (x6 : Int32) (x7 : Int32) (x8 : Int32) , sf_41 σ x1 x2 x3 x4 x5 x6 x7 x8 = some (rr, ρ) → Gw p l e rm_X11_read s m args below meth c (MQ below (QcI dC dI ad cy sz rr ρ) args s 0 0 (AW ad sz)) dC dI ad cy 12 sz 0 0 41 [(0, .ref (ad 98)), (1, .int x1), (2, .int x2), (3, .int x3), (4, .int x4), (5, .int x5), (6, .int x6), (7, .int x7), (8, .int x8)] [] σ) (σ : S0) (x1 : Int32) (x2 : Int32) (x3 : Int32) (x4 : Int32) (x5 : Int32) (x7 : Int32) (x8 : Int32) (t0 : Int32)  (hf : fX11_read_b115 sf_41 σ x1 x2 x3 x4 x5 x7 x8 t0 = some (rr, ρ)) : Gw p l e rm_X11_read s m args below meth c (MQ below (QcI dC dI ad cy sz rr ρ) args s 0 0 (AW ad sz)) dC dI ad cy 12 sz 0 0 115 [(0, .ref (ad 98)), (1, .int x1), (2, .int x2), (3, .int x3), (4, .int x4), (5, .int x5), (7, .int x7), (8, .int x8)] [.int t0] σ := by
  unfold fX11_read_b115 at hf
  refine g_istore (lv2 := [(0, .ref (ad 98)), (1, .int x1), (2, .int x2), (3, .int x3), (4, .int x4), (5, .int x5), (6, .int t0), (7, .int x7), (8, .int x8)]) C dX11_read_115 (by decide) [1, 2, 3, 4, 5, 6, 0, 7, 8] rfl ?_
  refine g_iload C dX11_read_117 6 rfl ?_
  rcases oi_e hf with ⟨c1, hf⟩ | ⟨c1, hf⟩
  · refine g_if_ne_t (tgt := 176) C dX11_read_119 (by decide) c1 ?_
    exact g_sub [0, 1, 2, 3, 4, 5, 6, 7, 8] rfl (fX11_read_b176_ok C sf_41 hs_41 σ x1 x2 x3 x4 x5 t0 x7 x8 hf)
  · refine g_if_ne_f (tgt := 176) C dX11_read_119 (by decide) (Decidable.of_not_not c1) ?_
    refine g_aload_n C dX11_read_122 rfl 0 rfl ?_
    refine g_aload_n C dX11_read_123 rfl 0 rfl ?_
    refine g_get C (a_98 ad cy _) rfl hin_X11 38 (by decide) hF_X11_44 rfl rfl dX11_read_124 ?_
    refine g_bipush (v := 40) C dX11_read_127 (by decide) ?_
    refine g_iload_n C dX11_read_129 rfl 1 rfl ?_
    refine g_imul C dX11_read_130 ?_
    refine g_iload_n C dX11_read_131 rfl 3 rfl ?_
    refine g_iadd C dX11_read_132 ?_
    refine g_iload C dX11_read_133 8 rfl ?_
    refine g_iadd C dX11_read_135 ?_
    obtain ⟨v2, ev2, hf⟩ := ol_e hf
    refine g_nm ev2 ?_
    obtain ⟨h3, hf⟩ := og_e hf
    refine g_iald C (a_110 ad cy _) h3 dX11_read_136 ?_
    obtain ⟨v4, ev4, hf⟩ := ol_e hf
    refine g_nm ev4 ?_
    obtain ⟨r5, σ6, h7, hf⟩ := obp_e hf
    refine g_callVi (As := [.int v4]) (rest := []) C (a_98 ad cy _) rfl (c_X11_hear l dC dI ad cy v4) h7 hM_X11_315 cal_X11_hear ⟨Nat.zero_le _, Nat.zero_le _⟩ ⟨rfl, rfl⟩ ⟨Nat.le_of_ble_eq_true rfl, Nat.le_of_ble_eq_true rfl⟩ rfl rfl (Nat.le_of_ble_eq_true rfl) dX11_read_137 ?_
    refine g_istore (lv2 := [(0, .ref (ad 98)), (1, .int x1), (2, .int x2), (3, .int x3), (4, .int x4), (5, .int x5), (6, .int t0), (7, .int x7), (8, .int x8), (11, .int r5)]) C dX11_read_140 (by decide) [1, 2, 3, 4, 5, 6, 7, 8, 9, 0] rfl ?_
    refine g_iload C dX11_read_142 9 rfl ?_
    rcases oi_e hf with ⟨c8, hf⟩ | ⟨c8, hf⟩
    · refine g_if_ge_t (tgt := 173) C dX11_read_144 (by decide) c8 ?_
      obtain ⟨v9, ev9, hf⟩ := ol_e hf
      refine g_iinc (j := 7) (w := 1) (lv2 := [(0, .ref (ad 98)), (1, .int x1), (2, .int x2), (3, .int x3), (4, .int x4), (5, .int x5), (6, .int t0), (7, .int v9), (8, .int x8), (11, .int r5)]) C dX11_read_173 rfl (by decide) ev9 (by decide) [1, 2, 3, 4, 5, 6, 7, 0, 8, 9] rfl ?_
      exact g_sub [0, 1, 2, 3, 4, 5, 6, 7, 8] rfl (fX11_read_b176_ok C sf_41 hs_41 σ6 x1 x2 x3 x4 x5 t0 v9 x8 hf)
    · refine g_if_ge_f (tgt := 173) C dX11_read_144 (by decide) c8 ?_
      refine g_aload_n C dX11_read_147 rfl 0 rfl ?_
      refine g_get C (a_98 ad cy _) rfl hin_X11 0 (by decide) hF_X11_7 rfl rfl dX11_read_148 ?_
      refine g_bipush (v := 66) C dX11_read_151 (by decide) ?_
      refine g_iload C dX11_read_153 5 rfl ?_
      obtain ⟨h10, hf⟩ := og_e hf
      obtain ⟨σ11, eσ11, hf⟩ := ol_e hf
      refine g_iast C (a_99 ad cy _) h10 (w_99 ad cy _) eσ11 dX11_read_155 ?_
      refine g_iload C dX11_read_156 9 rfl ?_
      refine g_iconst (v := (-1)) C dX11_read_158 (by decide) ?_
      rcases oi_e hf with ⟨c12, hf⟩ | ⟨c12, hf⟩
      · refine g_icmp_ne_t (tgt := 170) C dX11_read_159 (by decide) c12 ?_
        refine g_bipush (v := (-3)) C dX11_read_170 (by decide) ?_
        obtain ⟨rfl, rfl⟩ := os_e hf
        exact g_iret C rfl dX11_read_172
      · refine g_icmp_ne_f (tgt := 170) C dX11_read_159 (by decide) (Decidable.of_not_not c12) ?_
        refine g_bipush (v := (-20)) C dX11_read_162 (by decide) ?_
        refine g_iload C dX11_read_164 8 rfl ?_
        refine g_isub C dX11_read_166 ?_
        refine g_goto (tgt := 172) C dX11_read_167 (by decide) ?_
        obtain ⟨rfl, rfl⟩ := os_e hf
        exact g_iret C rfl dX11_read_172
def fX11_read_b110 (sf_41 : S0 → Int32 → Int32 → Int32 → Int32 → Int32 → Int32 → Int32 → Int32 → Option (Int32 × S0)) (σ : S0) (x1 : Int32) (x2 : Int32) (x3 : Int32) (x4 : Int32) (x5 : Int32) (x7 : Int32) (x8 : Int32) : Option (Int32 × S0) := fX11_read_b115 sf_41 σ x1 x2 x3 x4 x5 x7 x8 2
set_option maxHeartbeats 1000000 in
set_option maxRecDepth 100000 in
theorem fX11_read_b110_ok {p : Program} {l : Launch} {e : Env} {s : State} {m : MethodId} {args : Array Value} {below : List Frame} {meth : Method} {c : Code} {dC : Nat → ClassId} {dI : Nat → Nat → Nat} {ad : Nat → Nat} {cy : Nat → ClassId} {sz : Nat} (C : Cx p s m args meth c RX11 cX11_read 12 (some .int) dC dI ad cy sz) {rr : Int32} {ρ : S0} (sf_41 : S0 → Int32 → Int32 → Int32 → Int32 → Int32 → Int32 → Int32 → Int32 → Option (Int32 × S0)) (hs_41 : ∀ (σ : S0) (x1 : Int32) (x2 : Int32) (x3 : Int32) (x4 : Int32) (x5 : Int32) (x6 : Int32) (x7 : Int32) (x8 : Int32) , sf_41 σ x1 x2 x3 x4 x5 x6 x7 x8 = some (rr, ρ) → Gw p l e rm_X11_read s m args below meth c (MQ below (QcI dC dI ad cy sz rr ρ) args s 0 0 (AW ad sz)) dC dI ad cy 12 sz 0 0 41 [(0, .ref (ad 98)), (1, .int x1), (2, .int x2), (3, .int x3), (4, .int x4), (5, .int x5), (6, .int x6), (7, .int x7), (8, .int x8)] [] σ) (σ : S0) (x1 : Int32) (x2 : Int32) (x3 : Int32) (x4 : Int32) (x5 : Int32) (x7 : Int32) (x8 : Int32)  (hf : fX11_read_b110 sf_41 σ x1 x2 x3 x4 x5 x7 x8 = some (rr, ρ)) : Gw p l e rm_X11_read s m args below meth c (MQ below (QcI dC dI ad cy sz rr ρ) args s 0 0 (AW ad sz)) dC dI ad cy 12 sz 0 0 110 [(0, .ref (ad 98)), (1, .int x1), (2, .int x2), (3, .int x3), (4, .int x4), (5, .int x5), (7, .int x7), (8, .int x8)] [] σ := by
  unfold fX11_read_b110 at hf
  refine g_iconst (v := 2) C dX11_read_110 (by decide) ?_
  refine g_goto (tgt := 115) C dX11_read_111 (by decide) ?_
  exact g_sub [0, 1, 2, 3, 4, 5, 6, 7] rfl (fX11_read_b115_ok C sf_41 hs_41 σ x1 x2 x3 x4 x5 x7 x8 2 hf)
def fX11_read_b182  (σ : S0) (x6 : Int32) (x7 : Int32) : Option (Int32 × S0) := ol (su σ 98 39 x6) (fun σ1 => some (x7, σ1))
set_option maxHeartbeats 1000000 in
set_option maxRecDepth 100000 in
theorem fX11_read_b182_ok {p : Program} {l : Launch} {e : Env} {s : State} {m : MethodId} {args : Array Value} {below : List Frame} {meth : Method} {c : Code} {dC : Nat → ClassId} {dI : Nat → Nat → Nat} {ad : Nat → Nat} {cy : Nat → ClassId} {sz : Nat} (C : Cx p s m args meth c RX11 cX11_read 12 (some .int) dC dI ad cy sz) {rr : Int32} {ρ : S0}  (σ : S0) (x6 : Int32) (x7 : Int32)  (hf : fX11_read_b182 σ x6 x7 = some (rr, ρ)) : Gw p l e rm_X11_read s m args below meth c (MQ below (QcI dC dI ad cy sz rr ρ) args s 0 0 (AW ad sz)) dC dI ad cy 12 sz 0 0 182 [(0, .ref (ad 98)), (6, .int x6), (7, .int x7)] [] σ := by
  unfold fX11_read_b182 at hf
  refine g_aload_n C dX11_read_182 rfl 0 rfl ?_
  refine g_iload C dX11_read_183 1 rfl ?_
  obtain ⟨σ1, eσ1, hf⟩ := ol_e hf
  refine g_put (ty := .int) C (a_98 ad cy _) rfl hin_X11 tyX11 tyX11_ok nmX11 39 (by decide) hF_X11_318 rfl rfl (by decide +kernel) rfl rfl (Nat.le_of_ble_eq_true rfl) (p_98_39 ad cy _ _) eσ1 dX11_read_185 ?_
  refine g_iload C dX11_read_188 2 rfl ?_
  obtain ⟨rfl, rfl⟩ := os_e hf
  exact g_iret C rfl dX11_read_190
def fX11_read_b41 (sf_41 : S0 → Int32 → Int32 → Int32 → Int32 → Int32 → Int32 → Int32 → Int32 → Option (Int32 × S0)) (σ : S0) (x1 : Int32) (x2 : Int32) (x3 : Int32) (x4 : Int32) (x5 : Int32) (x6 : Int32) (x7 : Int32) (x8 : Int32) : Option (Int32 × S0) := if x4 ≤ x8 then (fX11_read_b182 σ x6 x7) else (if ¬ x6 = 0 then (fX11_read_b182 σ x6 x7) else (ol (x3.toInt64 + x8.toInt64) (fun w3 => og (¬ (x1 < 0 ∨ 4 ≤ x1.toNatClampNeg)) (ol (σ 108 x1.toNatClampNeg) (fun v5 => if ¬ v5 = ((-4)) then (og (¬ (x1 < 0 ∨ 4 ≤ x1.toNatClampNeg)) (ol (σ 108 x1.toNatClampNeg) (fun v8 => if v8 = x2 then (if (lg_cmp w3 0) < 0 then (fX11_read_b110 sf_41 σ x1 x2 x3 x4 x5 x7 x8) else (og (¬ (x1 < 0 ∨ 4 ≤ x1.toNatClampNeg)) (ol (σ 109 x1.toNatClampNeg) (fun v12 => if (lg_cmp w3 v12.toInt64) < 0 then (fX11_read_b115 sf_41 σ x1 x2 x3 x4 x5 x7 x8 0) else (fX11_read_b110 sf_41 σ x1 x2 x3 x4 x5 x7 x8))))) else (fX11_read_b115 sf_41 σ x1 x2 x3 x4 x5 x7 x8 3)))) else (fX11_read_b115 sf_41 σ x1 x2 x3 x4 x5 x7 x8 1))))))
set_option maxHeartbeats 1000000 in
set_option maxRecDepth 100000 in
theorem fX11_read_b41_ok {p : Program} {l : Launch} {e : Env} {s : State} {m : MethodId} {args : Array Value} {below : List Frame} {meth : Method} {c : Code} {dC : Nat → ClassId} {dI : Nat → Nat → Nat} {ad : Nat → Nat} {cy : Nat → ClassId} {sz : Nat} (C : Cx p s m args meth c RX11 cX11_read 12 (some .int) dC dI ad cy sz) {rr : Int32} {ρ : S0} (sf_41 : S0 → Int32 → Int32 → Int32 → Int32 → Int32 → Int32 → Int32 → Int32 → Option (Int32 × S0)) (hs_41 : ∀ (σ : S0) (x1 : Int32) (x2 : Int32) (x3 : Int32) (x4 : Int32) (x5 : Int32) (x6 : Int32) (x7 : Int32) (x8 : Int32) , sf_41 σ x1 x2 x3 x4 x5 x6 x7 x8 = some (rr, ρ) → Gw p l e rm_X11_read s m args below meth c (MQ below (QcI dC dI ad cy sz rr ρ) args s 0 0 (AW ad sz)) dC dI ad cy 12 sz 0 0 41 [(0, .ref (ad 98)), (1, .int x1), (2, .int x2), (3, .int x3), (4, .int x4), (5, .int x5), (6, .int x6), (7, .int x7), (8, .int x8)] [] σ) (σ : S0) (x1 : Int32) (x2 : Int32) (x3 : Int32) (x4 : Int32) (x5 : Int32) (x6 : Int32) (x7 : Int32) (x8 : Int32)  (hf : fX11_read_b41 sf_41 σ x1 x2 x3 x4 x5 x6 x7 x8 = some (rr, ρ)) : Gw p l e rm_X11_read s m args below meth c (MQ below (QcI dC dI ad cy sz rr ρ) args s 0 0 (AW ad sz)) dC dI ad cy 12 sz 0 0 41 [(0, .ref (ad 98)), (1, .int x1), (2, .int x2), (3, .int x3), (4, .int x4), (5, .int x5), (6, .int x6), (7, .int x7), (8, .int x8)] [] σ := by
  unfold fX11_read_b41 at hf
  refine g_iload C dX11_read_41 8 rfl ?_
  refine g_iload C dX11_read_43 4 rfl ?_
  rcases oi_e hf with ⟨c1, hf⟩ | ⟨c1, hf⟩
  · refine g_icmp_ge_t (tgt := 182) C dX11_read_45 (by decide) c1 ?_
    exact g_sub [0, 6, 7] rfl (fX11_read_b182_ok C σ x6 x7 hf)
  · refine g_icmp_ge_f (tgt := 182) C dX11_read_45 (by decide) c1 ?_
    refine g_iload C dX11_read_48 6 rfl ?_
    rcases oi_e hf with ⟨c2, hf⟩ | ⟨c2, hf⟩
    · refine g_if_ne_t (tgt := 182) C dX11_read_50 (by decide) c2 ?_
      exact g_sub [0, 6, 7] rfl (fX11_read_b182_ok C σ x6 x7 hf)
    · refine g_if_ne_f (tgt := 182) C dX11_read_50 (by decide) (Decidable.of_not_not c2) ?_
      refine g_iload_n C dX11_read_53 rfl 3 rfl ?_
      refine g_i2l C dX11_read_54 ?_
      refine g_iload C dX11_read_55 8 rfl ?_
      refine g_i2l C dX11_read_57 ?_
      refine g_ladd C dX11_read_58 ?_
      obtain ⟨w3, ew3, hf⟩ := ol_e hf
      refine g_nml ew3 ?_
      refine g_lstore (lv2 := [(0, .ref (ad 98)), (1, .int x1), (2, .int x2), (3, .int x3), (4, .int x4), (5, .int x5), (6, .int x6), (7, .int x7), (8, .int x8), (9, .long w3)]) C dX11_read_59 (by decide) [1, 2, 3, 4, 5, 6, 7, 8, 9, 0] rfl ?_
      refine g_aload_n C dX11_read_61 rfl 0 rfl ?_
      refine g_get C (a_98 ad cy _) rfl hin_X11 36 (by decide) hF_X11_38 rfl rfl dX11_read_62 ?_
      refine g_iload_n C dX11_read_65 rfl 1 rfl ?_
      obtain ⟨h4, hf⟩ := og_e hf
      refine g_iald C (a_108 ad cy _) h4 dX11_read_66 ?_
      obtain ⟨v5, ev5, hf⟩ := ol_e hf
      refine g_nm ev5 ?_
      refine g_bipush (v := (-4)) C dX11_read_67 (by decide) ?_
      rcases oi_e hf with ⟨c6, hf⟩ | ⟨c6, hf⟩
      · refine g_icmp_ne_t (tgt := 76) C dX11_read_69 (by decide) c6 ?_
        refine g_aload_n C dX11_read_76 rfl 0 rfl ?_
        refine g_get C (a_98 ad cy _) rfl hin_X11 36 (by decide) hF_X11_38 rfl rfl dX11_read_77 ?_
        refine g_iload_n C dX11_read_80 rfl 1 rfl ?_
        obtain ⟨h7, hf⟩ := og_e hf
        refine g_iald C (a_108 ad cy _) h7 dX11_read_81 ?_
        obtain ⟨v8, ev8, hf⟩ := ol_e hf
        refine g_nm ev8 ?_
        refine g_iload_n C dX11_read_82 rfl 2 rfl ?_
        rcases oi_e hf with ⟨c9, hf⟩ | ⟨c9, hf⟩
        · refine g_icmp_eq_t (tgt := 90) C dX11_read_83 (by decide) c9 ?_
          refine g_lload C dX11_read_90 9 rfl ?_
          refine g_lconst (v := 0) C dX11_read_92 (by decide) ?_
          refine g_lcmp C dX11_read_93 ?_
          rcases oi_e hf with ⟨c10, hf⟩ | ⟨c10, hf⟩
          · refine g_if_lt_t (tgt := 110) C dX11_read_94 (by decide) c10 ?_
            exact g_sub [0, 1, 2, 3, 4, 5, 7, 8] rfl (fX11_read_b110_ok C sf_41 hs_41 σ x1 x2 x3 x4 x5 x7 x8 hf)
          · refine g_if_lt_f (tgt := 110) C dX11_read_94 (by decide) c10 ?_
            refine g_lload C dX11_read_97 9 rfl ?_
            refine g_aload_n C dX11_read_99 rfl 0 rfl ?_
            refine g_get C (a_98 ad cy _) rfl hin_X11 37 (by decide) hF_X11_41 rfl rfl dX11_read_100 ?_
            refine g_iload_n C dX11_read_103 rfl 1 rfl ?_
            obtain ⟨h11, hf⟩ := og_e hf
            refine g_iald C (a_109 ad cy _) h11 dX11_read_104 ?_
            obtain ⟨v12, ev12, hf⟩ := ol_e hf
            refine g_nm ev12 ?_
            refine g_i2l C dX11_read_105 ?_
            refine g_lcmp C dX11_read_106 ?_
            rcases oi_e hf with ⟨c13, hf⟩ | ⟨c13, hf⟩
            · refine g_if_lt_t (tgt := 114) C dX11_read_107 (by decide) c13 ?_
              refine g_iconst (v := 0) C dX11_read_114 (by decide) ?_
              exact g_sub [0, 1, 2, 3, 4, 5, 7, 8] rfl (fX11_read_b115_ok C sf_41 hs_41 σ x1 x2 x3 x4 x5 x7 x8 0 hf)
            · refine g_if_lt_f (tgt := 114) C dX11_read_107 (by decide) c13 ?_
              exact g_sub [0, 1, 2, 3, 4, 5, 7, 8] rfl (fX11_read_b110_ok C sf_41 hs_41 σ x1 x2 x3 x4 x5 x7 x8 hf)
        · refine g_icmp_eq_f (tgt := 90) C dX11_read_83 (by decide) c9 ?_
          refine g_iconst (v := 3) C dX11_read_86 (by decide) ?_
          refine g_goto (tgt := 115) C dX11_read_87 (by decide) ?_
          exact g_sub [0, 1, 2, 3, 4, 5, 7, 8] rfl (fX11_read_b115_ok C sf_41 hs_41 σ x1 x2 x3 x4 x5 x7 x8 3 hf)
      · refine g_icmp_ne_f (tgt := 76) C dX11_read_69 (by decide) (Decidable.of_not_not c6) ?_
        refine g_iconst (v := 1) C dX11_read_72 (by decide) ?_
        refine g_goto (tgt := 115) C dX11_read_73 (by decide) ?_
        exact g_sub [0, 1, 2, 3, 4, 5, 7, 8] rfl (fX11_read_b115_ok C sf_41 hs_41 σ x1 x2 x3 x4 x5 x7 x8 1 hf)
def fX11_read_h41  : Nat → S0 → Int32 → Int32 → Int32 → Int32 → Int32 → Int32 → Int32 → Int32 → Option (Int32 × S0)
  | 0 => fun _ _ _ _ _ _ _ _ _ => none
  | n + 1 => fun σ x1 x2 x3 x4 x5 x6 x7 x8 => fX11_read_b41  (fX11_read_h41  n) σ x1 x2 x3 x4 x5 x6 x7 x8
set_option maxHeartbeats 1000000 in
set_option maxRecDepth 100000 in
theorem fX11_read_h41_ok {p : Program} {l : Launch} {e : Env} {s : State} {m : MethodId} {args : Array Value} {below : List Frame} {meth : Method} {c : Code} {dC : Nat → ClassId} {dI : Nat → Nat → Nat} {ad : Nat → Nat} {cy : Nat → ClassId} {sz : Nat} (C : Cx p s m args meth c RX11 cX11_read 12 (some .int) dC dI ad cy sz) {rr : Int32} {ρ : S0}  : ∀ (n : Nat) (σ : S0) (x1 : Int32) (x2 : Int32) (x3 : Int32) (x4 : Int32) (x5 : Int32) (x6 : Int32) (x7 : Int32) (x8 : Int32)  (_hf : fX11_read_h41  n σ x1 x2 x3 x4 x5 x6 x7 x8 = some (rr, ρ)), Gw p l e rm_X11_read s m args below meth c (MQ below (QcI dC dI ad cy sz rr ρ) args s 0 0 (AW ad sz)) dC dI ad cy 12 sz 0 0 41 [(0, .ref (ad 98)), (1, .int x1), (2, .int x2), (3, .int x3), (4, .int x4), (5, .int x5), (6, .int x6), (7, .int x7), (8, .int x8)] [] σ
  | 0, _, _, _, _, _, _, _, _, _, hf => by cases hf
  | n + 1, σ, x1, x2, x3, x4, x5, x6, x7, x8, hf => fX11_read_b41_ok C  (fX11_read_h41  n) (fX11_read_h41_ok C  n) σ x1 x2 x3 x4 x5 x6 x7 x8 hf
def fX11_read (σ : S0) (x1 : Int32) (x2 : Int32) (x3 : Int32) (x4 : Int32) : Option (Int32 × S0) := obp (fX11_isSheet σ x1 x2) (fun r1 σ2 => if r1 = 0 then (some ((-1), σ2)) else (obp (fX11_in σ2 x4.toInt64 ((0 : Int64)) ((12 : Int64))) (fun r5 σ6 => if ¬ r5 = 0 then (og (¬ (((66 : Int32)) < 0 ∨ 240 ≤ ((66 : Int32)).toNatClampNeg)) (ol (σ6 99 ((66 : Int32)).toNatClampNeg) (fun v10 => fX11_read_h41 400 σ6 x1 x2 x3 x4 v10 0 0 0))) else (some ((-1), σ6)))))
set_option maxHeartbeats 1000000 in
set_option maxRecDepth 100000 in
theorem fX11_read_ok {p : Program} {l : Launch} {e : Env} {s : State} {m : MethodId} {args : Array Value} {below : List Frame} {meth : Method} {c : Code} {dC : Nat → ClassId} {dI : Nat → Nat → Nat} {ad : Nat → Nat} {cy : Nat → ClassId} {sz : Nat} (C : Cx p s m args meth c RX11 cX11_read 12 (some .int) dC dI ad cy sz) {rr : Int32} {ρ : S0} (σ : S0) (x1 : Int32) (x2 : Int32) (x3 : Int32) (x4 : Int32)  (hf : fX11_read σ x1 x2 x3 x4 = some (rr, ρ)) : Gw p l e rm_X11_read s m args below meth c (MQ below (QcI dC dI ad cy sz rr ρ) args s 0 0 (AW ad sz)) dC dI ad cy 12 sz 0 0 0 [(0, .ref (ad 98)), (1, .int x1), (2, .int x2), (3, .int x3), (4, .int x4)] [] σ := by
  unfold fX11_read at hf
  refine g_iload_n C dX11_read_0 rfl 1 rfl ?_
  refine g_iload_n C dX11_read_1 rfl 2 rfl ?_
  obtain ⟨r1, σ2, h3, hf⟩ := obp_e hf
  refine g_callSi (As := [.int x1, .int x2]) (rest := []) C (c_X11_isSheet l dC dI ad cy x1 x2) h3 hM_X11_310 cal_X11_isSheet ⟨Nat.zero_le _, Nat.zero_le _⟩ ⟨rfl, rfl⟩ ⟨Nat.le_of_ble_eq_true rfl, Nat.le_of_ble_eq_true rfl⟩ rfl rfl (Nat.le_of_ble_eq_true rfl) dX11_read_2 ?_
  rcases oi_e hf with ⟨c4, hf⟩ | ⟨c4, hf⟩
  · refine g_if_eq_t (tgt := 21) C dX11_read_5 (by decide) c4 ?_
    refine g_iconst (v := (-1)) C dX11_read_21 (by decide) ?_
    obtain ⟨rfl, rfl⟩ := os_e hf
    exact g_iret C rfl dX11_read_22
  · refine g_if_eq_f (tgt := 21) C dX11_read_5 (by decide) c4 ?_
    refine g_iload C dX11_read_8 4 rfl ?_
    refine g_i2l C dX11_read_10 ?_
    refine g_lconst (v := 0) C dX11_read_11 (by decide) ?_
    refine g_ldc2 (v := 12) C dX11_read_12 hK_X11_313 ?_
    obtain ⟨r5, σ6, h7, hf⟩ := obp_e hf
    refine g_callSi (As := [.long x4.toInt64, .long 0, .long 12]) (rest := []) C (c_X11_in l dC dI ad cy x4.toInt64 ((0 : Int64)) ((12 : Int64))) h7 hM_X11_92 cal_X11_in ⟨Nat.zero_le _, Nat.zero_le _⟩ ⟨rfl, rfl⟩ ⟨Nat.le_of_ble_eq_true rfl, Nat.le_of_ble_eq_true rfl⟩ rfl rfl (Nat.le_of_ble_eq_true rfl) dX11_read_15 ?_
    rcases oi_e hf with ⟨c8, hf⟩ | ⟨c8, hf⟩
    · refine g_if_ne_t (tgt := 23) C dX11_read_18 (by decide) c8 ?_
      refine g_aload_n C dX11_read_23 rfl 0 rfl ?_
      refine g_get C (a_98 ad cy _) rfl hin_X11 0 (by decide) hF_X11_7 rfl rfl dX11_read_24 ?_
      refine g_bipush (v := 66) C dX11_read_27 (by decide) ?_
      obtain ⟨h9, hf⟩ := og_e hf
      refine g_iald C (a_99 ad cy _) h9 dX11_read_29 ?_
      obtain ⟨v10, ev10, hf⟩ := ol_e hf
      refine g_nm ev10 ?_
      refine g_istore (lv2 := [(0, .ref (ad 98)), (1, .int x1), (2, .int x2), (3, .int x3), (4, .int x4), (5, .int v10)]) C dX11_read_30 (by decide) [1, 2, 3, 4, 5, 0] rfl ?_
      refine g_iconst (v := 0) C dX11_read_32 (by decide) ?_
      refine g_istore (lv2 := [(0, .ref (ad 98)), (1, .int x1), (2, .int x2), (3, .int x3), (4, .int x4), (5, .int v10), (6, .int 0)]) C dX11_read_33 (by decide) [1, 2, 3, 4, 5, 6, 0] rfl ?_
      refine g_iconst (v := 0) C dX11_read_35 (by decide) ?_
      refine g_istore (lv2 := [(0, .ref (ad 98)), (1, .int x1), (2, .int x2), (3, .int x3), (4, .int x4), (5, .int v10), (6, .int 0), (7, .int 0)]) C dX11_read_36 (by decide) [1, 2, 3, 4, 5, 6, 7, 0] rfl ?_
      refine g_iconst (v := 0) C dX11_read_38 (by decide) ?_
      refine g_istore (lv2 := [(0, .ref (ad 98)), (1, .int x1), (2, .int x2), (3, .int x3), (4, .int x4), (5, .int v10), (6, .int 0), (7, .int 0), (8, .int 0)]) C dX11_read_39 (by decide) [1, 2, 3, 4, 5, 6, 7, 8, 0] rfl ?_
      exact g_sub [0, 1, 2, 3, 4, 5, 6, 7, 8] rfl (fX11_read_h41_ok C 400 σ6 x1 x2 x3 x4 v10 0 0 0 hf)
    · refine g_if_ne_f (tgt := 23) C dX11_read_18 (by decide) (Decidable.of_not_not c8) ?_
      refine g_iconst (v := (-1)) C dX11_read_21 (by decide) ?_
      obtain ⟨rfl, rfl⟩ := os_e hf
      exact g_iret C rfl dX11_read_22
theorem c_X11_read (l : Launch) (dC : Nat → ClassId) (dI : Nat → Nat → Nat) (ad : Nat → Nat) (cy : Nat → ClassId) (x1 : Int32) (x2 : Int32) (x3 : Int32) (x4 : Int32) : ConI l yX11_read cX11_read 12 (some .int) rm_X11_read dC dI ad cy [.ref (ad 98), .int x1, .int x2, .int x3, .int x4] (fun σ => fX11_read σ x1 x2 x3 x4) := con_i (own := RX11) (by decide) rfl (Nat.le_of_ble_eq_true rfl) (fun _ _ _ _ _ _ _ _ σ _ _ C hf => fX11_read_ok C σ x1 x2 x3 x4 hf)
theorem cal_X11_read : CalV yX11_read RX11 cX11_read 12 (some .int) 4 := ⟨hI_X11_read, hS_X11_read, hIni_X11, hC_X11_read, by decide +kernel⟩
