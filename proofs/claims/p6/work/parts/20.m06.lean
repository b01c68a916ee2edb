abbrev rm_X11_torn : Room := { frames := 0, cells := 0, slots := 0, locals := 0 }
def fX11_torn (σ : S0)  : Option (Int32 × S0) := some (σ 98 39, σ)
set_option maxHeartbeats 1000000 in
set_option maxRecDepth 100000 in
theorem fX11_torn_ok {p : Program} {l : Launch} {e : Env} {s : State} {m : MethodId} {args : Array Value} {below : List Frame} {meth : Method} {c : Code} {dC : Nat → ClassId} {dI : Nat → Nat → Nat} {ad : Nat → Nat} {cy : Nat → ClassId} {sz : Nat} (C : Cx p s m args meth c RX11 cX11_torn 1 (some .int) dC dI ad cy sz) {rr : Int32} {ρ : S0} (σ : S0)   (hf : fX11_torn σ = some (rr, ρ)) : Gw p l e rm_X11_torn s m args below meth c (MQ below (QcI dC dI ad cy sz rr ρ) args s 0 0 (AW ad sz)) dC dI ad cy 1 sz 0 0 0 [(0, .ref (ad 98))] [] σ := by
  unfold fX11_torn at hf
  refine g_aload_n C dX11_torn_0 rfl 0 rfl ?_
  refine g_get C (a_98 ad cy _) rfl hin_X11 39 (by decide) hF_X11_318 rfl rfl dX11_torn_1 ?_
  obtain ⟨rfl, rfl⟩ := os_e hf
  exact g_iret C rfl dX11_torn_4
theorem c_X11_torn (l : Launch) (dC : Nat → ClassId) (dI : Nat → Nat → Nat) (ad : Nat → Nat) (cy : Nat → ClassId)  : ConI l yX11_torn cX11_torn 1 (some .int) rm_X11_torn dC dI ad cy [.ref (ad 98)] (fun σ => fX11_torn σ) := con_i (own := RX11) (by decide) rfl (Nat.le_of_ble_eq_true rfl) (fun _ _ _ _ _ _ _ _ σ _ _ C hf => fX11_torn_ok C σ  hf)
theorem cal_X11_torn : CalV yX11_torn RX11 cX11_torn 1 (some .int) 0 := ⟨hI_X11_torn, hS_X11_torn, hIni_X11, hC_X11_torn, by decide +kernel⟩
abbrev rm_X11_count : Room := { frames := 1, cells := 0, slots := 0, locals := 22 }
def fX11_count_b4 (sf_4 : S0 → Int32 → Int32 → Int32 → Option (Int32 × S0)) (σ : S0) (x1 : Int32) (x2 : Int32) (x3 : Int32) : Option (Int32 × S0) := if (σ 98 2) ≤ x3 then (if x1.toInt < 0 ∨ 6 < x1.toInt then (some ((-1), σ)) else if x1 = 0 then (some (σ 98 4, σ)) else if x1 = 1 then (some (σ 98 5, σ)) else if x1 = 2 then (og (¬ ((2 : Int32)) = 0) (ol (x2 / 2) (fun v7 => some (v7, σ)))) else if x1 = 3 then (og (¬ (((66 : Int32)) < 0 ∨ 240 ≤ ((66 : Int32)).toNatClampNeg)) (ol (σ 99 ((66 : Int32)).toNatClampNeg) (fun v10 => some (v10, σ)))) else if x1 = 4 then (og (¬ (((0 : Int32)) < 0 ∨ 2 ≤ ((0 : Int32)).toNatClampNeg)) (ol (σ 100 ((0 : Int32)).toNatClampNeg) (fun v13 => obp (fX11_flag σ v13) (fun r14 σ15 => og (¬ (((1 : Int32)) < 0 ∨ 2 ≤ ((1 : Int32)).toNatClampNeg)) (ol (σ15 100 ((1 : Int32)).toNatClampNeg) (fun v18 => obp (fX11_flag σ15 v18) (fun r19 σ20 => some (r14 + r19, σ20)))))))) else if x1 = 5 then (some (σ 98 17, σ)) else if x1 = 6 then (og (¬ (((0 : Int32)) < 0 ∨ 4 ≤ ((0 : Int32)).toNatClampNeg)) (ol (σ 108 ((0 : Int32)).toNatClampNeg) (fun v25 => if ¬ v25 = ((-4)) then (og (¬ (((0 : Int32)) < 0 ∨ 4 ≤ ((0 : Int32)).toNatClampNeg)) (ol (σ 109 ((0 : Int32)).toNatClampNeg) (fun v28 => some (v28, σ)))) else (some ((-4), σ))))) else none) else (ol (60 + x3) (fun v29 => og (¬ (v29 < 0 ∨ 240 ≤ v29.toNatClampNeg)) (ol (σ 99 v29.toNatClampNeg) (fun v31 => obp (fX11_bitsOf σ v31) (fun r32 σ33 => ol (x2 + r32) (fun v35 => ol (x3 + 1) (fun v36 => sf_4 σ33 x1 v35 v36)))))))
set_option maxHeartbeats 1000000 in
set_option maxRecDepth 100000 in
theorem fX11_count_b4_ok {p : Program} {l : Launch} {e : Env} {s : State} {m : MethodId} {args : Array Value} {below : List Frame} {meth : Method} {c : Code} {dC : Nat → ClassId} {dI : Nat → Nat → Nat} {ad : Nat → Nat} {cy : Nat → ClassId} {sz : Nat} (C : Cx p s m args meth c RX11 cX11_count 4 (some .int) dC dI ad cy sz) {rr : Int32} {ρ : S0} (sf_4 : S0 → Int32 → Int32 → Int32 → Option (Int32 × S0)) (hs_4 : ∀ (σ : S0) (x1 : Int32) (x2 : Int32) (x3 : Int32) , sf_4 σ x1 x2 x3 = some (rr, ρ) → Gw p l e rm_X11_count s m args below meth c (MQ below (QcI dC dI ad cy sz rr ρ) args s 0 0 (AW ad sz)) dC dI ad cy 4 sz 0 0 4 [(0, .ref (ad 98)), (1, .int x1), (2, .int x2), (3, .int x3)] [] σ) (σ : S0) (x1 : Int32) (x2 : Int32) (x3 : Int32)  (hf : fX11_count_b4 sf_4 σ x1 x2 x3 = some (rr, ρ)) : Gw p l e rm_X11_count s m args below meth c (MQ below (QcI dC dI ad cy sz rr ρ) args s 0 0 (AW ad sz)) dC dI ad cy 4 sz 0 0 4 [(0, .ref (ad 98)), (1, .int x1), (2, .int x2), (3, .int x3)] [] σ := by
  unfold fX11_count_b4 at hf
  refine g_iload_n C dX11_count_4 rfl 3 rfl ?_
  refine g_aload_n C dX11_count_5 rfl 0 rfl ?_
  refine g_get C (a_98 ad cy _) rfl hin_X11 2 (by decide) hF_X11_75 rfl rfl dX11_count_6 ?_
  rcases oi_e hf with ⟨c1, hf⟩ | ⟨c1, hf⟩
  · refine g_icmp_ge_t (tgt := 33) C dX11_count_9 (by decide) c1 ?_
    refine g_iload_n C dX11_count_33 rfl 1 rfl ?_
    rcases oi_e hf with ⟨c2, hf⟩ | ⟨c2, hf⟩
    · refine g_tout (tgt := 146) C dX11_count_34 c2 (by decide) ?_
      refine g_iconst (v := (-1)) C dX11_count_146 (by decide) ?_
      obtain ⟨rfl, rfl⟩ := os_e hf
      exact g_iret C rfl dX11_count_147
    · skip
      rcases oi_e hf with ⟨c3, hf⟩ | ⟨c3, hf⟩
      · refine g_tin (tgt := 76) C dX11_count_34 (by rw [c3]; decide) (by rw [c3]; decide) (by rw [c3]; rfl) (by decide) ?_
        refine g_aload_n C dX11_count_76 rfl 0 rfl ?_
        refine g_get C (a_98 ad cy _) rfl hin_X11 4 (by decide) hF_X11_81 rfl rfl dX11_count_77 ?_
        obtain ⟨rfl, rfl⟩ := os_e hf
        exact g_iret C rfl dX11_count_80
      · skip
        rcases oi_e hf with ⟨c4, hf⟩ | ⟨c4, hf⟩
        · refine g_tin (tgt := 81) C dX11_count_34 (by rw [c4]; decide) (by rw [c4]; decide) (by rw [c4]; rfl) (by decide) ?_
          refine g_aload_n C dX11_count_81 rfl 0 rfl ?_
          refine g_get C (a_98 ad cy _) rfl hin_X11 5 (by decide) hF_X11_84 rfl rfl dX11_count_82 ?_
          obtain ⟨rfl, rfl⟩ := os_e hf
          exact g_iret C rfl dX11_count_85
        · skip
          rcases oi_e hf with ⟨c5, hf⟩ | ⟨c5, hf⟩
          · refine g_tin (tgt := 86) C dX11_count_34 (by rw [c5]; decide) (by rw [c5]; decide) (by rw [c5]; rfl) (by decide) ?_
            refine g_iload_n C dX11_count_86 rfl 2 rfl ?_
            refine g_iconst (v := 2) C dX11_count_87 (by decide) ?_
            obtain ⟨h6, hf⟩ := og_e hf
            refine g_idiv C dX11_count_88 h6 ?_
            obtain ⟨v7, ev7, hf⟩ := ol_e hf
            refine g_nm ev7 ?_
            obtain ⟨rfl, rfl⟩ := os_e hf
            exact g_iret C rfl dX11_count_89
          · skip
            rcases oi_e hf with ⟨c8, hf⟩ | ⟨c8, hf⟩
            · refine g_tin (tgt := 90) C dX11_count_34 (by rw [c8]; decide) (by rw [c8]; decide) (by rw [c8]; rfl) (by decide) ?_
              refine g_aload_n C dX11_count_90 rfl 0 rfl ?_
              refine g_get C (a_98 ad cy _) rfl hin_X11 0 (by decide) hF_X11_7 rfl rfl dX11_count_91 ?_
              refine g_bipush (v := 66) C dX11_count_94 (by decide) ?_
              obtain ⟨h9, hf⟩ := og_e hf
              refine g_iald C (a_99 ad cy _) h9 dX11_count_96 ?_
              obtain ⟨v10, ev10, hf⟩ := ol_e hf
              refine g_nm ev10 ?_
              obtain ⟨rfl, rfl⟩ := os_e hf
              exact g_iret C rfl dX11_count_97
            · skip
              rcases oi_e hf with ⟨c11, hf⟩ | ⟨c11, hf⟩
              · refine g_tin (tgt := 98) C dX11_count_34 (by rw [c11]; decide) (by rw [c11]; decide) (by rw [c11]; rfl) (by decide) ?_
                refine g_aload_n C dX11_count_98 rfl 0 rfl ?_
                refine g_get C (a_98 ad cy _) rfl hin_X11 1 (by decide) hF_X11_13 rfl rfl dX11_count_99 ?_
                refine g_iconst (v := 0) C dX11_count_102 (by decide) ?_
                obtain ⟨h12, hf⟩ := og_e hf
                refine g_zald C (a_100 ad cy _) h12 dX11_count_103 ?_
                obtain ⟨v13, ev13, hf⟩ := ol_e hf
                refine g_nm ev13 ?_
                obtain ⟨r14, σ15, h16, hf⟩ := obp_e hf
                refine g_callSi (As := [.int v13]) (rest := []) C (c_X11_flag l dC dI ad cy v13) h16 hM_X11_191 cal_X11_flag ⟨Nat.zero_le _, Nat.zero_le _⟩ ⟨rfl, rfl⟩ ⟨Nat.le_of_ble_eq_true rfl, Nat.le_of_ble_eq_true rfl⟩ rfl rfl (Nat.le_of_ble_eq_true rfl) dX11_count_104 ?_
                refine g_aload_n C dX11_count_107 rfl 0 rfl ?_
                refine g_get C (a_98 ad cy _) rfl hin_X11 1 (by decide) hF_X11_13 rfl rfl dX11_count_108 ?_
                refine g_iconst (v := 1) C dX11_count_111 (by decide) ?_
                obtain ⟨h17, hf⟩ := og_e hf
                refine g_zald C (a_100 ad cy _) h17 dX11_count_112 ?_
                obtain ⟨v18, ev18, hf⟩ := ol_e hf
                refine g_nm ev18 ?_
                obtain ⟨r19, σ20, h21, hf⟩ := obp_e hf
                refine g_callSi (As := [.int v18]) (rest := [.int r14]) C (c_X11_flag l dC dI ad cy v18) h21 hM_X11_191 cal_X11_flag ⟨Nat.zero_le _, Nat.zero_le _⟩ ⟨rfl, rfl⟩ ⟨Nat.le_of_ble_eq_true rfl, Nat.le_of_ble_eq_true rfl⟩ rfl rfl (Nat.le_of_ble_eq_true rfl) dX11_count_113 ?_
                refine g_iadd C dX11_count_116 ?_
                obtain ⟨rfl, rfl⟩ := os_e hf
                exact g_iret C rfl dX11_count_117
              · skip
                rcases oi_e hf with ⟨c22, hf⟩ | ⟨c22, hf⟩
                · refine g_tin (tgt := 118) C dX11_count_34 (by rw [c22]; decide) (by rw [c22]; decide) (by rw [c22]; rfl) (by decide) ?_
                  refine g_aload_n C dX11_count_118 rfl 0 rfl ?_
                  refine g_get C (a_98 ad cy _) rfl hin_X11 17 (by decide) hF_X11_87 rfl rfl dX11_count_119 ?_
                  obtain ⟨rfl, rfl⟩ := os_e hf
                  exact g_iret C rfl dX11_count_122
                · skip
                  rcases oi_e hf with ⟨c23, hf⟩ | ⟨c23, hf⟩
                  · refine g_tin (tgt := 123) C dX11_count_34 (by rw [c23]; decide) (by rw [c23]; decide) (by rw [c23]; rfl) (by decide) ?_
                    refine g_aload_n C dX11_count_123 rfl 0 rfl ?_
                    refine g_get C (a_98 ad cy _) rfl hin_X11 36 (by decide) hF_X11_38 rfl rfl dX11_count_124 ?_
                    refine g_iconst (v := 0) C dX11_count_127 (by decide) ?_
                    obtain ⟨h24, hf⟩ := og_e hf
                    refine g_iald C (a_108 ad cy _) h24 dX11_count_128 ?_
                    obtain ⟨v25, ev25, hf⟩ := ol_e hf
                    refine g_nm ev25 ?_
                    refine g_bipush (v := (-4)) C dX11_count_129 (by decide) ?_
                    rcases oi_e hf with ⟨c26, hf⟩ | ⟨c26, hf⟩
                    · refine g_icmp_ne_t (tgt := 139) C dX11_count_131 (by decide) c26 ?_
                      refine g_aload_n C dX11_count_139 rfl 0 rfl ?_
                      refine g_get C (a_98 ad cy _) rfl hin_X11 37 (by decide) hF_X11_41 rfl rfl dX11_count_140 ?_
                      refine g_iconst (v := 0) C dX11_count_143 (by decide) ?_
                      obtain ⟨h27, hf⟩ := og_e hf
                      refine g_iald C (a_109 ad cy _) h27 dX11_count_144 ?_
                      obtain ⟨v28, ev28, hf⟩ := ol_e hf
                      refine g_nm ev28 ?_
                      obtain ⟨rfl, rfl⟩ := os_e hf
                      exact g_iret C rfl dX11_count_145
                    · refine g_icmp_ne_f (tgt := 139) C dX11_count_131 (by decide) (Decidable.of_not_not c26) ?_
                      refine g_bipush (v := (-4)) C dX11_count_134 (by decide) ?_
                      refine g_goto (tgt := 145) C dX11_count_136 (by decide) ?_
                      obtain ⟨rfl, rfl⟩ := os_e hf
                      exact g_iret C rfl dX11_count_145
                  · skip
                    cases hf
  · refine g_icmp_ge_f (tgt := 33) C dX11_count_9 (by decide) c1 ?_
    refine g_iload_n C dX11_count_12 rfl 2 rfl ?_
    refine g_aload_n C dX11_count_13 rfl 0 rfl ?_
    refine g_get C (a_98 ad cy _) rfl hin_X11 0 (by decide) hF_X11_7 rfl rfl dX11_count_14 ?_
    refine g_bipush (v := 60) C dX11_count_17 (by decide) ?_
    refine g_iload_n C dX11_count_19 rfl 3 rfl ?_
    refine g_iadd C dX11_count_20 ?_
    obtain ⟨v29, ev29, hf⟩ := ol_e hf
    refine g_nm ev29 ?_
    obtain ⟨h30, hf⟩ := og_e hf
    refine g_iald C (a_99 ad cy _) h30 dX11_count_21 ?_
    obtain ⟨v31, ev31, hf⟩ := ol_e hf
    refine g_nm ev31 ?_
    obtain ⟨r32, σ33, h34, hf⟩ := obp_e hf
    refine g_callSi (As := [.int v31]) (rest := [.int x2]) C (c_X11_bitsOf l dC dI ad cy v31) h34 hM_X11_266 cal_X11_bitsOf ⟨Nat.zero_le _, Nat.zero_le _⟩ ⟨rfl, rfl⟩ ⟨Nat.le_of_ble_eq_true rfl, Nat.le_of_ble_eq_true rfl⟩ rfl rfl (Nat.le_of_ble_eq_true rfl) dX11_count_22 ?_
    refine g_iadd C dX11_count_25 ?_
    obtain ⟨v35, ev35, hf⟩ := ol_e hf
    refine g_nm ev35 ?_
    refine g_istore_n (lv2 := [(0, .ref (ad 98)), (1, .int x1), (2, .int v35), (3, .int x3)]) C dX11_count_26 rfl (by decide) [1, 2, 0, 3] rfl ?_
    obtain ⟨v36, ev36, hf⟩ := ol_e hf
    refine g_iinc (j := 3) (w := 1) (lv2 := [(0, .ref (ad 98)), (1, .int x1), (2, .int v35), (3, .int v36)]) C dX11_count_27 rfl (by decide) ev36 (by decide) [1, 2, 3, 0] rfl ?_
    refine g_goto (tgt := 4) C dX11_count_30 (by decide) ?_
    exact g_sub [0, 1, 2, 3] rfl (hs_4 σ33 x1 v35 v36 hf)
def fX11_count_h4  : Nat → S0 → Int32 → Int32 → Int32 → Option (Int32 × S0)
  | 0 => fun _ _ _ _ => none
  | n + 1 => fun σ x1 x2 x3 => fX11_count_b4  (fX11_count_h4  n) σ x1 x2 x3
set_option maxHeartbeats 1000000 in
set_option maxRecDepth 100000 in
theorem fX11_count_h4_ok {p : Program} {l : Launch} {e : Env} {s : State} {m : MethodId} {args : Array Value} {below : List Frame} {meth : Method} {c : Code} {dC : Nat → ClassId} {dI : Nat → Nat → Nat} {ad : Nat → Nat} {cy : Nat → ClassId} {sz : Nat} (C : Cx p s m args meth c RX11 cX11_count 4 (some .int) dC dI ad cy sz) {rr : Int32} {ρ : S0}  : ∀ (n : Nat) (σ : S0) (x1 : Int32) (x2 : Int32) (x3 : Int32)  (_hf : fX11_count_h4  n σ x1 x2 x3 = some (rr, ρ)), Gw p l e rm_X11_count s m args below meth c (MQ below (QcI dC dI ad cy sz rr ρ) args s 0 0 (AW ad sz)) dC dI ad cy 4 sz 0 0 4 [(0, .ref (ad 98)), (1, .int x1), (2, .int x2), (3, .int x3)] [] σ
  | 0, _, _, _, _, hf => by cases hf
  | n + 1, σ, x1, x2, x3, hf => fX11_count_b4_ok C  (fX11_count_h4  n) (fX11_count_h4_ok C  n) σ x1 x2 x3 hf
def fX11_count (σ : S0) (x1 : Int32) : Option (Int32 × S0) := fX11_count_h4 400 σ x1 0 0
set_option maxHeartbeats 1000000 in
set_option maxRecDepth 100000 in
theorem fX11_count_ok {p : Program} {l : Launch} {e : Env} {s : State} {m : MethodId} {args : Array Value} {below : List Frame} {meth : Method} {c : Code} {dC : Nat → ClassId} {dI : Nat → Nat → Nat} {ad : Nat → Nat} {cy : Nat → ClassId} {sz : Nat} (C : Cx p s m args meth c RX11 cX11_count 4 (some .int) dC dI ad cy sz) {rr : Int32} {ρ : S0} (σ : S0) (x1 : Int32)  (hf : fX11_count σ x1 = some (rr, ρ)) : Gw p l e rm_X11_count s m args below meth c (MQ below (QcI dC dI ad cy sz rr ρ) args s 0 0 (AW ad sz)) dC dI ad cy 4 sz 0 0 0 [(0, .ref (ad 98)), (1, .int x1)] [] σ := by
  unfold fX11_count at hf
  refine g_iconst (v := 0) C dX11_count_0 (by decide) ?_
  refine g_istore_n (lv2 := [(0, .ref (ad 98)), (1, .int x1), (2, .int 0)]) C dX11_count_1 rfl (by decide) [1, 2, 0] rfl ?_
  refine g_iconst (v := 0) C dX11_count_2 (by decide) ?_
  refine g_istore_n (lv2 := [(0, .ref (ad 98)), (1, .int x1), (2, .int 0), (3, .int 0)]) C dX11_count_3 rfl (by decide) [1, 2, 3, 0] rfl ?_
  exact g_sub [0, 1, 2, 3] rfl (fX11_count_h4_ok C 400 σ x1 0 0 hf)
theorem c_X11_count (l : Launch) (dC : Nat → ClassId) (dI : Nat → Nat → Nat) (ad : Nat → Nat) (cy : Nat → ClassId) (x1 : Int32) : ConI l yX11_count cX11_count 4 (some .int) rm_X11_count dC dI ad cy [.ref (ad 98), .int x1] (fun σ => fX11_count σ x1) := con_i (own := RX11) (by decide) rfl (Nat.le_of_ble_eq_true rfl) (fun _ _ _ _ _ _ _ _ σ _ _ C hf => fX11_count_ok C σ x1 hf)
theorem cal_X11_count : CalV yX11_count RX11 cX11_count 4 (some .int) 1 := ⟨hI_X11_count, hS_X11_count, hIni_X11, hC_X11_count, by decide +kernel⟩
