section
theorem AW_AZ {ad : Nat → Nat} {z n : Nat} (hz : adz ad z) (hn : n ≤ 111) : AW ad (z + n) = AZ z := by
  funext q
  apply propext
  constructor
  · rintro (⟨k, hk, rfl⟩ | h)
    · show z ≤ ad k
      rw [hz k hk]
      omega
    · show z ≤ q
      omega
  · intro h
    have h : z ≤ q := h
    by_cases hq : q < z + n
    · exact Or.inl ⟨q - z, by omega, by rw [hz _ (by omega)]; omega⟩
    · exact Or.inr (by omega)
theorem wInj_of {ad : Nat → Nat} {z : Nat} (hz : adz ad z) : wInj ad := fun i j hi hj e => by
  rw [hz i hi, hz j hj] at e
  omega
theorem wG_full {ad : Nat → Nat} {cy : Nat → ClassId} {σ : S0} {ρ : R0} (h : ∀ k, k < 111 → wg cy k (σ k) (ρ k) = wc ad cy k (σ k)) : wG 111 ad cy σ ρ = wW ad cy σ := by
  unfold wG wW
  refine List.map_congr_left (fun k hk => ?_)
  rw [h k (List.mem_range.mp hk)]
theorem rus_lt (ad : Nat → Nat) {b k : Nat} (hk : k < b) : ∀ (l : List (Nat × Nat × Nat)) (ρ : R0), (l.all (fun q => decide (b ≤ q.1))) = true → rus ad ρ l k = ρ k
  | [], _, _ => rfl
  | q :: l, ρ, hl => by
    rw [List.all_cons, Bool.and_eq_true] at hl
    have hq : b ≤ q.1 := of_decide_eq_true hl.1
    show rus ad (ru ρ q.1 q.2.1 (ad q.2.2)) l k = _
    rw [rus_lt ad hk l _ hl.2]
    show va_up ρ q.1 _ k = _
    unfold va_up
    rw [if_neg (by omega)]
theorem rus_big (ad : Nat → Nat) {b k i : Nat} (hi : b ≤ i) : ∀ (l : List (Nat × Nat × Nat)) (ρ : R0), (l.all (fun q => decide (q.1 ≠ k ∨ q.2.1 < b))) = true → rus ad ρ l k i = ρ k i
  | [], _, _ => rfl
  | q :: l, ρ, hl => by
    rw [List.all_cons, Bool.and_eq_true] at hl
    have hq : q.1 ≠ k ∨ q.2.1 < b := of_decide_eq_true hl.1
    show rus ad (ru ρ q.1 q.2.1 (ad q.2.2)) l k i = _
    rw [rus_big ad hi l _ hl.2]
    show va_up ρ q.1 (va_up (ρ q.1) q.2.1 (some (ad q.2.2))) k i = _
    unfold va_up
    by_cases hk : k = q.1
    · rw [if_pos hk, if_neg (by rcases hq with h | h <;> omega), hk]
    · rw [if_neg hk]
abbrev rm_X11_init : Room := { frames := 1, cells := 12, slots := 1152, locals := 21 }
set_option maxHeartbeats 4000000 in
set_option maxRecDepth 100000 in
theorem c_X11_init (l : Launch) (dC : Nat → ClassId) (dI : Nat → Nat → Nat) (ad : Nat → Nat) (cy : Nat → ClassId) (z : Nat) (hz : adz ad z) (σ : S0) (ρ : R0) (hF : Fr 99 σ ρ) (hρ : ∀ k, k < 98 → ∀ f, wg cy k f (ρ k) = wc ad cy k f) {r1 r2 : Int32} {σ1 σ2 : S0} (h1 : fX11_firstDraft (sus σ [(108, 0, (-4)), (108, 1, (-4)), (108, 2, (-4)), (108, 3, (-4))]) = some (r1, σ1)) (h2 : fX11_keepDraft σ1 = some (r2, σ2)) : Met l yX11_init (Cond.code yX11_init cX11_init 2 none :: lw_w) rm_X11_init (va_Pc [.ref (ad 98)] (fun U => PreK dC dI ad cy z 99 σ ρ U ∧ SX ad (AZ z) U U.heap)) (va_Qv (fun σ3 => σ3 = σ2) (AtW dC dI ad cy) (AZ z)) 12 1152 (AZ z) := by
  refine Met.ofW (cc := cX11_init) (maxL := 2) (ret := none) (by decide) rfl ?_
  intro p e s m args below meth c s₁ B hml hv
  obtain ⟨rfl, ⟨hsz, hP, hK, hN⟩, hSX⟩ := hv
  have hown : s.vm.findClass RX11 = some m.cls := findClass_of_methodNamed B.named
  have hts : ∀ w ∈ lw_w, w.before _ s = true := fun w hw => atoms_spec (ws := Cond.code yX11_init cX11_init 2 none :: lw_w) B.pre w (List.mem_cons_of_mem _ hw)
  have C : Ck p s m _ meth c RX11 cX11_init 2 dC dI ad cy z := ⟨B.exec, B.bytes, hml, hown, hts, hK, hz, B.notSynchronized, hN, by omega⟩
  have hin : meth.name = "<init>" := (name_of_methodNamed B.named B.method).1
  have CX : Cx p s m _ meth c RX11 cX11_init 2 none dC dI ad cy (z + 99) := ⟨B.exec, B.bytes, hml, hown, hts, hK, wInj_of hz, B.returns, B.notSynchronized, hsz, by rw [AW_AZ hz (by decide)]; exact hSX⟩
  have hl := lv_entry [.ref (ad 98)] (n := 2) (Nat.le_of_ble_eq_true rfl)
  rw [lg_entry_eq]
  refine (show Gk p l e rm_X11_init s m _ below meth c _ dC dI ad cy 2 z σ ρ 0 0 99 [] [] 0 [(0, .ref (ad 98))] [] from ?_) _ _ _ hl hP hsz va_S.rf
  clear hl hP
  refine k_aload_n C dX11_init_0 rfl 0 rfl ?_
  refine k_obj C hM_X11_1 ⟨(Nat.le_of_ble_eq_true rfl), (Nat.le_of_ble_eq_true rfl)⟩ dX11_init_1 ?_
  refine k_aload_n C dX11_init_4 rfl 0 rfl ?_
  refine k_sipush (v := 240) C dX11_init_5 (by decide) ?_
  refine k_newa (ty := .int) (N := 240) (cq := 0) (nc2 := 1) (ns2 := 240) C (Fr.r ad _ (Fr.s _ (hF.mono (Nat.le_of_ble_eq_true rfl)) rfl) rfl) (by decide) rfl hA_int (arr_name C.2.2.2.2.2.1).1 rfl rfl (by decide) (by decide) (by decide) (Nat.le_of_ble_eq_true rfl) (Nat.le_of_ble_eq_true rfl) rfl rfl dX11_init_8 ?_
  refine k_putF (kc := 98) (t := 99) (ci := 11) (ty := .array .int) (lR2 := [(98, 0, 99)]) C hin (by decide) (by decide) rfl rfl hin_X11 tyX11 tyX11_ok nmX11 0 (by decide) hF_X11_7 rfl rfl rfl (by decide +kernel) rfl rfl (Nat.le_of_ble_eq_true rfl) rfl rfl dX11_init_10 ?_
  refine k_aload_n C dX11_init_13 rfl 0 rfl ?_
  refine k_iconst (v := 2) C dX11_init_14 (by decide) ?_
  refine k_newa (ty := .boolean) (N := 2) (cq := 2) (nc2 := 2) (ns2 := 242) C (Fr.r ad _ (Fr.s _ (hF.mono (Nat.le_of_ble_eq_true rfl)) rfl) rfl) (by decide) rfl hA_boolean (arr_name C.2.2.2.2.2.1).2.2.1 rfl rfl (by decide) (by decide) (by decide) (Nat.le_of_ble_eq_true rfl) (Nat.le_of_ble_eq_true rfl) rfl rfl dX11_init_15 ?_
  refine k_putF (kc := 98) (t := 100) (ci := 11) (ty := .array .boolean) (lR2 := [(98, 0, 99), (98, 1, 100)]) C hin (by decide) (by decide) rfl rfl hin_X11 tyX11 tyX11_ok nmX11 1 (by decide) hF_X11_13 rfl rfl rfl (by decide +kernel) rfl rfl (Nat.le_of_ble_eq_true rfl) rfl rfl dX11_init_17 ?_
  refine k_aload_n C dX11_init_20 rfl 0 rfl ?_
  refine k_bipush (v := 84) C dX11_init_21 (by decide) ?_
  refine k_newa (ty := .int) (N := 84) (cq := 0) (nc2 := 3) (ns2 := 326) C (Fr.r ad _ (Fr.s _ (hF.mono (Nat.le_of_ble_eq_true rfl)) rfl) rfl) (by decide) rfl hA_int (arr_name C.2.2.2.2.2.1).1 rfl rfl (by decide) (by decide) (by decide) (Nat.le_of_ble_eq_true rfl) (Nat.le_of_ble_eq_true rfl) rfl rfl dX11_init_23 ?_
  refine k_putF (kc := 98) (t := 101) (ci := 11) (ty := .array .int) (lR2 := [(98, 0, 99), (98, 1, 100), (98, 6, 101)]) C hin (by decide) (by decide) rfl rfl hin_X11 tyX11 tyX11_ok nmX11 6 (by decide) hF_X11_17 rfl rfl rfl (by decide +kernel) rfl rfl (Nat.le_of_ble_eq_true rfl) rfl rfl dX11_init_25 ?_
  refine k_aload_n C dX11_init_28 rfl 0 rfl ?_
  refine k_bipush (v := 80) C dX11_init_29 (by decide) ?_
  refine k_newa (ty := .int) (N := 80) (cq := 0) (nc2 := 4) (ns2 := 406) C (Fr.r ad _ (Fr.s _ (hF.mono (Nat.le_of_ble_eq_true rfl)) rfl) rfl) (by decide) rfl hA_int (arr_name C.2.2.2.2.2.1).1 rfl rfl (by decide) (by decide) (by decide) (Nat.le_of_ble_eq_true rfl) (Nat.le_of_ble_eq_true rfl) rfl rfl dX11_init_31 ?_
  refine k_putF (kc := 98) (t := 102) (ci := 11) (ty := .array .int) (lR2 := [(98, 0, 99), (98, 1, 100), (98, 6, 101), (98, 7, 102)]) C hin (by decide) (by decide) rfl rfl hin_X11 tyX11 tyX11_ok nmX11 7 (by decide) hF_X11_20 rfl rfl rfl (by decide +kernel) rfl rfl (Nat.le_of_ble_eq_true rfl) rfl rfl dX11_init_33 ?_
  refine k_aload_n C dX11_init_36 rfl 0 rfl ?_
  refine k_bipush (v := 84) C dX11_init_37 (by decide) ?_
  refine k_newa (ty := .int) (N := 84) (cq := 0) (nc2 := 5) (ns2 := 490) C (Fr.r ad _ (Fr.s _ (hF.mono (Nat.le_of_ble_eq_true rfl)) rfl) rfl) (by decide) rfl hA_int (arr_name C.2.2.2.2.2.1).1 rfl rfl (by decide) (by decide) (by decide) (Nat.le_of_ble_eq_true rfl) (Nat.le_of_ble_eq_true rfl) rfl rfl dX11_init_39 ?_
  refine k_putF (kc := 98) (t := 103) (ci := 11) (ty := .array .int) (lR2 := [(98, 0, 99), (98, 1, 100), (98, 6, 101), (98, 7, 102), (98, 8, 103)]) C hin (by decide) (by decide) rfl rfl hin_X11 tyX11 tyX11_ok nmX11 8 (by decide) hF_X11_23 rfl rfl rfl (by decide +kernel) rfl rfl (Nat.le_of_ble_eq_true rfl) rfl rfl dX11_init_41 ?_
  refine k_aload_n C dX11_init_44 rfl 0 rfl ?_
  refine k_sipush (v := 320) C dX11_init_45 (by decide) ?_
  refine k_newa (ty := .int) (N := 320) (cq := 0) (nc2 := 6) (ns2 := 810) C (Fr.r ad _ (Fr.s _ (hF.mono (Nat.le_of_ble_eq_true rfl)) rfl) rfl) (by decide) rfl hA_int (arr_name C.2.2.2.2.2.1).1 rfl rfl (by decide) (by decide) (by decide) (Nat.le_of_ble_eq_true rfl) (Nat.le_of_ble_eq_true rfl) rfl rfl dX11_init_48 ?_
  refine k_putF (kc := 98) (t := 104) (ci := 11) (ty := .array .int) (lR2 := [(98, 0, 99), (98, 1, 100), (98, 6, 101), (98, 7, 102), (98, 8, 103), (98, 16, 104)]) C hin (by decide) (by decide) rfl rfl hin_X11 tyX11 tyX11_ok nmX11 16 (by decide) hF_X11_26 rfl rfl rfl (by decide +kernel) rfl rfl (Nat.le_of_ble_eq_true rfl) rfl rfl dX11_init_50 ?_
  refine k_aload_n C dX11_init_53 rfl 0 rfl ?_
  refine k_bipush (v := 6) C dX11_init_54 (by decide) ?_
  refine k_newa (ty := .int) (N := 6) (cq := 0) (nc2 := 7) (ns2 := 816) C (Fr.r ad _ (Fr.s _ (hF.mono (Nat.le_of_ble_eq_true rfl)) rfl) rfl) (by decide) rfl hA_int (arr_name C.2.2.2.2.2.1).1 rfl rfl (by decide) (by decide) (by decide) (Nat.le_of_ble_eq_true rfl) (Nat.le_of_ble_eq_true rfl) rfl rfl dX11_init_56 ?_
  refine k_putF (kc := 98) (t := 105) (ci := 11) (ty := .array .int) (lR2 := [(98, 0, 99), (98, 1, 100), (98, 6, 101), (98, 7, 102), (98, 8, 103), (98, 16, 104), (98, 28, 105)]) C hin (by decide) (by decide) rfl rfl hin_X11 tyX11 tyX11_ok nmX11 28 (by decide) hF_X11_29 rfl rfl rfl (by decide +kernel) rfl rfl (Nat.le_of_ble_eq_true rfl) rfl rfl dX11_init_58 ?_
  refine k_aload_n C dX11_init_61 rfl 0 rfl ?_
  refine k_bipush (v := 12) C dX11_init_62 (by decide) ?_
  refine k_newa (ty := .int) (N := 12) (cq := 0) (nc2 := 8) (ns2 := 828) C (Fr.r ad _ (Fr.s _ (hF.mono (Nat.le_of_ble_eq_true rfl)) rfl) rfl) (by decide) rfl hA_int (arr_name C.2.2.2.2.2.1).1 rfl rfl (by decide) (by decide) (by decide) (Nat.le_of_ble_eq_true rfl) (Nat.le_of_ble_eq_true rfl) rfl rfl dX11_init_64 ?_
  refine k_putF (kc := 98) (t := 106) (ci := 11) (ty := .array .int) (lR2 := [(98, 0, 99), (98, 1, 100), (98, 6, 101), (98, 7, 102), (98, 8, 103), (98, 16, 104), (98, 28, 105), (98, 29, 106)]) C hin (by decide) (by decide) rfl rfl hin_X11 tyX11 tyX11_ok nmX11 29 (by decide) hF_X11_32 rfl rfl rfl (by decide +kernel) rfl rfl (Nat.le_of_ble_eq_true rfl) rfl rfl dX11_init_66 ?_
  refine k_aload_n C dX11_init_69 rfl 0 rfl ?_
  refine k_sipush (v := 156) C dX11_init_70 (by decide) ?_
  refine k_newa (ty := .int) (N := 156) (cq := 0) (nc2 := 9) (ns2 := 984) C (Fr.r ad _ (Fr.s _ (hF.mono (Nat.le_of_ble_eq_true rfl)) rfl) rfl) (by decide) rfl hA_int (arr_name C.2.2.2.2.2.1).1 rfl rfl (by decide) (by decide) (by decide) (Nat.le_of_ble_eq_true rfl) (Nat.le_of_ble_eq_true rfl) rfl rfl dX11_init_73 ?_
  refine k_putF (kc := 98) (t := 107) (ci := 11) (ty := .array .int) (lR2 := [(98, 0, 99), (98, 1, 100), (98, 6, 101), (98, 7, 102), (98, 8, 103), (98, 16, 104), (98, 28, 105), (98, 29, 106), (98, 34, 107)]) C hin (by decide) (by decide) rfl rfl hin_X11 tyX11 tyX11_ok nmX11 34 (by decide) hF_X11_35 rfl rfl rfl (by decide +kernel) rfl rfl (Nat.le_of_ble_eq_true rfl) rfl rfl dX11_init_75 ?_
  refine k_aload_n C dX11_init_78 rfl 0 rfl ?_
  refine k_iconst (v := 4) C dX11_init_79 (by decide) ?_
  refine k_newa (ty := .int) (N := 4) (cq := 0) (nc2 := 10) (ns2 := 988) C (Fr.r ad _ (Fr.s _ (hF.mono (Nat.le_of_ble_eq_true rfl)) rfl) rfl) (by decide) rfl hA_int (arr_name C.2.2.2.2.2.1).1 rfl rfl (by decide) (by decide) (by decide) (Nat.le_of_ble_eq_true rfl) (Nat.le_of_ble_eq_true rfl) rfl rfl dX11_init_80 ?_
  refine k_putF (kc := 98) (t := 108) (ci := 11) (ty := .array .int) (lR2 := [(98, 0, 99), (98, 1, 100), (98, 6, 101), (98, 7, 102), (98, 8, 103), (98, 16, 104), (98, 28, 105), (98, 29, 106), (98, 34, 107), (98, 36, 108)]) C hin (by decide) (by decide) rfl rfl hin_X11 tyX11 tyX11_ok nmX11 36 (by decide) hF_X11_38 rfl rfl rfl (by decide +kernel) rfl rfl (Nat.le_of_ble_eq_true rfl) rfl rfl dX11_init_82 ?_
  refine k_aload_n C dX11_init_85 rfl 0 rfl ?_
  refine k_iconst (v := 4) C dX11_init_86 (by decide) ?_
  refine k_newa (ty := .int) (N := 4) (cq := 0) (nc2 := 11) (ns2 := 992) C (Fr.r ad _ (Fr.s _ (hF.mono (Nat.le_of_ble_eq_true rfl)) rfl) rfl) (by decide) rfl hA_int (arr_name C.2.2.2.2.2.1).1 rfl rfl (by decide) (by decide) (by decide) (Nat.le_of_ble_eq_true rfl) (Nat.le_of_ble_eq_true rfl) rfl rfl dX11_init_87 ?_
  refine k_putF (kc := 98) (t := 109) (ci := 11) (ty := .array .int) (lR2 := [(98, 0, 99), (98, 1, 100), (98, 6, 101), (98, 7, 102), (98, 8, 103), (98, 16, 104), (98, 28, 105), (98, 29, 106), (98, 34, 107), (98, 36, 108), (98, 37, 109)]) C hin (by decide) (by decide) rfl rfl hin_X11 tyX11 tyX11_ok nmX11 37 (by decide) hF_X11_41 rfl rfl rfl (by decide +kernel) rfl rfl (Nat.le_of_ble_eq_true rfl) rfl rfl dX11_init_89 ?_
  refine k_aload_n C dX11_init_92 rfl 0 rfl ?_
  refine k_sipush (v := 160) C dX11_init_93 (by decide) ?_
  refine k_newa (ty := .int) (N := 160) (cq := 0) (nc2 := 12) (ns2 := 1152) C (Fr.r ad _ (Fr.s _ (hF.mono (Nat.le_of_ble_eq_true rfl)) rfl) rfl) (by decide) rfl hA_int (arr_name C.2.2.2.2.2.1).1 rfl rfl (by decide) (by decide) (by decide) (Nat.le_of_ble_eq_true rfl) (Nat.le_of_ble_eq_true rfl) rfl rfl dX11_init_96 ?_
  refine k_putF (kc := 98) (t := 110) (ci := 11) (ty := .array .int) (lR2 := [(98, 0, 99), (98, 1, 100), (98, 6, 101), (98, 7, 102), (98, 8, 103), (98, 16, 104), (98, 28, 105), (98, 29, 106), (98, 34, 107), (98, 36, 108), (98, 37, 109), (98, 38, 110)]) C hin (by decide) (by decide) rfl rfl hin_X11 tyX11 tyX11_ok nmX11 38 (by decide) hF_X11_44 rfl rfl rfl (by decide +kernel) rfl rfl (Nat.le_of_ble_eq_true rfl) rfl rfl dX11_init_98 ?_
  refine k_iconst (v := 0) C dX11_init_101 (by decide) ?_
  refine k_istore_n (lv2 := [(0, .ref (ad 98)), (1, .int 0)]) C dX11_init_102 rfl (by decide) [1, 0] rfl ?_
  refine k_iload_n C dX11_init_103 rfl 1 rfl ?_
  refine k_iconst (v := 4) C dX11_init_104 (by decide) ?_
  refine k_icmp_ge_f (tgt := 122) C dX11_init_105 (by decide) (by decide) ?_
  refine k_aload_n C dX11_init_108 rfl 0 rfl ?_
  refine k_get (kc := 98) (ci := 11) (v := .ref (ad 108)) C (by decide) rfl rfl hin_X11 36 (by decide) hF_X11_38 rfl rfl dX11_init_109 ?_
  refine k_iload_n C dX11_init_112 rfl 1 rfl ?_
  refine k_bipush (v := (-4)) C dX11_init_113 (by decide) ?_
  refine k_iast (kc := 108) (N := 4) (lS2 := [(108, 0, (-4))]) C (by decide) (by decide) rfl (by decide) rfl rfl dX11_init_115 ?_
  refine k_iinc (j := 1) (v := 1) (lv2 := [(0, .ref (ad 98)), (1, .int 1)]) C dX11_init_116 rfl (by decide) (by decide) [1, 0] rfl ?_
  refine k_goto (tgt := 103) C dX11_init_119 (by decide) ?_
  refine k_iload_n C dX11_init_103 rfl 1 rfl ?_
  refine k_iconst (v := 4) C dX11_init_104 (by decide) ?_
  refine k_icmp_ge_f (tgt := 122) C dX11_init_105 (by decide) (by decide) ?_
  refine k_aload_n C dX11_init_108 rfl 0 rfl ?_
  refine k_get (kc := 98) (ci := 11) (v := .ref (ad 108)) C (by decide) rfl rfl hin_X11 36 (by decide) hF_X11_38 rfl rfl dX11_init_109 ?_
  refine k_iload_n C dX11_init_112 rfl 1 rfl ?_
  refine k_bipush (v := (-4)) C dX11_init_113 (by decide) ?_
  refine k_iast (kc := 108) (N := 4) (lS2 := [(108, 0, (-4)), (108, 1, (-4))]) C (by decide) (by decide) rfl (by decide) rfl rfl dX11_init_115 ?_
  refine k_iinc (j := 1) (v := 2) (lv2 := [(0, .ref (ad 98)), (1, .int 2)]) C dX11_init_116 rfl (by decide) (by decide) [1, 0] rfl ?_
  refine k_goto (tgt := 103) C dX11_init_119 (by decide) ?_
  refine k_iload_n C dX11_init_103 rfl 1 rfl ?_
  refine k_iconst (v := 4) C dX11_init_104 (by decide) ?_
  refine k_icmp_ge_f (tgt := 122) C dX11_init_105 (by decide) (by decide) ?_
  refine k_aload_n C dX11_init_108 rfl 0 rfl ?_
  refine k_get (kc := 98) (ci := 11) (v := .ref (ad 108)) C (by decide) rfl rfl hin_X11 36 (by decide) hF_X11_38 rfl rfl dX11_init_109 ?_
  refine k_iload_n C dX11_init_112 rfl 1 rfl ?_
  refine k_bipush (v := (-4)) C dX11_init_113 (by decide) ?_
  refine k_iast (kc := 108) (N := 4) (lS2 := [(108, 0, (-4)), (108, 1, (-4)), (108, 2, (-4))]) C (by decide) (by decide) rfl (by decide) rfl rfl dX11_init_115 ?_
  refine k_iinc (j := 1) (v := 3) (lv2 := [(0, .ref (ad 98)), (1, .int 3)]) C dX11_init_116 rfl (by decide) (by decide) [1, 0] rfl ?_
  refine k_goto (tgt := 103) C dX11_init_119 (by decide) ?_
  refine k_iload_n C dX11_init_103 rfl 1 rfl ?_
  refine k_iconst (v := 4) C dX11_init_104 (by decide) ?_
  refine k_icmp_ge_f (tgt := 122) C dX11_init_105 (by decide) (by decide) ?_
  refine k_aload_n C dX11_init_108 rfl 0 rfl ?_
  refine k_get (kc := 98) (ci := 11) (v := .ref (ad 108)) C (by decide) rfl rfl hin_X11 36 (by decide) hF_X11_38 rfl rfl dX11_init_109 ?_
  refine k_iload_n C dX11_init_112 rfl 1 rfl ?_
  refine k_bipush (v := (-4)) C dX11_init_113 (by decide) ?_
  refine k_iast (kc := 108) (N := 4) (lS2 := [(108, 0, (-4)), (108, 1, (-4)), (108, 2, (-4)), (108, 3, (-4))]) C (by decide) (by decide) rfl (by decide) rfl rfl dX11_init_115 ?_
  refine k_iinc (j := 1) (v := 4) (lv2 := [(0, .ref (ad 98)), (1, .int 4)]) C dX11_init_116 rfl (by decide) (by decide) [1, 0] rfl ?_
  refine k_goto (tgt := 103) C dX11_init_119 (by decide) ?_
  refine k_iload_n C dX11_init_103 rfl 1 rfl ?_
  refine k_iconst (v := 4) C dX11_init_104 (by decide) ?_
  refine k_icmp_ge_t (tgt := 122) C dX11_init_105 (by decide) (by decide) ?_
  intro ls H locs hl hP hz2 hS
  have hfull : wG 111 ad cy (sus σ [(108, 0, (-4)), (108, 1, (-4)), (108, 2, (-4)), (108, 3, (-4))]) (rus ad ρ [(98, 0, 99), (98, 1, 100), (98, 6, 101), (98, 7, 102), (98, 8, 103), (98, 16, 104), (98, 28, 105), (98, 29, 106), (98, 34, 107), (98, 36, 108), (98, 37, 109), (98, 38, 110)]) = wW ad cy (sus σ [(108, 0, (-4)), (108, 1, (-4)), (108, 2, (-4)), (108, 3, (-4))]) := wG_full (fun k hk => by
    by_cases h : k < 98
    · rw [rus_lt ad h _ _ rfl]
      exact hρ k h _
    · rcases (show k = 98 ∨ k = 99 ∨ k = 100 ∨ k = 101 ∨ k = 102 ∨ k = 103 ∨ k = 104 ∨ k = 105 ∨ k = 106 ∨ k = 107 ∨ k = 108 ∨ k = 109 ∨ k = 110 by omega) with rfl | rfl | rfl | rfl | rfl | rfl | rfl | rfl | rfl | rfl | rfl | rfl | rfl <;> rfl)
  rw [hfull] at hP
  rw [← AW_AZ hz (n := 99) (by decide)] at hS ⊢
  refine (show Gw p l e rm_X11_init s m _ below meth c _ dC dI ad cy 2 (z + 99) 12 1152 122 [(0, .ref (ad 98)), (1, .int 4)] [] (sus σ [(108, 0, (-4)), (108, 1, (-4)), (108, 2, (-4)), (108, 3, (-4))]) from ?_) ls H locs hl hP hS
  refine g_aload_n CX dX11_init_122 rfl 0 rfl ?_
  refine g_callVv (As := []) (rest := []) CX (a_98 ad cy _) rfl (c_X11_firstDraft l dC dI ad cy) h1 hM_X11_47 cal_X11_firstDraft ⟨(Nat.le_of_ble_eq_true rfl), (Nat.le_of_ble_eq_true rfl)⟩ ⟨rfl, rfl⟩ ⟨(Nat.le_of_ble_eq_true rfl), (Nat.le_of_ble_eq_true rfl)⟩ rfl rfl (Nat.le_of_ble_eq_true rfl) dX11_init_123 ?_
  refine g_aload_n CX dX11_init_126 rfl 0 rfl ?_
  refine g_callVv (As := []) (rest := []) CX (a_98 ad cy _) rfl (c_X11_keepDraft l dC dI ad cy) h2 hM_X11_50 cal_X11_keepDraft ⟨(Nat.le_of_ble_eq_true rfl), (Nat.le_of_ble_eq_true rfl)⟩ ⟨rfl, rfl⟩ ⟨(Nat.le_of_ble_eq_true rfl), (Nat.le_of_ble_eq_true rfl)⟩ rfl rfl (Nat.le_of_ble_eq_true rfl) dX11_init_127 ?_
  exact g_vret CX rfl dX11_init_130
end
section
/-! THE CLAIM OUT OF ONE WALK OF THE LAW'S BODY. Your part is whole_start (and what it stands on); all else here is the same for every law, but numbers. -/
def R_law : String := "ChimeSharesLaw"
def lw_P (b : Addr) (xs : List Int32) (args : Array Value) (s : State) : Prop := args = #[.ref b] ∧ s.IntsAt b xs ∧ xs.length ≤ 2560 ∧ (Jvm.Cond.and given_1 narrow_1).before args s = true
def lw_Q (_ : Array Value) (s : State) (o : Outcome) (t : State) : Prop := o = .returned (some (.int 1)) ∧ Framed s o t [] 600000 7302250
def lw_Z (below : List Frame) (a : Array Value) (s : State) : State → Prop := fun t => ∃ o, t.status = .running ∧ Ended t below o ∧ lw_Q a s o t
/-- the law's own end, with 1 on the stack, nothing written that was there before, its room as the claim has it -/
theorem lw_ret {p : Program} {l : Launch} {e : Env} {s : State} {m : MethodId} {below : List Frame} {meth : Method} {c : Code} {b : Nat} (hx : p.tables.exec = Jvm.exec) (hb : c.code = code) (hr : meth.sig.returnType = ret) (hlocks : meth.locks = false) {pc : Nat} {H : Heap} {ls : Array Slot} (hdg : decode code pc = .ok (.ireturn, 1)) : W p l e room_1 s m #[Value.ref b] below meth c H [] 600000 7302250 (lw_Z below #[Value.ref b] s) (F0 m pc ls [.int 1]) := by
  intro T hT X
  obtain ⟨fs, hret, hrun, hended, hW, hframe⟩ := X.leave (v := some (.int 1)) (hlocks := hlocks) (fun h => by rw [hr] at h; cases h)
  have hmeth' : T.vm.method? m = some meth := X.method'
  refine ⟨T.setFrames fs, ?_, .returned (some (.int 1)), hrun, hended, rfl, ⟨_, rfl⟩, hW, hframe⟩
  jvm_step X.here [X.here.top, hx, hb, hdg, hmeth', hr, ret, narrow_b1]
  (try refine ⟨rfl, ?_⟩); (try refine ⟨rfl, ?_⟩)
  first | (intro acts; rw [hret _ acts rfl rfl rfl]) | rw [hret _ _ rfl rfl rfl]
  exact Steps.refl _
/-- what holds at the law's entry: the machine, the code, the tables' words (any of lw_tbl by 'hts w (by decide +kernel)'), the script of L ints xs at the cell b, what the Statement gives of the start (any of its parts by flat_of_before) -/
def lw_At (p : Program) (s : State) (m : MethodId) (meth : Method) (c : Code) (b L : Nat) (xs : Nat → Int32) : Prop :=
  p.tables.exec = Jvm.exec ∧ c.code = code ∧ meth.sig.returnType = ret ∧ c.maxLocals = 4 ∧ s.vm.findClass R_law = some m.cls ∧ (∀ w ∈ lw_tbl, w.before #[Value.ref b] s = true) ∧ va_X b L xs s s.heap ∧ b < s.heap.size ∧ meth.locks = false ∧ (Jvm.Cond.and given_1 narrow_1).before #[Value.ref b] s = true
end
