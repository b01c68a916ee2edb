theorem zb_ok {x : Int32} (h : x = 0 ∨ x = 1) : narrow .boolean (.int x) = .int x := by rcases h with rfl | rfl <;> rfl
theorem nc_ok {x : Int32} (h : (x.toUInt32 % 65536).toInt32 = x) : narrow .char (.int x) = .int x := by have h1 := pk_nc x; rw [h] at h1; exact h1
section GW3
variable {p : Program} {l : Launch} {e : Env} {R : Room} {s : State} {m : MethodId} {args : Array Value} {below : List Frame} {meth : Method} {c : Code} {Q : State → Prop} {dC : Nat → ClassId} {dI : Nat → Nat → Nat} {ad : Nat → Nat} {cy : Nat → ClassId} {nL sz nc ns : Nat} {own : String} {cc : ByteArray} {ret : Option FieldType} {pc : Nat} {lv : List (Nat × Value)} {rest : List Value} {σ : S0}
theorem g_ldcs (C : Cx p s m args meth c RX5 cc nL ret dC dI ad cy sz) {i index : Nat} (hi : i < 7) (hq : stI i = index) (hdg : decode cc pc = .ok (.ldc index, 2)) (k : Gw p l e R s m args below meth c Q dC dI ad cy nL sz nc ns (pc + 2) lv (.ref (ad (200 + i)) :: rest) σ) : Gw p l e R s m args below meth c Q dC dI ad cy nL sz nc ns pc lv rest σ := by
  subst hq
  exact fun ls H locs hl hP hS => va_ldcS C.1 C.2.1 C.2.2.2.1 (C.2.2.2.2.2.2.2.2.2.2.2.1 i hi) hdg (k ls H locs hl hP hS)
theorem g_sval (C : Cx p s m args meth c own cc nL ret dC dI ad cy sz) {i index : Nat} (hi : i < 7) (hlk : Cond.fieldLink own index "java/lang/String" "value" "[B" ∈ lw_w) (hdg : decode cc pc = .ok (.getfield index, 3)) (k : Gw p l e R s m args below meth c Q dC dI ad cy nL sz nc ns (pc + 3) lv (.ref (ad (300 + i)) :: rest) σ) : Gw p l e R s m args below meth c Q dC dI ad cy nL sz nc ns pc lv (.ref (ad (200 + i)) :: rest) σ := fun ls H locs hl hP hS => vk_getf C.1 C.2.1 (C.2.2.2.2.2.2.2.2.2.2.1.1 i hi).2.2.1 (C.2.2.2.2.2.2.2.2.2.1 ▸ hS) C.2.2.2.1 (C.2.2.2.2.1 _ hlk) (fun _ h => h) hdg (k ls H locs hl hP hS)
theorem g_scod (C : Cx p s m args meth c own cc nL ret dC dI ad cy sz) {i index : Nat} (hi : i < 7) (hlk : Cond.fieldLink own index "java/lang/String" "coder" "B" ∈ lw_w) (hdg : decode cc pc = .ok (.getfield index, 3)) (k : Gw p l e R s m args below meth c Q dC dI ad cy nL sz nc ns (pc + 3) lv (.int 0 :: rest) σ) : Gw p l e R s m args below meth c Q dC dI ad cy nL sz nc ns pc lv (.ref (ad (200 + i)) :: rest) σ := fun ls H locs hl hP hS => vk_getf C.1 C.2.1 (C.2.2.2.2.2.2.2.2.2.2.1.1 i hi).2.1 hS C.2.2.2.1 (C.2.2.2.2.1 _ hlk) (fun _ h => h) hdg (k ls H locs hl hP hS)
theorem g_slen (C : Cx p s m args meth c own cc nL ret dC dI ad cy sz) {i : Nat} (hi : i < 7) (hdg : decode cc pc = .ok (.arraylength, 1)) (k : Gw p l e R s m args below meth c Q dC dI ad cy nL sz nc ns (pc + 1) lv (.int (Int32.ofNat (lenS.getD i 0)) :: rest) σ) : Gw p l e R s m args below meth c Q dC dI ad cy nL sz nc ns pc lv (.ref (ad (300 + i)) :: rest) σ := fun ls H locs hl hP hS => va_tlen C.1 C.2.1 (C.2.2.2.2.2.2.2.2.2.2.1.1 i hi).2.2.2 hS rfl hdg (k ls H locs hl hP hS)
theorem g_sbald (C : Cx p s m args meth c own cc nL ret dC dI ad cy sz) {i : Nat} {x : Int32} (hi : i < 7) (hin : ¬ (x < 0 ∨ lenS.getD i 0 ≤ x.toNatClampNeg)) (hdg : decode cc pc = .ok (.baload, 1)) (k : Gw p l e R s m args below meth c Q dC dI ad cy nL sz nc ns (pc + 1) lv (.int ((bytS.getD i []).getD x.toNatClampNeg 0) :: rest) σ) : Gw p l e R s m args below meth c Q dC dI ad cy nL sz nc ns pc lv (.int x :: .ref (ad (300 + i)) :: rest) σ := fun ls H locs hl hP hS => va_tb C.1 C.2.1 (C.2.2.2.2.2.2.2.2.2.2.1.1 i hi).2.2.2 hS hin rfl hdg (k ls H locs hl hP hS)
theorem g_cmps (C : Cx p s m args meth c own cc nL ret dC dI ad cy sz) {index : Nat} (hlk : Cond.fieldLink own index "java/lang/String" "COMPACT_STRINGS" "Z" ∈ lw_w) (hdg : decode cc pc = .ok (.getstatic index, 3)) (k : Gw p l e R s m args below meth c Q dC dI ad cy nL sz nc ns (pc + 3) lv (.int 1 :: rest) σ) : Gw p l e R s m args below meth c Q dC dI ad cy nL sz nc ns pc lv rest σ := fun ls H locs hl hP hS => va_gets C.1 C.2.1 C.2.2.2.2.2.2.2.2.2.2.2.2.1 hS C.2.2.2.1 (C.2.2.2.2.1 _ hlk) (fun _ h => h) hdg (k ls H locs hl hP hS)
theorem g_fmt (C : Cx p s m args meth c own cc nL ret dC dI ad cy sz) {index : Nat} (hlk : Cond.fieldLink own index "jdk/internal/util/Preconditions" "SIOOBE_FORMATTER" "Ljava/util/function/BiFunction;" ∈ lw_w) (hdg : decode cc pc = .ok (.getstatic index, 3)) (k : ∀ v : Value, (v = .null ∨ ∃ t, v = .ref t) → Gw p l e R s m args below meth c Q dC dI ad cy nL sz nc ns (pc + 3) lv (v :: rest) σ) : Gw p l e R s m args below meth c Q dC dI ad cy nL sz nc ns pc lv rest σ := by
  intro ls H locs hl hP hS
  rcases C.2.2.2.2.2.2.2.2.2.2.2.2.2 with h | ⟨t, h⟩
  · exact va_gets C.1 C.2.1 h hS C.2.2.2.1 (C.2.2.2.2.1 _ hlk) (fun _ h => h) hdg (k _ (Or.inl rfl) ls H locs hl hP hS)
  · exact va_gets C.1 C.2.1 h hS C.2.2.2.1 (C.2.2.2.2.1 _ hlk) (fun _ h => h) hdg (k _ (Or.inr ⟨t, rfl⟩) ls H locs hl hP hS)
theorem g_i2c (C : Cx p s m args meth c own cc nL ret dC dI ad cy sz) {x : Int32} (hdg : decode cc pc = .ok (.i2c, 1)) (k : Gw p l e R s m args below meth c Q dC dI ad cy nL sz nc ns (pc + 1) lv (.int (x.toUInt32 % 65536).toInt32 :: rest) σ) : Gw p l e R s m args below meth c Q dC dI ad cy nL sz nc ns pc lv (.int x :: rest) σ := fun ls H locs hl hP hS => lv_i2c C.1 C.2.1 hdg rfl (k ls H locs hl hP hS)
theorem g_tret {x : Int32} {ty : FieldType} (C : Cx p s m args meth c own cc nL ret dC dI ad cy sz) (hr : ret = some ty) (hn : narrow ty (.int x) = .int x) (hdg : decode cc pc = .ok (.ireturn, 1)) : Gw p l e R s m args below meth c (MQ below (QcI dC dI ad cy sz x σ) args s nc ns (AW ad sz)) dC dI ad cy nL sz nc ns pc lv [.int x] σ := fun ls H locs hl hP hS => W.zret C.1 C.2.1 (C.2.2.2.2.2.2.2.1.trans hr) hn (fun t ht hW => ⟨⟨x, σ, rfl, ⟨rfl, rfl⟩, by show va_P _ _ _ t.heap; rw [ht]; exact hP⟩, hS.F ht⟩) hS.2.2 hdg C.2.2.2.2.2.2.2.2.1
theorem g_callTi (C : Cx p s m args meth c own cc nL ret dC dI ad cy sz) {y : MethodName} {bytes : ByteArray} {maxL n index i : Nat} {rt : Option FieldType} {rm : Room} {As : List Value} {f : S0 → Option (Int32 × S0)} {r1 : Int32} {σ1 : S0} (hi : i < 7) (hM : ConI l y bytes maxL rt rm dC dI ad cy (.ref (ad (200 + i)) :: As) f) (hf : f σ = some (r1, σ1)) (hlk : Cond.methodLink own index y ∈ lw_w) (cal : CalV y RJ0 bytes maxL rt n) (hcs : nc ≤ R.cells ∧ ns ≤ R.slots) (hrm : rm.cells = 0 ∧ rm.slots = 0) (hR : rm.frames + 1 ≤ R.frames ∧ 8 + (maxL + 11) + rm.locals ≤ R.locals) {st : List Value} (hst : st = As.reverse ++ .ref (ad (200 + i)) :: rest) (hn : As.length = n) (hW : (rest.map fun v => v.category).sum ≤ 8) (hdg : decode cc pc = .ok (.invokevirtual index, 3)) (k : Gw p l e R s m args below meth c Q dC dI ad cy nL sz nc ns (pc + 3) lv (.int r1 :: rest) σ1) : Gw p l e R s m args below meth c Q dC dI ad cy nL sz nc ns pc lv st σ := by
  intro ls H locs hl hP hS
  have hA : ∀ q : Nat, q < H.size → AW ad H.size q → AW ad sz q := fun q h1 h2 => h2.elim Or.inl (fun h => absurd h1 (Nat.not_lt.mpr h))
  have hfr : ∀ q : Nat, AW ad H.size q → AW ad sz q := fun q h2 => h2.elim Or.inl (fun h => Or.inr (by have := hS.1; have := C.2.2.2.2.2.2.2.2.2.1; omega))
  refine va_calli (va_runV (As := As) (rest := rest) ⟨C.1, C.2.1, C.2.2.1, C.2.2.2.1, C.2.2.2.2.1⟩ (hM H.size σ r1 σ1 hf) (cwV n C.2.2.2.2.1 (calV_in hlk cal) rfl hrm.1 hrm.2 cal.2.2.2.2 hR) ⟨PreW_blind, vk_recv C.2.2.2.2.2.2.2.2.2.2.1 hi hS, fun U hU hW => ⟨rfl, by rw [hU], by rw [hU]; exact hP, va_K.moved hW.alike C.2.2.2.2.2.1, C.2.2.2.2.2.2.1, by rw [hU]; exact C.2.2.2.2.2.2.2.2.2.2.go hW hS.2.1 hfr⟩⟩ rfl hn hl.1 hst (lv_room hW) hdg hcs) hS hA hfr (fun r2 u t H1 locs1 ht hvm hw hB hz1 hk1 hS1 => ?_)
  obtain ⟨rfl, rfl⟩ := hw
  have hP1 : va_P (dC, dI) vwCl (wW ad cy _) t.heap := hB
  rw [ht] at hP1
  exact k ls H1 locs1 hl hP1 hS1
end GW3
def fJ3_checkIndex_8e157 (σ : S0) (a b : Int32) : Option (Int32 × S0) := if a < 0 then none else if a < b then some (a, σ) else none
abbrev rm_J3_checkIndex_8e157 : Room := { frames := 0, cells := 0, slots := 0, locals := 0 }
theorem c_J3_checkIndex_8e157 (l : Launch) (dC : Nat → ClassId) (dI : Nat → Nat → Nat) (ad : Nat → Nat) (cy : Nat → ClassId) (a b : Int32) (v : Value) (hv : v = .null ∨ ∃ t, v = .ref t) : ConI l yJ3_checkIndex_8e157 cJ3_checkIndex_8e157 3 (some .int) rm_J3_checkIndex_8e157 dC dI ad cy [.int a, .int b, v] (fun σ => fJ3_checkIndex_8e157 σ a b) := by
  refine con_i (own := RJ3) (by decide) rfl (by rcases hv with rfl | ⟨t, rfl⟩ <;> exact Nat.le_of_ble_eq_true rfl) (fun p e s m below meth c sz σ rr ρ C hf => ?_)
  have hf : fJ3_checkIndex_8e157 σ a b = some (rr, ρ) := hf
  unfold fJ3_checkIndex_8e157 at hf
  show Gw p l e _ s m _ below meth c _ dC dI ad cy 3 sz 0 0 0 [(0, .int a), (1, .int b), (2, v)] [] σ
  refine g_iload_n C dJ3_checkIndex_8e157_0 rfl 0 rfl ?_
  rcases oi_e hf with ⟨c1, hf⟩ | ⟨c1, hf⟩
  · cases hf
  · refine g_if_lt_f (tgt := 9) C dJ3_checkIndex_8e157_1 (by decide) c1 ?_
    refine g_iload_n C dJ3_checkIndex_8e157_4 rfl 0 rfl ?_
    refine g_iload_n C dJ3_checkIndex_8e157_5 rfl 1 rfl ?_
    rcases oi_e hf with ⟨c2, hf⟩ | ⟨c2, hf⟩
    · refine g_icmp_lt_t (tgt := 16) C dJ3_checkIndex_8e157_6 (by decide) c2 ?_
      refine g_iload_n C dJ3_checkIndex_8e157_16 rfl 0 rfl ?_
      obtain ⟨rfl, rfl⟩ := os_e hf
      exact g_iret C rfl dJ3_checkIndex_8e157_17
    · cases hf
theorem cal_J3_checkIndex_8e157 : CalS yJ3_checkIndex_8e157 cJ3_checkIndex_8e157 3 (some .int) 3 := ⟨hSt_J3_checkIndex_8e157, hIni_J3, hC_J3_checkIndex_8e157, by decide +kernel⟩
def fJ0_checkIndex_df160 (σ : S0) (a b : Int32) : Option (Int32 × S0) := obp (fJ3_checkIndex_8e157 σ a b) (fun _ σ1 => some (0, σ1))
abbrev rm_J0_checkIndex_df160 : Room := { frames := 1, cells := 0, slots := 0, locals := 22 }
theorem c_J0_checkIndex_df160 (l : Launch) (dC : Nat → ClassId) (dI : Nat → Nat → Nat) (ad : Nat → Nat) (cy : Nat → ClassId) (a b : Int32) : ConV l yJ0_checkIndex_df160 cJ0_checkIndex_df160 2 none rm_J0_checkIndex_df160 dC dI ad cy [.int a, .int b] (fun σ => fJ0_checkIndex_df160 σ a b) := by
  refine con_v (own := RJ0) (by decide) rfl (Nat.le_of_ble_eq_true rfl) (fun p e s m below meth c sz σ rr ρ C hf => ?_)
  have hf : fJ0_checkIndex_df160 σ a b = some (rr, ρ) := hf
  unfold fJ0_checkIndex_df160 at hf
  obtain ⟨r1, σ1, h1, hf⟩ := obp_e hf
  show Gw p l e _ s m _ below meth c _ dC dI ad cy 2 sz 0 0 0 [(0, .int a), (1, .int b)] [] σ
  refine g_iload_n C dJ0_checkIndex_df160_0 rfl 0 rfl ?_
  refine g_iload_n C dJ0_checkIndex_df160_1 rfl 1 rfl ?_
  refine g_fmt C hF_J0_1053 dJ0_checkIndex_df160_2 (fun v hv => ?_)
  refine g_callSi (As := [.int a, .int b, v]) (rest := []) C (c_J3_checkIndex_8e157 l dC dI ad cy a b v hv) h1 hM_J0_1059 cal_J3_checkIndex_8e157 ⟨Nat.zero_le _, Nat.zero_le _⟩ ⟨rfl, rfl⟩ ⟨Nat.le_of_ble_eq_true rfl, Nat.le_of_ble_eq_true rfl⟩ rfl rfl (Nat.le_of_ble_eq_true rfl) dJ0_checkIndex_df160_5 ?_
  refine g_pop C dJ0_checkIndex_df160_8 rfl ?_
  obtain ⟨rfl, rfl⟩ := os_e hf
  exact g_vret C rfl dJ0_checkIndex_df160_9
theorem cal_J0_checkIndex_df160 : CalS yJ0_checkIndex_df160 cJ0_checkIndex_df160 2 none 2 := ⟨hSt_J0_checkIndex_df160, hIni_J0, hC_J0_checkIndex_df160, by decide +kernel⟩
