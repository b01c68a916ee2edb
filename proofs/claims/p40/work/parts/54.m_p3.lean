section
/-! FEUDS: bits written -/
def wb (v : Int32) (m b : Nat) : Nat := if v = 0 then m &&& (63 ^^^ 2 ^ b) else m ||| 2 ^ b
theorem wb_o : ∀ m : Fin 64, ∀ b : Fin 6, nI m.1 ||| ((1 : Int32) <<< (nI b.1 &&& 31)) = nI (m.1 ||| 2 ^ b.1) := by decide
theorem wb_a : ∀ m : Fin 64, ∀ b : Fin 6, nI m.1 &&& (((1 : Int32) <<< (nI b.1 &&& 31)) ^^^ (-1)) = nI (m.1 &&& (63 ^^^ 2 ^ b.1)) := by decide
theorem wb_b : ∀ m : Fin 64, ∀ b : Fin 6, ∀ c : Fin 6, (m.1 ||| 2 ^ b.1).testBit c.1 = (m.1.testBit c.1 || decide (b.1 = c.1)) ∧ (m.1 &&& (63 ^^^ 2 ^ b.1)).testBit c.1 = (m.1.testBit c.1 && !decide (b.1 = c.1)) := by decide
theorem wb_t (v : Int32) {m b c : Nat} (hm : m < 64) (hb : b < 6) (hc : c < 6) : (wb v m b).testBit c = if b = c then decide (v ≠ 0) else m.testBit c := by
  obtain ⟨h1, h2⟩ := wb_b ⟨m, hm⟩ ⟨b, hb⟩ ⟨c, hc⟩
  simp only at h1 h2
  unfold wb
  by_cases hv : v = 0
  · rw [if_pos hv, h2]
    by_cases hbc : b = c
    · simp [hbc, hv]
    · simp [hbc]
  · rw [if_neg hv, h1]
    by_cases hbc : b = c
    · simp [hbc, hv]
    · simp [hbc]
theorem wb_l (v : Int32) {m b H : Nat} (hm : m < 2 ^ H) (hb : b < H) : wb v m b < 2 ^ H := by
  unfold wb
  by_cases hv : v = 0
  · rw [if_pos hv]
    exact Nat.lt_of_le_of_lt Nat.and_le_left hm
  · rw [if_neg hv]
    exact Nat.or_lt_two_pow hm (Nat.pow_lt_pow_right (by omega) hb)
theorem setFoes_s {σ : S0} {k a b : Nat} (v : Int32) {ma mb : Nat} (ha : a < 6) (hb : b < 6) (hab : a ≠ b) (hma : ma < 64) (hmb : mb < 64) (ea : σ (k + 6) a = nI ma) (eb : σ (k + 6) b = nI mb) : fX1_setFoes σ k (nI a) (nI b) v = some (0, su (su σ (k + 6) a (nI (wb v ma b))) (k + 6) b (nI (wb v mb a))) := by
  have hga := ix_ok (j := a) (n := 6) ha (by omega)
  have hca : (nI a).toNatClampNeg = a := nI_clamp (by omega)
  have hga2 : ¬ (nI a < 0 ∨ 6 ≤ a) := fun q => hga (by rw [hca]; exact q)
  have hgb := ix_ok (j := b) (n := 6) hb (by omega)
  have hcb : (nI b).toNatClampNeg = b := nI_clamp (by omega)
  have hgb2 : ¬ (nI b < 0 ∨ 6 ≤ b) := fun q => hgb (by rw [hcb]; exact q)
  unfold fX1_setFoes fX1_setFoes_b34 fX1_setFoes_b69 wb
  simp only [og_t hga, og_t hga2, hca, og_t hgb, og_t hgb2, hcb, ol]
  have o1 := wb_o ⟨ma, hma⟩ ⟨b, hb⟩
  have o2 := wb_o ⟨mb, hmb⟩ ⟨a, ha⟩
  have a1 := wb_a ⟨ma, hma⟩ ⟨b, hb⟩
  have a2 := wb_a ⟨mb, hmb⟩ ⟨a, ha⟩
  simp only at o1 o2 a1 a2
  by_cases hv : v = 0
  · simp only [if_pos hv]
    rw [su_j (fun q => hab q.symm), ea, eb, a1, a2]
  · simp only [if_neg hv]
    rw [su_j (fun q => hab q.symm), ea, eb, o1, o2]
end
section
theorem setsFeud_s {σ : S0} {a b : Nat} (v : Int32) {ma mb : Nat} (ha : a < 6) (hb : b < 6) (hab : a ≠ b) (hma : ma < 64) (hmb : mb < 64) (ea : σ 99 (60 + a) = nI ma) (eb : σ 99 (60 + b) = nI mb) : fX11_setsFeud σ (nI a) (nI b) v = some (0, su (su σ 99 (60 + a) (nI (wb v ma b))) 99 (60 + b) (nI (wb v mb a))) := by
  have xa : (60 : Int32) + nI a = nI (60 + a) := nI_add 60 a
  have xb : (60 : Int32) + nI b = nI (60 + b) := nI_add 60 b
  have hga := ix_ok (j := 60 + a) (n := 240) (by omega) (by omega)
  have hca : (nI (60 + a)).toNatClampNeg = 60 + a := nI_clamp (by omega)
  have hga2 : ¬ (nI (60 + a) < 0 ∨ 240 ≤ 60 + a) := fun q => hga (by rw [hca]; exact q)
  have hgb := ix_ok (j := 60 + b) (n := 240) (by omega) (by omega)
  have hcb : (nI (60 + b)).toNatClampNeg = 60 + b := nI_clamp (by omega)
  have hgb2 : ¬ (nI (60 + b) < 0 ∨ 240 ≤ 60 + b) := fun q => hgb (by rw [hcb]; exact q)
  unfold fX11_setsFeud fX11_setsFeud_b43 fX11_setsFeud_b87 wb
  simp only [xa, xb, og_t hga, og_t hga2, hca, og_t hgb, og_t hgb2, hcb, ol]
  have o1 := wb_o ⟨ma, hma⟩ ⟨b, hb⟩
  have o2 := wb_o ⟨mb, hmb⟩ ⟨a, ha⟩
  have a1 := wb_a ⟨ma, hma⟩ ⟨b, hb⟩
  have a2 := wb_a ⟨mb, hmb⟩ ⟨a, ha⟩
  simp only at o1 o2 a1 a2
  by_cases hv : v = 0
  · simp only [if_pos hv]
    rw [su_j (by omega), ea, eb, a1, a2]
  · simp only [if_neg hv]
    rw [su_j (by omega), ea, eb, o1, o2]
/-- the feuds alone have changed -/
theorem R_feud {σ τ : S0} {H G B T : Nat} (h : Rall σ H G B T) (fo : Nat → Nat) (f1 : ∀ x, x < 6 → fo x < 2 ^ H ∧ τ 99 (60 + x) = nI (fo x) ∧ τ 38 x = nI (fo x)) (f2 : ∀ a b, a < 6 → b < 6 → (fo a).testBit b = (fo b).testBit a) (f3 : ∀ a, a < 6 → (fo a).testBit a = false) (f4 : ∀ a, H ≤ a → a < 6 → fo a = 0) (ta : ∀ x, x ≠ 38 → x ≠ 99 → τ x = σ x) (tb : ∀ i, i < 60 ∨ 66 ≤ i → τ 99 i = σ 99 i) : Rall τ H G B T := by
  obtain ⟨hn, hk, hm, ht, hi, hp, hs, hf, hq⟩ := h
  have hB := hn.1.2.2.2.1
  have hT := hn.1.2.2.2.2
  obtain ⟨k1, k2, k3, k4, k5⟩ := hk
  obtain ⟨⟨n, n1, n2, n3⟩, m2, -⟩ := hm
  refine ⟨hn.c (by rw [ta 98 (by omega) (by omega)]) (by rw [ta 98 (by omega) (by omega)]) (by rw [ta 98 (by omega) (by omega)]) (by rw [ta 98 (by omega) (by omega)]) (ta 22 (by omega) (by omega)), ?_, ?_, ht.c (ta _ (by omega) (by omega)) (ta _ (by omega) (by omega)) (ta _ (by omega) (by omega)) (fun t h => ta _ (by omega) (by omega)), hi.c (ta _ (by omega) (by omega)) (ta _ (by omega) (by omega)) (fun x h1 h2 => ta _ (by omega) (by omega)) (fun i h1 h2 => tb i (by omega)) hB, hp.c (by rw [ta 1 (by omega) (by omega)]) (by rw [ta 98 (by omega) (by omega)]) (ta _ (by omega) (by omega)) (ta _ (by omega) (by omega)), hs.c (ta _ (by omega) (by omega)) (ta _ (by omega) (by omega)) (ta _ (by omega) (by omega)) (fun x h1 h2 => ta _ (by omega) (by omega)), by rw [ta 3 (by omega) (by omega), ta 98 (by omega) (by omega)]; exact hf, by rw [ta 0 (by omega) (by omega), ta 98 (by omega) (by omega)]; exact hq⟩
  · refine ⟨by rw [ta 32 (by omega) (by omega)]; exact k1, fun b hb => ?_, fun x hx => ?_, ?_, fun i hi2 hl => ?_⟩
    · obtain ⟨a1, a2, a3, a4, a5⟩ := k2 b hb
      refine ⟨?_, ?_, ?_, ?_, ?_⟩ <;> rw [ta _ (by omega) (by omega), tb _ (by omega)] <;> assumption
    · rw [show 0 + 60 + x = 60 + x by omega, (f1 x hx).2.1]; exact (f1 x hx).2.2
    · rw [ta _ (by omega) (by omega), tb _ (by omega)]; exact k4
    · rw [tb _ (by omega)] at hl
      rw [ta _ (by omega) (by omega), tb _ (by omega)]; exact k5 i hi2 hl
  · refine ⟨⟨n, n1, by rw [tb _ (by omega)]; exact n2, fun j hj => ?_⟩, fun b hb => ?_, fo, fun x hx => ⟨(f1 x hx).1, by rw [show 0 + 60 + x = 60 + x by omega]; exact (f1 x hx).2.1⟩, f2, f3, f4⟩
    · rw [tb _ (by omega)]; exact n3 j hj
    · have := m2 b hb
      rw [tb _ (by omega), tb _ (by omega), tb _ (by omega), tb _ (by omega), tb _ (by omega)]
      exact this
/-- one pair of feuds written on both sides -/
theorem R_pair {σ : S0} {H G B T a b : Nat} (v : Int32) (h : Rall σ H G B T) (ha : a < H) (hb : b < H) (hab : a ≠ b) : ∃ τ ρ, fX1_setFoes σ 32 (nI a) (nI b) v = some (0, τ) ∧ fX11_setsFeud τ (nI a) (nI b) v = some (0, ρ) ∧ Rall ρ H G B T ∧ (∀ x, x ≠ 38 → τ x = σ x) ∧ (∀ x, x ≠ 99 → ρ x = τ x) := by
  obtain ⟨b1, b2, b3, b4, b5⟩ := h.1.1
  obtain ⟨m1, m2, fo, f1, f2, f3, f4⟩ := id h.2.2.1
  have k3 := h.2.1.2.2.1
  simp only [Nat.zero_add] at f1 k3
  have h64 : 2 ^ H ≤ 64 := Nat.pow_le_pow_right (n := 2) (by omega) b2
  have la := (f1 a (by omega)).1
  have lb := (f1 b (by omega)).1
  have ea : σ 99 (60 + a) = nI (fo a) := (f1 a (by omega)).2
  have eb : σ 99 (60 + b) = nI (fo b) := (f1 b (by omega)).2
  refine ⟨_, _, setFoes_s v (by omega) (by omega) hab (by omega) (by omega) ((k3 a (by omega)).trans ea) ((k3 b (by omega)).trans eb), setsFeud_s v (by omega) (by omega) hab (ma := fo a) (mb := fo b) (by omega) (by omega) (by rw [su_ne (by omega), su_ne (by omega)]; exact ea) (by rw [su_ne (by omega), su_ne (by omega)]; exact eb), ?_, fun x hx => by rw [su_ne hx, su_ne hx], fun x hx => by rw [su_ne hx, su_ne hx]⟩
  refine R_feud h (fun x => if x = b then wb v (fo b) a else if x = a then wb v (fo a) b else fo x) (fun x hx => ?_) (fun x y hx hy => ?_) (fun x hx => ?_) (fun x hx hx6 => ?_) (fun x h1 h2 => by rw [su_ne h2, su_ne h2, su_ne h1, su_ne h1]) (fun i hi => by rw [su_j (by omega), su_j (by omega), su_ne (by omega), su_ne (by omega)])
  · by_cases c1 : x = b
    · subst c1
      simp only [if_true]
      exact ⟨wb_l v lb ha, by rw [su_s], by rw [su_ne (by omega), su_ne (by omega), su_s]⟩
    · by_cases c2 : x = a
      · subst c2
        simp only [if_neg c1, if_true]
        exact ⟨wb_l v la hb, by rw [su_j (by omega), su_s], by rw [su_ne (by omega), su_ne (by omega), su_j (by omega), su_s]⟩
      · simp only [if_neg c1, if_neg c2]
        refine ⟨(f1 x hx).1, by rw [su_j (by omega), su_j (by omega), su_ne (by omega), su_ne (by omega)]; exact (f1 x hx).2, ?_⟩
        rw [su_ne (by omega), su_ne (by omega), su_j c1, su_j c2]
        exact (k3 x hx).trans (f1 x hx).2
  · have key : ∀ x y, x < 6 → y < 6 → (if x = b then wb v (fo b) a else if x = a then wb v (fo a) b else fo x).testBit y = if (x = b ∧ y = a) ∨ (x = a ∧ y = b) then decide (v ≠ 0) else (fo x).testBit y := fun x y hx hy => by
      by_cases c1 : x = b
      · subst c1
        rw [if_pos rfl, wb_t v (by omega) (by omega) hy]
        by_cases c3 : a = y
        · rw [if_pos c3, if_pos (by omega)]
        · rw [if_neg c3, if_neg (by omega)]
      · rw [if_neg c1]
        by_cases c2 : x = a
        · subst c2
          rw [if_pos rfl, wb_t v (by omega) (by omega) hy]
          by_cases c3 : b = y
          · rw [if_pos c3, if_pos (by omega)]
          · rw [if_neg c3, if_neg (by omega)]
        · rw [if_neg c2, if_neg (by omega)]
    show (if x = b then wb v (fo b) a else if x = a then wb v (fo a) b else fo x).testBit y = (if y = b then wb v (fo b) a else if y = a then wb v (fo a) b else fo y).testBit x
    rw [key x y hx hy, key y x hy hx]
    by_cases c : (x = b ∧ y = a) ∨ (x = a ∧ y = b)
    · rw [if_pos c, if_pos (by omega)]
    · rw [if_neg c, if_neg (by omega)]; exact f2 x y hx hy
  · by_cases c1 : x = b
    · subst c1
      simp only [if_true]
      rw [wb_t v (by omega) (by omega) hx, if_neg hab]; exact f3 x hx
    · by_cases c2 : x = a
      · subst c2
        simp only [if_neg c1, if_true]
        rw [wb_t v (by omega) (by omega) hx, if_neg (fun q => hab q.symm)]; exact f3 x hx
      · simp only [if_neg c1, if_neg c2]; exact f3 x hx
  · simp only [if_neg (show ¬ x = b by omega), if_neg (show ¬ x = a by omega)]
    exact f4 x hx hx6
end
section
theorem sim_feud (x y v : Int32) : Sim (fun σ => fX10_feud σ x y v) (fun σ => fX11_feud σ x y v) := by
  intro σ hR
  show An (fX10_feud σ x y v) (fun r τ => An (fX11_feud τ x y v) (fun q ρ => r = q ∧ R ρ))
  obtain ⟨H, G, B, T, h⟩ := id hR
  obtain ⟨⟨b1, b2, b3, b4, b5⟩, ⟨e1, e2, e5, e6⟩, e3, e4, e7⟩ := h.1
  have hone : ¬ (1 : Int32) = 0 := by decide
  rcases ixc x H (by omega) with ⟨a, ha, rfl⟩ | hx
  · rcases ixc y H (by omega) with ⟨b, hb, rfl⟩ | hy
    · by_cases hab : a = b
      · refine Sim.same (fun τ => fX11_feud τ (nI a) (nI b) v) (a := -1) hR ?_ ?_
        · unfold fX10_feud
          rw [hh_y e3 (by omega) ha]
          simp only [obp]
          rw [if_neg hone, hh_y e3 (by omega) hb]
          simp only [obp]
          rw [if_neg hone, if_neg (by simp [hab])]
        · show fX11_feud _ _ _ _ = _
          unfold fX11_feud
          rw [ih_y e1 (by omega) ha]
          simp only [obp]
          rw [if_neg hone, ih_y e1 (by omega) hb]
          simp only [obp]
          rw [if_neg hone, if_neg (by simp [hab])]
      · obtain ⟨τ, ρ, p1, p2, p3, p4, p5⟩ := R_pair v h ha hb hab
        have hne : ¬ nI a = nI b := nI_ne hab (by omega) (by omega)
        have k3 := h.2.1.2.2.1 a (by omega)
        rw [show 0 + 60 + a = 60 + a by omega] at k3
        have hbit := bit_g (i := b) (by omega) (σ 99 (60 + a))
        have hfo : fX1_areFoes σ 32 (nI a) (nI b) = some (if (σ 99 (60 + a) >>> (nI b &&& 31)) &&& 1 = 1 then 1 else 0, σ) := by
          unfold fX1_areFoes
          rw [og_t (ix_ok (by omega) (by omega)), nI_clamp (by omega)]
          simp only [ol, Nat.reduceAdd]
          rw [k3]
          by_cases c : (σ 99 (60 + a) >>> (nI b &&& 31)) &&& 1 = 1
          · rw [if_neg (fun q => hbit.mp q c), if_pos c]
          · rw [if_pos (hbit.mpr c), if_neg c]
        refine ⟨if (σ 99 (60 + a) >>> (nI b &&& 31)) &&& 1 = 1 then 1 else 0, τ, ?_, if (σ 99 (60 + a) >>> (nI b &&& 31)) &&& 1 = 1 then 1 else 0, ρ, ?_, rfl, H, G, B, T, p3⟩
        · unfold fX10_feud fX10_feud_b46
          rw [hh_y e3 (by omega) ha]
          simp only [obp]
          rw [if_neg hone, hh_y e3 (by omega) hb]
          simp only [obp]
          rw [if_neg hone, if_pos hne, hfo]
          simp only [p1]
          by_cases c : (σ 99 (60 + a) >>> (nI b &&& 31)) &&& 1 = 1
          · simp [c]
          · simp [c]
        · unfold fX11_feud fX11_flag
          rw [ih_y (by rw [p4 98 (by omega)]; exact e1) (by omega) ha]
          simp only [obp]
          rw [if_neg hone, ih_y (by rw [p4 98 (by omega)]; exact e1) (by omega) hb]
          simp only [obp]
          rw [if_neg hone, if_pos hne, isFeud_s τ (by omega), p4 99 (by omega)]
          simp only
          by_cases c : (σ 99 (60 + a) >>> (nI b &&& 31)) &&& 1 = 1
          · simp [c, p2]
          · simp [c, p2]
    · refine Sim.same (fun τ => fX11_feud τ (nI a) y v) (a := -1) hR ?_ ?_
      · unfold fX10_feud
        rw [hh_y e3 (by omega) ha]
        simp only [obp]
        rw [if_neg hone, hh_n e3 (by omega) hy]
        rfl
      · show fX11_feud _ _ _ _ = _
        unfold fX11_feud
        rw [ih_y e1 (by omega) ha]
        simp only [obp]
        rw [if_neg hone, ih_n e1 (by omega) hy]
        rfl
  · refine Sim.same (fun τ => fX11_feud τ x y v) (a := -1) hR ?_ ?_
    · unfold fX10_feud; rw [hh_n e3 (by omega) hx]; rfl
    · show fX11_feud _ _ _ _ = _
      unfold fX11_feud; rw [ih_n e1 (by omega) hx]; rfl
end
section
def ca (i : Nat) : Int32 := 7 - nI i
def ra (i : Nat) : Int32 := 56 - 8 * nI i
theorem ca_t : ∀ i : Fin 8, ¬ ca i.1 < 0 ∧ ¬ ra i.1 < 0 ∧ ca i.1 + (-1) = ca (i.1 + 1) ∧ ra i.1 + (-8) = ra (i.1 + 1) ∧ 8 * ca i.1 = ra i.1 := by decide
theorem ca_8 : ca 8 < 0 ∧ ra 8 < 0 := by decide
/-- byte i of a long, from the left -/
def by8 (z : Int64) (i : Nat) : Int64 := z >>> ((ra i).toInt64 &&& 63)
def rb (z : Int64) (i : Nat) : Int32 := (by8 z i &&& 255).toInt32
def cb (z : Int64) (i : Nat) : Int32 := (by8 z i).toInt32.toInt8.toInt32
theorem rb_x (z : Int64) (i : Nat) : ∃ x, x < 256 ∧ rb z i = nI x := by
  refine ⟨(by8 z i &&& 255).toBitVec.toNat, ?_, ?_⟩
  · rw [Int64.toBitVec_and, BitVec.toNat_and]
    have : (255 : Int64).toBitVec.toNat = 255 := by decide
    rw [this]
    exact Nat.lt_of_le_of_lt Nat.and_le_right (by omega)
  · unfold rb nI
    apply Int32.toBitVec_inj.mp
    apply BitVec.eq_of_toNat_eq
    rw [Int64.toBitVec_toInt32, BitVec.signExtend_eq_setWidth_of_le _ (by omega), BitVec.toNat_setWidth]
    show _ = (BitVec.ofNat 32 _).toNat
    rw [BitVec.toNat_ofNat]
theorem rb_c (z : Int64) (i : Nat) : (rb z i).toInt8.toInt32 = cb z i := by
  unfold rb cb
  rw [Int64.toInt8_toInt32, Int64.toInt8_toInt32, Int64.toInt8_and, show (255 : Int64).toInt8 = -1 from by decide, Int8.and_neg_one]
theorem nar_c (z : Int64) (i : Nat) : vp_nar .byte (cb z i) = cb z i := by
  unfold cb
  show Int8.toInt32 _ = _
  rw [Int8.toInt8_toInt32]
theorem app_l (z : Int64) : ∀ (d i m n : Nat) (σ : S0), 8 - i = d → i ≤ 8 → d < m → n + d ≤ 320 → σ 1 1 = nI n → ∃ τ, fX8_append_h3 m σ z (ca i) = some (0, τ) ∧ τ 1 1 = nI (n + d) ∧ (∀ x, x ≠ 1 → x ≠ 2 → τ x = σ x) ∧ (∀ j, j < n → τ 2 j = σ 2 j) ∧ ∀ j, j < d → τ 2 (n + j) = cb z (i + j) := by
  intro d
  induction d with
  | zero =>
    intro i m n σ h1 h2 h3 h4 e
    obtain ⟨m, rfl⟩ : ∃ q, m = q + 1 := ⟨m - 1, by omega⟩
    have : i = 8 := by omega
    subst this
    refine ⟨σ, ?_, e, fun _ _ _ => rfl, fun _ _ => rfl, fun j hj => absurd hj (by omega)⟩
    show fX8_append_b3 _ _ _ _ = _
    unfold fX8_append_b3
    rw [if_pos ca_8.1]
  | succ d ih =>
    intro i m n σ h1 h2 h3 h4 e
    obtain ⟨m, rfl⟩ : ∃ q, m = q + 1 := ⟨m - 1, by omega⟩
    obtain ⟨c1, c2, c3, c4, c5⟩ := ca_t ⟨i, by omega⟩
    simp only at c1 c2 c3 c4 c5
    obtain ⟨τ, q1, q2, q3, q4, q5⟩ := ih (i + 1) m (n + 1) (su (su σ 2 n (cb z i)) 1 1 (nI (n + 1))) (by omega) (by omega) (by omega) (by omega) su_s
    refine ⟨τ, ?_, by rw [q2]; congr 1; omega, fun x x1 x2 => by rw [q3 x x1 x2, su_ne x1, su_ne x2], fun j hj => by rw [q4 j (by omega), su_ne (by omega), su_j (by omega)], fun j hj => ?_⟩
    · show fX8_append_b3 _ _ _ _ = _
      unfold fX8_append_b3
      rw [if_neg c1, e, if_neg (show ¬ ((320 : Int32) ≤ nI n) from nI_ge (b := 320) (by omega) (by omega)), c5]
      simp only [ol]
      rw [og_t (ix_ok (by omega) (by omega)), nI_clamp (by omega), c3]
      have ez : vp_nar .byte (((z >>> ((ra i).toInt64 &&& 63)).toInt32).toInt8.toInt32) = cb z i := nar_c z i
      rw [ez, su_ne (by omega), e, nI_1]
      exact q1
    · by_cases hj0 : j = 0
      · subst hj0
        rw [Nat.add_zero, Nat.add_zero, q4 n (by omega), su_ne (by omega), su_s]
      · have := q5 (j - 1) (by omega)
        rw [show n + 1 + (j - 1) = n + j by omega, show i + 1 + (j - 1) = i + j by omega] at this
        exact this
theorem feedM_l (z : Int64) : ∀ (d i m n : Nat) (σ : S0), 8 - i = d → i ≤ 8 → d < m → n + d ≤ 320 → σ 98 17 = nI n → ∃ τ, fX11_feed_h19 m σ z (ra i) = some (nI (n + d), τ) ∧ τ 98 17 = nI (n + d) ∧ (∀ x, x ≠ 98 → x ≠ 104 → τ x = σ x) ∧ (∀ j, j ≠ 17 → τ 98 j = σ 98 j) ∧ (∀ j, j < n → τ 104 j = σ 104 j) ∧ ∀ j, j < d → τ 104 (n + j) = rb z (i + j) := by
  intro d
  induction d with
  | zero =>
    intro i m n σ h1 h2 h3 h4 e
    obtain ⟨m, rfl⟩ : ∃ q, m = q + 1 := ⟨m - 1, by omega⟩
    have : i = 8 := by omega
    subst this
    refine ⟨σ, ?_, e, fun _ _ _ => rfl, fun _ _ => rfl, fun _ _ => rfl, fun j hj => absurd hj (by omega)⟩
    show fX11_feed_b19 _ _ _ _ = _
    unfold fX11_feed_b19
    rw [if_pos ca_8.2, e]
    rfl
  | succ d ih =>
    intro i m n σ h1 h2 h3 h4 e
    obtain ⟨m, rfl⟩ : ∃ q, m = q + 1 := ⟨m - 1, by omega⟩
    obtain ⟨c1, c2, c3, c4, c5⟩ := ca_t ⟨i, by omega⟩
    simp only at c1 c2 c3 c4 c5
    obtain ⟨τ, q1, q2, q3, q6, q4, q5⟩ := ih (i + 1) m (n + 1) (su (su σ 104 n (rb z i)) 98 17 (nI (n + 1))) (by omega) (by omega) (by omega) (by omega) su_s
    have en : n + 1 + d = n + (d + 1) := by omega
    rw [en] at q1 q2
    refine ⟨τ, ?_, q2, fun x x1 x2 => by rw [q3 x x1 x2, su_ne x1, su_ne x2], fun j hj => by rw [q6 j hj, su_j hj, su_ne (by omega)], fun j hj => by rw [q4 j (by omega), su_ne (by omega), su_j (by omega)], fun j hj => ?_⟩
    · show fX11_feed_b19 _ _ _ _ = _
      unfold fX11_feed_b19
      rw [if_neg c2]
      simp only [ol]
      rw [e, og_t (ix_ok (by omega) (by omega)), nI_clamp (by omega), c4]
      have ez : ((z >>> ((ra i).toInt64 &&& 63)) &&& 255).toInt32 = rb z i := rfl
      rw [ez, su_ne (by omega), e, nI_1]
      exact q1
    · by_cases hj0 : j = 0
      · subst hj0
        rw [Nat.add_zero, Nat.add_zero, q4 n (by omega), su_ne (by omega), su_s]
      · have := q5 (j - 1) (by omega)
        rw [show n + 1 + (j - 1) = n + j by omega, show i + 1 + (j - 1) = i + j by omega] at this
        exact this
theorem sim_feed (z : Int64) : Sim (fun σ => fX10_feed σ z) (fun σ => fX11_feed σ z) := by
  intro σ hR
  show An (fX10_feed σ z) (fun r τ => An (fX11_feed τ z) (fun q ρ => r = q ∧ R ρ))
  obtain ⟨H, G, B, T, h⟩ := id hR
  obtain ⟨n, n1, p1, p2, p3⟩ := h.2.2.2.2.2.1
  have e8 : nI n + 8 = nI (n + 8) := nI_add n 8
  by_cases c : n + 8 ≤ 320
  · have hle : nI (n + 8) ≤ 320 := nI_le (b := 320) c (by omega)
    obtain ⟨τ, q1, q2, q3, q4, q5⟩ := app_l z 8 0 400 n σ rfl (by omega) (by omega) c p1
    obtain ⟨ρ, r1, r2, r3, r6, r4, r5⟩ := feedM_l z 8 0 400 n τ rfl (by omega) (by omega) c (by rw [q3 98 (by omega) (by omega)]; exact p2)
    refine ⟨nI (n + 8), τ, ?_, nI (n + 8), ρ, ?_, rfl, H, G, B, T, R_tp h ⟨n + 8, c, by rw [r3 1 (by omega) (by omega)]; exact q2, r2, fun j hj => ?_⟩ (fun x x1 x2 x3 x4 => by rw [r3 x x3 x4, q3 x x1 x2]) (fun i hi => by rw [r6 i hi, q3 98 (by omega) (by omega)])⟩
    · unfold fX10_feed fX8_append
      rw [p1, e8, if_pos hle, show (7 : Int32) = ca 0 from by decide, q1]
      simp only [obp]
      rw [q2]
    · unfold fX11_feed
      rw [q3 98 (by omega) (by omega), p2, e8, if_pos hle, show (56 : Int32) = ra 0 from by decide, r1]
    · rw [r3 2 (by omega) (by omega)]
      by_cases hj2 : j < n
      · rw [r4 j hj2, q4 j hj2, q3 104 (by omega) (by omega)]
        exact p3 j hj2
      · obtain ⟨x, hx, hx2⟩ := rb_x z (j - n)
        have a1 := q5 (j - n) (by omega)
        have a2 := r5 (j - n) (by omega)
        rw [show n + (j - n) = j by omega, Nat.zero_add] at a1 a2
        exact ⟨x, hx, a2.trans hx2, by rw [a1, ← hx2, rb_c]⟩
  · have hle : ¬ nI (n + 8) ≤ 320 := nI_ge (a := 320) (by omega) (by omega)
    refine Sim.same (fun τ => fX11_feed τ z) (a := -3) hR ?_ ?_
    · unfold fX10_feed; rw [p1, e8, if_neg hle]
    · show fX11_feed _ _ = _
      unfold fX11_feed; rw [p2, e8, if_neg hle]
end
section
/-! FRAMES: the class's functions do not see the reference's cells, nor the reference's the class's -/
def mix (σ ρ : S0) : S0 := fun k => if k < 98 then σ k else ρ k
def mo (ρ : S0) (o : Option (Int32 × S0)) : Option (Int32 × S0) := match o with
  | none => none
  | some q => some (q.1, mix q.2 ρ)
def mp (σ : S0) (o : Option (Int32 × S0)) : Option (Int32 × S0) := match o with
  | none => none
  | some q => some (q.1, mix σ q.2)
theorem mix_lo {σ ρ : S0} {k : Nat} (h : k < 98) : mix σ ρ k = σ k := if_pos h
theorem mix_hi {σ ρ : S0} {k : Nat} (h : 98 ≤ k) : mix σ ρ k = ρ k := if_neg (by omega)
theorem up_lo {σ ρ : S0} {k : Nat} {f : Nat → Int32} (h : k < 98) : va_up (mix σ ρ) k f = mix (va_up σ k f) ρ := by
  funext x y
  unfold va_up mix
  by_cases hx : x = k
  · subst hx; simp [h]
  · simp [hx]
theorem up_hi {σ ρ : S0} {k : Nat} {f : Nat → Int32} (h : 98 ≤ k) : va_up (mix σ ρ) k f = mix σ (va_up ρ k f) := by
  funext x y
  unfold va_up mix
  by_cases hx : x = k
  · subst hx; simp [Nat.not_lt.mpr h]
  · simp [hx]
theorem su_lo {σ ρ : S0} {k j : Nat} {v : Int32} (h : k < 98) : su (mix σ ρ) k j v = mix (su σ k j v) ρ := by
  unfold su
  rw [mix_lo h, up_lo h]
theorem su_hi {σ ρ : S0} {k j : Nat} {v : Int32} (h : 98 ≤ k) : su (mix σ ρ) k j v = mix σ (su ρ k j v) := by
  unfold su
  rw [mix_hi h, up_hi h]
theorem obp_mo {ρ : S0} {o : Option (Int32 × S0)} {k : Int32 → S0 → Option (Int32 × S0)} : obp (mo ρ o) k = obp o (fun r τ => k r (mix τ ρ)) := by
  cases o <;> rfl
theorem obp_mp {ρ : S0} {o : Option (Int32 × S0)} {k : Int32 → S0 → Option (Int32 × S0)} : obp (mp ρ o) k = obp o (fun r τ => k r (mix ρ τ)) := by
  cases o <;> rfl
theorem mo_obp {ρ : S0} {o : Option (Int32 × S0)} {k : Int32 → S0 → Option (Int32 × S0)} : mo ρ (obp o k) = obp o (fun r τ => mo ρ (k r τ)) := by
  cases o <;> rfl
theorem mp_obp {ρ : S0} {o : Option (Int32 × S0)} {k : Int32 → S0 → Option (Int32 × S0)} : mp ρ (obp o k) = obp o (fun r τ => mp ρ (k r τ)) := by
  cases o <;> rfl
theorem mo_og {ρ : S0} {c : Prop} [Decidable c] {k : Option (Int32 × S0)} : mo ρ (og c k) = og c (mo ρ k) := by
  unfold og
  by_cases h : c
  · rw [if_pos h, if_pos h]
  · rw [if_neg h, if_neg h]; rfl
theorem mp_og {ρ : S0} {c : Prop} [Decidable c] {k : Option (Int32 × S0)} : mp ρ (og c k) = og c (mp ρ k) := by
  unfold og
  by_cases h : c
  · rw [if_pos h, if_pos h]
  · rw [if_neg h, if_neg h]; rfl
theorem mo_ite {ρ : S0} {c : Prop} [Decidable c] {a b : Option (Int32 × S0)} : mo ρ (if c then a else b) = if c then mo ρ a else mo ρ b := by
  by_cases h : c
  · rw [if_pos h, if_pos h]
  · rw [if_neg h, if_neg h]
theorem mp_ite {ρ : S0} {c : Prop} [Decidable c] {a b : Option (Int32 × S0)} : mp ρ (if c then a else b) = if c then mp ρ a else mp ρ b := by
  by_cases h : c
  · rw [if_pos h, if_pos h]
  · rw [if_neg h, if_neg h]
theorem mo_some {ρ : S0} {r : Int32} {τ : S0} : mo ρ (some (r, τ)) = some (r, mix τ ρ) := by
  have h := Eq.refl 0
  cases h
  rfl
theorem mp_some {ρ : S0} {r : Int32} {τ : S0} : mp ρ (some (r, τ)) = some (r, mix ρ τ) := by
  have h := Eq.refl 0
  cases h
  rfl
theorem mo_none {ρ : S0} : mo ρ none = none := by
  have h := Eq.refl 0
  cases h
  rfl
theorem mp_none {ρ : S0} : mp ρ none = none := by
  have h := Eq.refl 0
  cases h
  rfl
theorem og_congr {α : Type} {c c' : Prop} [Decidable c] [Decidable c'] {k k' : Option α} (h1 : c = c') (h2 : c' → k = k') : og c k = og c' k' := by
  subst h1
  unfold og
  by_cases h : c
  · rw [if_pos h, if_pos h, h2 h]
  · rw [if_neg h, if_neg h]
theorem og_g {c : Prop} [Decidable c] {k : Option (Int32 × S0)} (h : c) : og (¬ c) k = none := if_neg (fun q => q h)
theorem ol_n {a : Nat} {k : Nat → Option (Int32 × S0)} : ol a k = k a := by
  have h := Eq.refl 0
  cases h
  rfl
theorem ol_i {a : Int32} {k : Int32 → Option (Int32 × S0)} : ol a k = k a := by
  have h := Eq.refl 0
  cases h
  rfl
theorem ol_m {σ ρ : S0} {k : S0 → Option (Int32 × S0)} : ol (mix σ ρ) k = ol σ (fun s => k (mix s ρ)) := by
  have h := Eq.refl 0
  cases h
  rfl
theorem ol_p {σ ρ : S0} {k : S0 → Option (Int32 × S0)} : ol (mix σ ρ) k = ol ρ (fun s => k (mix σ s)) := by
  have h := Eq.refl 0
  cases h
  rfl
theorem ol_su {σ ρ : S0} {k j : Nat} {v : Int32} {K : S0 → Option (Int32 × S0)} (h : k < 98) : ol (su (mix σ ρ) k j v) K = ol (su σ k j v) (fun s => K (mix s ρ)) := by
  rw [su_lo h]; rfl
theorem ol_up {σ ρ : S0} {k : Nat} {f : Nat → Int32} {K : S0 → Option (Int32 × S0)} (h : k < 98) : ol (va_up (mix σ ρ) k f) K = ol (va_up σ k f) (fun s => K (mix s ρ)) := by
  rw [up_lo h]; rfl
theorem oh_su {σ ρ : S0} {k j : Nat} {v : Int32} {K : S0 → Option (Int32 × S0)} (h : 98 ≤ k) : ol (su (mix σ ρ) k j v) K = ol (su ρ k j v) (fun s => K (mix σ s)) := by
  rw [su_hi h]; rfl
theorem oh_up {σ ρ : S0} {k : Nat} {f : Nat → Int32} {K : S0 → Option (Int32 × S0)} (h : 98 ≤ k) : ol (va_up (mix σ ρ) k f) K = ol (va_up ρ k f) (fun s => K (mix σ s)) := by
  rw [up_hi h]; rfl
theorem mo_ol {β : Type} {ρ : S0} {a : β} {k : β → Option (Int32 × S0)} : mo ρ (ol a k) = ol a (fun x => mo ρ (k x)) := by
  have h := Eq.refl 0
  cases h
  rfl
theorem mp_ol {β : Type} {ρ : S0} {a : β} {k : β → Option (Int32 × S0)} : mp ρ (ol a k) = ol a (fun x => mp ρ (k x)) := by
  have h := Eq.refl 0
  cases h
  rfl
theorem cl_0 : ((0 : Int32)).toNatClampNeg = 0 := by decide
theorem cl_1 : ((1 : Int32)).toNatClampNeg = 1 := by decide
theorem mo_inv {ρ τ : S0} {a : Int32} {o : Option (Int32 × S0)} (h : mo ρ o = some (a, τ)) : ∃ τ', o = some (a, τ') ∧ τ = mix τ' ρ := by
  cases o with
  | none => cases h
  | some q => exact ⟨q.2, by cases h; rfl, by cases h; rfl⟩
theorem mp_inv {ρ τ : S0} {a : Int32} {o : Option (Int32 × S0)} (h : mp ρ o = some (a, τ)) : ∃ τ', o = some (a, τ') ∧ τ = mix ρ τ' := by
  cases o with
  | none => cases h
  | some q => exact ⟨q.2, by cases h; rfl, by cases h; rfl⟩
theorem mix_self (σ : S0) : mix σ σ = σ := by
  funext k
  unfold mix
  by_cases h : k < 98
  · rw [if_pos h]
  · rw [if_neg h]
theorem mix_l (σ τ ρ : S0) : mix (mix σ τ) ρ = mix σ ρ := by
  funext k
  unfold mix
  by_cases h : k < 98
  · rw [if_pos h, if_pos h, if_pos h]
  · rw [if_neg h, if_neg h]
theorem mix_r (σ τ ρ : S0) : mix σ (mix τ ρ) = mix σ ρ := by
  funext k
  unfold mix
  by_cases h : k < 98
  · rw [if_pos h, if_pos h]
  · rw [if_neg h, if_neg h, if_neg h]
end
