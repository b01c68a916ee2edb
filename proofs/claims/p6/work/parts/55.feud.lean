theorem setsFeud_s {σ : S0} {a b : Nat} (v : Int32) {ma mb : Nat} (ha : a < 6) (hb : b < 6) (hab : a ≠ b) (hma : ma < 64) (hmb : mb < 64) (ea : σ 99 (60 + a) = nI ma) (eb : σ 99 (60 + b) = nI mb) : fX11_setsFeud σ (nI a) (nI b) v = some (0, su (su σ 99 (60 + a) (nI (wb v ma b))) 99 (60 + b) (nI (wb v mb a))) := by
  have xa : (60 : Int32) + nI a = nI (60 + a) := nI_add 60 a
  have xb : (60 : Int32) + nI b = nI (60 + b) := nI_add 60 b
  have hga := ix_ok (j := 60 + a) (n := 240) (by omega) (by omega)
  have hca : (nI (60 + a)).toNatClampNeg = 60 + a := nI_clamp (by omega)
  have hga2 : ¬ (nI (60 + a) < 0 ∨ 240 ≤ 60 + a) := fun q => hga (by rw [hca]; exact q)
  have hgb := ix_ok (j := 60 + b) (n := 240) (by omega) (by omega)
  have hcb : (nI (60 + b)).toNatClampNeg = 60 + b := nI_clamp (by omega)
  have hgb2 : ¬ (nI (60 + b) < 0 ∨ 240 ≤ 60 + b) := fun q => hgb (by rw [hcb]; exact q)
  unfold fX11_setsFeud fX11_setsFeud_b43 fX11_setsFeud_b87 wb
  simp only [xa, xb, og_t hga, og_t hga2, hca, og_t hgb, og_t hgb2, hcb, ol]
  have o1 := wb_o ⟨ma, hma⟩ ⟨b, hb⟩
  have o2 := wb_o ⟨mb, hmb⟩ ⟨a, ha⟩
  have a1 := wb_a ⟨ma, hma⟩ ⟨b, hb⟩
  have a2 := wb_a ⟨mb, hmb⟩ ⟨a, ha⟩
  simp only at o1 o2 a1 a2
  by_cases hv : v = 0
  · simp only [if_pos hv]
    rw [su_j (by omega), ea, eb, a1, a2]
  · simp only [if_neg hv]
    rw [su_j (by omega), ea, eb, o1, o2]
/-- the feuds alone have changed -/
theorem R_feud {σ τ : S0} {H G B T : Nat} (h : Rall σ H G B T) (fo : Nat → Nat) (f1 : ∀ x, x < 6 → fo x < 2 ^ H ∧ τ 99 (60 + x) = nI (fo x) ∧ τ 38 x = nI (fo x)) (f2 : ∀ a b, a < 6 → b < 6 → (fo a).testBit b = (fo b).testBit a) (f3 : ∀ a, a < 6 → (fo a).testBit a = false) (f4 : ∀ a, H ≤ a → a < 6 → fo a = 0) (ta : ∀ x, x ≠ 38 → x ≠ 99 → τ x = σ x) (tb : ∀ i, i < 60 ∨ 66 ≤ i → τ 99 i = σ 99 i) : Rall τ H G B T := by
  obtain ⟨hn, hk, hm, ht, hi, hp, hs, hf, hq⟩ := h
  have hB := hn.1.2.2.2.1
  have hT := hn.1.2.2.2.2
  obtain ⟨k1, k2, k3, k4, k5⟩ := hk
  obtain ⟨⟨n, n1, n2, n3⟩, m2, -⟩ := hm
  refine ⟨hn.c (by rw [ta 98 (by omega) (by omega)]) (by rw [ta 98 (by omega) (by omega)]) (by rw [ta 98 (by omega) (by omega)]) (by rw [ta 98 (by omega) (by omega)]) (ta 22 (by omega) (by omega)), ?_, ?_, ht.c (ta _ (by omega) (by omega)) (ta _ (by omega) (by omega)) (ta _ (by omega) (by omega)) (fun t h => ta _ (by omega) (by omega)), hi.c (ta _ (by omega) (by omega)) (ta _ (by omega) (by omega)) (fun x h1 h2 => ta _ (by omega) (by omega)) (fun i h1 h2 => tb i (by omega)) hB, hp.c (by rw [ta 1 (by omega) (by omega)]) (by rw [ta 98 (by omega) (by omega)]) (ta _ (by omega) (by omega)) (ta _ (by omega) (by omega)), hs.c (ta _ (by omega) (by omega)) (ta _ (by omega) (by omega)) (ta _ (by omega) (by omega)) (fun x h1 h2 => ta _ (by omega) (by omega)), by rw [ta 3 (by omega) (by omega), ta 98 (by omega) (by omega)]; exact hf, by rw [ta 0 (by omega) (by omega), ta 98 (by omega) (by omega)]; exact hq⟩
  · refine ⟨by rw [ta 32 (by omega) (by omega)]; exact k1, fun b hb => ?_, fun x hx => ?_, ?_, fun i hi2 hl => ?_⟩
    · obtain ⟨a1, a2, a3, a4, a5⟩ := k2 b hb
      refine ⟨?_, ?_, ?_, ?_, ?_⟩ <;> rw [ta _ (by omega) (by omega), tb _ (by omega)] <;> assumption
    · rw [show 0 + 60 + x = 60 + x by omega, (f1 x hx).2.1]; exact (f1 x hx).2.2
    · rw [ta _ (by omega) (by omega), tb _ (by omega)]; exact k4
    · rw [tb _ (by omega)] at hl
      rw [ta _ (by omega) (by omega), tb _ (by omega)]; exact k5 i hi2 hl
  · refine ⟨⟨n, n1, by rw [tb _ (by omega)]; exact n2, fun j hj => ?_⟩, fun b hb => ?_, fo, fun x hx => ⟨(f1 x hx).1, by rw [show 0 + 60 + x = 60 + x by omega]; exact (f1 x hx).2.1⟩, f2, f3, f4⟩
    · rw [tb _ (by omega)]; exact n3 j hj
    · have := m2 b hb
      rw [tb _ (by omega), tb _ (by omega), tb _ (by omega), tb _ (by omega), tb _ (by omega)]
      exact this
/-- one pair of feuds written on both sides -/
theorem R_pair {σ : S0} {H G B T a b : Nat} (v : Int32) (h : Rall σ H G B T) (ha : a < H) (hb : b < H) (hab : a ≠ b) : ∃ τ ρ, fX1_setFoes σ 32 (nI a) (nI b) v = some (0, τ) ∧ fX11_setsFeud τ (nI a) (nI b) v = some (0, ρ) ∧ Rall ρ H G B T ∧ (∀ x, x ≠ 38 → τ x = σ x) ∧ (∀ x, x ≠ 99 → ρ x = τ x) := by
  obtain ⟨b1, b2, b3, b4, b5⟩ := h.1.1
  obtain ⟨m1, m2, fo, f1, f2, f3, f4⟩ := id h.2.2.1
  have k3 := h.2.1.2.2.1
  simp only [Nat.zero_add] at f1 k3
  have h64 : 2 ^ H ≤ 64 := Nat.pow_le_pow_right (n := 2) (by omega) b2
  have la := (f1 a (by omega)).1
  have lb := (f1 b (by omega)).1
  have ea : σ 99 (60 + a) = nI (fo a) := (f1 a (by omega)).2
  have eb : σ 99 (60 + b) = nI (fo b) := (f1 b (by omega)).2
  refine ⟨_, _, setFoes_s v (by omega) (by omega) hab (by omega) (by omega) ((k3 a (by omega)).trans ea) ((k3 b (by omega)).trans eb), setsFeud_s v (by omega) (by omega) hab (ma := fo a) (mb := fo b) (by omega) (by omega) (by rw [su_ne (by omega), su_ne (by omega)]; exact ea) (by rw [su_ne (by omega), su_ne (by omega)]; exact eb), ?_, fun x hx => by rw [su_ne hx, su_ne hx], fun x hx => by rw [su_ne hx, su_ne hx]⟩
  refine R_feud h (fun x => if x = b then wb v (fo b) a else if x = a then wb v (fo a) b else fo x) (fun x hx => ?_) (fun x y hx hy => ?_) (fun x hx => ?_) (fun x hx hx6 => ?_) (fun x h1 h2 => by rw [su_ne h2, su_ne h2, su_ne h1, su_ne h1]) (fun i hi => by rw [su_j (by omega), su_j (by omega), su_ne (by omega), su_ne (by omega)])
  · by_cases c1 : x = b
    · subst c1
      simp only [if_true]
      exact ⟨wb_l v lb ha, by rw [su_s], by rw [su_ne (by omega), su_ne (by omega), su_s]⟩
    · by_cases c2 : x = a
      · subst c2
        simp only [if_neg c1, if_true]
        exact ⟨wb_l v la hb, by rw [su_j (by omega), su_s], by rw [su_ne (by omega), su_ne (by omega), su_j (by omega), su_s]⟩
      · simp only [if_neg c1, if_neg c2]
        refine ⟨(f1 x hx).1, by rw [su_j (by omega), su_j (by omega), su_ne (by omega), su_ne (by omega)]; exact (f1 x hx).2, ?_⟩
        rw [su_ne (by omega), su_ne (by omega), su_j c1, su_j c2]
        exact (k3 x hx).trans (f1 x hx).2
  · have key : ∀ x y, x < 6 → y < 6 → (if x = b then wb v (fo b) a else if x = a then wb v (fo a) b else fo x).testBit y = if (x = b ∧ y = a) ∨ (x = a ∧ y = b) then decide (v ≠ 0) else (fo x).testBit y := fun x y hx hy => by
      by_cases c1 : x = b
      · subst c1
        rw [if_pos rfl, wb_t v (by omega) (by omega) hy]
        by_cases c3 : a = y
        · rw [if_pos c3, if_pos (by omega)]
        · rw [if_neg c3, if_neg (by omega)]
      · rw [if_neg c1]
        by_cases c2 : x = a
        · subst c2
          rw [if_pos rfl, wb_t v (by omega) (by omega) hy]
          by_cases c3 : b = y
          · rw [if_pos c3, if_pos (by omega)]
          · rw [if_neg c3, if_neg (by omega)]
        · rw [if_neg c2, if_neg (by omega)]
    show (if x = b then wb v (fo b) a else if x = a then wb v (fo a) b else fo x).testBit y = (if y = b then wb v (fo b) a else if y = a then wb v (fo a) b else fo y).testBit x
    rw [key x y hx hy, key y x hy hx]
    by_cases c : (x = b ∧ y = a) ∨ (x = a ∧ y = b)
    · rw [if_pos c, if_pos (by omega)]
    · rw [if_neg c, if_neg (by omega)]; exact f2 x y hx hy
  · by_cases c1 : x = b
    · subst c1
      simp only [if_true]
      rw [wb_t v (by omega) (by omega) hx, if_neg hab]; exact f3 x hx
    · by_cases c2 : x = a
      · subst c2
        simp only [if_neg c1, if_true]
        rw [wb_t v (by omega) (by omega) hx, if_neg (fun q => hab q.symm)]; exact f3 x hx
      · simp only [if_neg c1, if_neg c2]; exact f3 x hx
  · simp only [if_neg (show ¬ x = b by omega), if_neg (show ¬ x = a by omega)]
    exact f4 x hx hx6
