/-- the storm, after i bells: what house h gets, how many bells are its own, twice all fees -/
def sto (f : Nat → Int32) (h : Nat) : Nat → Int32 × Int32 × Int32
  | 0 => (0, 0, 0)
  | i + 1 => ((sto f h i).1 + gb f h i, (sto f h i).2.1 + (if f (5 * i) = nI h then 1 else 0), (sto f h i).2.2 + 2 * f (5 * i + 1))
def stoA (f : Nat → Int32) (h B : Nat) (y : Int32) : Int32 := if ¬ y = 0 then nI B * (sto f h B).1 - (sto f h B).2.2 * (sto f h B).2.1 + 100000 else (sto f h B).1
theorem stormM_l (y : Int32) {h B : Nat} (hh : h < 6) (hB : B ≤ 12) (σ : S0) (e : σ 98 4 = nI B) : ∀ (d i m : Nat), B - i = d → i ≤ B → d < m → fX11_storm_h31 m σ (nI h) y (sto (σ 99) h i).1 (sto (σ 99) h i).2.2 (sto (σ 99) h i).2.1 (nI i) = some (stoA (σ 99) h B y, σ) := by
  intro d
  induction d with
  | zero =>
    intro i m h1 h2 h3
    obtain ⟨m, rfl⟩ : ∃ q, m = q + 1 := ⟨m - 1, by omega⟩
    have : i = B := by omega
    subst this
    show fX11_storm_b31 _ _ _ _ _ _ _ _ = _
    unfold fX11_storm_b31 stoA
    rw [e, if_pos (nI_le (Nat.le_refl _) (by omega))]
    by_cases c : y = 0
    · simp [c]
    · simp [c]
  | succ d ih =>
    intro i m h1 h2 h3
    obtain ⟨m, rfl⟩ : ∃ q, m = q + 1 := ⟨m - 1, by omega⟩
    have hn1 : nI i + 1 = nI (i + 1) := nI_1 i
    have hi : i < 12 := by omega
    have q := ih (i + 1) m (by omega) (by omega) (by omega)
    have O0 := of_l σ (b := i) (w := 0) (x := 0) hi (by omega) rfl
    have O1 := of_l σ (b := i) (w := 1) (x := 1) hi (by omega) rfl
    rw [Nat.add_zero] at O0
    show fX11_storm_b31 _ _ _ _ _ _ _ _ = _
    unfold fX11_storm_b31 fX11_storm_b82 fX11_flag
    rw [e, if_neg (nI_ge (by omega) (by omega)), getsOf_s σ hh hi]
    simp only [obp, ol, O1, O0, hn1]
    rw [← q]
    have es : sto (σ 99) h (i + 1) = ((sto (σ 99) h i).1 + gb (σ 99) h i, (sto (σ 99) h i).2.1 + (if σ 99 (5 * i) = nI h then 1 else 0), (sto (σ 99) h i).2.2 + 2 * σ 99 (5 * i + 1)) := rfl
    rw [es]
    by_cases c : σ 99 (5 * i) = nI h
    · simp [c]
    · simp [c]
theorem stormX_l (y : Int32) {h B : Nat} (hh : h < 6) (hB : B ≤ 12) (σ : S0) (e : σ 32 0 = nI B) (hk : ∀ b, b < B → σ 33 b = σ 99 (5 * b) ∧ σ 34 b = σ 99 (5 * b + 1) ∧ σ 37 b = σ 99 (5 * b + 4)) : ∀ (d i m : Nat), B - i = d → i ≤ B → d < m → fX10_storm_h33 m σ (nI h) y (sto (σ 99) h i).1 (sto (σ 99) h i).2.1 (sto (σ 99) h i).2.2 (nI i) = some (stoA (σ 99) h B y, σ) := by
  intro d
  induction d with
  | zero =>
    intro i m h1 h2 h3
    obtain ⟨m, rfl⟩ : ∃ q, m = q + 1 := ⟨m - 1, by omega⟩
    have : i = B := by omega
    subst this
    show fX10_storm_b33 _ _ _ _ _ _ _ _ = _
    unfold fX10_storm_b33 stoA
    rw [e, if_pos (nI_le (Nat.le_refl _) (by omega))]
    by_cases c : y = 0
    · simp [c]
    · simp [c]
  | succ d ih =>
    intro i m h1 h2 h3
    obtain ⟨m, rfl⟩ : ∃ q, m = q + 1 := ⟨m - 1, by omega⟩
    have hn1 : nI i + 1 = nI (i + 1) := nI_1 i
    have hi : i < 12 := by omega
    have q := ih (i + 1) m (by omega) (by omega) (by omega)
    obtain ⟨k0, k1, k4⟩ := hk i (by omega)
    have hg := ix_ok (j := i) (n := 12) hi (by omega)
    have hc : (nI i).toNatClampNeg = i := nI_clamp (by omega)
    have hg2 : ¬ (nI i < 0 ∨ 12 ≤ i) := fun q => hg (by rw [hc]; exact q)
    show fX10_storm_b33 _ _ _ _ _ _ _ _ = _
    unfold fX10_storm_b33 fX10_storm_b79
    rw [e, if_neg (nI_ge (by omega) (by omega)), share_s σ hh hi k0 k1 k4]
    simp only [obp, ol, og_t hg, og_t hg2, hc, k0, k1, hn1]
    rw [← q]
    have es : sto (σ 99) h (i + 1) = ((sto (σ 99) h i).1 + gb (σ 99) h i, (sto (σ 99) h i).2.1 + (if σ 99 (5 * i) = nI h then 1 else 0), (sto (σ 99) h i).2.2 + 2 * σ 99 (5 * i + 1)) := rfl
    rw [es]
    by_cases c : σ 99 (5 * i) = nI h
    · simp [c]
    · simp [c]
theorem sim_storm (x y : Int32) : Sim (fun σ => fX10_storm σ x y) (fun σ => fX11_storm σ x y) := Sim.ro (fun σ hR => by
  obtain ⟨H, G, B, T, h⟩ := hR
  obtain ⟨⟨b1, b2, b3, b4, b5⟩, ⟨e1, e2, e5, e6⟩, e3, e4, e7⟩ := h.1
  show ∃ a, fX10_storm σ x y = some (a, σ) ∧ fX11_storm σ x y = some (a, σ)
  unfold fX10_storm fX11_storm
  rcases ixc x H (by omega) with ⟨w, hw, rfl⟩ | hx
  · rw [hh_y e3 (by omega) hw, ih_y e1 (by omega) hw]
    simp only [obp]
    have hone : ¬ (1 : Int32) = 0 := by decide
    rw [if_neg hone, if_neg hone, in_i σ y 0 1 0 1 rfl rfl]
    simp only [obp]
    have hl : y < 0 ↔ y.toInt < 0 := i3_lt _ _
    have hl1 : y ≤ 1 ↔ y.toInt ≤ 1 := i3_le _ _
    by_cases c : 0 ≤ y.toInt ∧ y.toInt ≤ 1
    · refine ⟨stoA (σ 99) w B y, ?_, ?_⟩
      · rw [if_neg (by rw [hl]; omega), if_pos (hl1.mpr c.2)]
        refine stormX_l y (by omega) b4 σ h.2.1.1 (fun b hb => ?_) _ 0 400 rfl (by omega) (by omega)
        obtain ⟨k0, k1, k2, k3, k4⟩ := h.2.1.2.1 b hb
        simp only [Nat.zero_add] at k0 k1 k4
        exact ⟨k0, k1, k4⟩
      · rw [if_pos c, if_pos hone]
        exact stormM_l y (by omega) b4 σ e5 _ 0 400 rfl (by omega) (by omega)
    · refine ⟨-1, ?_, ?_⟩
      · by_cases c2 : y.toInt < 0
        · rw [if_pos (hl.mpr c2)]
        · rw [if_neg (by rw [hl]; exact c2), if_neg (by rw [hl1]; omega)]
      · rw [if_neg c]; rfl
  · refine ⟨-1, ?_, ?_⟩
    · rw [hh_n e3 (by omega) hx]; rfl
    · rw [ih_n e1 (by omega) hx]; rfl)
