/-! TAKEN, GETS, WAGE; TUNE -/
def tk (f g : Nat → Int32) (G : Int32) : Nat → Int32 × Int32
  | 0 => (-4, 0)
  | t + 1 => if vl f g G t ≤ (tk f g G t).2 then tk f g G t else (nI t, vl f g G t)
theorem tk_r (f g : Nat → Int32) (G : Int32) : ∀ t, (tk f g G t).1 = -4 ∨ ∃ j, j < t ∧ (tk f g G t).1 = nI j
  | 0 => Or.inl rfl
  | t + 1 => by
    unfold tk
    by_cases c : vl f g G t ≤ (tk f g G t).2
    · rw [if_pos c]
      rcases tk_r f g G t with h | ⟨j, h1, h2⟩
      · exact Or.inl h
      · exact Or.inr ⟨j, by omega, h2⟩
    · rw [if_neg c]
      exact Or.inr ⟨t, by omega, rfl⟩
theorem takenX_l {H G B T : Nat} : ∀ (d t m : Nat) (σ : S0), T - t = d → t ≤ T → d < m → Rall σ H G B T → ∃ τ, fX6_tuneTaken_h7 m σ (tk (σ 99) (σ 101) (nI G) t).1 (tk (σ 99) (σ 101) (nI G) t).2 (nI t) = some ((tk (σ 99) (σ 101) (nI G) T).1, τ) ∧ onlyP σ τ := by
  intro d
  induction d with
  | zero =>
    intro t m σ h1 h2 h3 h
    obtain ⟨m, rfl⟩ : ∃ q, m = q + 1 := ⟨m - 1, by omega⟩
    have : t = T := by omega
    subst this
    refine ⟨σ, ?_, onlyP.rf _⟩
    show fX6_tuneTaken_b7 _ _ _ _ _ = _
    unfold fX6_tuneTaken_b7
    rw [h.1.2.2.2.2, if_pos (nI_le (Nat.le_refl _) (by have := h.1.1; omega))]
  | succ d ih =>
    intro t m σ h1 h2 h3 h
    obtain ⟨m, rfl⟩ : ∃ q, m = q + 1 := ⟨m - 1, by omega⟩
    have ht : t < T := by omega
    have hb := h.1.1
    obtain ⟨τ, p1, p2, p3, p4, p5, p6⟩ := play_s h ht
    have hn1 : nI t + 1 = nI (t + 1) := nI_1 t
    obtain ⟨ρ, q1, q2⟩ := ih (t + 1) m τ (by omega) (by omega) (by omega) (h.cg p2.e)
    rw [p2 99 (by omega), p2 101 (by omega)] at q1
    refine ⟨ρ, ?_, p2.tr q2⟩
    show fX6_tuneTaken_b7 _ _ _ _ _ = _
    unfold fX6_tuneTaken_b7 fX6_tuneTaken_b38
    rw [h.1.2.2.2.2, if_neg (nI_ge ht (by omega)), p1]
    simp only [obp, ol, p6, hn1]
    rw [← q1]
    have et : tk (σ 99) (σ 101) (nI G) (t + 1) = if vl (σ 99) (σ 101) (nI G) t ≤ (tk (σ 99) (σ 101) (nI G) t).2 then tk (σ 99) (σ 101) (nI G) t else (nI t, vl (σ 99) (σ 101) (nI G) t) := rfl
    by_cases c : vl (σ 99) (σ 101) (nI G) t ≤ (tk (σ 99) (σ 101) (nI G) t).2
    · rw [if_pos c] at et ⊢
      rw [et]
    · rw [if_neg c] at et ⊢
      rw [et]
theorem takenM_l {H G B T : Nat} : ∀ (d t m : Nat) (σ : S0), T - t = d → t ≤ T → d < m → Rall σ H G B T → ∃ τ, fX11_takenNow_h7 m σ (tk (σ 99) (σ 101) (nI G) t).1 (tk (σ 99) (σ 101) (nI G) t).2 (nI t) = some ((tk (σ 99) (σ 101) (nI G) T).1, τ) ∧ onlyR σ τ := by
  intro d
  induction d with
  | zero =>
    intro t m σ h1 h2 h3 h
    obtain ⟨m, rfl⟩ : ∃ q, m = q + 1 := ⟨m - 1, by omega⟩
    have : t = T := by omega
    subst this
    refine ⟨σ, ?_, fun _ _ _ _ => rfl⟩
    show fX11_takenNow_b7 _ _ _ _ _ = _
    unfold fX11_takenNow_b7
    rw [h.1.2.1.2.2.2, if_pos (nI_le (Nat.le_refl _) (by have := h.1.1; omega))]
  | succ d ih =>
    intro t m σ h1 h2 h3 h
    obtain ⟨m, rfl⟩ : ∃ q, m = q + 1 := ⟨m - 1, by omega⟩
    have ht : t < T := by omega
    have hb := h.1.1
    obtain ⟨τ, p1, p2, -, -, -⟩ := val_s h ht
    have hn1 : nI t + 1 = nI (t + 1) := nI_1 t
    obtain ⟨ρ, q1, q2⟩ := ih (t + 1) m τ (by omega) (by omega) (by omega) (h.cg p2.e)
    rw [p2.c (k := 99) (by omega) (by omega), p2.c (k := 101) (by omega) (by omega)] at q1
    refine ⟨ρ, ?_, p2.tr q2⟩
    show fX11_takenNow_b7 _ _ _ _ _ = _
    unfold fX11_takenNow_b7 fX11_takenNow_b33 fX11_takenNow_b46
    rw [h.1.2.1.2.2.2, if_neg (nI_ge ht (by omega)), p1]
    simp only [obp, ol]
    rw [hn1, ← q1]
    have et : tk (σ 99) (σ 101) (nI G) (t + 1) = if vl (σ 99) (σ 101) (nI G) t ≤ (tk (σ 99) (σ 101) (nI G) t).2 then tk (σ 99) (σ 101) (nI G) t else (nI t, vl (σ 99) (σ 101) (nI G) t) := rfl
    by_cases c : vl (σ 99) (σ 101) (nI G) t ≤ (tk (σ 99) (σ 101) (nI G) t).2
    · rw [if_pos c] at et ⊢
      rw [if_pos c, et]
    · rw [if_neg c] at et ⊢
      rw [if_neg c, et]
theorem takenX_s {σ : S0} {H G B T : Nat} (h : Rall σ H G B T) : ∃ τ, fX6_tuneTaken σ = some ((tk (σ 99) (σ 101) (nI G) T).1, τ) ∧ onlyP σ τ := by
  have hb := h.1.1
  exact takenX_l _ 0 400 σ rfl (by omega) (by omega) h
theorem takenM_s {σ : S0} {H G B T : Nat} (h : Rall σ H G B T) : ∃ τ, fX11_takenNow σ = some ((tk (σ 99) (σ 101) (nI G) T).1, τ) ∧ onlyR σ τ := by
  have hb := h.1.1
  exact takenM_l _ 0 400 σ rfl (by omega) (by omega) h
theorem sim_taken : Sim fX10_taken fX11_taken := by
  intro σ hR
  obtain ⟨H, G, B, T, h⟩ := hR
  obtain ⟨τ, p1, p2⟩ := takenX_s h
  obtain ⟨ρ, q1, q2⟩ := takenM_s (h.cg p2.e)
  rw [p2 99 (by omega), p2 101 (by omega)] at q1
  refine ⟨(tk (σ 99) (σ 101) (nI G) T).1, τ, ?_, (tk (σ 99) (σ 101) (nI G) T).1, ρ, ?_, rfl, H, G, B, T, (h.cg p2.e).cg q2.e⟩
  · unfold fX10_taken; rw [p1]; rfl
  · unfold fX11_taken; rw [q1]; rfl
/-- what house h gets of a stroke of bell b -/
def gb (f : Nat → Int32) (h b : Nat) : Int32 := if f (5 * b) = nI h then (if f (5 * b + 4) = -4 then 2 * f (5 * b + 1) else f (5 * b + 1)) else if f (5 * b + 4) = nI h then f (5 * b + 1) else 0
theorem getsOf_s (σ : S0) {h b : Nat} (hh : h < 6) (hb : b < 12) : fX11_getsOf σ (nI h) (nI b) = some (gb (σ 99) h b, σ) := by
  have hm : ¬ nI h = -4 := nI_m4 (by omega)
  have hm2 : ¬ (-4 : Int32) = nI h := fun q => hm q.symm
  have O0 := of_l σ (b := b) (w := 0) (x := 0) hb (by omega) rfl
  have O1 := of_l σ (b := b) (w := 1) (x := 1) hb (by omega) rfl
  have O4 := of_l σ (b := b) (w := 4) (x := 4) hb (by omega) rfl
  rw [Nat.add_zero] at O0
  unfold fX11_getsOf fX11_getsOf_b16 gb
  simp only [O0, O1, O4, obp]
  by_cases c2 : σ 99 (5 * b + 4) = -4
  · by_cases c1 : σ 99 (5 * b) = nI h
    · simp [c1, c2]
    · simp [c1, c2, hm2]
  · by_cases c1 : σ 99 (5 * b) = nI h
    · simp [c1, c2]
    · by_cases c3 : σ 99 (5 * b + 4) = nI h
      · simp [c1, c3, hm]
      · simp [c1, c2, c3]
theorem share_s (σ : S0) {h b : Nat} (hh : h < 6) (hb : b < 12) (e0 : σ 33 b = σ 99 (5 * b)) (e1 : σ 34 b = σ 99 (5 * b + 1)) (e4 : σ 37 b = σ 99 (5 * b + 4)) : fX1_shareOf σ 32 (nI h) (nI b) = some (gb (σ 99) h b, σ) := by
  unfold fX1_shareOf fX1_partsOf gb
  have hgb := ix_ok (j := b) (n := 12) (by omega) (by omega)
  have hcb : (nI b).toNatClampNeg = b := nI_clamp (by omega)
  have hgb2 : ¬ (nI b < 0 ∨ 12 ≤ b) := fun q => hgb (by rw [hcb]; exact q)
  have hm : ¬ nI h = -4 := nI_m4 (by omega)
  have hm2 : ¬ (-4 : Int32) = nI h := fun q => hm q.symm
  simp only [og_t hgb, og_t hgb2, hcb, ol, e0, e4, Nat.reduceAdd]
  by_cases c2 : σ 99 (5 * b + 4) = -4
  · by_cases c1 : σ 99 (5 * b) = nI h
    · simp [c1, c2, obp, e1]
    · simp [c1, c2, hm2, obp, e1]
  · by_cases c1 : σ 99 (5 * b) = nI h
    · simp [c1, c2, obp, e1]
    · by_cases c3 : σ 99 (5 * b + 4) = nI h
      · simp [c1, c3, hm, obp, e1]
      · simp [c1, c2, c3, obp, e1]
/-- what house h gets of the first i strokes of tune t, those that are silent (bits s) left out -/
def gs (f g : Nat → Int32) (s : Int32) (h t : Nat) : Nat → Int32
  | 0 => 0
  | i + 1 => gs f g s h t i + (if (s >>> (nI i &&& 31)) &&& 1 = 1 then 0 else gb f h (stk g t i))
theorem getsM_l (f g : Nat → Int32) (s : Int32) {h t n : Nat} (hh : h < 6) (ht : t < 6) (ok : okT f g t n) : ∀ (d i m : Nat) (σ : S0), n - i = d → i ≤ n → d < m → σ 99 = f → σ 101 = g → σ 98 26 = s → fX11_getsNow_h10 m σ (nI h) (nI t) (gs f g s h t i) (nI i) = some (gs f g s h t n, σ) := by
  intro d
  induction d with
  | zero =>
    intro i m σ h1 h2 h3 e1 e2 e3
    obtain ⟨m, rfl⟩ : ∃ q, m = q + 1 := ⟨m - 1, by omega⟩
    have : i = n := by omega
    subst this
    show fX11_getsNow_b10 _ _ _ _ _ _ = _
    unfold fX11_getsNow_b10
    rw [strokes_s σ ht (by rw [e2]; exact ok.2.1)]
    simp only [obp]
    rw [if_pos (nI_le (Nat.le_refl _) (by have := ok.1; omega))]
  | succ d ih =>
    intro i m σ h1 h2 h3 e1 e2 e3
    obtain ⟨m, rfl⟩ : ∃ q, m = q + 1 := ⟨m - 1, by omega⟩
    have hn := ok.1
    obtain ⟨b, w, hb, hw, g1, g2⟩ := ok.2.2 i (by omega)
    have hst : stk g t i = b := by unfold stk; rw [g1]; exact nI_clamp (by omega)
    have hn1 : nI i + 1 = nI (i + 1) := nI_1 i
    have q := ih (i + 1) m σ (by omega) (by omega) (by omega) e1 e2 e3
    show fX11_getsNow_b10 _ _ _ _ _ _ = _
    unfold fX11_getsNow_b10 fX11_getsNow_b50
    rw [strokes_s σ ht (by rw [e2]; exact ok.2.1)]
    simp only [obp, ol]
    rw [if_neg (nI_ge (by omega) (by omega)), stroke_s σ ht (by omega)]
    simp only [obp]
    rw [e2, g1, getsOf_s σ hh hb, e3, hn1, e1, ← q]
    have eg : gs f g s h t (i + 1) = gs f g s h t i + (if (s >>> (nI i &&& 31)) &&& 1 = 1 then 0 else gb f h (stk g t i)) := rfl
    rw [hst] at eg
    by_cases c : (s >>> (nI i &&& 31)) &&& 1 = 1
    · rw [if_neg (by simp [c]), eg, if_pos c]
    · rw [if_pos c, eg, if_neg c]
theorem getsX_l (f g : Nat → Int32) (s : Int32) {h t n : Nat} (hh : h < 6) (ht : t < 6) (ok : okT f g t n) : ∀ (d i m : Nat) (σ : S0), n - i = d → i ≤ n → d < m → okP f g t n σ → σ 99 = f → (∀ b, (∃ i, i < n ∧ g (14 * t + 2 + i) = nI b) → b < 12 → σ 37 b = f (5 * b + 4)) → σ 40 4 = s → fX6_shareOf_h10 m σ (nI h) (nI t) (gs f g s h t i) (nI i) = some (gs f g s h t n, σ) := by
  have hgt := ix_ok (j := t) (n := 6) ht (by omega)
  have hct : (nI t).toNatClampNeg = t := nI_clamp (by omega)
  have hgt2 : ¬ (nI t < 0 ∨ 6 ≤ t) := fun q => hgt (by rw [hct]; exact q)
  intro d
  induction d with
  | zero =>
    intro i m σ h1 h2 h3 hp e1 e2 e3
    obtain ⟨m, rfl⟩ : ∃ q, m = q + 1 := ⟨m - 1, by omega⟩
    have : i = n := by omega
    subst this
    show fX6_shareOf_b10 _ _ _ _ _ _ = _
    unfold fX6_shareOf_b10
    simp only [og_t hgt, og_t hgt2, hct, ol]
    rw [hp.1, if_pos (nI_le (Nat.le_refl _) (by have := ok.1; omega))]
  | succ d ih =>
    intro i m σ h1 h2 h3 hp e1 e2 e3
    obtain ⟨m, rfl⟩ : ∃ q, m = q + 1 := ⟨m - 1, by omega⟩
    have hn := ok.1
    obtain ⟨b, hb, g1, p1, p2, p3, p4, p5, p6⟩ := hp.2.1 i (by omega)
    have hst : stk g t i = b := by unfold stk; rw [g1]; exact nI_clamp (by omega)
    have hgi := ix_ok (j := i) (n := 12) (by omega) (by omega)
    have hci : (nI i).toNatClampNeg = i := nI_clamp (by omega)
    have hgi2 : ¬ (nI i < 0 ∨ 12 ≤ i) := fun q => hgi (by rw [hci]; exact q)
    have hn1 : nI i + 1 = nI (i + 1) := nI_1 i
    have q := ih (i + 1) m σ (by omega) (by omega) (by omega) hp e1 e2 e3
    show fX6_shareOf_b10 _ _ _ _ _ _ = _
    unfold fX6_shareOf_b10 fX6_shareOf_b56 fX6_rang
    simp only [og_t hgt, og_t hgt2, hct, ol]
    rw [hp.1, if_neg (nI_ge (by omega) (by omega)), e3]
    have eg : gs f g s h t (i + 1) = gs f g s h t i + (if (s >>> (nI i &&& 31)) &&& 1 = 1 then 0 else gb f h (stk g t i)) := rfl
    rw [hst] at eg
    have hbit := bit_g (i := i) (by omega) s
    by_cases c : (s >>> (nI i &&& 31)) &&& 1 = 1
    · rw [if_pos (fun z => hbit.mp z c)]
      simp only [obp]
      rw [if_pos trivial, hn1, ← q, eg, if_pos c, Int32.add_zero]
    · rw [if_neg (fun z => z (hbit.mpr c))]
      simp only [obp]
      rw [if_neg (by decide)]
      simp only [og_t hgi, og_t hgi2, hci, Nat.one_mul, p1]
      rw [share_s σ hh hb (by rw [e1]; exact p2) (by rw [e1]; exact p3) (by rw [e1]; exact e2 b ⟨i, by omega, g1⟩ hb)]
      simp only [obp]
      rw [hn1, ← q, eg, if_neg c, e1]
