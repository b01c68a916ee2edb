/-! FEASTS, WINE: all tunes rung by the class -/
def onlyE (σ τ : S0) : Prop := ∀ x, (x < 40 ∨ 54 < x) → τ x = σ x
theorem onlyE.tr {a b c : S0} (h1 : onlyE a b) (h2 : onlyE b c) : onlyE a c := fun k x => (h2 k x).trans (h1 k x)
theorem onlyE.rf (a : S0) : onlyE a a := fun _ _ => rfl
theorem onlyE.su {a b : S0} (h : onlyE a b) {k : Nat} (hk : 40 ≤ k ∧ k ≤ 54) (j : Nat) (v : Int32) : onlyE a (su b k j v) := fun x hx => (su_ne (by omega)).trans (h x hx)
theorem onlyE.e {a b : S0} (h : onlyE a b) : eqv a b := fun k j hr => by
  by_cases q : k < 40 ∨ 54 < k
  · rw [h k q]
  · unfold rel at hr
    have := of_decide_eq_true hr
    omega
theorem ringI_l (f g : Nat → Int32) (sf : S0 → Int32 → Option (Int32 × S0)) {t n : Nat} (ht : t < 6) (ok : okT f g t n) : ∀ (d i m : Nat) (σ : S0), n - i = d → i ≤ n → d < m → okP f g t n σ → σ 40 4 = (rg f g t n).2.2.1 → (∀ h, h < 6 → σ (49 + t) h = rc f g t h i) → ∃ τ, fX2_ringAll_h46 sf m σ (nI t) (nI i) = sf τ (nI (t + 1)) ∧ (∀ x, x ≠ 49 + t → τ x = σ x) ∧ ∀ h, h < 6 → τ (49 + t) h = rc f g t h n := by
  have hgt := ix_ok (j := t) (n := 6) ht (by omega)
  have hct : (nI t).toNatClampNeg = t := nI_clamp (by omega)
  have hgt2 : ¬ (nI t < 0 ∨ 6 ≤ t) := fun q => hgt (by rw [hct]; exact q)
  have hn := ok.1
  intro d
  induction d with
  | zero =>
    intro i m σ h1 h2 h3 hp h40 hc
    obtain ⟨m, rfl⟩ : ∃ q, m = q + 1 := ⟨m - 1, by omega⟩
    have : i = n := by omega
    subst this
    refine ⟨σ, ?_, fun _ _ => rfl, hc⟩
    show fX2_ringAll_b46 _ _ _ _ _ = _
    unfold fX2_ringAll_b46
    simp only [og_t hgt, og_t hgt2, hct, ol]
    rw [hp.1, if_pos (nI_le (Nat.le_refl _) (by omega)), nI_1]
  | succ d ih =>
    intro i m σ h1 h2 h3 hp h40 hc
    obtain ⟨m, rfl⟩ : ∃ q, m = q + 1 := ⟨m - 1, by omega⟩
    obtain ⟨b, w, hb, hw, g1, g2⟩ := ok.2.2 i (by omega)
    obtain ⟨b', hb', g1', p1, p2, -⟩ := hp.2.1 i (by omega)
    have : b' = b := (nI_eq (by omega) (by omega)).mp (g1'.symm.trans g1)
    subst this
    have hst : stk g t i = b' := by unfold stk; rw [g1]; exact nI_clamp (by omega)
    have hgi := ix_ok (j := i) (n := 12) (by omega) (by omega)
    have hci : (nI i).toNatClampNeg = i := nI_clamp (by omega)
    have hgi2 : ¬ (nI i < 0 ∨ 12 ≤ i) := fun q => hgi (by rw [hci]; exact q)
    have hgb := ix_ok (j := b') (n := 12) (by omega) (by omega)
    have hcb : (nI b').toNatClampNeg = b' := nI_clamp (by omega)
    have hgb2 : ¬ (nI b' < 0 ∨ 12 ≤ b') := fun q => hgb (by rw [hcb]; exact q)
    have hgw := ix_ok (j := w) (n := 6) (by omega) (by omega)
    have hcw : (nI w).toNatClampNeg = w := nI_clamp (by omega)
    have hgw2 : ¬ (nI w < 0 ∨ 6 ≤ w) := fun q => hgw (by rw [hcw]; exact q)
    have hb1 := bit_g (i := i) (by omega) (σ 40 4)
    have hb2 := rg_bit f g t n i hn (by omega)
    rw [← h40] at hb2
    by_cases c : si f g t i
    · have hr : fX6_rang σ (nI i) = some (0, σ) := by
        unfold fX6_rang
        rw [if_pos (fun q => hb1.mp q (hb2.mpr ⟨by omega, c⟩))]
      have e1 : fX2_ringAll_h46 sf (m + 1) σ (nI t) (nI i) = fX2_ringAll_h46 sf m σ (nI t) (nI (i + 1)) := by
        show fX2_ringAll_b46 _ _ _ _ _ = _
        unfold fX2_ringAll_b46 fX2_ringAll_b103
        simp only [og_t hgt, og_t hgt2, hct, ol]
        rw [hp.1, if_neg (nI_ge (by omega) (by omega)), hr]
        simp only [obp]
        rw [if_pos (by decide), nI_1]
      rw [e1]
      refine ih (i + 1) m σ (by omega) (by omega) (by omega) hp h40 (fun h hh => ?_)
      rw [hc h hh]
      show _ = rc f g t h i + (if _ then _ else _)
      rw [if_neg (fun q => q.1 c)]
      exact (Int32.add_zero _).symm
    · have hr : fX6_rang σ (nI i) = some (1, σ) := by
        unfold fX6_rang
        rw [if_neg (fun q => q (hb1.mpr (fun q2 => c (hb2.mp q2).2)))]
      have e1 : fX2_ringAll_h46 sf (m + 1) σ (nI t) (nI i) = fX2_ringAll_h46 sf m (su σ (49 + t) w (σ (49 + t) w + 1)) (nI t) (nI (i + 1)) := by
        show fX2_ringAll_b46 _ _ _ _ _ = _
        unfold fX2_ringAll_b46 fX2_ringAll_b103
        simp only [og_t hgt, og_t hgt2, hct, ol]
        rw [hp.1, if_neg (nI_ge (by omega) (by omega)), hr]
        simp only [obp]
        rw [if_neg (by decide)]
        simp only [Nat.one_mul, og_t hgi, og_t hgi2, hci, p1, og_t hgb, og_t hgb2, hcb, p2, g2, og_t hgw, og_t hgw2, hcw, nI_1]
      rw [e1]
      have o1 : ∀ x, x ≠ 49 + t → su σ (49 + t) w (σ (49 + t) w + 1) x = σ x := fun x hx => su_ne hx
      obtain ⟨τ, q1, q2, q3⟩ := ih (i + 1) m (su σ (49 + t) w (σ (49 + t) w + 1)) (by omega) (by omega) (by omega) (hp.lo ht (fun x hx => o1 x (by omega))) (by rw [o1 40 (by omega)]; exact h40) (fun h hh => by
        have g3 : f (5 * stk g t i) = nI w := by rw [hst]; exact g2
        show _ = rc f g t h i + (if _ then _ else _)
        by_cases cw : h = w
        · subst cw
          rw [su_s, hc h hh, if_pos ⟨c, g3⟩]
        · rw [su_j cw, hc h hh, if_neg (fun q => cw ((nI_eq (by omega) (by omega)).mp (q.2.symm.trans g3)))]
          exact (Int32.add_zero _).symm)
      exact ⟨τ, q1, fun x hx => (q2 x hx).trans (o1 x hx), q3⟩
def FT (f g : Nat → Int32) (t : Nat) (σ : S0) : Prop := σ 47 t = (rgn f g t).1 ∧ ∀ h, h < 6 → σ (49 + t) h = rc f g t h (ln g t)
theorem ringAll_l {H G B T : Nat} : ∀ (d t m : Nat) (σ : S0), T - t = d → t ≤ T → d < m → Rall σ H G B T → (∀ u, u < t → FT (σ 99) (σ 101) u σ) → ∃ τ, fX2_ringAll_h2 m σ (nI t) = some (0, τ) ∧ onlyE σ τ ∧ ∀ u, u < T → FT (σ 99) (σ 101) u τ := by
  intro d
  induction d with
  | zero =>
    intro t m σ h1 h2 h3 hr hw
    obtain ⟨m, rfl⟩ : ∃ q, m = q + 1 := ⟨m - 1, by omega⟩
    have hT := hr.1.1.2.2.2.2
    have : t = T := by omega
    subst this
    refine ⟨σ, ?_, onlyE.rf σ, hw⟩
    show fX2_ringAll_b2 _ _ _ = _
    unfold fX2_ringAll_b2
    rw [if_pos (show σ 22 2 ≤ nI t from by rw [hr.1.2.2.2.2]; exact nI_le (Nat.le_refl _) (by omega))]
  | succ d ih =>
    intro t m σ h1 h2 h3 hr hw
    obtain ⟨m, rfl⟩ : ∃ q, m = q + 1 := ⟨m - 1, by omega⟩
    have hT := hr.1.1.2.2.2.2
    have htT : t < T := by omega
    obtain ⟨ok, okp, l1, -⟩ := RT hr htT
    obtain ⟨ν, p1, p2, p3, p4, p5, p6⟩ := play_s hr htT
    have hgt := ix_ok (j := t) (n := 6) (by omega) (by omega)
    have hct : (nI t).toNatClampNeg = t := nI_clamp (by omega)
    have hgt2 : ¬ (nI t < 0 ∨ 6 ≤ t) := fun q => hgt (by rw [hct]; exact q)
    have z : ∀ x, x ≠ 47 → x ≠ 49 + t → flld (su ν 47 t (ν 40 2)) (49 + t) 0 6 0 x = ν x := fun x a b => by rw [flld_ne b, su_ne a]
    obtain ⟨τ, q1, q2, q3⟩ := ringI_l (σ 99) (σ 101) (fX2_ringAll_h2 m) (by omega) ok _ 0 400 (flld (su ν 47 t (ν 40 2)) (49 + t) 0 6 0) rfl (by omega) (by have := ok.1; omega) (okp.lo (by omega) (fun x hx => by rw [z x (by omega) (by omega), p2 x (by omega)])) (by rw [z 40 (by omega) (by omega)]; exact p5) (fun h hh => by rw [flld_in (by omega) hh]; rfl)
    have hf : onlyE σ τ := fun x hx => by rw [q2 x (by omega), z x (by omega) (by omega), p2 x (by omega)]
    have e99 := hf 99 (by omega)
    have e101 := hf 101 (by omega)
    obtain ⟨ρ, v1, v2, v3⟩ := ih (t + 1) m τ (by omega) (by omega) (by omega) (hr.cg hf.e) (fun u hu => by
      rw [e99, e101]
      by_cases q : u = t
      · subst q
        refine ⟨?_, q3⟩
        rw [q2 47 (by omega), flld_ne (by omega), su_s]
        exact p3
      · have := hw u (by omega)
        unfold FT at this ⊢
        rw [q2 47 (by omega), flld_ne (by omega), su_j q, p2 47 (by omega), q2 (49 + u) (by omega), z (49 + u) (by omega) (by omega), p2 (49 + u) (by omega)]
        exact this)
    rw [e99, e101] at v3
    refine ⟨ρ, ?_, hf.tr v2, v3⟩
    show fX2_ringAll_b2 _ _ _ = _
    unfold fX2_ringAll_b2
    rw [if_neg (show ¬ (σ 22 2 ≤ nI t) from by rw [hr.1.2.2.2.2]; exact nI_ge (by omega) (by omega)), p1]
    simp only [obp, ol, og_t hgt, og_t hgt2, hct, Nat.one_mul]
    rw [fill_all _ _ _ _ (by omega)]
    simp only [obp]
    rw [← v1]
    exact q1
theorem ringAll_s {σ : S0} {H G B T : Nat} (hr : Rall σ H G B T) : ∃ τ, fX2_ringAll σ = some (0, τ) ∧ onlyE σ τ ∧ ∀ u, u < T → FT (σ 99) (σ 101) u τ := ringAll_l T 0 400 σ (by omega) (by omega) (by have := hr.1.1.2.2.2.2; omega) hr (fun u hu => by omega)
/-- sums over the tunes of a set (bits) -/
def sm (F : Nat → Int32) (x : Int32) : Nat → Int32
  | 0 => 0
  | t + 1 => if bitp x t then sm F x t + F t else sm F x t
abbrev smr (f g : Nat → Int32) (h : Nat) (x : Int32) (T : Nat) : Int32 := sm (fun u => rc f g u h (ln g u)) x T
abbrev smc (f g : Nat → Int32) (x : Int32) (T : Nat) : Int32 := sm (fun u => (rgn f g u).1) x T
theorem strokesIn_l {f g : Nat → Int32} {σ : S0} {T h : Nat} (hT : T ≤ 6) (hh : h < 6) (e : σ 22 2 = nI T) (hF : ∀ u, u < T → FT f g u σ) (x : Int32) : ∀ (d t m : Nat), T - t = d → t ≤ T → d < m → fX2_strokesIn_h5 m σ x (nI h) (smr f g h x t) (nI t) = some (smr f g h x T, σ) := by
  have hgh := ix_ok (j := h) (n := 6) hh (by omega)
  have hch : (nI h).toNatClampNeg = h := nI_clamp (by omega)
  have hgh2 : ¬ (nI h < 0 ∨ 6 ≤ h) := fun q => hgh (by rw [hch]; exact q)
  intro d
  induction d with
  | zero =>
    intro t m h1 h2 h3
    obtain ⟨m, rfl⟩ : ∃ q, m = q + 1 := ⟨m - 1, by omega⟩
    have : t = T := by omega
    subst this
    show fX2_strokesIn_b5 _ _ _ _ _ _ = _
    unfold fX2_strokesIn_b5
    rw [if_pos (show σ 22 2 ≤ nI t from by rw [e]; exact nI_le (Nat.le_refl _) (by omega))]
  | succ d ih =>
    intro t m h1 h2 h3
    obtain ⟨m, rfl⟩ : ∃ q, m = q + 1 := ⟨m - 1, by omega⟩
    have hgt := ix_ok (j := t) (n := 6) (by omega) (by omega)
    have hct : (nI t).toNatClampNeg = t := nI_clamp (by omega)
    have hgt2 : ¬ (nI t < 0 ∨ 6 ≤ t) := fun q => hgt (by rw [hct]; exact q)
    have ih' := ih (t + 1) m (by omega) (by omega) (by omega)
    have hb := bit_g (i := t) (by omega) x
    have es : smr f g h x (t + 1) = if bitp x t then smr f g h x t + rc f g t h (ln g t) else smr f g h x t := rfl
    show fX2_strokesIn_b5 _ _ _ _ _ _ = _
    unfold fX2_strokesIn_b5 fX2_strokesIn_b38
    rw [if_neg (show ¬ (σ 22 2 ≤ nI t) from by rw [e]; exact nI_ge (by omega) (by omega))]
    simp only [og_t hgt, og_t hgt2, hct, ol, Nat.one_mul, og_t hgh, og_t hgh2, hch, nI_1, (hF t (by omega)).2 h hh]
    by_cases c : bitp x t
    · rw [if_neg (fun q => hb.mp q c)]
      rw [es, if_pos c] at ih'
      exact ih'
    · rw [if_pos (hb.mpr c)]
      rw [es, if_neg c] at ih'
      exact ih'
theorem strokesIn_s {f g : Nat → Int32} {σ : S0} {T h : Nat} (hT : T ≤ 6) (hh : h < 6) (e : σ 22 2 = nI T) (hF : ∀ u, u < T → FT f g u σ) (x : Int32) : fX2_strokesIn σ x (nI h) = some (smr f g h x T, σ) := strokesIn_l hT hh e hF x T 0 400 (by omega) (by omega) (by omega)
theorem costOf_l {f g : Nat → Int32} {σ : S0} {T : Nat} (hT : T ≤ 6) (e : σ 22 2 = nI T) (hF : ∀ u, u < T → FT f g u σ) (x : Int32) : ∀ (d t m : Nat), T - t = d → t ≤ T → d < m → fX2_costOf_h4 m σ x (smc f g x t) (nI t) = some (smc f g x T, σ) := by
  intro d
  induction d with
  | zero =>
    intro t m h1 h2 h3
    obtain ⟨m, rfl⟩ : ∃ q, m = q + 1 := ⟨m - 1, by omega⟩
    have : t = T := by omega
    subst this
    show fX2_costOf_b4 _ _ _ _ _ = _
    unfold fX2_costOf_b4
    rw [if_pos (show σ 22 2 ≤ nI t from by rw [e]; exact nI_le (Nat.le_refl _) (by omega))]
  | succ d ih =>
    intro t m h1 h2 h3
    obtain ⟨m, rfl⟩ : ∃ q, m = q + 1 := ⟨m - 1, by omega⟩
    have hgt := ix_ok (j := t) (n := 6) (by omega) (by omega)
    have hct : (nI t).toNatClampNeg = t := nI_clamp (by omega)
    have hgt2 : ¬ (nI t < 0 ∨ 6 ≤ t) := fun q => hgt (by rw [hct]; exact q)
    have ih' := ih (t + 1) m (by omega) (by omega) (by omega)
    have hb := bit_g (i := t) (by omega) x
    have es : smc f g x (t + 1) = if bitp x t then smc f g x t + (rgn f g t).1 else smc f g x t := rfl
    show fX2_costOf_b4 _ _ _ _ _ = _
    unfold fX2_costOf_b4 fX2_costOf_b32
    rw [if_neg (show ¬ (σ 22 2 ≤ nI t) from by rw [e]; exact nI_ge (by omega) (by omega))]
    simp only [og_t hgt, og_t hgt2, hct, ol, nI_1, (hF t (by omega)).1]
    by_cases c : bitp x t
    · rw [if_neg (fun q => hb.mp q c)]
      rw [es, if_pos c] at ih'
      exact ih'
    · rw [if_pos (hb.mpr c)]
      rw [es, if_neg c] at ih'
      exact ih'
theorem costOf_s {f g : Nat → Int32} {σ : S0} {T : Nat} (hT : T ≤ 6) (e : σ 22 2 = nI T) (hF : ∀ u, u < T → FT f g u σ) (x : Int32) : fX2_costOf σ x = some (smc f g x T, σ) := costOf_l hT e hF x T 0 400 (by omega) (by omega) (by omega)
theorem isWithin_l {f g : Nat → Int32} {σ : S0} {H T : Nat} (hH : H ≤ 6) (hT : T ≤ 6) (e0 : σ 22 0 = nI H) (e : σ 22 2 = nI T) (hF : ∀ u, u < T → FT f g u σ) (x y : Int32) : ∀ (d i m : Nat), H - i = d → i ≤ H → d < m → ∃ r, fX2_isWithin_h2 m σ x y (nI i) = some (r, σ) ∧ (r = 0 ∨ r = 1) ∧ (r = 1 ↔ ∀ h, i ≤ h → h < H → smr f g h x T ≤ y) := by
  intro d
  induction d with
  | zero =>
    intro i m h1 h2 h3
    obtain ⟨m, rfl⟩ : ∃ q, m = q + 1 := ⟨m - 1, by omega⟩
    have : i = H := by omega
    subst this
    refine ⟨1, ?_, Or.inr rfl, ⟨fun _ h a b => by omega, fun _ => rfl⟩⟩
    show fX2_isWithin_b2 _ _ _ _ _ = _
    unfold fX2_isWithin_b2
    rw [if_pos (show σ 22 0 ≤ nI i from by rw [e0]; exact nI_le (Nat.le_refl _) (by omega))]
  | succ d ih =>
    intro i m h1 h2 h3
    obtain ⟨m, rfl⟩ : ∃ q, m = q + 1 := ⟨m - 1, by omega⟩
    obtain ⟨r, r1, r2, r3⟩ := ih (i + 1) m (by omega) (by omega) (by omega)
    have e1 : fX2_isWithin_h2 (m + 1) σ x y (nI i) = if smr f g i x T ≤ y then fX2_isWithin_h2 m σ x y (nI (i + 1)) else some (0, σ) := by
      show fX2_isWithin_b2 _ _ _ _ _ = _
      unfold fX2_isWithin_b2
      rw [if_neg (show ¬ (σ 22 0 ≤ nI i) from by rw [e0]; exact nI_ge (by omega) (by omega)), strokesIn_s hT (by omega) e hF x]
      simp only [obp, ol, nI_1]
    rw [e1]
    by_cases c : smr f g i x T ≤ y
    · rw [if_pos c]
      refine ⟨r, r1, r2, r3.trans ⟨fun q h a b => ?_, fun q h a b => q h (by omega) b⟩⟩
      by_cases hi : h = i
      · subst hi; exact c
      · exact q h (by omega) b
    · rw [if_neg c]
      exact ⟨0, rfl, Or.inl rfl, ⟨fun q => absurd q (by decide), fun q => absurd (q i (Nat.le_refl _) (by omega)) c⟩⟩
