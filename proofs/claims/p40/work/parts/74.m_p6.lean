section
/-! FEASTS, WINE: all tunes rung by the class -/
def onlyE (σ τ : S0) : Prop := ∀ x, (x < 40 ∨ 54 < x) → τ x = σ x
theorem onlyE.tr {a b c : S0} (h1 : onlyE a b) (h2 : onlyE b c) : onlyE a c := fun k x => (h2 k x).trans (h1 k x)
theorem onlyE.rf (a : S0) : onlyE a a := fun _ _ => rfl
theorem onlyE.su {a b : S0} (h : onlyE a b) {k : Nat} (hk : 40 ≤ k ∧ k ≤ 54) (j : Nat) (v : Int32) : onlyE a (su b k j v) := fun x hx => (su_ne (by omega)).trans (h x hx)
theorem onlyE.e {a b : S0} (h : onlyE a b) : eqv a b := fun k j hr => by
  by_cases q : k < 40 ∨ 54 < k
  · rw [h k q]
  · unfold rel at hr
    have := of_decide_eq_true hr
    omega
theorem ringI_l (f g : Nat → Int32) (sf : S0 → Int32 → Option (Int32 × S0)) {t n : Nat} (ht : t < 6) (ok : okT f g t n) : ∀ (d i m : Nat) (σ : S0), n - i = d → i ≤ n → d < m → okP f g t n σ → σ 40 4 = (rg f g t n).2.2.1 → (∀ h, h < 6 → σ (49 + t) h = rc f g t h i) → ∃ τ, fX2_ringAll_h46 sf m σ (nI t) (nI i) = sf τ (nI (t + 1)) ∧ (∀ x, x ≠ 49 + t → τ x = σ x) ∧ ∀ h, h < 6 → τ (49 + t) h = rc f g t h n := by
  have hgt := ix_ok (j := t) (n := 6) ht (by omega)
  have hct : (nI t).toNatClampNeg = t := nI_clamp (by omega)
  have hgt2 : ¬ (nI t < 0 ∨ 6 ≤ t) := fun q => hgt (by rw [hct]; exact q)
  have hn := ok.1
  intro d
  induction d with
  | zero =>
    intro i m σ h1 h2 h3 hp h40 hc
    obtain ⟨m, rfl⟩ : ∃ q, m = q + 1 := ⟨m - 1, by omega⟩
    have : i = n := by omega
    subst this
    refine ⟨σ, ?_, fun _ _ => rfl, hc⟩
    show fX2_ringAll_b46 _ _ _ _ _ = _
    unfold fX2_ringAll_b46
    simp only [og_t hgt, og_t hgt2, hct, ol]
    rw [hp.1, if_pos (nI_le (Nat.le_refl _) (by omega)), nI_1]
  | succ d ih =>
    intro i m σ h1 h2 h3 hp h40 hc
    obtain ⟨m, rfl⟩ : ∃ q, m = q + 1 := ⟨m - 1, by omega⟩
    obtain ⟨b, w, hb, hw, g1, g2⟩ := ok.2.2 i (by omega)
    obtain ⟨b', hb', g1', p1, p2, -⟩ := hp.2.1 i (by omega)
    have : b' = b := (nI_eq (by omega) (by omega)).mp (g1'.symm.trans g1)
    subst this
    have hst : stk g t i = b' := by unfold stk; rw [g1]; exact nI_clamp (by omega)
    have hgi := ix_ok (j := i) (n := 12) (by omega) (by omega)
    have hci : (nI i).toNatClampNeg = i := nI_clamp (by omega)
    have hgi2 : ¬ (nI i < 0 ∨ 12 ≤ i) := fun q => hgi (by rw [hci]; exact q)
    have hgb := ix_ok (j := b') (n := 12) (by omega) (by omega)
    have hcb : (nI b').toNatClampNeg = b' := nI_clamp (by omega)
    have hgb2 : ¬ (nI b' < 0 ∨ 12 ≤ b') := fun q => hgb (by rw [hcb]; exact q)
    have hgw := ix_ok (j := w) (n := 6) (by omega) (by omega)
    have hcw : (nI w).toNatClampNeg = w := nI_clamp (by omega)
    have hgw2 : ¬ (nI w < 0 ∨ 6 ≤ w) := fun q => hgw (by rw [hcw]; exact q)
    have hb1 := bit_g (i := i) (by omega) (σ 40 4)
    have hb2 := rg_bit f g t n i hn (by omega)
    rw [← h40] at hb2
    by_cases c : si f g t i
    · have hr : fX6_rang σ (nI i) = some (0, σ) := by
        unfold fX6_rang
        rw [if_pos (fun q => hb1.mp q (hb2.mpr ⟨by omega, c⟩))]
      have e1 : fX2_ringAll_h46 sf (m + 1) σ (nI t) (nI i) = fX2_ringAll_h46 sf m σ (nI t) (nI (i + 1)) := by
        show fX2_ringAll_b46 _ _ _ _ _ = _
        unfold fX2_ringAll_b46 fX2_ringAll_b103
        simp only [og_t hgt, og_t hgt2, hct, ol]
        rw [hp.1, if_neg (nI_ge (by omega) (by omega)), hr]
        simp only [obp]
        rw [if_pos (by decide), nI_1]
      rw [e1]
      refine ih (i + 1) m σ (by omega) (by omega) (by omega) hp h40 (fun h hh => ?_)
      rw [hc h hh]
      show _ = rc f g t h i + (if _ then _ else _)
      rw [if_neg (fun q => q.1 c)]
      exact (Int32.add_zero _).symm
    · have hr : fX6_rang σ (nI i) = some (1, σ) := by
        unfold fX6_rang
        rw [if_neg (fun q => q (hb1.mpr (fun q2 => c (hb2.mp q2).2)))]
      have e1 : fX2_ringAll_h46 sf (m + 1) σ (nI t) (nI i) = fX2_ringAll_h46 sf m (su σ (49 + t) w (σ (49 + t) w + 1)) (nI t) (nI (i + 1)) := by
        show fX2_ringAll_b46 _ _ _ _ _ = _
        unfold fX2_ringAll_b46 fX2_ringAll_b103
        simp only [og_t hgt, og_t hgt2, hct, ol]
        rw [hp.1, if_neg (nI_ge (by omega) (by omega)), hr]
        simp only [obp]
        rw [if_neg (by decide)]
        simp only [Nat.one_mul, og_t hgi, og_t hgi2, hci, p1, og_t hgb, og_t hgb2, hcb, p2, g2, og_t hgw, og_t hgw2, hcw, nI_1]
      rw [e1]
      have o1 : ∀ x, x ≠ 49 + t → su σ (49 + t) w (σ (49 + t) w + 1) x = σ x := fun x hx => su_ne hx
      obtain ⟨τ, q1, q2, q3⟩ := ih (i + 1) m (su σ (49 + t) w (σ (49 + t) w + 1)) (by omega) (by omega) (by omega) (hp.lo ht (fun x hx => o1 x (by omega))) (by rw [o1 40 (by omega)]; exact h40) (fun h hh => by
        have g3 : f (5 * stk g t i) = nI w := by rw [hst]; exact g2
        show _ = rc f g t h i + (if _ then _ else _)
        by_cases cw : h = w
        · subst cw
          rw [su_s, hc h hh, if_pos ⟨c, g3⟩]
        · rw [su_j cw, hc h hh, if_neg (fun q => cw ((nI_eq (by omega) (by omega)).mp (q.2.symm.trans g3)))]
          exact (Int32.add_zero _).symm)
      exact ⟨τ, q1, fun x hx => (q2 x hx).trans (o1 x hx), q3⟩
def FT (f g : Nat → Int32) (t : Nat) (σ : S0) : Prop := σ 47 t = (rgn f g t).1 ∧ ∀ h, h < 6 → σ (49 + t) h = rc f g t h (ln g t)
theorem ringAll_l {H G B T : Nat} : ∀ (d t m : Nat) (σ : S0), T - t = d → t ≤ T → d < m → Rall σ H G B T → (∀ u, u < t → FT (σ 99) (σ 101) u σ) → ∃ τ, fX2_ringAll_h2 m σ (nI t) = some (0, τ) ∧ onlyE σ τ ∧ ∀ u, u < T → FT (σ 99) (σ 101) u τ := by
  intro d
  induction d with
  | zero =>
    intro t m σ h1 h2 h3 hr hw
    obtain ⟨m, rfl⟩ : ∃ q, m = q + 1 := ⟨m - 1, by omega⟩
    have hT := hr.1.1.2.2.2.2
    have : t = T := by omega
    subst this
    refine ⟨σ, ?_, onlyE.rf σ, hw⟩
    show fX2_ringAll_b2 _ _ _ = _
    unfold fX2_ringAll_b2
    rw [if_pos (show σ 22 2 ≤ nI t from by rw [hr.1.2.2.2.2]; exact nI_le (Nat.le_refl _) (by omega))]
  | succ d ih =>
    intro t m σ h1 h2 h3 hr hw
    obtain ⟨m, rfl⟩ : ∃ q, m = q + 1 := ⟨m - 1, by omega⟩
    have hT := hr.1.1.2.2.2.2
    have htT : t < T := by omega
    obtain ⟨ok, okp, l1, -⟩ := RT hr htT
    obtain ⟨ν, p1, p2, p3, p4, p5, p6⟩ := play_s hr htT
    have hgt := ix_ok (j := t) (n := 6) (by omega) (by omega)
    have hct : (nI t).toNatClampNeg = t := nI_clamp (by omega)
    have hgt2 : ¬ (nI t < 0 ∨ 6 ≤ t) := fun q => hgt (by rw [hct]; exact q)
    have z : ∀ x, x ≠ 47 → x ≠ 49 + t → flld (su ν 47 t (ν 40 2)) (49 + t) 0 6 0 x = ν x := fun x a b => by rw [flld_ne b, su_ne a]
    obtain ⟨τ, q1, q2, q3⟩ := ringI_l (σ 99) (σ 101) (fX2_ringAll_h2 m) (by omega) ok _ 0 400 (flld (su ν 47 t (ν 40 2)) (49 + t) 0 6 0) rfl (by omega) (by have := ok.1; omega) (okp.lo (by omega) (fun x hx => by rw [z x (by omega) (by omega), p2 x (by omega)])) (by rw [z 40 (by omega) (by omega)]; exact p5) (fun h hh => by rw [flld_in (by omega) hh]; rfl)
    have hf : onlyE σ τ := fun x hx => by rw [q2 x (by omega), z x (by omega) (by omega), p2 x (by omega)]
    have e99 := hf 99 (by omega)
    have e101 := hf 101 (by omega)
    obtain ⟨ρ, v1, v2, v3⟩ := ih (t + 1) m τ (by omega) (by omega) (by omega) (hr.cg hf.e) (fun u hu => by
      rw [e99, e101]
      by_cases q : u = t
      · subst q
        refine ⟨?_, q3⟩
        rw [q2 47 (by omega), flld_ne (by omega), su_s]
        exact p3
      · have := hw u (by omega)
        unfold FT at this ⊢
        rw [q2 47 (by omega), flld_ne (by omega), su_j q, p2 47 (by omega), q2 (49 + u) (by omega), z (49 + u) (by omega) (by omega), p2 (49 + u) (by omega)]
        exact this)
    rw [e99, e101] at v3
    refine ⟨ρ, ?_, hf.tr v2, v3⟩
    show fX2_ringAll_b2 _ _ _ = _
    unfold fX2_ringAll_b2
    rw [if_neg (show ¬ (σ 22 2 ≤ nI t) from by rw [hr.1.2.2.2.2]; exact nI_ge (by omega) (by omega)), p1]
    simp only [obp, ol, og_t hgt, og_t hgt2, hct, Nat.one_mul]
    rw [fill_all _ _ _ _ (by omega)]
    simp only [obp]
    rw [← v1]
    exact q1
theorem ringAll_s {σ : S0} {H G B T : Nat} (hr : Rall σ H G B T) : ∃ τ, fX2_ringAll σ = some (0, τ) ∧ onlyE σ τ ∧ ∀ u, u < T → FT (σ 99) (σ 101) u τ := ringAll_l T 0 400 σ (by omega) (by omega) (by have := hr.1.1.2.2.2.2; omega) hr (fun u hu => by omega)
/-- sums over the tunes of a set (bits) -/
def sm (F : Nat → Int32) (x : Int32) : Nat → Int32
  | 0 => 0
  | t + 1 => if bitp x t then sm F x t + F t else sm F x t
abbrev smr (f g : Nat → Int32) (h : Nat) (x : Int32) (T : Nat) : Int32 := sm (fun u => rc f g u h (ln g u)) x T
abbrev smc (f g : Nat → Int32) (x : Int32) (T : Nat) : Int32 := sm (fun u => (rgn f g u).1) x T
theorem strokesIn_l {f g : Nat → Int32} {σ : S0} {T h : Nat} (hT : T ≤ 6) (hh : h < 6) (e : σ 22 2 = nI T) (hF : ∀ u, u < T → FT f g u σ) (x : Int32) : ∀ (d t m : Nat), T - t = d → t ≤ T → d < m → fX2_strokesIn_h5 m σ x (nI h) (smr f g h x t) (nI t) = some (smr f g h x T, σ) := by
  have hgh := ix_ok (j := h) (n := 6) hh (by omega)
  have hch : (nI h).toNatClampNeg = h := nI_clamp (by omega)
  have hgh2 : ¬ (nI h < 0 ∨ 6 ≤ h) := fun q => hgh (by rw [hch]; exact q)
  intro d
  induction d with
  | zero =>
    intro t m h1 h2 h3
    obtain ⟨m, rfl⟩ : ∃ q, m = q + 1 := ⟨m - 1, by omega⟩
    have : t = T := by omega
    subst this
    show fX2_strokesIn_b5 _ _ _ _ _ _ = _
    unfold fX2_strokesIn_b5
    rw [if_pos (show σ 22 2 ≤ nI t from by rw [e]; exact nI_le (Nat.le_refl _) (by omega))]
  | succ d ih =>
    intro t m h1 h2 h3
    obtain ⟨m, rfl⟩ : ∃ q, m = q + 1 := ⟨m - 1, by omega⟩
    have hgt := ix_ok (j := t) (n := 6) (by omega) (by omega)
    have hct : (nI t).toNatClampNeg = t := nI_clamp (by omega)
    have hgt2 : ¬ (nI t < 0 ∨ 6 ≤ t) := fun q => hgt (by rw [hct]; exact q)
    have ih' := ih (t + 1) m (by omega) (by omega) (by omega)
    have hb := bit_g (i := t) (by omega) x
    have es : smr f g h x (t + 1) = if bitp x t then smr f g h x t + rc f g t h (ln g t) else smr f g h x t := rfl
    show fX2_strokesIn_b5 _ _ _ _ _ _ = _
    unfold fX2_strokesIn_b5 fX2_strokesIn_b38
    rw [if_neg (show ¬ (σ 22 2 ≤ nI t) from by rw [e]; exact nI_ge (by omega) (by omega))]
    simp only [og_t hgt, og_t hgt2, hct, ol, Nat.one_mul, og_t hgh, og_t hgh2, hch, nI_1, (hF t (by omega)).2 h hh]
    by_cases c : bitp x t
    · rw [if_neg (fun q => hb.mp q c)]
      rw [es, if_pos c] at ih'
      exact ih'
    · rw [if_pos (hb.mpr c)]
      rw [es, if_neg c] at ih'
      exact ih'
theorem strokesIn_s {f g : Nat → Int32} {σ : S0} {T h : Nat} (hT : T ≤ 6) (hh : h < 6) (e : σ 22 2 = nI T) (hF : ∀ u, u < T → FT f g u σ) (x : Int32) : fX2_strokesIn σ x (nI h) = some (smr f g h x T, σ) := strokesIn_l hT hh e hF x T 0 400 (by omega) (by omega) (by omega)
theorem costOf_l {f g : Nat → Int32} {σ : S0} {T : Nat} (hT : T ≤ 6) (e : σ 22 2 = nI T) (hF : ∀ u, u < T → FT f g u σ) (x : Int32) : ∀ (d t m : Nat), T - t = d → t ≤ T → d < m → fX2_costOf_h4 m σ x (smc f g x t) (nI t) = some (smc f g x T, σ) := by
  intro d
  induction d with
  | zero =>
    intro t m h1 h2 h3
    obtain ⟨m, rfl⟩ : ∃ q, m = q + 1 := ⟨m - 1, by omega⟩
    have : t = T := by omega
    subst this
    show fX2_costOf_b4 _ _ _ _ _ = _
    unfold fX2_costOf_b4
    rw [if_pos (show σ 22 2 ≤ nI t from by rw [e]; exact nI_le (Nat.le_refl _) (by omega))]
  | succ d ih =>
    intro t m h1 h2 h3
    obtain ⟨m, rfl⟩ : ∃ q, m = q + 1 := ⟨m - 1, by omega⟩
    have hgt := ix_ok (j := t) (n := 6) (by omega) (by omega)
    have hct : (nI t).toNatClampNeg = t := nI_clamp (by omega)
    have hgt2 : ¬ (nI t < 0 ∨ 6 ≤ t) := fun q => hgt (by rw [hct]; exact q)
    have ih' := ih (t + 1) m (by omega) (by omega) (by omega)
    have hb := bit_g (i := t) (by omega) x
    have es : smc f g x (t + 1) = if bitp x t then smc f g x t + (rgn f g t).1 else smc f g x t := rfl
    show fX2_costOf_b4 _ _ _ _ _ = _
    unfold fX2_costOf_b4 fX2_costOf_b32
    rw [if_neg (show ¬ (σ 22 2 ≤ nI t) from by rw [e]; exact nI_ge (by omega) (by omega))]
    simp only [og_t hgt, og_t hgt2, hct, ol, nI_1, (hF t (by omega)).1]
    by_cases c : bitp x t
    · rw [if_neg (fun q => hb.mp q c)]
      rw [es, if_pos c] at ih'
      exact ih'
    · rw [if_pos (hb.mpr c)]
      rw [es, if_neg c] at ih'
      exact ih'
theorem costOf_s {f g : Nat → Int32} {σ : S0} {T : Nat} (hT : T ≤ 6) (e : σ 22 2 = nI T) (hF : ∀ u, u < T → FT f g u σ) (x : Int32) : fX2_costOf σ x = some (smc f g x T, σ) := costOf_l hT e hF x T 0 400 (by omega) (by omega) (by omega)
theorem isWithin_l {f g : Nat → Int32} {σ : S0} {H T : Nat} (hH : H ≤ 6) (hT : T ≤ 6) (e0 : σ 22 0 = nI H) (e : σ 22 2 = nI T) (hF : ∀ u, u < T → FT f g u σ) (x y : Int32) : ∀ (d i m : Nat), H - i = d → i ≤ H → d < m → ∃ r, fX2_isWithin_h2 m σ x y (nI i) = some (r, σ) ∧ (r = 0 ∨ r = 1) ∧ (r = 1 ↔ ∀ h, i ≤ h → h < H → smr f g h x T ≤ y) := by
  intro d
  induction d with
  | zero =>
    intro i m h1 h2 h3
    obtain ⟨m, rfl⟩ : ∃ q, m = q + 1 := ⟨m - 1, by omega⟩
    have : i = H := by omega
    subst this
    refine ⟨1, ?_, Or.inr rfl, ⟨fun _ h a b => by omega, fun _ => rfl⟩⟩
    show fX2_isWithin_b2 _ _ _ _ _ = _
    unfold fX2_isWithin_b2
    rw [if_pos (show σ 22 0 ≤ nI i from by rw [e0]; exact nI_le (Nat.le_refl _) (by omega))]
  | succ d ih =>
    intro i m h1 h2 h3
    obtain ⟨m, rfl⟩ : ∃ q, m = q + 1 := ⟨m - 1, by omega⟩
    obtain ⟨r, r1, r2, r3⟩ := ih (i + 1) m (by omega) (by omega) (by omega)
    have e1 : fX2_isWithin_h2 (m + 1) σ x y (nI i) = if smr f g i x T ≤ y then fX2_isWithin_h2 m σ x y (nI (i + 1)) else some (0, σ) := by
      show fX2_isWithin_b2 _ _ _ _ _ = _
      unfold fX2_isWithin_b2
      rw [if_neg (show ¬ (σ 22 0 ≤ nI i) from by rw [e0]; exact nI_ge (by omega) (by omega)), strokesIn_s hT (by omega) e hF x]
      simp only [obp, ol, nI_1]
    rw [e1]
    by_cases c : smr f g i x T ≤ y
    · rw [if_pos c]
      refine ⟨r, r1, r2, r3.trans ⟨fun q h a b => ?_, fun q h a b => q h (by omega) b⟩⟩
      by_cases hi : h = i
      · subst hi; exact c
      · exact q h (by omega) b
    · rw [if_neg c]
      exact ⟨0, rfl, Or.inl rfl, ⟨fun q => absurd q (by decide), fun q => absurd (q i (Nat.le_refl _) (by omega)) c⟩⟩
end
section
/-! FEASTS: the reference's side, the choice -/
def onlyG (σ τ : S0) : Prop := ∀ k j, ¬ (k = 98 ∧ 24 ≤ j ∧ j ≤ 33) → k ≠ 105 → τ k j = σ k j
theorem onlyG.tr {a b c : S0} (h1 : onlyG a b) (h2 : onlyG b c) : onlyG a c := fun k j x y => (h2 k j x y).trans (h1 k j x y)
theorem onlyG.rf (a : S0) : onlyG a a := fun _ _ _ _ => rfl
theorem onlyG.c {a b : S0} (h : onlyG a b) {k : Nat} (h1 : k ≠ 98) (h2 : k ≠ 105) : b k = a k := funext fun j => h k j (fun q => h1 q.1) h2
theorem onlyG.e {a b : S0} (h : onlyG a b) : eqv a b := fun k j hr => h k j (fun q => by
  obtain ⟨rfl, q2, q3⟩ := q
  unfold rel at hr
  have := of_decide_eq_true hr
  omega) (fun q => by
  subst q
  unfold rel at hr
  have := of_decide_eq_true hr
  omega)
theorem onlyR.g {a b : S0} (h : onlyR a b) : onlyG a b := fun k j x y => h k j (fun q => x ⟨q.1, q.2.1, by omega⟩) y
theorem onlyG.su {a b : S0} (h : onlyG a b) {j : Nat} (hj : 24 ≤ j ∧ j ≤ 33) (v : Int32) : onlyG a (su b 98 j v) := fun k i x y => by
  rw [← h k i x y]
  by_cases hk : k = 98
  · subst hk
    exact su_j (fun q => x ⟨rfl, by omega, by omega⟩)
  · rw [su_ne hk]
theorem isFair_a {H : Nat} (hH : H ≤ 6) (y : Int32) {σ : S0} (e : σ 98 2 = nI H) : ∀ (d i m : Nat) (z : Int32), H - i = d → i ≤ H → d < m → (z = 0 ∨ z = 1) → ∃ r, fX11_isFair_h57 m σ y z (nI i) = some (r, σ) ∧ (r = 0 ∨ r = 1) ∧ (r = 1 ↔ z = 1 ∧ ∀ h, i ≤ h → h < H → σ 105 h ≤ y) := by
  intro d
  induction d with
  | zero =>
    intro i m z h1 h2 h3 hz
    obtain ⟨m, rfl⟩ : ∃ q, m = q + 1 := ⟨m - 1, by omega⟩
    have : i = H := by omega
    subst this
    refine ⟨z, ?_, hz, ⟨fun q => ⟨q, fun h a b => by omega⟩, fun q => q.1⟩⟩
    show fX11_isFair_b57 _ _ _ _ _ = _
    unfold fX11_isFair_b57
    rw [if_pos (show σ 98 2 ≤ nI i from by rw [e]; exact nI_le (Nat.le_refl _) (by omega)), og_t hz]
  | succ d ih =>
    intro i m z h1 h2 h3 hz
    obtain ⟨m, rfl⟩ : ∃ q, m = q + 1 := ⟨m - 1, by omega⟩
    have hone : ¬ (1 : Int32) = 0 := by decide
    have hzero : ¬ (0 : Int32) = 1 := by decide
    have e1 : fX11_isFair_h57 (m + 1) σ y z (nI i) = fX11_isFair_h57 m σ y (if z = 0 then 0 else if y < σ 105 i then 0 else 1) (nI (i + 1)) := by
      show fX11_isFair_b57 _ _ _ _ _ = _
      unfold fX11_isFair_b57 fX11_isFair_b85 fX11_isFair_b86
      rw [if_neg (show ¬ (σ 98 2 ≤ nI i) from by rw [e]; exact nI_ge (by omega) (by omega)), og_t (ix_ok (j := i) (n := 6) (by omega) (by omega)), nI_clamp (by omega)]
      simp only [ol, nI_1]
      by_cases c : z = 0
      · rw [if_pos c, if_pos c]
      · rw [if_neg c, if_neg c]
        by_cases c2 : y < σ 105 i
        · rw [if_pos c2, if_pos c2]
        · rw [if_neg c2, if_neg c2]
    rw [e1]
    by_cases c : z = 0
    · rw [if_pos c]
      obtain ⟨r, r1, r2, r3⟩ := ih (i + 1) m 0 (by omega) (by omega) (by omega) (Or.inl rfl)
      refine ⟨r, r1, r2, r3.trans ⟨fun q => absurd q.1 hzero, fun q => absurd (c.symm.trans q.1) hzero⟩⟩
    · have c' : z = 1 := hz.resolve_left c
      rw [if_neg c]
      by_cases c2 : y < σ 105 i
      · rw [if_pos c2]
        obtain ⟨r, r1, r2, r3⟩ := ih (i + 1) m 0 (by omega) (by omega) (by omega) (Or.inl rfl)
        refine ⟨r, r1, r2, r3.trans ⟨fun q => absurd q.1 hzero, fun q => absurd c2 (Int32.not_lt.mpr (q.2 i (Nat.le_refl _) (by omega)))⟩⟩
      · rw [if_neg c2]
        obtain ⟨r, r1, r2, r3⟩ := ih (i + 1) m 1 (by omega) (by omega) (by omega) (Or.inr rfl)
        refine ⟨r, r1, r2, r3.trans ⟨fun q => ⟨c', fun h a b => ?_⟩, fun q => ⟨rfl, fun h a b => q.2 h (by omega) b⟩⟩⟩
        by_cases hi : h = i
        · subst hi; exact Int32.not_lt.mp c2
        · exact q.2 h (by omega) b
theorem isFair_l (f g : Nat → Int32) {T : Nat} (hT : T ≤ 6) (x y : Int32) (ok : ∀ u, u < T → okT f g u (ln g u)) : ∀ (d t m : Nat) (σ : S0), T - t = d → t ≤ T → d < m → σ 99 = f → σ 101 = g → σ 98 5 = nI T → (∀ h, h < 6 → σ 105 h = smr f g h x t) → σ 98 32 = smc f g x t → ∃ τ, fX11_isFair_h11 m σ x y (nI t) = fX11_isFair_h57 400 τ y 1 0 ∧ onlyG σ τ ∧ τ 98 33 = σ 98 33 ∧ (∀ h, h < 6 → τ 105 h = smr f g h x T) ∧ τ 98 32 = smc f g x T := by
  intro d
  induction d with
  | zero =>
    intro t m σ h1 h2 h3 e1 e2 e3 s1 s2
    obtain ⟨m, rfl⟩ : ∃ q, m = q + 1 := ⟨m - 1, by omega⟩
    have : t = T := by omega
    subst this
    refine ⟨σ, ?_, onlyG.rf σ, rfl, s1, s2⟩
    show fX11_isFair_b11 _ _ _ _ _ = _
    unfold fX11_isFair_b11
    rw [if_pos (show σ 98 5 ≤ nI t from by rw [e3]; exact nI_le (Nat.le_refl _) (by omega))]
  | succ d ih =>
    intro t m σ h1 h2 h3 e1 e2 e3 s1 s2
    obtain ⟨m, rfl⟩ : ∃ q, m = q + 1 := ⟨m - 1, by omega⟩
    have es : ∀ h, smr f g h x (t + 1) = if bitp x t then smr f g h x t + rc f g t h (ln g t) else smr f g h x t := fun _ => rfl
    have ec : smc f g x (t + 1) = if bitp x t then smc f g x t + (rgn f g t).1 else smc f g x t := rfl
    by_cases c : bitp x t
    · obtain ⟨ν, q1, q2, q3, q4, q5, q6, q7⟩ := rings_s (σ := σ) (t := t) (n := ln g t) (by omega) (by rw [e1, e2]; exact ok t (by omega))
      have o : onlyG σ (su ν 98 32 (ν 98 32 + ν 98 24)) := onlyG.su q2.g (by omega) _
      obtain ⟨τ, t1, t2, t3, t4, t5⟩ := ih (t + 1) m (su ν 98 32 (ν 98 32 + ν 98 24)) (by omega) (by omega) (by omega) (by rw [o.c (by omega) (by omega), e1]) (by rw [o.c (by omega) (by omega), e2]) (by rw [o 98 5 (by omega) (by omega), e3]) (fun h hh => by rw [su_ne (by omega), q7 h hh, s1 h hh, es h, if_pos c, e1, e2]) (by rw [su_s, q2 98 32 (by omega) (by omega), s2, q3, ec, if_pos c, e1, e2])
      refine ⟨τ, ?_, o.tr t2, by rw [t3, su_j (by omega), q2 98 33 (by omega) (by omega)], t4, t5⟩
      show fX11_isFair_b11 _ _ _ _ _ = _
      unfold fX11_isFair_b11 fX11_isFair_b46
      rw [if_neg (show ¬ (σ 98 5 ≤ nI t) from by rw [e3]; exact nI_ge (by omega) (by omega)), if_neg (fun q => q c), q1]
      simp only [obp, ol, nI_1]
      exact t1
    · obtain ⟨τ, t1, t2, t3, t4, t5⟩ := ih (t + 1) m σ (by omega) (by omega) (by omega) e1 e2 e3 (fun h hh => by rw [s1 h hh, es h, if_neg c]) (by rw [s2, ec, if_neg c])
      refine ⟨τ, ?_, t2, t3, t4, t5⟩
      show fX11_isFair_b11 _ _ _ _ _ = _
      unfold fX11_isFair_b11 fX11_isFair_b46
      rw [if_neg (show ¬ (σ 98 5 ≤ nI t) from by rw [e3]; exact nI_ge (by omega) (by omega)), if_pos c]
      simp only [ol, nI_1]
      exact t1
theorem isFair_s {σ : S0} {H G B T : Nat} (hr : Rall σ H G B T) (x y : Int32) : ∃ r τ, fX11_isFair σ x y = some (r, τ) ∧ onlyG σ τ ∧ τ 98 33 = σ 98 33 ∧ (r = 0 ∨ r = 1) ∧ (r = 1 ↔ ∀ h, h < H → smr (σ 99) (σ 101) h x T ≤ y) ∧ τ 98 32 = smc (σ 99) (σ 101) x T := by
  obtain ⟨b1, b2, b3, b4, b5⟩ := hr.1.1
  have o : onlyG σ (su (nr σ 0) 98 32 0) := onlyG.su (fun k j _ hk => by rw [nr_ne hk]) (by omega) _
  obtain ⟨τ, t1, t2, t3, t4, t5⟩ := isFair_l (σ 99) (σ 101) b5 x y (fun u hu => (RT hr hu).1) T 0 400 (su (nr σ 0) 98 32 0) (by omega) (by omega) (by omega) (o.c (by omega) (by omega)) (o.c (by omega) (by omega)) (by rw [o 98 5 (by omega) (by omega)]; exact hr.1.2.1.2.2.2) (fun h hh => by rw [su_ne (by omega), nr_in hh]; rfl) (by rw [su_s]; rfl)
  have o2 := o.tr t2
  obtain ⟨r, r1, r2, r3⟩ := isFair_a b2 y (σ := τ) (by rw [o2 98 2 (by omega) (by omega)]; exact hr.1.2.1.1) H 0 400 1 (by omega) (by omega) (by omega) (Or.inr rfl)
  refine ⟨r, τ, ?_, o2, ?_, r2, r3.trans ⟨fun q h hh => ?_, fun q => ⟨rfl, fun h _ hh => ?_⟩⟩, t5⟩
  · unfold fX11_isFair
    rw [noRung_s]
    simp only [obp, ol]
    exact t1.trans r1
  · rw [t3, su_j (by omega), nr_ne (by omega)]
  · rw [← t4 h (by omega)]; exact q.2 h (by omega) hh
  · rw [t4 h (by omega)]; exact q h hh
/-- the choice among the first v sets: cost, set -/
def chz (f g : Nat → Int32) (H T : Nat) (n y : Int32) : Nat → Int32 × Int32
  | 0 => (99999, -4)
  | v + 1 => if pb (nI v) 12 = n ∧ (∀ h, h < H → smr f g h (nI v) T ≤ y) ∧ smc f g (nI v) T < (chz f g H T n y v).1 then (smc f g (nI v) T, nI v) else chz f g H T n y v
theorem pow_t : ∀ T : Fin 7, (1 : Int32) <<< (nI T.1 &&& 31) = nI (2 ^ T.1) := by decide
theorem pow_s {T : Nat} (h : T ≤ 6) : (1 : Int32) <<< (nI T &&& 31) = nI (2 ^ T) := pow_t ⟨T, by omega⟩
theorem pow_le {T : Nat} (h : T ≤ 6) : 2 ^ T ≤ 64 := Nat.pow_le_pow_right (n := 2) (by omega) h
theorem cheap_l {H G B T : Nat} (n y : Int32) (f g : Nat → Int32) : ∀ (d v m : Nat) (σ : S0), 2 ^ T - v = d → v ≤ 2 ^ T → d < m → Rall σ H G B T → σ 99 = f → σ 101 = g → σ 98 33 = (chz f g H T n y v).2 → ∃ τ, fX11_cheapest_h13 m σ n y (chz f g H T n y v).1 (nI v) = some ((chz f g H T n y (2 ^ T)).1, τ) ∧ onlyG σ τ ∧ τ 98 33 = (chz f g H T n y (2 ^ T)).2 := by
  intro d
  induction d with
  | zero =>
    intro v m σ h1 h2 h3 hr e1 e2 hs
    obtain ⟨m, rfl⟩ : ∃ q, m = q + 1 := ⟨m - 1, by omega⟩
    have hT := hr.1.1.2.2.2.2
    have hp := pow_le hT
    have : v = 2 ^ T := by omega
    subst this
    refine ⟨σ, ?_, onlyG.rf σ, hs⟩
    show fX11_cheapest_b13 _ _ _ _ _ _ = _
    unfold fX11_cheapest_b13
    rw [if_pos (show (1 : Int32) <<< (σ 98 5 &&& 31) ≤ nI (2 ^ T) from by rw [hr.1.2.1.2.2.2, pow_s hT]; exact nI_le (Nat.le_refl _) (by omega))]
  | succ d ih =>
    intro v m σ h1 h2 h3 hr e1 e2 hs
    obtain ⟨m, rfl⟩ : ∃ q, m = q + 1 := ⟨m - 1, by omega⟩
    have hT := hr.1.1.2.2.2.2
    have hp := pow_le hT
    have ez : chz f g H T n y (v + 1) = if pb (nI v) 12 = n ∧ (∀ h, h < H → smr f g h (nI v) T ≤ y) ∧ smc f g (nI v) T < (chz f g H T n y v).1 then (smc f g (nI v) T, nI v) else chz f g H T n y v := rfl
    have e0 : fX11_cheapest_h13 (m + 1) σ n y (chz f g H T n y v).1 (nI v) = fX11_cheapest_b13 (fX11_cheapest_h13 m) σ n y (chz f g H T n y v).1 (nI v) := rfl
    have g0 : ¬ (1 : Int32) <<< (σ 98 5 &&& 31) ≤ nI v := by rw [hr.1.2.1.2.2.2, pow_s hT]; exact nI_ge (by omega) (by omega)
    rw [e0]
    unfold fX11_cheapest_b13 fX11_cheapest_b62
    rw [if_neg g0, bitsOf_s]
    simp only [obp, ol, nI_1]
    by_cases c1 : pb (nI v) 12 = n
    · rw [if_neg (fun q => q c1)]
      obtain ⟨r, ν, r1, r2, r3, r4, r5, r6⟩ := isFair_s hr (nI v) y
      rw [e1, e2] at r5 r6
      rw [r1]
      simp only
      have hν := hr.cg r2.e
      have ν1 : ν 99 = f := (r2.c (by omega) (by omega)).trans e1
      have ν2 : ν 101 = g := (r2.c (by omega) (by omega)).trans e2
      by_cases c2 : r = 0
      · rw [if_pos c2]
        have c2' : ¬ ∀ h, h < H → smr f g h (nI v) T ≤ y := fun q => by
          have := r5.mpr q
          rw [c2] at this
          exact absurd this (by decide)
        rw [if_neg (fun q => c2' q.2.1)] at ez
        obtain ⟨τ, t1, t2, t3⟩ := ih (v + 1) m ν (by omega) (by omega) (by omega) hν ν1 ν2 (by rw [r3, hs, ez])
        rw [ez] at t1
        exact ⟨τ, t1, r2.tr t2, t3⟩
      · rw [if_neg c2]
        have c2' := r5.mp (r4.resolve_left c2)
        rw [r6]
        by_cases c3 : (chz f g H T n y v).1 ≤ smc f g (nI v) T
        · rw [if_pos c3]
          rw [if_neg (fun q => absurd q.2.2 (Int32.not_lt.mpr c3))] at ez
          obtain ⟨τ, t1, t2, t3⟩ := ih (v + 1) m ν (by omega) (by omega) (by omega) hν ν1 ν2 (by rw [r3, hs, ez])
          rw [ez] at t1
          exact ⟨τ, t1, r2.tr t2, t3⟩
        · rw [if_neg c3]
          rw [if_pos ⟨c1, c2', Int32.not_le.mp c3⟩] at ez
          have o := onlyG.su (onlyG.rf ν) (j := 33) (by omega) (nI v)
          obtain ⟨τ, t1, t2, t3⟩ := ih (v + 1) m (su ν 98 33 (nI v)) (by omega) (by omega) (by omega) (hν.cg o.e) ((o.c (by omega) (by omega)).trans ν1) ((o.c (by omega) (by omega)).trans ν2) (by rw [su_s, ez])
          rw [ez] at t1
          exact ⟨τ, t1, (r2.tr o).tr t2, t3⟩
    · rw [if_pos c1]
      rw [if_neg (fun q => c1 q.1)] at ez
      obtain ⟨τ, t1, t2, t3⟩ := ih (v + 1) m σ (by omega) (by omega) (by omega) hr e1 e2 (by rw [hs, ez])
      rw [ez] at t1
      exact ⟨τ, t1, t2, t3⟩
theorem cheap_s {σ : S0} {H G B T : Nat} (hr : Rall σ H G B T) (n y : Int32) : ∃ τ, fX11_cheapest σ n y = some ((chz (σ 99) (σ 101) H T n y (2 ^ T)).1, τ) ∧ onlyG σ τ ∧ τ 98 33 = (chz (σ 99) (σ 101) H T n y (2 ^ T)).2 := by
  have hT := hr.1.1.2.2.2.2
  have hp := pow_le hT
  have o := onlyG.su (onlyG.rf σ) (j := 33) (by omega) (-4)
  obtain ⟨τ, t1, t2, t3⟩ := cheap_l n y (σ 99) (σ 101) (2 ^ T) 0 400 (su σ 98 33 (-4)) rfl (Nat.zero_le _) (by omega) (hr.cg o.e) (o.c (by omega) (by omega)) (o.c (by omega) (by omega)) (by rw [su_s]; rfl)
  exact ⟨τ, t1, o.tr t2, t3⟩
/-- the class's choice against chz -/
def crel (c : Int32 × Int32) (σ : S0) : Prop := (c = (99999, -4) ∧ σ 46 5 = 0) ∨ ∃ k, 1 ≤ k ∧ k < 64 ∧ c.2 = nI k ∧ σ 46 5 = nI k ∧ σ 46 4 = c.1
theorem FT.o {f g : Nat → Int32} {t : Nat} {a b : S0} (h : FT f g t a) (ht : t < 6) (o : ∀ x, x ≠ 46 → b x = a x) : FT f g t b := by
  unfold FT at h ⊢
  rw [o 47 (by omega), o (49 + t) (by omega)]
  exact h
theorem chooseF_l {f g : Nat → Int32} {H T : Nat} (hH : H ≤ 6) (hT : T ≤ 6) (n y y2 : Int32) (hy : ∀ v, v < 64 → ((∀ h, h < H → smr f g h (nI v) T ≤ y2) ↔ ∀ h, h < H → smr f g h (nI v) T ≤ y)) (hc : ∀ x, smc f g x T < 99999) : ∀ (d v m : Nat) (σ : S0), 2 ^ T - v = d → 1 ≤ v → v ≤ 2 ^ T → d < m → σ 22 0 = nI H → σ 22 2 = nI T → (∀ u, u < T → FT f g u σ) → crel (chz f g H T n y v) σ → ∃ τ, fX2_choose_h11 m σ n y2 (nI v) = some (0, τ) ∧ (∀ x, x ≠ 46 → τ x = σ x) ∧ crel (chz f g H T n y (2 ^ T)) τ := by
  have hp := pow_le hT
  intro d
  induction d with
  | zero =>
    intro v m σ h1 h0 h2 h3 e0 e hF hs
    obtain ⟨m, rfl⟩ : ∃ q, m = q + 1 := ⟨m - 1, by omega⟩
    have : v = 2 ^ T := by omega
    subst this
    refine ⟨σ, ?_, fun _ _ => rfl, hs⟩
    show fX2_choose_b11 _ _ _ _ _ = _
    unfold fX2_choose_b11
    rw [if_pos (show (1 : Int32) <<< (σ 22 2 &&& 31) ≤ nI (2 ^ T) from by rw [e, pow_s hT]; exact nI_le (Nat.le_refl _) (by omega))]
  | succ d ih =>
    intro v m σ h1 h0 h2 h3 e0 e hF hs
    obtain ⟨m, rfl⟩ : ∃ q, m = q + 1 := ⟨m - 1, by omega⟩
    have ez : chz f g H T n y (v + 1) = if pb (nI v) 12 = n ∧ (∀ h, h < H → smr f g h (nI v) T ≤ y) ∧ smc f g (nI v) T < (chz f g H T n y v).1 then (smc f g (nI v) T, nI v) else chz f g H T n y v := rfl
    have ee : fX2_choose_h11 (m + 1) σ n y2 (nI v) = fX2_choose_b11 (fX2_choose_h11 m) σ n y2 (nI v) := rfl
    have g0 : ¬ (1 : Int32) <<< (σ 22 2 &&& 31) ≤ nI v := by rw [e, pow_s hT]; exact nI_ge (by omega) (by omega)
    obtain ⟨r, r1, r2, r3⟩ := isWithin_l hH hT e0 e hF (nI v) y2 H 0 400 (by omega) (by omega) (by omega)
    have r1' : fX2_isWithin σ (nI v) y2 = some (r, σ) := r1
    have r3' : r = 1 ↔ ∀ h, h < H → smr f g h (nI v) T ≤ y := r3.trans (Iff.trans ⟨fun q h b => q h (by omega) b, fun q h _ b => q h b⟩ (hy v (by omega)))
    rw [ee]
    unfold fX2_choose_b11 fX2_choose_b64 fX2_choose_b75
    rw [if_neg g0, bcf_s, show bcf (nI v) = pb (nI v) 12 from bcf_t ⟨v, by omega⟩]
    simp only [obp, ol, nI_1]
    have keep : chz f g H T n y (v + 1) = chz f g H T n y v → ∃ τ, fX2_choose_h11 m σ n y2 (nI (v + 1)) = some (0, τ) ∧ (∀ x, x ≠ 46 → τ x = σ x) ∧ crel (chz f g H T n y (2 ^ T)) τ := fun q => ih (v + 1) m σ (by omega) (by omega) (by omega) (by omega) e0 e hF (by rw [q]; exact hs)
    have take : chz f g H T n y (v + 1) = (smc f g (nI v) T, nI v) → ∃ τ, fX2_choose_h11 m (su (su σ 46 5 (nI v)) 46 4 (smc f g (nI v) T)) n y2 (nI (v + 1)) = some (0, τ) ∧ (∀ x, x ≠ 46 → τ x = σ x) ∧ crel (chz f g H T n y (2 ^ T)) τ := fun q => by
      have o : ∀ x, x ≠ 46 → su (su σ 46 5 (nI v)) 46 4 (smc f g (nI v) T) x = σ x := fun x hx => by rw [su_ne hx, su_ne hx]
      obtain ⟨τ, t1, t2, t3⟩ := ih (v + 1) m (su (su σ 46 5 (nI v)) 46 4 (smc f g (nI v) T)) (by omega) (by omega) (by omega) (by omega) (by rw [o 22 (by omega)]; exact e0) (by rw [o 22 (by omega)]; exact e) (fun u hu => (hF u hu).o (by omega) o) (by rw [q]; exact Or.inr ⟨v, h0, by omega, rfl, by rw [su_j (by omega), su_s], su_s⟩)
      exact ⟨τ, t1, fun x hx => (t2 x hx).trans (o x hx), t3⟩
    by_cases c1 : pb (nI v) 12 = n
    · rw [if_neg (fun q => q c1), r1']
      simp only
      by_cases c2 : r = 0
      · rw [if_pos c2]
        have c2' : ¬ ∀ h, h < H → smr f g h (nI v) T ≤ y := fun q => by
          have := r3'.mpr q
          rw [c2] at this
          exact absurd this (by decide)
        exact keep (ez.trans (if_neg (fun q => c2' q.2.1)))
      · rw [if_neg c2, costOf_s hT e hF]
        simp only
        have c2' := r3'.mp (r2.resolve_left c2)
        rcases hs with ⟨s1, s2⟩ | ⟨k, k1, k2, k3, k4, k5⟩
        · rw [if_pos s2]
          exact take (ez.trans (if_pos ⟨c1, c2', by rw [s1]; exact hc _⟩))
        · rw [if_neg (show ¬ σ 46 5 = 0 from by rw [k4]; exact nI_ne0 (by omega) (by omega)), k5]
          by_cases c3 : (chz f g H T n y v).1 ≤ smc f g (nI v) T
          · rw [if_pos c3]
            exact keep (ez.trans (if_neg (fun q => absurd q.2.2 (Int32.not_lt.mpr c3))))
          · rw [if_neg c3]
            exact take (ez.trans (if_pos ⟨c1, c2', Int32.not_le.mp c3⟩))
    · rw [if_pos c1]
      exact keep (ez.trans (if_neg (fun q => c1 q.1)))
/-! bounds -/
theorem rc_b (f g : Nat → Int32) (t h : Nat) : ∀ i, ∃ c, c ≤ i ∧ rc f g t h i = nI c
  | 0 => ⟨0, by omega, rfl⟩
  | i + 1 => by
    obtain ⟨c, h1, h2⟩ := rc_b f g t h i
    unfold rc
    by_cases q : ¬ sil f (stk g t i) (rg f g t i).2.2.2.2 ∧ f (5 * stk g t i) = nI h
    · rw [if_pos q, h2, nI_1]
      exact ⟨c + 1, by omega, rfl⟩
    · rw [if_neg q, h2]
      exact ⟨c, by omega, Int32.add_zero _⟩
theorem rg_b {f g : Nat → Int32} {t n : Nat} (hf : ∀ i, i < n → ∃ c, c ≤ 20 ∧ f (5 * stk g t i + 1) = nI c) : ∀ i, i ≤ n → ∃ c, c ≤ 20 * i ∧ (rg f g t i).1 = nI c
  | 0, _ => ⟨0, by omega, rfl⟩
  | i + 1, hi => by
    obtain ⟨c, h1, h2⟩ := rg_b hf i (by omega)
    obtain ⟨c2, h3, h4⟩ := hf i (by omega)
    unfold rg
    by_cases q : sil f (stk g t i) (rg f g t i).2.2.2.2
    · rw [if_pos q]
      exact ⟨c, by omega, h2⟩
    · rw [if_neg q]
      refine ⟨c + c2, by omega, ?_⟩
      show (rg f g t i).1 + f (5 * stk g t i + 1) = _
      rw [h2, h4, nI_add]
theorem sm_b {F : Nat → Int32} {K : Nat} (x : Int32) : ∀ T, (∀ u, u < T → ∃ c, c ≤ K ∧ F u = nI c) → ∃ c, c ≤ K * T ∧ sm F x T = nI c
  | 0, _ => ⟨0, by omega, rfl⟩
  | T + 1, hF => by
    obtain ⟨c, h1, h2⟩ := sm_b x T (fun u hu => hF u (by omega))
    obtain ⟨c2, h3, h4⟩ := hF T (by omega)
    have hK : K * (T + 1) = K * T + K := Nat.mul_succ _ _
    unfold sm
    by_cases q : bitp x T
    · rw [if_pos q, h2, h4, nI_add]
      exact ⟨c + c2, by omega, rfl⟩
    · rw [if_neg q]
      exact ⟨c, by omega, h2⟩
theorem smr_b {σ : S0} {H G B T : Nat} (hr : Rall σ H G B T) (h : Nat) (x : Int32) : ∃ c, c ≤ 72 ∧ smr (σ 99) (σ 101) h x T = nI c := by
  have hT := hr.1.1.2.2.2.2
  obtain ⟨c, h1, h2⟩ := sm_b (F := fun u => rc (σ 99) (σ 101) u h (ln (σ 101) u)) (K := 12) x T (fun u hu => by
    obtain ⟨c, a, b⟩ := rc_b (σ 99) (σ 101) u h (ln (σ 101) u)
    exact ⟨c, by have := (RT hr hu).1.1; omega, b⟩)
  exact ⟨c, by omega, h2⟩
theorem smc_b {σ : S0} {H G B T : Nat} (hr : Rall σ H G B T) (x : Int32) : smc (σ 99) (σ 101) x T < 99999 := by
  have hT := hr.1.1.2.2.2.2
  obtain ⟨c, h1, h2⟩ := sm_b (F := fun u => (rgn (σ 99) (σ 101) u).1) (K := 240) x T (fun u hu => by
    obtain ⟨c, a, b⟩ := rg_b (f := σ 99) (g := σ 101) (t := u) (n := ln (σ 101) u) (fun i hi => by
      have := (hr.2.2.1.2.1 _ (stk_B hr hu i hi)).2.1
      simpa using this) _ (Nat.le_refl _)
    exact ⟨c, by have := (RT hr hu).1.1; omega, b⟩)
  have h2' : smc (σ 99) (σ 101) x T = nI c := h2
  rw [h2']
  exact nI_lt (b := 99999) (by omega) (by omega)
/-- a feast by a bound, on both sides -/
theorem fair_s {σ : S0} {H G B T : Nat} (hr : Rall σ H G B T) {n : Int32} (hn : ¬ n = 0) (y y2 : Int32) (hy : ∀ v, v < 64 → ((∀ h, h < H → smr (σ 99) (σ 101) h (nI v) T ≤ y2) ↔ ∀ h, h < H → smr (σ 99) (σ 101) h (nI v) T ≤ y)) : ∃ τ ρ, fX2_choose σ n y2 = some (0, τ) ∧ onlyE σ τ ∧ ∃ c : Int32 × Int32, fX11_cheapest τ n y = some (c.1, ρ) ∧ onlyG τ ρ ∧ ρ 98 33 = c.2 ∧ crel c τ := by
  obtain ⟨b1, b2, b3, b4, b5⟩ := hr.1.1
  have hp := pow_le b5
  have hp1 : 1 ≤ 2 ^ T := Nat.one_le_two_pow
  obtain ⟨ν, p1, p2, p3⟩ := ringAll_s hr
  have o : ∀ x, x ≠ 46 → su ν 46 5 0 x = ν x := fun x hx => su_ne hx
  have z0 : chz (σ 99) (σ 101) H T n y 1 = (99999, -4) := by
    show (if _ then _ else _) = _
    rw [if_neg (fun q => hn (q.1.symm.trans (by decide)))]
    rfl
  obtain ⟨τ, t1, t2, t3⟩ := chooseF_l b2 b5 n y y2 hy (smc_b hr) (2 ^ T - 1) 1 400 (su ν 46 5 0) rfl (by omega) hp1 (by omega) (by rw [o 22 (by omega), p2 22 (by omega)]; exact hr.1.2.2.1) (by rw [o 22 (by omega), p2 22 (by omega)]; exact hr.1.2.2.2.2) (fun u hu => (p3 u hu).o (by omega) o) (by rw [z0]; exact Or.inl ⟨rfl, su_s⟩)
  have hF : onlyE σ τ := fun x hx => by rw [t2 x (by omega), o x (by omega), p2 x hx]
  obtain ⟨ρ, q1, q2, q3⟩ := cheap_s (hr.cg hF.e) n y
  rw [hF 99 (by omega), hF 101 (by omega)] at q1 q3
  refine ⟨τ, ρ, ?_, hF, _, q1, q2, q3, t3⟩
  unfold fX2_choose
  rw [p1]
  simp only [obp, ol]
  exact t1
theorem fair_e {σ : S0} {H G B T : Nat} (hr : Rall σ H G B T) {n : Int32} (hn : ¬ n = 0) (y y2 x3 : Int32) (hy : ∀ v, v < 64 → ((∀ h, h < H → smr (σ 99) (σ 101) h (nI v) T ≤ y2) ↔ ∀ h, h < H → smr (σ 99) (σ 101) h (nI v) T ≤ y)) : An (obp (fX2_choose σ n y2) (fun r7 σ8 => if ¬ (σ8 46 5) = 0 then (if ¬ x3 = 0 then (some (σ8 46 5, σ8)) else (some (σ8 46 4, σ8))) else (some ((-4), σ8)))) (fun r τ => An (obp (fX11_cheapest τ n y) (fun r13 σ14 => if ¬ (σ14 98 33) = ((-4)) then (if ¬ x3 = 0 then (some (σ14 98 33, σ14)) else (some (r13, σ14))) else (some ((-4), σ14)))) (fun q ρ => r = q ∧ R ρ ∧ onlyE σ τ)) := by
  obtain ⟨τ, ρ, t1, t2, c, q1, q2, q3, q4⟩ := fair_s hr hn y y2 hy
  have hR : R ρ := ⟨H, G, B, T, (hr.cg t2.e).cg q2.e⟩
  rcases q4 with ⟨s1, s2⟩ | ⟨k, k1, k2, k3, k4, k5⟩
  · refine ⟨-4, τ, ?_, -4, ρ, ?_, rfl, hR, t2⟩
    · rw [t1]
      simp only [obp]
      rw [if_neg (fun q => q s2)]
    · rw [q1]
      simp only [obp]
      rw [if_neg (fun q => q (by rw [q3, s1]))]
  · have n5 : ¬ τ 46 5 = 0 := by rw [k4]; exact nI_ne0 (by omega) (by omega)
    have n4 : ¬ ρ 98 33 = -4 := by rw [q3, k3]; exact nI_m4 (by omega)
    by_cases cx : x3 = 0
    · refine ⟨c.1, τ, ?_, c.1, ρ, ?_, rfl, hR, t2⟩
      · rw [t1]
        simp only [obp]
        rw [if_pos n5, if_neg (fun q => q cx), k5]
      · rw [q1]
        simp only [obp]
        rw [if_pos n4, if_neg (fun q => q cx)]
    · refine ⟨nI k, τ, ?_, nI k, ρ, ?_, rfl, hR, t2⟩
      · rw [t1]
        simp only [obp]
        rw [if_pos n5, if_pos cx, k4]
      · rw [q1]
        simp only [obp]
        rw [if_pos n4, if_pos cx, q3, k3]
theorem fairX_c (σ : S0) (x1 x2 x3 : Int32) : fX10_fair σ x1 x2 x3 = if (1 ≤ x1.toInt ∧ x1.toInt ≤ 6) ∧ (0 ≤ x2.toInt ∧ x2.toInt ≤ 72) ∧ 0 ≤ x3.toInt ∧ x3.toInt ≤ 1 then (obp (fX2_choose σ x1 x2) (fun r7 σ8 => if ¬ (σ8 46 5) = 0 then (if ¬ x3 = 0 then (some (σ8 46 5, σ8)) else (some (σ8 46 4, σ8))) else (some ((-4), σ8)))) else some (-1, σ) := by
  unfold fX10_fair
  have a1 : x1 < 1 ↔ x1.toInt < 1 := i3_lt _ _
  have a2 : (6 : Int32) < x1 ↔ 6 < x1.toInt := i3_lt _ _
  have a3 : x2 < 0 ↔ x2.toInt < 0 := i3_lt _ _
  have a4 : (72 : Int32) < x2 ↔ 72 < x2.toInt := i3_lt _ _
  have a5 : x3 < 0 ↔ x3.toInt < 0 := i3_lt _ _
  have a6 : x3 ≤ 1 ↔ x3.toInt ≤ 1 := i3_le _ _
  by_cases c1 : x1 < 1
  · rw [if_pos c1, if_neg (fun q => by have := a1.mp c1; omega)]
  · rw [if_neg c1]
    by_cases c2 : (6 : Int32) < x1
    · rw [if_pos c2, if_neg (fun q => by have := a2.mp c2; omega)]
    · rw [if_neg c2]
      by_cases c3 : x2 < 0
      · rw [if_pos c3, if_neg (fun q => by have := a3.mp c3; omega)]
      · rw [if_neg c3]
        by_cases c4 : (72 : Int32) < x2
        · rw [if_pos c4, if_neg (fun q => by have := a4.mp c4; omega)]
        · rw [if_neg c4]
          by_cases c5 : x3 < 0
          · rw [if_pos c5, if_neg (fun q => by have := a5.mp c5; omega)]
          · rw [if_neg c5]
            by_cases c6 : x3 ≤ 1
            · rw [if_pos c6, if_pos]
              rw [a1] at c1
              rw [a2] at c2
              rw [a3] at c3
              rw [a4] at c4
              rw [a5] at c5
              rw [a6] at c6
              omega
            · rw [if_neg c6, if_neg (fun q => c6 (a6.mpr q.2.2.2))]
theorem n1_ne0 {x : Int32} (h : 1 ≤ x.toInt) : ¬ x = 0 := fun q => by
  rw [q] at h
  exact absurd h (by decide)
theorem sim_fair (x1 x2 x3 : Int32) : Sim (fun σ => fX10_fair σ x1 x2 x3) (fun σ => fX11_fair σ x1 x2 x3) := by
  intro σ hR
  show An (fX10_fair σ x1 x2 x3) (fun r τ => An (fX11_fair τ x1 x2 x3) (fun q ρ => r = q ∧ R ρ))
  obtain ⟨H, G, B, T, h⟩ := id hR
  rw [fairX_c]
  have em : ∀ τ : S0, fX11_fair τ x1 x2 x3 = if (1 ≤ x1.toInt ∧ x1.toInt ≤ 6) ∧ (0 ≤ x2.toInt ∧ x2.toInt ≤ 72) ∧ 0 ≤ x3.toInt ∧ x3.toInt ≤ 1 then (obp (fX11_cheapest τ x1 x2) (fun r13 σ14 => if ¬ (σ14 98 33) = ((-4)) then (if ¬ x3 = 0 then (some (σ14 98 33, σ14)) else (some (r13, σ14))) else (some ((-4), σ14)))) else some (-1, τ) := fun τ => by
    unfold fX11_fair
    rw [in_i τ x1 1 6 1 6 rfl rfl]
    simp only [obp]
    by_cases c1 : 1 ≤ x1.toInt ∧ x1.toInt ≤ 6
    · rw [if_pos c1, if_neg (by decide), in_i τ x2 0 72 0 72 rfl rfl]
      simp only
      by_cases c2 : 0 ≤ x2.toInt ∧ x2.toInt ≤ 72
      · rw [if_pos c2, if_neg (by decide), in_i τ x3 0 1 0 1 rfl rfl]
        simp only
        by_cases c3 : 0 ≤ x3.toInt ∧ x3.toInt ≤ 1
        · rw [if_pos c3, if_pos (by decide), if_pos ⟨c1, c2, c3⟩]
        · rw [if_neg c3, if_neg (by decide), if_neg (fun q => c3 q.2.2)]
      · rw [if_neg c2, if_pos rfl, if_neg (fun q => c2 q.2.1)]
    · rw [if_neg c1, if_pos rfl, if_neg (fun q => c1 q.1)]
  by_cases c : (1 ≤ x1.toInt ∧ x1.toInt ≤ 6) ∧ (0 ≤ x2.toInt ∧ x2.toInt ≤ 72) ∧ 0 ≤ x3.toInt ∧ x3.toInt ≤ 1
  · rw [if_pos c]
    refine (fair_e h (n1_ne0 c.1.1) x2 x2 x3 (fun v _ => Iff.rfl)).mono (fun r τ q => ?_)
    rw [em τ, if_pos c]
    exact q.mono (fun _ _ z => ⟨z.1, z.2.1⟩)
  · rw [if_neg c]
    exact ⟨_, σ, rfl, _, σ, (em σ).trans (if_neg c), rfl, hR⟩
theorem sim_feast (x1 x3 : Int32) : Sim (fun σ => fX10_feast σ x1 x3) (fun σ => fX11_feast σ x1 x3) := by
  intro σ hR
  show An (fX10_feast σ x1 x3) (fun r τ => An (fX11_feast τ x1 x3) (fun q ρ => r = q ∧ R ρ))
  obtain ⟨H, G, B, T, h⟩ := id hR
  have e72 : (72 : Int32).toInt = 72 := rfl
  have ex : fX10_feast σ x1 x3 = fX10_fair σ x1 72 x3 := by
    unfold fX10_feast
    cases fX10_fair σ x1 72 x3 <;> rfl
  rw [ex, fairX_c]
  have em : ∀ τ : S0, fX11_feast τ x1 x3 = if (1 ≤ x1.toInt ∧ x1.toInt ≤ 6) ∧ 0 ≤ x3.toInt ∧ x3.toInt ≤ 1 then (obp (fX11_cheapest τ x1 99999) (fun r13 σ14 => if ¬ (σ14 98 33) = ((-4)) then (if ¬ x3 = 0 then (some (σ14 98 33, σ14)) else (some (r13, σ14))) else (some ((-4), σ14)))) else some (-1, τ) := fun τ => by
    unfold fX11_feast
    rw [in_i τ x1 1 6 1 6 rfl rfl]
    simp only [obp]
    by_cases c1 : 1 ≤ x1.toInt ∧ x1.toInt ≤ 6
    · rw [if_pos c1, if_neg (by decide), in_i τ x3 0 1 0 1 rfl rfl]
      simp only
      by_cases c3 : 0 ≤ x3.toInt ∧ x3.toInt ≤ 1
      · rw [if_pos c3, if_pos (by decide), if_pos ⟨c1, c3⟩]
      · rw [if_neg c3, if_neg (by decide), if_neg (fun q => c3 q.2)]
    · rw [if_neg c1, if_pos rfl, if_neg (fun q => c1 q.1)]
  by_cases c : (1 ≤ x1.toInt ∧ x1.toInt ≤ 6) ∧ 0 ≤ x3.toInt ∧ x3.toInt ≤ 1
  · rw [if_pos ⟨c.1, by omega, c.2⟩]
    refine (fair_e h (n1_ne0 c.1.1) 99999 72 x3 (fun v _ => ⟨fun _ w _ => ?_, fun _ w _ => ?_⟩)).mono (fun r τ q => ?_)
    · obtain ⟨k, k1, k2⟩ := smr_b h w (nI v)
      rw [k2]
      exact nI_le (b := 99999) (by omega) (by omega)
    · obtain ⟨k, k1, k2⟩ := smr_b h w (nI v)
      rw [k2]
      exact nI_le (b := 72) (by omega) (by omega)
    · rw [em τ, if_pos c]
      exact q.mono (fun _ _ z => ⟨z.1, z.2.1⟩)
  · rw [if_neg (fun q => c ⟨q.1, q.2.2⟩)]
    exact ⟨_, σ, rfl, _, σ, (em σ).trans (if_neg c), rfl, hR⟩
end
section
/-! WINE -/
theorem full_t : ∀ T : Fin 7, ∀ t : Fin 7, t.1 < T.1 → bitp ((1 : Int32) <<< (nI T.1 &&& 31) - 1) t.1 := by decide
abbrev fullb (T : Nat) : Int32 := (1 : Int32) <<< (nI T &&& 31) - 1
abbrev sw (f g : Nat → Int32) (T h : Nat) : Int32 := smr f g h (fullb T) T
theorem strokesOf_s {f g : Nat → Int32} {σ : S0} {T h : Nat} (hT : T ≤ 6) (hh : h < 6) (e : σ 22 2 = nI T) (hF : ∀ u, u < T → FT f g u σ) : fX2_strokesOf σ (nI h) = some (sw f g T h, σ) := by
  unfold fX2_strokesOf
  rw [e, strokesIn_s hT hh (by rw [e]) hF]
  rfl
theorem wineM_a (f g : Nat → Int32) {T : Nat} (hT : T ≤ 6) (x1 x2 : Int32) (ok : ∀ u, u < T → okT f g u (ln g u)) : ∀ (d t m : Nat) (σ : S0), T - t = d → t ≤ T → d < m → σ 99 = f → σ 101 = g → σ 98 5 = nI T → (∀ h, h < 6 → σ 105 h = smr f g h (fullb T) t) → ∃ τ, fX11_wine_h28 m σ x1 x2 (nI t) = fX11_wine_h52 400 τ x1 x2 0 0 ∧ onlyG σ τ ∧ ∀ h, h < 6 → τ 105 h = sw f g T h := by
  intro d
  induction d with
  | zero =>
    intro t m σ h1 h2 h3 e1 e2 e3 s1
    obtain ⟨m, rfl⟩ : ∃ q, m = q + 1 := ⟨m - 1, by omega⟩
    have : t = T := by omega
    subst this
    refine ⟨σ, ?_, onlyG.rf σ, s1⟩
    show fX11_wine_b28 _ _ _ _ _ = _
    unfold fX11_wine_b28
    rw [if_pos (show σ 98 5 ≤ nI t from by rw [e3]; exact nI_le (Nat.le_refl _) (by omega))]
  | succ d ih =>
    intro t m σ h1 h2 h3 e1 e2 e3 s1
    obtain ⟨m, rfl⟩ : ∃ q, m = q + 1 := ⟨m - 1, by omega⟩
    have c : bitp (fullb T) t := full_t ⟨T, by omega⟩ ⟨t, by omega⟩ (by show t < T; omega)
    have es : ∀ h, smr f g h (fullb T) (t + 1) = if bitp (fullb T) t then smr f g h (fullb T) t + rc f g t h (ln g t) else smr f g h (fullb T) t := fun _ => rfl
    obtain ⟨ν, q1, q2, q3, q4, q5, q6, q7⟩ := rings_s (σ := σ) (t := t) (n := ln g t) (by omega) (by rw [e1, e2]; exact ok t (by omega))
    obtain ⟨τ, t1, t2, t3⟩ := ih (t + 1) m ν (by omega) (by omega) (by omega) (by rw [q2.c (by omega) (by omega), e1]) (by rw [q2.c (by omega) (by omega), e2]) (by rw [q2 98 5 (by omega) (by omega), e3]) (fun h hh => by rw [q7 h hh, s1 h hh, es h, if_pos c, e1, e2])
    refine ⟨τ, ?_, q2.g.tr t2, t3⟩
    show fX11_wine_b28 _ _ _ _ _ = _
    unfold fX11_wine_b28
    rw [if_neg (show ¬ (σ 98 5 ≤ nI t) from by rw [e3]; exact nI_ge (by omega) (by omega)), q1]
    simp only [obp, ol, nI_1]
    exact t1
/-- all strokes that ring, of the first i houses -/
def al (F : Nat → Int32) : Nat → Int32
  | 0 => 0
  | i + 1 => al F i + F i
/-- the pouring, after i houses: what is left, who stands ahead -/
def po (F : Nat → Int32) (w h a : Int32) (rest : Int32) : Nat → Int32 × Int32
  | 0 => (w, 0)
  | i + 1 => ((po F w h a rest i).1 - w * F i / a, if rest < w * F i - w * F i / a * a ∨ (w * F i - w * F i / a * a = rest ∧ ¬ h ≤ nI i) then (po F w h a rest i).2 + 1 else (po F w h a rest i).2)
def rst (F : Nat → Int32) (w : Int32) (h : Nat) (a : Int32) : Int32 := w * F h - w * F h / a * a
def poA (F : Nat → Int32) (w : Int32) (h : Nat) (a : Int32) (H : Nat) : Int32 := w * F h / a + (if (po F w (nI h) a (rst F w h a) H).1 ≤ (po F w (nI h) a (rst F w h a) H).2 then 0 else 1)
def wiA (F : Nat → Int32) (w : Int32) (h H : Nat) : Int32 := if al F H = 0 then -4 else poA F w h (al F H) H
theorem pour_l {σ : S0} (F : Nat → Int32) {H : Nat} (hH : H ≤ 6) (e0 : σ 22 0 = nI H) (hS : ∀ u, u < H → fX2_strokesOf σ (nI u) = some (F u, σ)) (w : Int32) {h : Nat} {a : Int32} (ha : ¬ a = 0) : ∀ (d i m : Nat), H - i = d → i ≤ H → d < m → fX10_pour_h27 m σ w (nI h) a (w * F h) (rst F w h a) (po F w (nI h) a (rst F w h a) i).1 (po F w (nI h) a (rst F w h a) i).2 (nI i) = some (poA F w h a H, σ) := by
  intro d
  induction d with
  | zero =>
    intro i m h1 h2 h3
    obtain ⟨m, rfl⟩ : ∃ q, m = q + 1 := ⟨m - 1, by omega⟩
    have : i = H := by omega
    subst this
    show fX10_pour_b27 _ _ _ _ _ _ _ _ _ _ = _
    unfold fX10_pour_b27 poA
    rw [if_pos (show σ 22 0 ≤ nI i from by rw [e0]; exact nI_le (Nat.le_refl _) (by omega)), og_t ha]
    simp only [ol]
    by_cases c : (po F w (nI h) a (rst F w h a) i).1 ≤ (po F w (nI h) a (rst F w h a) i).2
    · rw [if_pos c, if_pos c]
    · rw [if_neg c, if_neg c]
  | succ d ih =>
    intro i m h1 h2 h3
    obtain ⟨m, rfl⟩ : ∃ q, m = q + 1 := ⟨m - 1, by omega⟩
    have ih' := ih (i + 1) m (by omega) (by omega) (by omega)
    have ep : po F w (nI h) a (rst F w h a) (i + 1) = ((po F w (nI h) a (rst F w h a) i).1 - w * F i / a, if rst F w h a < w * F i - w * F i / a * a ∨ (w * F i - w * F i / a * a = rst F w h a ∧ ¬ nI h ≤ nI i) then (po F w (nI h) a (rst F w h a) i).2 + 1 else (po F w (nI h) a (rst F w h a) i).2) := rfl
    rw [ep] at ih'
    show fX10_pour_b27 _ _ _ _ _ _ _ _ _ _ = _
    unfold fX10_pour_b27 fX10_pour_b87 fX10_pour_b90
    rw [if_neg (show ¬ (σ 22 0 ≤ nI i) from by rw [e0]; exact nI_ge (by omega) (by omega)), hS i (by omega)]
    simp only [obp, ol, og_t ha, nI_1]
    by_cases c1 : rst F w h a < w * F i - w * F i / a * a
    · rw [if_pos c1]
      rw [if_pos (Or.inl c1)] at ih'
      exact ih'
    · rw [if_neg c1]
      by_cases c2 : w * F i - w * F i / a * a = rst F w h a
      · rw [if_neg (fun q => q c2)]
        by_cases c3 : nI h ≤ nI i
        · rw [if_pos c3]
          rw [if_neg (fun q => q.elim c1 (fun q => q.2 c3))] at ih'
          exact ih'
        · rw [if_neg c3]
          rw [if_pos (Or.inr ⟨c2, c3⟩)] at ih'
          exact ih'
      · rw [if_pos c2]
        rw [if_neg (fun q => q.elim c1 (fun q => c2 q.1))] at ih'
        exact ih'
theorem wineX_l {σ : S0} (F : Nat → Int32) {H : Nat} (hH : H ≤ 6) (e0 : σ 22 0 = nI H) (hS : ∀ u, u < H → fX2_strokesOf σ (nI u) = some (F u, σ)) (w : Int32) {h : Nat} (hh : h < H) : ∀ (d i m : Nat), H - i = d → i ≤ H → d < m → fX10_wine_h36 m σ w (nI h) (al F i) (nI i) = some (wiA F w h H, σ) := by
  intro d
  induction d with
  | zero =>
    intro i m h1 h2 h3
    obtain ⟨m, rfl⟩ : ∃ q, m = q + 1 := ⟨m - 1, by omega⟩
    have : i = H := by omega
    subst this
    show fX10_wine_b36 _ _ _ _ _ _ = _
    unfold fX10_wine_b36 wiA
    rw [if_pos (show σ 22 0 ≤ nI i from by rw [e0]; exact nI_le (Nat.le_refl _) (by omega))]
    by_cases c : al F i = 0
    · rw [if_neg (fun q => q c), if_pos c]
    · rw [if_pos c, if_neg c]
      unfold fX10_pour
      rw [hS h hh]
      simp only [obp, ol, og_t c]
      have := pour_l F hH e0 hS w (h := h) c i 0 400 (by omega) (by omega) (by omega)
      have e : fX10_pour_h27 400 σ w (nI h) (al F i) (w * F h) (w * F h - w * F h / al F i * al F i) w 0 0 = some (poA F w h (al F i) i, σ) := this
      rw [e]
  | succ d ih =>
    intro i m h1 h2 h3
    obtain ⟨m, rfl⟩ : ∃ q, m = q + 1 := ⟨m - 1, by omega⟩
    have ih' := ih (i + 1) m (by omega) (by omega) (by omega)
    show fX10_wine_b36 _ _ _ _ _ _ = _
    unfold fX10_wine_b36
    rw [if_neg (show ¬ (σ 22 0 ≤ nI i) from by rw [e0]; exact nI_ge (by omega) (by omega)), hS i (by omega)]
    simp only [obp, ol, nI_1]
    exact ih'
theorem pourM_l {σ : S0} (F : Nat → Int32) {H : Nat} (hH : H ≤ 6) (e0 : σ 98 2 = nI H) (hS : ∀ u, u < 6 → σ 105 u = F u) (w : Int32) {h : Nat} (hh : h < 6) {a : Int32} (ha : ¬ a = 0) : ∀ (d i m : Nat), H - i = d → i ≤ H → d < m → fX11_wine_h105 m σ w (nI h) a (po F w (nI h) a (rst F w h a) i).1 (po F w (nI h) a (rst F w h a) i).2 (rst F w h a) (nI i) = some (poA F w h a H, σ) := by
  have hone : ¬ (1 : Int32) = 0 := by decide
  intro d
  induction d with
  | zero =>
    intro i m h1 h2 h3
    obtain ⟨m, rfl⟩ : ∃ q, m = q + 1 := ⟨m - 1, by omega⟩
    have : i = H := by omega
    subst this
    show fX11_wine_b105 _ _ _ _ _ _ _ _ _ = _
    unfold fX11_wine_b105 fX11_wine_b204 fX11_flag poA
    rw [if_pos (show σ 98 2 ≤ nI i from by rw [e0]; exact nI_le (Nat.le_refl _) (by omega)), og_t (ix_ok hh (by omega)), nI_clamp (by omega)]
    simp only [ol, hS h hh, og_t ha]
    by_cases c : (po F w (nI h) a (rst F w h a) i).1 ≤ (po F w (nI h) a (rst F w h a) i).2
    · rw [if_pos c, if_pos c]
      rfl
    · rw [if_neg c, if_neg c]
      rfl
  | succ d ih =>
    intro i m h1 h2 h3
    obtain ⟨m, rfl⟩ : ∃ q, m = q + 1 := ⟨m - 1, by omega⟩
    have ih' := ih (i + 1) m (by omega) (by omega) (by omega)
    have ep : po F w (nI h) a (rst F w h a) (i + 1) = ((po F w (nI h) a (rst F w h a) i).1 - w * F i / a, if rst F w h a < w * F i - w * F i / a * a ∨ (w * F i - w * F i / a * a = rst F w h a ∧ ¬ nI h ≤ nI i) then (po F w (nI h) a (rst F w h a) i).2 + 1 else (po F w (nI h) a (rst F w h a) i).2) := rfl
    rw [ep] at ih'
    have hgi := ix_ok (j := i) (n := 6) (by omega) (by omega)
    have hci : (nI i).toNatClampNeg = i := nI_clamp (by omega)
    have hgi2 : ¬ (nI i < 0 ∨ 6 ≤ i) := fun q => hgi (by rw [hci]; exact q)
    show fX11_wine_b105 _ _ _ _ _ _ _ _ _ = _
    unfold fX11_wine_b105 fX11_wine_b165 fX11_wine_b169 fX11_wine_b170 fX11_flag
    rw [if_neg (show ¬ (σ 98 2 ≤ nI i) from by rw [e0]; exact nI_ge (by omega) (by omega))]
    simp only [obp, ol, og_t ha, nI_1, og_t hgi, og_t hgi2, hci, hS i (by omega), if_neg hone, if_true, Int32.add_zero]
    by_cases c1 : rst F w h a < w * F i - w * F i / a * a
    · rw [if_pos c1]
      rw [if_pos (Or.inl c1)] at ih'
      exact ih'
    · rw [if_neg c1]
      by_cases c2 : w * F i - w * F i / a * a = rst F w h a
      · rw [if_neg (fun q => q c2)]
        by_cases c3 : nI h ≤ nI i
        · rw [if_pos c3]
          rw [if_neg (fun q => q.elim c1 (fun q => q.2 c3))] at ih'
          exact ih'
        · rw [if_neg c3]
          rw [if_pos (Or.inr ⟨c2, c3⟩)] at ih'
          exact ih'
      · rw [if_pos c2]
        rw [if_neg (fun q => q.elim c1 (fun q => c2 q.1))] at ih'
        exact ih'
theorem wineM_l {σ : S0} (F : Nat → Int32) {H : Nat} (hH : H ≤ 6) (e0 : σ 98 2 = nI H) (hS : ∀ u, u < 6 → σ 105 u = F u) (w : Int32) {h : Nat} (hh : h < H) : ∀ (d i m : Nat), H - i = d → i ≤ H → d < m → fX11_wine_h52 m σ w (nI h) (al F i) (nI i) = some (wiA F w h H, σ) := by
  intro d
  induction d with
  | zero =>
    intro i m h1 h2 h3
    obtain ⟨m, rfl⟩ : ∃ q, m = q + 1 := ⟨m - 1, by omega⟩
    have : i = H := by omega
    subst this
    show fX11_wine_b52 _ _ _ _ _ _ = _
    unfold fX11_wine_b52 wiA
    rw [if_pos (show σ 98 2 ≤ nI i from by rw [e0]; exact nI_le (Nat.le_refl _) (by omega))]
    by_cases c : al F i = 0
    · rw [if_neg (fun q => q c), if_pos c]
    · rw [if_pos c, if_neg c, og_t (ix_ok (by omega) (by omega)), nI_clamp (by omega)]
      simp only [ol, og_t c, hS h (by omega)]
      exact pourM_l F hH e0 hS w (h := h) (by omega) c i 0 400 (by omega) (by omega) (by omega)
  | succ d ih =>
    intro i m h1 h2 h3
    obtain ⟨m, rfl⟩ : ∃ q, m = q + 1 := ⟨m - 1, by omega⟩
    have ih' := ih (i + 1) m (by omega) (by omega) (by omega)
    show fX11_wine_b52 _ _ _ _ _ _ = _
    unfold fX11_wine_b52
    rw [if_neg (show ¬ (σ 98 2 ≤ nI i) from by rw [e0]; exact nI_ge (by omega) (by omega)), og_t (ix_ok (by omega) (by omega)), nI_clamp (by omega), hS i (by omega)]
    simp only [ol, nI_1]
    exact ih'
theorem sim_wine (x y : Int32) : Sim (fun σ => fX10_wine σ x y) (fun σ => fX11_wine σ x y) := by
  intro σ hR
  show An (fX10_wine σ x y) (fun r τ => An (fX11_wine τ x y) (fun q ρ => r = q ∧ R ρ))
  obtain ⟨H, G, B, T, h⟩ := id hR
  obtain ⟨⟨b1, b2, b3, b4, b5⟩, ⟨e1, e2, e5, e6⟩, e3, e4, e7⟩ := h.1
  have a1 : x < 0 ↔ x.toInt < 0 := i3_lt _ _
  have a2 : (999 : Int32) < x ↔ 999 < x.toInt := i3_lt _ _
  by_cases c : 0 ≤ x.toInt ∧ x.toInt ≤ 999
  · have c1 : ¬ x < 0 := by rw [a1]; omega
    have c2 : ¬ (999 : Int32) < x := by rw [a2]; omega
    rcases ixc y H (by omega) with ⟨w, hw, rfl⟩ | hy
    · obtain ⟨τ, p1, p2, p3⟩ := ringAll_s h
      have hτ := h.cg p2.e
      have hS : ∀ u, u < H → fX2_strokesOf τ (nI u) = some (sw (σ 99) (σ 101) T u, τ) := fun u hu => strokesOf_s b5 (by omega) (by rw [p2 22 (by omega)]; exact e7) p3
      have hx := wineX_l (sw (σ 99) (σ 101) T) b2 (by rw [p2 22 (by omega)]; exact e3) hS x hw H 0 400 (by omega) (by omega) (by omega)
      have o : onlyG τ (nr τ 0) := fun k j _ hk => by rw [nr_ne hk]
      obtain ⟨ρ, q1, q2, q3⟩ := wineM_a (σ 99) (σ 101) b5 x (nI w) (fun u hu => (RT h hu).1) T 0 400 (nr τ 0) (by omega) (by omega) (by omega) (by rw [o.c (by omega) (by omega), p2 99 (by omega)]) (by rw [o.c (by omega) (by omega), p2 101 (by omega)]) (by rw [o 98 5 (by omega) (by omega), p2 98 (by omega)]; exact e6) (fun u hu => by rw [nr_in hu]; rfl)
      have o2 := o.tr q2
      have hm := wineM_l (σ := ρ) (sw (σ 99) (σ 101) T) b2 (by rw [o2 98 2 (by omega) (by omega), p2 98 (by omega)]; exact e1) q3 x hw H 0 400 (by omega) (by omega) (by omega)
      refine ⟨wiA (sw (σ 99) (σ 101) T) x w H, τ, ?_, wiA (sw (σ 99) (σ 101) T) x w H, ρ, ?_, rfl, H, G, B, T, hτ.cg o2.e⟩
      · unfold fX10_wine
        rw [if_neg c1, if_neg c2, hh_y e3 (by omega) hw]
        simp only [obp]
        rw [if_pos (by decide), p1]
        exact hx
      · unfold fX11_wine
        rw [in_i τ x 0 999 0 999 rfl rfl, if_pos c]
        simp only [obp]
        rw [if_neg (by decide), ih_y (by rw [p2 98 (by omega)]; exact e1) (by omega) hw]
        simp only
        rw [if_pos (by decide), noRung_s]
        simp only
        exact q1.trans hm
    · refine Sim.same (fun τ => fX11_wine τ x y) (a := -1) hR ?_ ?_
      · unfold fX10_wine
        rw [if_neg c1, if_neg c2, hh_n e3 (by omega) hy]
        rfl
      · show fX11_wine σ x y = _
        unfold fX11_wine
        rw [in_i σ x 0 999 0 999 rfl rfl, if_pos c]
        simp only [obp]
        rw [if_neg (by decide), ih_n e1 (by omega) hy]
        rfl
  · refine Sim.same (fun τ => fX11_wine τ x y) (a := -1) hR ?_ ?_
    · unfold fX10_wine
      by_cases c1 : x < 0
      · rw [if_pos c1]
      · rw [if_neg c1, if_pos (by rw [a1] at c1; rw [a2]; omega)]
    · show fX11_wine σ x y = _
      unfold fX11_wine
      rw [in_i σ x 0 999 0 999 rfl rfl, if_neg c]
      rfl
end
section
/-! ROUND A BELL: the pure side -/
/-- bell b can ring behind x (a bell, or none) -/
abbrev cf (f : Nat → Int32) (x : Int32) (b : Nat) : Prop := x = -4 ∨ ¬ ((f (60 + (f (5 * x.toNatClampNeg)).toNatClampNeg) >>> (f (5 * b) &&& 31)) &&& 1 = 1)
def lm (f : Nat → Int32) (D : Nat → Nat) (x : Int32) : Nat → Nat
  | 0 => 99999
  | b + 1 => if cf f x b ∧ D b < lm f D x b then D b else lm f D x b
def la (f : Nat → Int32) (D : Nat → Nat) (x : Int32) : Nat → Int32
  | 0 => -4
  | b + 1 => if cf f x b ∧ D b < lm f D x b then nI b else la f D x b
theorem lm_le (f : Nat → Int32) (D : Nat → Nat) (x : Int32) : ∀ b, lm f D x b ≤ 99999
  | 0 => Nat.le_refl _
  | b + 1 => by
    have := lm_le f D x b
    unfold lm
    by_cases c : cf f x b ∧ D b < lm f D x b
    · rw [if_pos c]; omega
    · rw [if_neg c]; exact this
theorem lm_min (f : Nat → Int32) (D : Nat → Nat) (x : Int32) : ∀ b j, j < b → cf f x j → lm f D x b ≤ D j
  | 0, j, h, _ => by omega
  | b + 1, j, h, hc => by
    unfold lm
    by_cases c : cf f x b ∧ D b < lm f D x b
    · rw [if_pos c]
      by_cases q : j = b
      · subst q; exact Nat.le_refl _
      · have := lm_min f D x b j (by omega) hc
        omega
    · rw [if_neg c]
      by_cases q : j = b
      · subst q
        exact Nat.not_lt.mp (fun z => c ⟨hc, z⟩)
      · exact lm_min f D x b j (by omega) hc
theorem la_s (f : Nat → Int32) (D : Nat → Nat) (x : Int32) : ∀ b, (la f D x b = -4 ∧ lm f D x b = 99999) ∨ ∃ k, k < b ∧ la f D x b = nI k ∧ cf f x k ∧ D k = lm f D x b ∧ lm f D x b < 99999 ∧ ∀ j, j < k → cf f x j → lm f D x b < D j
  | 0 => Or.inl ⟨rfl, rfl⟩
  | b + 1 => by
    have ih := la_s f D x b
    have hle := lm_le f D x b
    have ea : la f D x (b + 1) = if cf f x b ∧ D b < lm f D x b then nI b else la f D x b := rfl
    have el : lm f D x (b + 1) = if cf f x b ∧ D b < lm f D x b then D b else lm f D x b := rfl
    rw [ea, el]
    by_cases c : cf f x b ∧ D b < lm f D x b
    · rw [if_pos c, if_pos c]
      exact Or.inr ⟨b, by omega, rfl, c.1, rfl, by omega, fun j hj hc => by
        have := lm_min f D x b j hj hc
        omega⟩
    · rw [if_neg c, if_neg c]
      rcases ih with h | ⟨k, h1, h2⟩
      · exact Or.inl h
      · exact Or.inr ⟨k, by omega, h2⟩
/-- the class's value of what is too far -/
def cv (n : Nat) : Nat := if n = 99999 then 1000000 else n
theorem cv_le {a b : Nat} (ha : a ≤ 99999) (hb : b ≤ 99999) : cv a ≤ cv b ↔ a ≤ b := by
  unfold cv
  by_cases c1 : a = 99999
  · rw [if_pos c1]
    by_cases c2 : b = 99999
    · rw [if_pos c2]; omega
    · rw [if_neg c2]; omega
  · rw [if_neg c1]
    by_cases c2 : b = 99999
    · rw [if_pos c2]; omega
    · rw [if_neg c2]
theorem cv_b (a : Nat) (h : a ≤ 99999) : cv a ≤ 1000000 := by
  unfold cv
  by_cases c1 : a = 99999
  · rw [if_pos c1]; omega
  · rw [if_neg c1]; omega
def dist (b s : Nat) : Nat := if s ≤ b then b - s else s - b
theorem dist_b {b s : Nat} (hb : b < 12) (hs : s < 12) : dist b s ≤ 11 := by
  unfold dist
  by_cases c : s ≤ b
  · rw [if_pos c]; omega
  · rw [if_neg c]; omega
theorem dist_x {b s : Nat} (hb : b < 12) (hs : s < 12) : (if 0 ≤ nI b - nI s then nI b - nI s else 0 - (nI b - nI s)) = nI (dist b s) := by
  unfold dist
  by_cases c : s ≤ b
  · rw [if_pos c, pk_sub c, if_pos (nI_pos' (by omega))]
  · rw [if_neg c, if_neg (fun q => absurd (pk_sneg (a := b) (b := s) (by omega) (by omega)) (Int32.not_lt.mpr q)), Int32.zero_sub, Int32.neg_sub, pk_sub (by omega)]
theorem dist_m (σ : S0) {b s : Nat} (hb : b < 12) (hs : s < 12) : fX11_size σ (nI b - nI s) = some (nI (dist b s), σ) := by
  unfold fX11_size dist
  by_cases c : s ≤ b
  · rw [if_pos c, pk_sub c, if_pos (nI_pos' (by omega))]
  · rw [if_neg c, if_neg (fun q => absurd (pk_sneg (a := b) (b := s) (by omega) (by omega)) (Int32.not_lt.mpr q)), Int32.neg_sub, pk_sub (by omega)]
/-- what is needed of the rows: owners below 6, feuds alike from both sides, shut 0 or 1 -/
def okB (f : Nat → Int32) (B : Nat) : Prop := B ≤ 12 ∧ (∀ b, b < B → ∃ w, w < 6 ∧ f (5 * b) = nI w) ∧ ∃ fo : Nat → Nat, (∀ h, h < 6 → fo h < 64 ∧ f (60 + h) = nI (fo h)) ∧ ∀ a b, a < 6 → b < 6 → (fo a).testBit b = (fo b).testBit a
theorem tb_t : ∀ m : Fin 64, ∀ w : Fin 6, (nI m.1 >>> (nI w.1 &&& 31)) &&& 1 = 1 ↔ m.1.testBit w.1 = true := by decide
theorem tb_n {m w : Nat} (hm : m < 64) (hw : w < 6) : ((nI m >>> (nI w &&& 31)) &&& 1 = 1) ↔ m.testBit w = true := tb_t ⟨m, hm⟩ ⟨w, hw⟩
def okX (B : Nat) (x : Int32) : Prop := x = -4 ∨ ∃ k, k < B ∧ x = nI k
theorem la_ok (f : Nat → Int32) (D : Nat → Nat) (x : Int32) (B : Nat) : okX B (la f D x B) := by
  rcases la_s f D x B with h | ⟨k, h1, h2, -⟩
  · exact Or.inl h.1
  · exact Or.inr ⟨k, h1, h2⟩
theorem canF_s {f : Nat → Int32} {B : Nat} (ok : okB f B) (σ : S0) (e : σ 99 = f) {k b : Nat} (hk : k < B) (hb : b < B) : fX11_canFollow σ (nI k) (nI b) = some (if cf f (nI k) b then 1 else 0, σ) := by
  have hB := ok.1
  obtain ⟨wk, k1, k2⟩ := ok.2.1 k hk
  obtain ⟨wb, b1, b2⟩ := ok.2.1 b hb
  have hm : ¬ nI k = -4 := nI_m4 (by omega)
  have hone : ¬ (1 : Int32) = 0 := by decide
  unfold fX11_canFollow
  rw [of_l σ (b := k) (w := 0) (x := 0) (by omega) (by omega) rfl]
  simp only [obp]
  rw [of_l σ (b := b) (w := 0) (x := 0) (by omega) (by omega) rfl]
  simp only [Nat.add_zero, e]
  rw [k2, isFeud_s σ k1, e]
  simp only
  have hc : cf f (nI k) b ↔ ¬ ((f (60 + wk) >>> (f (5 * b) &&& 31)) &&& 1 = 1) := by
    unfold cf
    rw [nI_clamp (by omega), k2, nI_clamp (by omega)]
    exact ⟨fun q => q.resolve_left hm, fun q => Or.inr q⟩
  by_cases c : (f (60 + wk) >>> (f (5 * b) &&& 31)) &&& 1 = 1
  · rw [if_pos c, if_pos hone, if_neg (fun q => hc.mp q c)]
  · rw [if_neg c, if_neg (fun q => q rfl), if_pos (hc.mpr c)]
/-- the class's row of values at a stroke -/
def rowX (D : Nat → Nat) (B r : Nat) (σ : S0) : Prop := ∀ b, b < B → σ r b = nI (cv (D b))
def okK (f : Nat → Int32) (B : Nat) (σ : S0) : Prop := σ 32 0 = nI B ∧ (∀ b, b < B → σ 33 b = f (5 * b) ∧ σ 36 b = f (5 * b + 3)) ∧ ∀ h, h < 6 → σ 38 h = f (60 + h)
theorem leastB_l {f : Nat → Int32} {D : Nat → Nat} {B i : Nat} (ok : okB f B) (hD : ∀ b, b < B → D b ≤ 99999) (hi : i < 12) {σ : S0} (k : okK f B σ) (hr : rowX D B (57 + i) σ) {x : Int32} (hx : okX B x) : ∀ (d b m : Nat), B - b = d → b ≤ B → d < m → fX4_leastBehind_h6 m σ (nI i) x (la f D x b) (nI b) = some (la f D x B, σ) := by
  have hB := ok.1
  obtain ⟨fo, f1, f2⟩ := ok.2.2
  have hgi := ix_ok (j := i) (n := 12) hi (by omega)
  have hci : (nI i).toNatClampNeg = i := nI_clamp (by omega)
  have hgi2 : ¬ (nI i < 0 ∨ 12 ≤ i) := fun q => hgi (by rw [hci]; exact q)
  intro d
  induction d with
  | zero =>
    intro b m h1 h2 h3
    obtain ⟨m, rfl⟩ : ∃ q, m = q + 1 := ⟨m - 1, by omega⟩
    have : b = B := by omega
    subst this
    show fX4_leastBehind_b6 _ _ _ _ _ _ = _
    unfold fX4_leastBehind_b6
    rw [if_pos (show σ 32 0 ≤ nI b from by rw [k.1]; exact nI_le (Nat.le_refl _) (by omega))]
  | succ d ih =>
    intro b m h1 h2 h3
    obtain ⟨m, rfl⟩ : ∃ q, m = q + 1 := ⟨m - 1, by omega⟩
    have hbB : b < B := by omega
    have ih' := ih (b + 1) m (by omega) (by omega) (by omega)
    have ea : la f D x (b + 1) = if cf f x b ∧ D b < lm f D x b then nI b else la f D x b := rfl
    have hgb := ix_ok (j := b) (n := 12) (by omega) (by omega)
    have hcb : (nI b).toNatClampNeg = b := nI_clamp (by omega)
    have hgb2 : ¬ (nI b < 0 ∨ 12 ≤ b) := fun q => hgb (by rw [hcb]; exact q)
    have hl := lm_le f D x b
    have skip : fX4_leastBehind_b58 (fX4_leastBehind_h6 m) σ (nI i) x (la f D x b) (nI b) 0 = fX4_leastBehind_h6 m σ (nI i) x (la f D x b) (nI (b + 1)) := by
      unfold fX4_leastBehind_b58 fX4_leastBehind_b99
      rw [if_pos rfl]
      simp only [ol, nI_1]
    have look : fX4_leastBehind_b53 (fX4_leastBehind_h6 m) σ (nI i) x (la f D x b) (nI b) = if lm f D x b ≤ D b then fX4_leastBehind_h6 m σ (nI i) x (la f D x b) (nI (b + 1)) else fX4_leastBehind_h6 m σ (nI i) x (nI b) (nI (b + 1)) := by
      unfold fX4_leastBehind_b53 fX4_leastBehind_b58
      rw [if_neg (by decide)]
      simp only [ol, og_t hgi, og_t hgi2, hci, Nat.one_mul, og_t hgb, og_t hgb2, hcb, hr b hbB]
      have key : fX4_leastBehind_b93 (fX4_leastBehind_h6 m) σ (nI i) x (la f D x b) (nI b) (nI (cv (lm f D x b))) (nI (cv (D b))) = if lm f D x b ≤ D b then fX4_leastBehind_h6 m σ (nI i) x (la f D x b) (nI (b + 1)) else fX4_leastBehind_h6 m σ (nI i) x (nI b) (nI (b + 1)) := by
        unfold fX4_leastBehind_b93 fX4_leastBehind_b99
        have c1 := cv_b _ hl
        have c2 := cv_b _ (hD b hbB)
        have e := (nI_leI (a := cv (lm f D x b)) (b := cv (D b)) (by omega) (by omega)).trans (cv_le hl (hD b hbB))
        simp only [ol, nI_1]
        by_cases c : lm f D x b ≤ D b
        · rw [if_pos c, if_pos (e.mpr c)]
        · rw [if_neg c, if_neg (fun q => c (e.mp q))]
      rcases la_s f D x b with ⟨q1, q2⟩ | ⟨k', q1, q2, q3, q4, q5, q6⟩
      · rw [if_neg (fun z => z q1)]
        rw [q2, show nI (cv 99999) = 1000000 from rfl] at key
        rw [q2]
        exact key
      · have hn : ¬ la f D x b = -4 := by rw [q2]; exact nI_m4 (by omega)
        rw [if_pos hn]
        have hck : (la f D x b).toNatClampNeg = k' := by rw [q2]; exact nI_clamp (by omega)
        have hgk : ¬ (la f D x b < 0 ∨ 12 ≤ (la f D x b).toNatClampNeg) := by rw [q2]; exact ix_ok (by omega) (by omega)
        rw [og_t hgk, hck, hr k' (by omega), q4]
        exact key
    have fin : cf f x b → (if lm f D x b ≤ D b then fX4_leastBehind_h6 m σ (nI i) x (la f D x b) (nI (b + 1)) else fX4_leastBehind_h6 m σ (nI i) x (nI b) (nI (b + 1))) = some (la f D x B, σ) := fun hc => by
      by_cases c : lm f D x b ≤ D b
      · rw [if_pos c]
        rw [ea, if_neg (fun q => absurd q.2 (Nat.not_lt.mpr c))] at ih'
        exact ih'
      · rw [if_neg c]
        rw [ea, if_pos ⟨hc, Nat.lt_of_not_le c⟩] at ih'
        exact ih'
    show fX4_leastBehind_b6 _ _ _ _ _ _ = _
    unfold fX4_leastBehind_b6
    rw [if_neg (show ¬ (σ 32 0 ≤ nI b) from by rw [k.1]; exact nI_ge hbB (by omega))]
    by_cases cx : x = -4
    · rw [if_pos cx, look]
      exact fin (Or.inl cx)
    · rw [if_neg cx]
      obtain ⟨k', k1, k2⟩ := hx.resolve_left cx
      obtain ⟨wk, u1, u2⟩ := ok.2.1 k' k1
      obtain ⟨wb, v1, v2⟩ := ok.2.1 b hbB
      have hckx : x.toNatClampNeg = k' := by rw [k2]; exact nI_clamp (by omega)
      have hgkx : ¬ (x < 0 ∨ 12 ≤ x.toNatClampNeg) := by rw [k2]; exact ix_ok (by omega) (by omega)
      have hgkx2 : ¬ (x < 0 ∨ 12 ≤ k') := by rw [← hckx]; exact hgkx
      have hc : cf f x b ↔ ¬ (fo wk).testBit wb = true := by
        unfold cf
        rw [hckx, u2, nI_clamp (by omega), v2, (f1 wk u1).2, tb_n (f1 wk u1).1 v1]
        exact ⟨fun q => q.resolve_left cx, fun q => Or.inr q⟩
      have ef : fX1_areFoes σ 32 (nI wb) (nI wk) = some (if (fo wk).testBit wb = true then 1 else 0, σ) := by
        unfold fX1_areFoes
        rw [og_t (ix_ok v1 (by omega)), nI_clamp (by omega)]
        simp only [ol, Nat.reduceAdd]
        rw [k.2.2 wb v1, (f1 wb v1).2]
        have e2 := (bits_n (f1 wb v1).1 u1).trans (not_congr (tb_n (f1 wb v1).1 u1))
        rw [f2 wb wk v1 u1] at e2
        by_cases c : (fo wk).testBit wb = true
        · rw [if_neg (fun q => e2.mp q c), if_pos c]
        · rw [if_pos (e2.mpr c), if_neg c]
      simp only [og_t hgb, og_t hgb2, hcb, ol, (k.2.1 b hbB).1, og_t hgkx, og_t hgkx2, hckx, (k.2.1 k' k1).1, v2, u2, ef, obp]
      by_cases c : (fo wk).testBit wb = true
      · simp only [if_pos c]
        rw [if_pos (by decide), skip]
        rw [ea, if_neg (fun q => hc.mp q.1 c)] at ih'
        exact ih'
      · simp only [if_neg c]
        rw [if_neg (by decide), look]
        exact fin (hc.mpr c)
theorem leastB_s {f : Nat → Int32} {D : Nat → Nat} {B i : Nat} (ok : okB f B) (hD : ∀ b, b < B → D b ≤ 99999) (hi : i < 12) {σ : S0} (k : okK f B σ) (hr : rowX D B (57 + i) σ) {x : Int32} (hx : okX B x) : fX4_leastBehind σ (nI i) x = some (la f D x B, σ) := leastB_l ok hD hi k hr hx B 0 400 (by omega) (by omega) (by have := ok.1; omega)
def rowM (D : Nat → Nat) (B i : Nat) (σ : S0) : Prop := ∀ b, b < B → σ 107 (12 * i + b) = nI (D b)
theorem x12 (i b : Nat) : (12 : Int32) * nI i + nI b = nI (12 * i + b) := by
  rw [show (12 : Int32) = nI 12 from rfl, pk_mul, nI_add]
theorem restOf_l {f : Nat → Int32} {D : Nat → Nat} {B i : Nat} (ok : okB f B) (hD : ∀ b, b < B → D b ≤ 99999) (hi : i < 12) {σ : S0} (e4 : σ 98 4 = nI B) (e99 : σ 99 = f) (hr : rowM D B i σ) {x : Int32} (hx : okX B x) : ∀ (d b m : Nat), B - b = d → b ≤ B → d < m → fX11_restOf_h7 m σ (nI i) x (nI (lm f D x b)) (nI b) = some (nI (lm f D x B), σ) := by
  have hB := ok.1
  intro d
  induction d with
  | zero =>
    intro b m h1 h2 h3
    obtain ⟨m, rfl⟩ : ∃ q, m = q + 1 := ⟨m - 1, by omega⟩
    have : b = B := by omega
    subst this
    show fX11_restOf_b7 _ _ _ _ _ _ = _
    unfold fX11_restOf_b7
    rw [if_pos (show σ 98 4 ≤ nI b from by rw [e4]; exact nI_le (Nat.le_refl _) (by omega))]
  | succ d ih =>
    intro b m h1 h2 h3
    obtain ⟨m, rfl⟩ : ∃ q, m = q + 1 := ⟨m - 1, by omega⟩
    have hbB : b < B := by omega
    have ih' := ih (b + 1) m (by omega) (by omega) (by omega)
    have ea : lm f D x (b + 1) = if cf f x b ∧ D b < lm f D x b then D b else lm f D x b := rfl
    have hl := lm_le f D x b
    have hDb := hD b hbB
    have hgv := ix_ok (j := 12 * i + b) (n := 156) (by omega) (by omega)
    have hcv : (nI (12 * i + b)).toNatClampNeg = 12 * i + b := nI_clamp (by omega)
    have hgv2 : ¬ (nI (12 * i + b) < 0 ∨ 156 ≤ 12 * i + b) := fun q => hgv (by rw [hcv]; exact q)
    have fin : cf f x b → fX11_restOf_b32 (fX11_restOf_h7 m) σ (nI i) x (nI (lm f D x b)) (nI b) = some (nI (lm f D x B), σ) := fun hc => by
      unfold fX11_restOf_b32 fX11_restOf_b64 fX11_restOf_b65
      simp only [ol, x12, og_t hgv, og_t hgv2, hcv, hr b hbB, nI_1]
      have e := nI_leI (a := lm f D x b) (b := D b) (by omega) (by omega)
      by_cases c : lm f D x b ≤ D b
      · rw [if_pos (e.mpr c)]
        rw [ea, if_neg (fun q => absurd q.2 (Nat.not_lt.mpr c))] at ih'
        exact ih'
      · rw [if_neg (fun q => c (e.mp q))]
        rw [ea, if_pos ⟨hc, Nat.lt_of_not_le c⟩] at ih'
        exact ih'
    show fX11_restOf_b7 _ _ _ _ _ _ = _
    unfold fX11_restOf_b7
    rw [if_neg (show ¬ (σ 98 4 ≤ nI b) from by rw [e4]; exact nI_ge hbB (by omega))]
    by_cases cx : x = -4
    · rw [if_pos cx]
      exact fin (Or.inl cx)
    · rw [if_neg cx]
      obtain ⟨k', k1, k2⟩ := hx.resolve_left cx
      have ec := canF_s ok σ e99 k1 hbB
      rw [← k2] at ec
      rw [ec]
      simp only [obp]
      by_cases c : cf f x b
      · rw [if_pos c, if_neg (by decide)]
        exact fin c
      · rw [if_neg c, if_pos rfl]
        unfold fX11_restOf_b65
        simp only [ol, nI_1]
        rw [ea, if_neg (fun q => c q.1)] at ih'
        exact ih'
theorem restOf_s {f : Nat → Int32} {D : Nat → Nat} {B i : Nat} (ok : okB f B) (hD : ∀ b, b < B → D b ≤ 99999) (hi : i < 12) {σ : S0} (e4 : σ 98 4 = nI B) (e99 : σ 99 = f) (hr : rowM D B i σ) {x : Int32} (hx : okX B x) : fX11_restOf σ (nI i) x = some (nI (lm f D x B), σ) := restOf_l ok hD hi e4 e99 hr hx B 0 400 (by omega) (by omega) (by have := ok.1; omega)
/-- the values at a stroke, k strokes ahead of the last one; s: the tune's strokes, n of them; w: the bell that is left out -/
def dv (f : Nat → Int32) (B : Nat) (s : Nat → Nat) (n w : Nat) : Nat → Nat → Nat
  | 0, b => if b ≠ w ∧ f (5 * b + 3) = 0 then dist b (s (n - 1)) else 99999
  | k + 1, b => if (b ≠ w ∧ f (5 * b + 3) = 0) ∧ lm f (dv f B s n w k) (nI b) B < 99999 then lm f (dv f B s n w k) (nI b) B + dist b (s (n - 1 - (k + 1))) else 99999
theorem dv_b {f : Nat → Int32} {B : Nat} {s : Nat → Nat} {n w : Nat} (hB : B ≤ 12) (hs : ∀ i, i < n → s i < 12) (hn : 1 ≤ n) : ∀ k, k < n → ∀ b, b < B → dv f B s n w k b = 99999 ∨ dv f B s n w k b ≤ 11 * (k + 1)
  | 0, _, b, hb => by
    unfold dv
    by_cases c : b ≠ w ∧ f (5 * b + 3) = 0
    · rw [if_pos c]
      have := dist_b (b := b) (s := s (n - 1)) (by omega) (hs _ (by omega))
      exact Or.inr (by omega)
    · rw [if_neg c]; exact Or.inl rfl
  | k + 1, hk, b, hb => by
    have ih := dv_b (f := f) (w := w) hB hs hn k (by omega)
    unfold dv
    by_cases c : (b ≠ w ∧ f (5 * b + 3) = 0) ∧ lm f (dv f B s n w k) (nI b) B < 99999
    · rw [if_pos c]
      have hd := dist_b (b := b) (s := s (n - 1 - (k + 1))) (by omega) (hs _ (by omega))
      rcases la_s f (dv f B s n w k) (nI b) B with ⟨q1, q2⟩ | ⟨j, q1, q2, q3, q4, q5, q6⟩
      · omega
      · rcases ih j q1 with z | z
        · omega
        · exact Or.inr (by omega)
    · rw [if_neg c]; exact Or.inl rfl
theorem dv_le {f : Nat → Int32} {B : Nat} {s : Nat → Nat} {n w : Nat} (hB : B ≤ 12) (hs : ∀ i, i < n → s i < 12) (hn : 1 ≤ n) (hn2 : n ≤ 12) {k : Nat} (hk : k < n) {b : Nat} (hb : b < B) : dv f B s n w k b ≤ 99999 := by
  rcases dv_b (f := f) (w := w) hB hs hn k hk b hb with h | h
  · omega
  · omega
end
section
/-! ROUND A BELL: the class's rows -/
abbrev DI (f : Nat → Int32) (B : Nat) (s : Nat → Nat) (n w i : Nat) : Nat → Nat := dv f B s n w (n - 1 - i)
theorem DI_0 {f : Nat → Int32} {B : Nat} {s : Nat → Nat} {n w i : Nat} (h : i + 1 = n) (b : Nat) : DI f B s n w i b = if b ≠ w ∧ f (5 * b + 3) = 0 then dist b (s i) else 99999 := by
  have e : n - 1 - i = 0 := by omega
  have e2 : n - 1 = i := by omega
  unfold DI
  rw [e]
  unfold dv
  rw [e2]
theorem DI_s {f : Nat → Int32} {B : Nat} {s : Nat → Nat} {n w i : Nat} (h : i + 1 < n) (b : Nat) : DI f B s n w i b = if (b ≠ w ∧ f (5 * b + 3) = 0) ∧ lm f (DI f B s n w (i + 1)) (nI b) B < 99999 then lm f (DI f B s n w (i + 1)) (nI b) B + dist b (s i) else 99999 := by
  have e : n - 1 - i = (n - 1 - (i + 1)) + 1 := by omega
  have e2 : n - 1 - ((n - 1 - (i + 1)) + 1) = i := by omega
  unfold DI
  rw [e]
  show (if _ then _ + dist b (s (n - 1 - ((n - 1 - (i + 1)) + 1))) else _) = _
  rw [e2]
theorem DI_le {f : Nat → Int32} {B : Nat} {s : Nat → Nat} {n w i : Nat} (hB : B ≤ 12) (hs : ∀ i, i < n → s i < 12) (hi : i < n) (hn2 : n ≤ 12) {b : Nat} (hb : b < B) : DI f B s n w i b ≤ 99999 := dv_le hB hs (by omega) hn2 (by omega) hb
theorem DI_b {f : Nat → Int32} {B : Nat} {s : Nat → Nat} {n w i : Nat} (hB : B ≤ 12) (hs : ∀ i, i < n → s i < 12) (hi : i < n) (hn2 : n ≤ 12) {b : Nat} (hb : b < B) : DI f B s n w i b = 99999 ∨ DI f B s n w i b ≤ 132 := by
  rcases dv_b (f := f) (w := w) hB hs (by omega) (n - 1 - i) (by omega) b hb with h | h
  · exact Or.inl h
  · exact Or.inr (by unfold DI; omega)
theorem lm_b {f : Nat → Int32} {D : Nat → Nat} {x : Int32} {B K : Nat} (hD : ∀ b, b < B → D b = 99999 ∨ D b ≤ K) (h : lm f D x B < 99999) : lm f D x B ≤ K := by
  rcases la_s f D x B with ⟨q1, q2⟩ | ⟨j, q1, q2, q3, q4, q5, q6⟩
  · omega
  · rcases hD j q1 with z | z
    · omega
    · omega
theorem cv_n {a : Nat} (h : a < 99999) : cv a = a := by
  unfold cv
  rw [if_neg (by omega)]
/-- the row that is nearest: what stands ahead of stroke k -/
def rwp (f : Nat → Int32) (B : Nat) (s : Nat → Nat) (n w : Nat) : Nat → Int32
  | 0 => -4
  | k + 1 => la f (DI f B s n w k) (rwp f B s n w k) B
theorem rwp_ok (f : Nat → Int32) (B : Nat) (s : Nat → Nat) (n w : Nat) : ∀ k, okX B (rwp f B s n w k)
  | 0 => Or.inl rfl
  | _ + 1 => la_ok _ _ _ _
def NX (f : Nat → Int32) (B : Nat) (s : Nat → Nat) (n t : Nat) (σ : S0) : Prop := okK f B σ ∧ σ 24 t = nI n ∧ ∀ i, i < n → σ (26 + t) i = nI (s i)
theorem NX.lo {f : Nat → Int32} {B : Nat} {s : Nat → Nat} {n t : Nat} {a b : S0} (h : NX f B s n t a) (ht : t < 6) (o : ∀ x, x < 55 → b x = a x) : NX f B s n t b := by
  unfold NX okK at h ⊢
  rw [o 32 (by omega), o 33 (by omega), o 36 (by omega), o 38 (by omega), o 24 (by omega), o (26 + t) (by omega)]
  exact h
theorem farFrom_s {f : Nat → Int32} {B : Nat} {s : Nat → Nat} {n t i w b : Nat} (ok : okB f B) (ht : t < 6) (hs : ∀ i, i < n → s i < 12) (hn2 : n ≤ 12) (hi : i < n) (hb : b < B) (hw : w < 12) {σ : S0} (nx : NX f B s n t σ) (hr : i + 1 < n → rowX (DI f B s n w (i + 1)) B (57 + (i + 1)) σ) : fX4_farFrom σ (nI t) (nI i) (nI b) (nI w) = some (nI (cv (DI f B s n w i b)), σ) := by
  have hB := ok.1
  have hgt := ix_ok (j := t) (n := 6) ht (by omega)
  have hct : (nI t).toNatClampNeg = t := nI_clamp (by omega)
  have hgt2 : ¬ (nI t < 0 ∨ 6 ≤ t) := fun q => hgt (by rw [hct]; exact q)
  have hgi := ix_ok (j := i) (n := 12) (by omega) (by omega)
  have hci : (nI i).toNatClampNeg = i := nI_clamp (by omega)
  have hgi2 : ¬ (nI i < 0 ∨ 12 ≤ i) := fun q => hgi (by rw [hci]; exact q)
  have hgb := ix_ok (j := b) (n := 12) (by omega) (by omega)
  have hcb : (nI b).toNatClampNeg = b := nI_clamp (by omega)
  have hgb2 : ¬ (nI b < 0 ∨ 12 ≤ b) := fun q => hgb (by rw [hcb]; exact q)
  have far : DI f B s n w i b = 99999 → some ((1000000 : Int32), σ) = some (nI (cv (DI f B s n w i b)), σ) := fun q => by rw [q]; rfl
  unfold fX4_farFrom
  by_cases c1 : b = w
  · rw [if_pos (by rw [c1])]
    refine far ?_
    by_cases q : i + 1 = n
    · rw [DI_0 q, if_neg (fun z => z.1 c1)]
    · rw [DI_s (by omega), if_neg (fun z => z.1.1 c1)]
  · rw [if_neg (fun q => c1 ((nI_eq (by omega) (by omega)).mp q))]
    simp only [og_t hgb, og_t hgb2, hcb, ol, (nx.1.2.1 b hb).2]
    by_cases c2 : f (5 * b + 3) = 0
    · rw [if_pos c2]
      simp only [og_t hgt, og_t hgt2, hct, Nat.one_mul, og_t hgi, og_t hgi2, hci, nx.2.2 i hi, nx.2.1, nI_1]
      rw [dist_x (by omega) (hs i hi)]
      by_cases c3 : i + 1 = n
      · rw [if_neg (nI_nlt (by omega) (by omega)), DI_0 c3, if_pos ⟨c1, c2⟩, cv_n (by have := dist_b (b := b) (s := s i) (by omega) (hs i hi); omega)]
      · have c3' : i + 1 < n := by omega
        have hgj := ix_ok (j := i + 1) (n := 12) (by omega) (by omega)
        have hcj : (nI (i + 1)).toNatClampNeg = i + 1 := nI_clamp (by omega)
        have hgj2 : ¬ (nI (i + 1) < 0 ∨ 12 ≤ i + 1) := fun q => hgj (by rw [hcj]; exact q)
        have hle : ∀ j, j < B → DI f B s n w (i + 1) j ≤ 99999 := fun j hj => DI_le hB hs c3' hn2 hj
        have hL := leastB_s ok hle (by omega) nx.1 (hr c3') (Or.inr ⟨b, hb, rfl⟩)
        rw [if_pos (nI_lt (by omega) (by omega)), hL]
        simp only [obp, og_t hgj, og_t hgj2, hcj]
        rw [DI_s c3']
        rcases la_s f (DI f B s n w (i + 1)) (nI b) B with ⟨q1, q2⟩ | ⟨j, q1, q2, q3, q4, q5, q6⟩
        · rw [if_neg (fun z => z q1), if_neg (fun z => by have := z.2; omega)]
          rfl
        · have hn : ¬ la f (DI f B s n w (i + 1)) (nI b) B = -4 := by rw [q2]; exact nI_m4 (by omega)
          have hck : (la f (DI f B s n w (i + 1)) (nI b) B).toNatClampNeg = j := by rw [q2]; exact nI_clamp (by omega)
          have hgk : ¬ (la f (DI f B s n w (i + 1)) (nI b) B < 0 ∨ 12 ≤ (la f (DI f B s n w (i + 1)) (nI b) B).toNatClampNeg) := by rw [q2]; exact ix_ok (by omega) (by omega)
          have hd := dist_b (b := b) (s := s i) (by omega) (hs i hi)
          have hlb : lm f (DI f B s n w (i + 1)) (nI b) B ≤ 132 := lm_b (fun j hj => DI_b hB hs c3' hn2 hj) q5
          rw [if_pos hn, if_pos ⟨⟨c1, c2⟩, q5⟩, og_t hgk, hck, hr c3' j q1, q4, cv_n q5, cv_n (by omega), nI_add, Nat.add_comm]
    · rw [if_neg c2]
      refine far ?_
      by_cases q : i + 1 = n
      · rw [DI_0 q, if_neg (fun z => c2 z.2)]
      · rw [DI_s (by omega), if_neg (fun z => c2 z.1.2)]
theorem findI_l {f : Nat → Int32} {B : Nat} {s : Nat → Nat} {n t i w : Nat} (ok : okB f B) (ht : t < 6) (hs : ∀ i, i < n → s i < 12) (hn2 : n ≤ 12) (hi : i < n) (hw : w < 12) (sf : S0 → Int32 → Int32 → Int32 → Int32 → Option (Int32 × S0)) : ∀ (d b m : Nat) (σ : S0), B - b = d → b ≤ B → d < m → NX f B s n t σ → (i + 1 < n → rowX (DI f B s n w (i + 1)) B (57 + (i + 1)) σ) → (∀ j, j < b → σ (57 + i) j = nI (cv (DI f B s n w i j))) → ∃ τ, fX4_find_h23 sf m σ (nI t) (nI w) (nI n) (nI i) (nI b) = sf τ (nI t) (nI w) (nI n) (nI i + (-1)) ∧ (∀ x, x ≠ 57 + i → τ x = σ x) ∧ rowX (DI f B s n w i) B (57 + i) τ := by
  have hB := ok.1
  have hgi := ix_ok (j := i) (n := 12) (by omega) (by omega)
  have hci : (nI i).toNatClampNeg = i := nI_clamp (by omega)
  have hgi2 : ¬ (nI i < 0 ∨ 12 ≤ i) := fun q => hgi (by rw [hci]; exact q)
  intro d
  induction d with
  | zero =>
    intro b m σ h1 h2 h3 nx hr hj
    obtain ⟨m, rfl⟩ : ∃ q, m = q + 1 := ⟨m - 1, by omega⟩
    have : b = B := by omega
    subst this
    refine ⟨σ, ?_, fun _ _ => rfl, hj⟩
    show fX4_find_b23 _ _ _ _ _ _ _ _ = _
    unfold fX4_find_b23
    rw [if_pos (show σ 32 0 ≤ nI b from by rw [nx.1.1]; exact nI_le (Nat.le_refl _) (by omega))]
    rfl
  | succ d ih =>
    intro b m σ h1 h2 h3 nx hr hj
    obtain ⟨m, rfl⟩ : ∃ q, m = q + 1 := ⟨m - 1, by omega⟩
    have hgb := ix_ok (j := b) (n := 12) (by omega) (by omega)
    have hcb : (nI b).toNatClampNeg = b := nI_clamp (by omega)
    have hgb2 : ¬ (nI b < 0 ∨ 12 ≤ b) := fun q => hgb (by rw [hcb]; exact q)
    have hf := farFrom_s ok ht hs hn2 hi (show b < B by omega) hw nx hr
    have o : ∀ x, x ≠ 57 + i → su σ (57 + i) b (nI (cv (DI f B s n w i b))) x = σ x := fun x hx => su_ne hx
    obtain ⟨τ, t1, t2, t3⟩ := ih (b + 1) m (su σ (57 + i) b (nI (cv (DI f B s n w i b)))) (by omega) (by omega) (by omega) (nx.lo ht (fun x hx => o x (by omega))) (fun q j hj2 => by rw [o _ (by omega)]; exact hr q j hj2) (fun j hj2 => by
      by_cases q : j = b
      · subst q; exact su_s
      · rw [su_j q]; exact hj j (by omega))
    refine ⟨τ, ?_, fun x hx => (t2 x hx).trans (o x hx), t3⟩
    show fX4_find_b23 _ _ _ _ _ _ _ _ = _
    unfold fX4_find_b23
    rw [if_neg (show ¬ (σ 32 0 ≤ nI b) from by rw [nx.1.1]; exact nI_ge (by omega) (by omega))]
    simp only [og_t hgi, og_t hgi2, hci, ol, Nat.one_mul, hf, obp, og_t hgb, og_t hgb2, hcb, nI_1]
    exact t1
theorem findR_l {f : Nat → Int32} {B : Nat} {s : Nat → Nat} {n t w : Nat} (ok : okB f B) (ht : t < 6) (hs : ∀ i, i < n → s i < 12) (hn2 : n ≤ 12) : ∀ (d i m : Nat) (σ : S0), n - i = d → 1 ≤ i → i ≤ n → d < m → NX f B s n t σ → (∀ j, j < n → rowX (DI f B s n w j) B (57 + j) σ) → (∀ j, j < i → σ 69 j = rwp f B s n w (j + 1)) → ∃ τ, fX4_find_h112 m σ (nI n) (nI i) = some (0, τ) ∧ (∀ x, x ≠ 69 → τ x = σ x) ∧ ∀ j, j < n → τ 69 j = rwp f B s n w (j + 1) := by
  have hB := ok.1
  intro d
  induction d with
  | zero =>
    intro i m σ h1 h0 h2 h3 nx hr hj
    obtain ⟨m, rfl⟩ : ∃ q, m = q + 1 := ⟨m - 1, by omega⟩
    have : i = n := by omega
    subst this
    refine ⟨σ, ?_, fun _ _ => rfl, hj⟩
    show fX4_find_b112 _ _ _ _ = _
    unfold fX4_find_b112
    rw [if_pos (nI_le (Nat.le_refl _) (by omega))]
  | succ d ih =>
    intro i m σ h1 h0 h2 h3 nx hr hj
    obtain ⟨m, rfl⟩ : ∃ q, m = q + 1 := ⟨m - 1, by omega⟩
    obtain ⟨i', rfl⟩ : ∃ q, i = q + 1 := ⟨i - 1, by omega⟩
    have hgp := ix_ok (j := i') (n := 12) (by omega) (by omega)
    have hcp : (nI i').toNatClampNeg = i' := nI_clamp (by omega)
    have hgp2 : ¬ (nI i' < 0 ∨ 12 ≤ i') := fun q => hgp (by rw [hcp]; exact q)
    have hgi := ix_ok (j := i' + 1) (n := 12) (by omega) (by omega)
    have hci : (nI (i' + 1)).toNatClampNeg = i' + 1 := nI_clamp (by omega)
    have hgi2 : ¬ (nI (i' + 1) < 0 ∨ 12 ≤ i' + 1) := fun q => hgi (by rw [hci]; exact q)
    have hL := leastB_s ok (fun j hj => DI_le hB hs (show i' + 1 < n by omega) hn2 hj) (by omega) nx.1 (hr (i' + 1) (by omega)) (rwp_ok f B s n w (i' + 1))
    have o : ∀ x, x ≠ 69 → su σ 69 (i' + 1) (rwp f B s n w (i' + 2)) x = σ x := fun x hx => su_ne hx
    obtain ⟨τ, t1, t2, t3⟩ := ih (i' + 1 + 1) m (su σ 69 (i' + 1) (rwp f B s n w (i' + 2))) (by omega) (by omega) (by omega) (by omega) (nx.lo ht (fun x hx => o x (by omega))) (fun j hj b hb => by rw [o _ (by omega)]; exact hr j hj b hb) (fun j hj2 => by
      by_cases q : j = i' + 1
      · subst q; exact su_s
      · rw [su_j q]; exact hj j (by omega))
    refine ⟨τ, ?_, fun x hx => (t2 x hx).trans (o x hx), t3⟩
    show fX4_find_b112 _ _ _ _ = _
    unfold fX4_find_b112
    rw [if_neg (nI_ge (by omega) (by omega)), nI_pred]
    simp only [ol, og_t hgp, og_t hgp2, hcp, hj i' (by omega), hL, obp, og_t hgi, og_t hgi2, hci, nI_1]
    exact t1
theorem m1_a (a : Int32) : a + (-1) = a - 1 := by rw [Int32.sub_eq_add_neg]
theorem rwp_1 (f : Nat → Int32) (B : Nat) (s : Nat → Nat) (n w k : Nat) : rwp f B s n w (k + 1) = la f (DI f B s n w k) (rwp f B s n w k) B := rfl
theorem rwp_0 (f : Nat → Int32) (B : Nat) (s : Nat → Nat) (n w : Nat) : rwp f B s n w 0 = -4 := rfl
theorem ol_g {α β : Type} {a : β} {k : β → Option α} : ol a k = k a := rfl
theorem b98_g (σ : S0) (x3 x4 t0 : Int32) {z : Int32} (hz : z = nI 0) : ol (su σ 55 4 t0) (fun σ1 => og (¬ (z < 0 ∨ 12 ≤ z.toNatClampNeg)) (ol (su σ1 69 z.toNatClampNeg x4) (fun σ3 => fX4_find_h112 400 σ3 x3 1))) = fX4_find_h112 400 (su (su σ 55 4 t0) 69 0 x4) x3 (nI 1) := by
  have hc : z.toNatClampNeg = 0 := by rw [hz]; exact nI_clamp (by omega)
  have hg : ¬ (z < 0 ∨ 12 ≤ z.toNatClampNeg) := by rw [hz]; exact ix_ok (by omega) (by omega)
  rw [ol_g, og_t hg, hc, ol_g]
  rfl
theorem b98_s (σ : S0) (x3 x4 t0 : Int32) : fX4_find_b98 σ x3 x4 t0 = fX4_find_h112 400 (su (su σ 55 4 t0) 69 0 x4) x3 (nI 1) := b98_g σ x3 x4 t0 nI_0.symm
theorem b15_g (σ : S0) (x3 r2 : Int32) {z : Int32} (hz : z = nI 0) {j : Nat} (hj : j < 12) (hr : r2 = nI j) : og (¬ (z < 0 ∨ 12 ≤ z.toNatClampNeg)) (ol (57 + 1 * z.toNatClampNeg) (fun q7 => og (¬ (r2 < 0 ∨ 12 ≤ r2.toNatClampNeg)) (ol (σ q7 r2.toNatClampNeg) (fun v9 => fX4_find_b98 σ x3 r2 v9)))) = fX4_find_b98 σ x3 r2 (σ 57 j) := by
  have hc : z.toNatClampNeg = 0 := by rw [hz]; exact nI_clamp (by omega)
  have hg : ¬ (z < 0 ∨ 12 ≤ z.toNatClampNeg) := by rw [hz]; exact ix_ok (by omega) (by omega)
  have hc2 : r2.toNatClampNeg = j := by rw [hr]; exact nI_clamp (by omega)
  have hg2 : ¬ (r2 < 0 ∨ 12 ≤ r2.toNatClampNeg) := by rw [hr]; exact ix_ok (by omega) (by omega)
  rw [og_t hg, hc, ol_g, og_t hg2, hc2, ol_g]
theorem find_e98 {f : Nat → Int32} {B : Nat} {s : Nat → Nat} {n t w : Nat} (ok : okB f B) (ht : t < 6) (hs : ∀ i, i < n → s i < 12) (hn : 1 ≤ n) (hn2 : n ≤ 12) (σ : S0) (nx : NX f B s n t σ) (hr : ∀ i, i < n → rowX (DI f B s n w i) B (57 + i) σ) (v : Int32) : ∃ τ, fX4_find_b98 σ (nI n) (la f (DI f B s n w 0) (-4) B) v = some (0, τ) ∧ (∀ x, x < 55 ∨ 69 < x → τ x = σ x) ∧ τ 55 4 = v ∧ ∀ i, i < n → τ 69 i = rwp f B s n w (i + 1) := by
  have hlo : ∀ x, x ≠ 55 → x ≠ 69 → su (su σ 55 4 v) 69 0 (la f (DI f B s n w 0) (-4) B) x = σ x := fun x a b => by rw [su_ne b, su_ne a]
  obtain ⟨τ, t1, t2, t3⟩ := findR_l (w := w) ok ht hs hn2 (n - 1) 1 400 (su (su σ 55 4 v) 69 0 (la f (DI f B s n w 0) (-4) B)) rfl (by omega) hn (by omega) (nx.lo ht (fun x hx => hlo x (by omega) (by omega))) (fun j hj b hb => by rw [hlo _ (by omega) (by omega)]; exact hr j hj b hb) (fun j hj => by
    have : j = 0 := by omega
    rw [this, su_s, rwp_1, rwp_0])
  refine ⟨τ, ?_, fun x hx => by rw [t2 x (by omega), hlo x (by omega) (by omega)], by rw [t2 55 (by omega), su_ne (by omega), su_s], t3⟩
  rw [b98_s]
  exact t1
theorem cv_9 : nI (cv 99999) = 1000000 := rfl
theorem find_e15 {f : Nat → Int32} {B : Nat} {s : Nat → Nat} {n t w : Nat} (ok : okB f B) (ht : t < 6) (hs : ∀ i, i < n → s i < 12) (hn : 1 ≤ n) (hn2 : n ≤ 12) (sf : S0 → Int32 → Int32 → Int32 → Int32 → Option (Int32 × S0)) (σ : S0) (nx : NX f B s n t σ) (hr : ∀ i, i < n → rowX (DI f B s n w i) B (57 + i) σ) {x4 : Int32} (hx4 : x4 < 0) : ∃ τ, fX4_find_b15 sf σ (nI t) (nI w) (nI n) x4 = some (0, τ) ∧ (∀ x, x < 55 ∨ 69 < x → τ x = σ x) ∧ τ 55 4 = nI (cv (lm f (DI f B s n w 0) (-4) B)) ∧ ∀ i, i < n → τ 69 i = rwp f B s n w (i + 1) := by
  have hB := ok.1
  have hL := leastB_s (i := 0) (x := -4) ok (fun j hj => DI_le (w := w) hB hs (show 0 < n by omega) hn2 hj) (by omega) nx.1 (hr 0 (by omega)) (Or.inl rfl)
  rw [nI_0] at hL
  unfold fX4_find_b15
  rw [if_pos hx4, hL]
  simp only [obp]
  rcases la_s f (DI f B s n w 0) (-4) B with ⟨q1, q2⟩ | ⟨j, q1, q2, q3, q4, q5, q6⟩
  · rw [if_neg (fun z => z q1), q2, cv_9]
    exact find_e98 ok ht hs hn hn2 σ nx hr 1000000
  · have hn4 : ¬ la f (DI f B s n w 0) (-4) B = -4 := by rw [q2]; exact nI_m4 (by omega)
    have hrow : σ 57 j = nI (cv (lm f (DI f B s n w 0) (-4) B)) := by
      rw [← q4]
      exact hr 0 (by omega) j q1
    rw [if_pos hn4]
    rw [b15_g σ (nI n) (la f (DI f B s n w 0) (-4) B) nI_0.symm (j := j) (by omega) q2, hrow]
    exact find_e98 ok ht hs hn hn2 σ nx hr _
theorem findO_l {f : Nat → Int32} {B : Nat} {s : Nat → Nat} {n t w : Nat} (ok : okB f B) (ht : t < 6) (hs : ∀ i, i < n → s i < 12) (hn : 1 ≤ n) (hn2 : n ≤ 12) (hw : w < 12) : ∀ (c m : Nat) (σ : S0), c ≤ n → c < m → NX f B s n t σ → (∀ i, c ≤ i → i < n → rowX (DI f B s n w i) B (57 + i) σ) → ∃ τ, fX4_find_h15 m σ (nI t) (nI w) (nI n) (nI c - 1) = some (0, τ) ∧ (∀ x, x < 55 ∨ 69 < x → τ x = σ x) ∧ τ 55 4 = nI (cv (lm f (DI f B s n w 0) (-4) B)) ∧ ∀ i, i < n → τ 69 i = rwp f B s n w (i + 1) := by
  have hB := ok.1
  intro c
  induction c with
  | zero =>
    intro m σ h2 h3 nx hr
    obtain ⟨m, rfl⟩ : ∃ q, m = q + 1 := ⟨m - 1, by omega⟩
    exact find_e15 ok ht hs hn hn2 (fX4_find_h15 m) σ nx (fun i hi => hr i (by omega) hi) (show nI 0 - 1 < 0 from by decide)
  | succ c ih =>
    intro m σ h2 h3 nx hr
    obtain ⟨m, rfl⟩ : ∃ q, m = q + 1 := ⟨m - 1, by omega⟩
    obtain ⟨ν, v1, v2, v3⟩ := findI_l ok ht hs hn2 (show c < n by omega) hw (fX4_find_h15 m) B 0 400 σ (by omega) (by omega) (by omega) nx (fun q => hr (c + 1) (by omega) q) (fun j hj => by omega)
    obtain ⟨τ, t1, t2, t3, t4⟩ := ih m ν (by omega) (by omega) (nx.lo ht (fun x hx => v2 x (by omega))) (fun i h4 h5 => by
      by_cases q : i = c
      · subst q; exact v3
      · intro b hb
        rw [v2 (57 + i) (by omega)]
        exact hr i (by omega) h5 b hb)
    refine ⟨τ, ?_, fun x hx => by rw [t2 x hx, v2 x (by omega)], t3, t4⟩
    have e0 : fX4_find_h15 (m + 1) σ (nI t) (nI w) (nI n) (nI (c + 1) - 1) = fX4_find_b15 (fX4_find_h15 m) σ (nI t) (nI w) (nI n) (nI (c + 1) - 1) := rfl
    rw [e0, nI_pred]
    unfold fX4_find_b15
    rw [if_neg (nI_pos (by omega))]
    rw [← t1, ← m1_a]
    exact v1
theorem find_s {f : Nat → Int32} {B : Nat} {s : Nat → Nat} {n t w : Nat} (ok : okB f B) (ht : t < 6) (hs : ∀ i, i < n → s i < 12) (hn : 1 ≤ n) (hn2 : n ≤ 12) (hw : w < 12) {σ : S0} (nx : NX f B s n t σ) : ∃ τ, fX4_find σ (nI t) (nI w) = some (0, τ) ∧ (∀ x, x < 55 ∨ 69 < x → τ x = σ x) ∧ τ 55 4 = nI (cv (lm f (DI f B s n w 0) (-4) B)) ∧ ∀ i, i < n → τ 69 i = rwp f B s n w (i + 1) := by
  obtain ⟨τ, t1, t2⟩ := findO_l ok ht hs hn hn2 hw n 400 σ (Nat.le_refl _) (by omega) nx (fun i h4 h5 => by omega)
  refine ⟨τ, ?_, t2⟩
  unfold fX4_find
  rw [og_t (ix_ok ht (by omega)), nI_clamp (by omega), nx.2.1]
  simp only [ol]
  exact t1
end
section
/-! ROUND A BELL: the reference's rows; nearest, dear -/
def MX (f : Nat → Int32) (B : Nat) (s : Nat → Nat) (n t : Nat) (σ : S0) : Prop := σ 98 4 = nI B ∧ σ 99 = f ∧ σ 101 (14 * t + 1) = nI n ∧ ∀ i, i < n → σ 101 (14 * t + 2 + i) = nI (s i)
theorem MX.lo {f : Nat → Int32} {B : Nat} {s : Nat → Nat} {n t : Nat} {a b : S0} (h : MX f B s n t a) (o : ∀ x, x ≠ 107 → b x = a x) : MX f B s n t b := by
  unfold MX at h ⊢
  rw [o 98 (by omega), o 99 (by omega), o 101 (by omega)]
  exact h
theorem nsumI_l {f : Nat → Int32} {B : Nat} {s : Nat → Nat} {n t i w : Nat} (ok : okB f B) (ht : t < 6) (hs : ∀ i, i < n → s i < 12) (hn2 : n ≤ 12) (hi : i < n) (hw : w < 12) (sf : S0 → Int32 → Int32 → Int32 → Int32 → Option (Int32 × S0)) : ∀ (d b m : Nat) (σ : S0), B - b = d → b ≤ B → d < m → MX f B s n t σ → (i + 1 < n → rowM (DI f B s n w (i + 1)) B (i + 1) σ) → (∀ j, j < b → σ 107 (12 * i + j) = nI (DI f B s n w i j)) → ∃ τ, fX11_nearestSum_h19 sf m σ (nI t) (nI w) (nI n) (nI i) (nI b) = sf τ (nI t) (nI w) (nI n) (nI i + (-1)) ∧ (∀ x, x ≠ 107 → τ x = σ x) ∧ (∀ j, ¬ (12 * i ≤ j ∧ j < 12 * i + 12) → τ 107 j = σ 107 j) ∧ rowM (DI f B s n w i) B i τ := by
  have hB := ok.1
  intro d
  induction d with
  | zero =>
    intro b m σ h1 h2 h3 mx hr hj
    obtain ⟨m, rfl⟩ : ∃ q, m = q + 1 := ⟨m - 1, by omega⟩
    have : b = B := by omega
    subst this
    refine ⟨σ, ?_, fun _ _ => rfl, fun _ _ => rfl, hj⟩
    show fX11_nearestSum_b19 _ _ _ _ _ _ _ _ = _
    unfold fX11_nearestSum_b19
    rw [if_pos (show σ 98 4 ≤ nI b from by rw [mx.1]; exact nI_le (Nat.le_refl _) (by omega))]
    rfl
  | succ d ih =>
    intro b m σ h1 h2 h3 mx hr hj
    obtain ⟨m, rfl⟩ : ∃ q, m = q + 1 := ⟨m - 1, by omega⟩
    have hbB : b < B := by omega
    have hgv := ix_ok (j := 12 * i + b) (n := 156) (by omega) (by omega)
    have hcv : (nI (12 * i + b)).toNatClampNeg = 12 * i + b := nI_clamp (by omega)
    have b122 : ∀ v : Int32, fX11_nearestSum_b122 sf (fX11_nearestSum_h19 sf m) σ (nI t) (nI w) (nI n) (nI i) (nI b) v (12 * nI i + nI b) = fX11_nearestSum_h19 sf m (su σ 107 (12 * i + b) v) (nI t) (nI w) (nI n) (nI i) (nI (b + 1)) := fun v => by
      unfold fX11_nearestSum_b122
      rw [x12, og_t hgv, hcv]
      simp only [ol, nI_1]
    have b50 : ∀ r : Nat, r ≤ 99999 → fX11_nearestSum_b50 sf (fX11_nearestSum_h19 sf m) σ (nI t) (nI w) (nI n) (nI i) (nI b) (nI r) = fX11_nearestSum_h19 sf m (su σ 107 (12 * i + b) (nI (if (b ≠ w ∧ f (5 * b + 3) = 0) ∧ r < 99999 then r + dist b (s i) else 99999))) (nI t) (nI w) (nI n) (nI i) (nI (b + 1)) := fun r hr9 => by
      have b80 : fX11_nearestSum_b80 sf (fX11_nearestSum_h19 sf m) σ (nI t) (nI w) (nI n) (nI i) (nI b) (nI r) = fX11_nearestSum_h19 sf m (su σ 107 (12 * i + b) (nI 99999)) (nI t) (nI w) (nI n) (nI i) (nI (b + 1)) := by
        unfold fX11_nearestSum_b80 fX11_nearestSum_b81
        rw [if_pos rfl]
        exact b122 _
      unfold fX11_nearestSum_b50
      by_cases c1 : b = w
      · rw [if_pos (by rw [c1]), b80, if_neg (fun z => z.1.1 c1)]
      · rw [if_neg (fun q => c1 ((nI_eq (by omega) (by omega)).mp q)), of_l σ (b := b) (w := 3) (x := 3) (by omega) (by omega) rfl, mx.2.1]
        simp only [obp]
        by_cases c2 : f (5 * b + 3) = 0
        · rw [if_neg (fun q => q c2)]
          by_cases c3 : r < 99999
          · rw [if_neg (show ¬ (99999 : Int32) ≤ nI r from nI_ge (b := 99999) c3 (by omega)), if_pos ⟨⟨c1, c2⟩, c3⟩]
            unfold fX11_nearestSum_b81
            rw [if_neg (by decide), stroke_s σ ht (by omega), mx.2.2.2 i hi]
            simp only [obp]
            rw [dist_m σ (by omega) (hs i hi)]
            simp only
            rw [b122, nI_add]
          · rw [if_pos (show (99999 : Int32) ≤ nI r from nI_le (a := 99999) (by omega) (by omega)), b80, if_neg (fun z => c3 z.2)]
        · rw [if_pos c2, b80, if_neg (fun z => c2 z.1.2)]
    have hv : fX11_nearestSum_h19 sf (m + 1) σ (nI t) (nI w) (nI n) (nI i) (nI b) = fX11_nearestSum_h19 sf m (su σ 107 (12 * i + b) (nI (DI f B s n w i b))) (nI t) (nI w) (nI n) (nI i) (nI (b + 1)) := by
      show fX11_nearestSum_b19 _ _ _ _ _ _ _ _ = _
      unfold fX11_nearestSum_b19
      obtain ⟨n', rfl⟩ : ∃ q, n = q + 1 := ⟨n - 1, by omega⟩
      rw [if_neg (show ¬ (σ 98 4 ≤ nI b) from by rw [mx.1]; exact nI_ge hbB (by omega)), nI_pred]
      by_cases c3 : i = n'
      · rw [if_neg (fun q => q (by rw [c3])), show (0 : Int32) = nI 0 from rfl, b50 0 (by omega), DI_0 (by omega)]
        by_cases c : b ≠ w ∧ f (5 * b + 3) = 0
        · rw [if_pos ⟨c, by omega⟩, if_pos c, Nat.zero_add]
        · rw [if_neg (fun z => c z.1), if_neg c]
      · have c3' : i + 1 < n' + 1 := by omega
        rw [if_pos (fun q => c3 ((nI_eq (by omega) (by omega)).mp q)), nI_1, restOf_s ok (fun j hj => DI_le hB hs c3' hn2 hj) (by omega) mx.1 mx.2.1 (hr c3') (Or.inr ⟨b, hbB, rfl⟩)]
        simp only [obp]
        rw [b50 _ (lm_le _ _ _ _), DI_s c3']
    have o : ∀ x, x ≠ 107 → su σ 107 (12 * i + b) (nI (DI f B s n w i b)) x = σ x := fun x hx => su_ne hx
    obtain ⟨τ, t1, t2, t3, t4⟩ := ih (b + 1) m (su σ 107 (12 * i + b) (nI (DI f B s n w i b))) (by omega) (by omega) (by omega) (mx.lo o) (fun q j hj2 => by rw [su_j (by omega)]; exact hr q j hj2) (fun j hj2 => by
      by_cases q : j = b
      · subst q; exact su_s
      · rw [su_j (by omega)]; exact hj j (by omega))
    exact ⟨τ, hv.trans t1, fun x hx => (t2 x hx).trans (o x hx), fun j hj2 => by rw [t3 j hj2, su_j (by omega)], t4⟩
theorem nsumO_l {f : Nat → Int32} {B : Nat} {s : Nat → Nat} {n t w : Nat} (ok : okB f B) (ht : t < 6) (hs : ∀ i, i < n → s i < 12) (hn : 1 ≤ n) (hn2 : n ≤ 12) (hw : w < 12) : ∀ (c m : Nat) (σ : S0), c ≤ n → c < m → MX f B s n t σ → (∀ i, c ≤ i → i < n → rowM (DI f B s n w i) B i σ) → ∃ τ, fX11_nearestSum_h11 m σ (nI t) (nI w) (nI n) (nI c - 1) = some (nI (lm f (DI f B s n w 0) (-4) B), τ) ∧ (∀ x, x ≠ 107 → τ x = σ x) ∧ ∀ i, i < n → rowM (DI f B s n w i) B i τ := by
  have hB := ok.1
  intro c
  induction c with
  | zero =>
    intro m σ h2 h3 mx hr
    obtain ⟨m, rfl⟩ : ∃ q, m = q + 1 := ⟨m - 1, by omega⟩
    have hL : fX11_restOf σ 0 (-4) = some (nI (lm f (DI f B s n w 0) (-4) B), σ) := restOf_s (i := 0) ok (fun j hj => DI_le hB hs (show 0 < n by omega) hn2 hj) (by omega) mx.1 mx.2.1 (hr 0 (by omega) (by omega)) (Or.inl rfl)
    refine ⟨σ, ?_, fun _ _ => rfl, fun i hi => hr i (by omega) hi⟩
    show fX11_nearestSum_b11 _ _ _ _ _ _ = _
    unfold fX11_nearestSum_b11
    rw [if_pos (show nI 0 - 1 < 0 from by decide), hL]
    rfl
  | succ c ih =>
    intro m σ h2 h3 mx hr
    obtain ⟨m, rfl⟩ : ∃ q, m = q + 1 := ⟨m - 1, by omega⟩
    obtain ⟨ν, v1, v2, v3, v4⟩ := nsumI_l ok ht hs hn2 (show c < n by omega) hw (fX11_nearestSum_h11 m) B 0 400 σ (by omega) (by omega) (by omega) mx (fun q => hr (c + 1) (by omega) q) (fun j hj => by omega)
    obtain ⟨τ, t1, t2, t3⟩ := ih m ν (by omega) (by omega) (mx.lo v2) (fun i h4 h5 => by
      by_cases q : i = c
      · subst q; exact v4
      · intro b hb
        rw [v3 (12 * i + b) (by omega)]
        exact hr i (by omega) h5 b hb)
    refine ⟨τ, ?_, fun x hx => by rw [t2 x hx, v2 x hx], t3⟩
    have e0 : fX11_nearestSum_h11 (m + 1) σ (nI t) (nI w) (nI n) (nI (c + 1) - 1) = fX11_nearestSum_b11 (fX11_nearestSum_h11 m) σ (nI t) (nI w) (nI n) (nI (c + 1) - 1) := rfl
    rw [e0, nI_pred]
    unfold fX11_nearestSum_b11
    rw [if_neg (nI_pos (by omega))]
    rw [← t1, ← m1_a]
    exact v1
theorem nsum_s {f : Nat → Int32} {B : Nat} {s : Nat → Nat} {n t w : Nat} (ok : okB f B) (ht : t < 6) (hs : ∀ i, i < n → s i < 12) (hn : 1 ≤ n) (hn2 : n ≤ 12) (hw : w < 12) {σ : S0} (mx : MX f B s n t σ) : ∃ τ, fX11_nearestSum σ (nI t) (nI w) = some (nI (lm f (DI f B s n w 0) (-4) B), τ) ∧ (∀ x, x ≠ 107 → τ x = σ x) ∧ ∀ i, i < n → rowM (DI f B s n w i) B i τ := by
  obtain ⟨τ, t1, t2⟩ := nsumO_l ok ht hs hn hn2 hw n 400 σ (Nat.le_refl _) (by omega) mx (fun i h4 h5 => by omega)
  refine ⟨τ, ?_, t2⟩
  unfold fX11_nearestSum
  rw [strokes_s σ ht mx.2.2.1]
  simp only [obp, ol]
  exact t1
/-- the last found, from the highest bell down -/
def ff (f : Nat → Int32) (D : Nat → Nat) (L : Nat) (x : Int32) : Nat → Int32 → Int32
  | 0, y => y
  | c + 1, y => ff f D L x c (if cf f x c ∧ D c = L then nI c else y)
theorem ff_none {f : Nat → Int32} {D : Nat → Nat} {L : Nat} {x : Int32} : ∀ (c : Nat) (y : Int32), (∀ j, j < c → ¬ (cf f x j ∧ D j = L)) → ff f D L x c y = y
  | 0, _, _ => rfl
  | c + 1, y, h => by
    unfold ff
    rw [if_neg (h c (by omega))]
    exact ff_none c y (fun j hj => h j (by omega))
theorem ff_first {f : Nat → Int32} {D : Nat → Nat} {L : Nat} {x : Int32} {k : Nat} (h1 : cf f x k ∧ D k = L) (h2 : ∀ j, j < k → ¬ (cf f x j ∧ D j = L)) : ∀ (c : Nat) (y : Int32), k < c → ff f D L x c y = nI k
  | 0, _, h => by omega
  | c + 1, y, h => by
    unfold ff
    by_cases q : k = c
    · subst q
      rw [if_pos h1]
      exact ff_none k _ h2
    · exact ff_first h1 h2 c _ (by omega)
theorem ff_la {f : Nat → Int32} {D : Nat → Nat} {x : Int32} {B : Nat} (h : lm f D x B < 99999) : ff f D (lm f D x B) x B (-4) = la f D x B := by
  rcases la_s f D x B with ⟨q1, q2⟩ | ⟨j, q1, q2, q3, q4, q5, q6⟩
  · omega
  · rw [q2]
    exact ff_first ⟨q3, q4⟩ (fun i hi z => by have := q6 i hi z.1; omega) B _ q1
theorem nstrI_l {f : Nat → Int32} {D : Nat → Nat} {B k L : Nat} (ok : okB f B) (hD : ∀ b, b < B → D b ≤ 99999) (hk : k < 12) (hL : L ≤ 99999) {σ : S0} (e99 : σ 99 = f) (hr : rowM D B k σ) {x : Int32} (hx : okX B x) (sf : S0 → Int32 → Int32 → Int32 → Option (Int32 × S0)) (z : Int32) : ∀ (c m : Nat) (y : Int32), c ≤ B → c < m → fX11_nearestStroke_h30 sf m σ z x (nI k) (nI L) y (nI c - 1) = sf σ z (ff f D L x c y) (nI (k + 1)) := by
  have hB := ok.1
  intro c
  induction c with
  | zero =>
    intro m y h2 h3
    obtain ⟨m, rfl⟩ : ∃ q, m = q + 1 := ⟨m - 1, by omega⟩
    show fX11_nearestStroke_b30 _ _ _ _ _ _ _ _ _ = _
    unfold fX11_nearestStroke_b30
    rw [if_pos (show nI 0 - 1 < 0 from by decide)]
    simp only [ol, nI_1]
    rfl
  | succ c ih =>
    intro m y h2 h3
    obtain ⟨m, rfl⟩ : ∃ q, m = q + 1 := ⟨m - 1, by omega⟩
    have hgv := ix_ok (j := 12 * k + c) (n := 156) (by omega) (by omega)
    have hcv : (nI (12 * k + c)).toNatClampNeg = 12 * k + c := nI_clamp (by omega)
    have hgv2 : ¬ (nI (12 * k + c) < 0 ∨ 156 ≤ 12 * k + c) := fun q => hgv (by rw [hcv]; exact q)
    have hDc := hD c (by omega)
    have e0 : fX11_nearestStroke_h30 sf (m + 1) σ z x (nI k) (nI L) y (nI (c + 1) - 1) = fX11_nearestStroke_b30 sf (fX11_nearestStroke_h30 sf m) σ z x (nI k) (nI L) y (nI (c + 1) - 1) := rfl
    have ef : ff f D L x (c + 1) y = ff f D L x c (if cf f x c ∧ D c = L then nI c else y) := rfl
    have no : fX11_nearestStroke_b72 sf (fX11_nearestStroke_h30 sf m) σ z x (nI k) (nI L) y (nI c) = sf σ z (ff f D L x c y) (nI (k + 1)) := by
      unfold fX11_nearestStroke_b72 fX11_nearestStroke_b73 fX11_nearestStroke_b87
      rw [if_pos rfl]
      simp only [ol, m1_a]
      exact ih m y (by omega) (by omega)
    have look : cf f x c → fX11_nearestStroke_b51 sf (fX11_nearestStroke_h30 sf m) σ z x (nI k) (nI L) y (nI c) = sf σ z (ff f D L x (c + 1) y) (nI (k + 1)) := fun hc => by
      unfold fX11_nearestStroke_b51
      simp only [ol, x12, og_t hgv, og_t hgv2, hcv, hr c (by omega)]
      by_cases c4 : D c = L
      · rw [if_neg (fun q => q (by rw [c4])), ef, if_pos ⟨hc, c4⟩]
        unfold fX11_nearestStroke_b73 fX11_nearestStroke_b87
        rw [if_neg (by decide)]
        simp only [ol, m1_a]
        exact ih m (nI c) (by omega) (by omega)
      · rw [if_pos (fun q => c4 ((nI_eq (by omega) (by omega)).mp q)), ef, if_neg (fun q => c4 q.2)]
        exact no
    rw [e0, nI_pred]
    unfold fX11_nearestStroke_b30
    rw [if_neg (nI_pos (by omega))]
    by_cases cx : x = -4
    · rw [if_pos cx]
      exact look (Or.inl cx)
    · rw [if_neg cx]
      obtain ⟨k', k1, k2⟩ := hx.resolve_left cx
      have ec := canF_s ok σ e99 k1 (show c < B by omega)
      rw [← k2] at ec
      rw [ec]
      simp only [obp]
      by_cases c5 : cf f x c
      · rw [if_pos c5, if_neg (by decide)]
        exact look c5
      · rw [if_neg c5, if_pos rfl, ef, if_neg (fun q => c5 q.1)]
        exact no
theorem nstr_l {f : Nat → Int32} {B : Nat} {s : Nat → Nat} {n w i : Nat} (ok : okB f B) (hs : ∀ i, i < n → s i < 12) (hn2 : n ≤ 12) (hi : i < n) {σ : S0} (e4 : σ 98 4 = nI B) (e99 : σ 99 = f) (hr : ∀ j, j < n → rowM (DI f B s n w j) B j σ) (hfin : ∀ k, k < n → lm f (DI f B s n w k) (rwp f B s n w k) B < 99999) : ∀ (d k m : Nat), i + 1 - k = d → k ≤ i + 1 → d < m → fX11_nearestStroke_h5 m σ (nI i) (rwp f B s n w k) (nI k) = some (rwp f B s n w (i + 1), σ) := by
  have hB := ok.1
  intro d
  induction d with
  | zero =>
    intro k m h1 h2 h3
    obtain ⟨m, rfl⟩ : ∃ q, m = q + 1 := ⟨m - 1, by omega⟩
    have : k = i + 1 := by omega
    subst this
    show fX11_nearestStroke_b5 _ _ _ _ _ = _
    unfold fX11_nearestStroke_b5
    rw [if_pos (nI_lt (by omega) (by omega))]
  | succ d ih =>
    intro k m h1 h2 h3
    obtain ⟨m, rfl⟩ : ∃ q, m = q + 1 := ⟨m - 1, by omega⟩
    have hle : ∀ j, j < B → DI f B s n w k j ≤ 99999 := fun j hj => DI_le hB hs (show k < n by omega) hn2 hj
    have ih' := ih (k + 1) m (by omega) (by omega) (by omega)
    show fX11_nearestStroke_b5 _ _ _ _ _ = _
    unfold fX11_nearestStroke_b5
    rw [if_neg (nI_nlt (by omega) (by omega)), restOf_s ok hle (by omega) e4 e99 (hr k (by omega)) (rwp_ok f B s n w k)]
    simp only [obp, ol, e4]
    rw [nstrI_l ok hle (by omega) (lm_le _ _ _ _) e99 (hr k (by omega)) (rwp_ok f B s n w k) _ _ B 400 (-4) (Nat.le_refl _) (by omega), ff_la (hfin k (by omega))]
    exact ih'
theorem fin_l {f : Nat → Int32} {B : Nat} {s : Nat → Nat} {n w : Nat} (h : lm f (DI f B s n w 0) (-4) B < 99999) : ∀ k, k < n → lm f (DI f B s n w k) (rwp f B s n w k) B < 99999
  | 0, _ => h
  | k + 1, hk => by
    have ih := fin_l h k (by omega)
    rcases la_s f (DI f B s n w k) (rwp f B s n w k) B with ⟨q1, q2⟩ | ⟨j, q1, q2, q3, q4, q5, q6⟩
    · omega
    · show lm f _ (la f (DI f B s n w k) (rwp f B s n w k) B) B < _
      rw [q2]
      rw [← q4, DI_s hk] at q5
      by_cases c : (j ≠ w ∧ f (5 * j + 3) = 0) ∧ lm f (DI f B s n w (k + 1)) (nI j) B < 99999
      · exact c.2
      · rw [if_neg c] at q5
        omega
/-- the rows out of the relation -/
theorem near_R {σ : S0} {H G B T t : Nat} (h : Rall σ H G B T) (ht : t < T) : okB (σ 99) B ∧ ∃ n, 1 ≤ n ∧ n ≤ 12 ∧ σ 24 t = nI n ∧ (∀ i, i < n → stk (σ 101) t i < 12) ∧ NX (σ 99) B (stk (σ 101) t) n t σ ∧ MX (σ 99) B (stk (σ 101) t) n t σ := by
  obtain ⟨b1, b2, b3, b4, b5⟩ := h.1.1
  obtain ⟨m1, m2, fo, m3, m4, m5, m6⟩ := h.2.2.1
  obtain ⟨k1, k2, k3, k4, k5⟩ := h.2.1
  simp only [Nat.zero_add] at m1 m2 m3 k2 k3
  obtain ⟨n, a1, a2, a3, a4, a5, a6, a7⟩ := h.2.2.2.1 t ht
  have hp : 2 ^ H ≤ 2 ^ 6 := Nat.pow_le_pow_right (by omega) b2
  have hst : ∀ i, i < n → ∃ b, b < B ∧ σ 101 (14 * t + 2 + i) = nI b ∧ σ (26 + t) i = nI b ∧ stk (σ 101) t i = b := fun i hi => by
    obtain ⟨b, c1, c2, c3⟩ := a7 i hi
    exact ⟨b, c1, c2, c3, by unfold stk; rw [c2]; exact nI_clamp (by omega)⟩
  refine ⟨⟨b4, fun b hb => ?_, fo, fun x hx => ⟨by have := (m3 x hx).1; omega, (m3 x hx).2⟩, m4⟩, n, a1, a2, a4, fun i hi => ?_, ⟨⟨k1, fun b hb => ?_, k3⟩, a4, fun i hi => ?_⟩, h.1.2.1.2.2.1, rfl, a3, fun i hi => ?_⟩
  · obtain ⟨⟨w, d1, d2⟩, -⟩ := m2 b hb
    exact ⟨w, by omega, d2⟩
  · obtain ⟨b, c1, c2, c3, c4⟩ := hst i hi
    omega
  · obtain ⟨f1, f2, f3, f4, f5⟩ := k2 b hb
    exact ⟨f1, f4⟩
  · obtain ⟨b, c1, c2, c3, c4⟩ := hst i hi
    rw [c3, c4]
  · obtain ⟨b, c1, c2, c3, c4⟩ := hst i hi
    rw [c2, c4]
theorem onlyN_e {σ τ : S0} (h : ∀ x, x < 55 ∨ 69 < x → τ x = σ x) : eqv σ τ := fun k j hr => by
  by_cases q : k < 55 ∨ 69 < k
  · rw [h k q]
  · unfold rel at hr
    have := of_decide_eq_true hr
    omega
theorem only7_e {σ τ : S0} (h : ∀ x, x ≠ 107 → τ x = σ x) : eqv σ τ := fun k j hr => by
  by_cases q : k = 107
  · subst q
    unfold rel at hr
    have := of_decide_eq_true hr
    omega
  · rw [h k q]
theorem cv_far {a : Nat} (h : a ≤ 99999) : nI (cv a) = 1000000 ↔ a = 99999 := by
  constructor
  · intro q
    by_cases c : a = 99999
    · exact c
    · rw [cv_n (by omega)] at q
      have := (nI_eq (a := a) (b := 1000000) (by omega) (by omega)).mp q
      omega
  · intro q
    rw [q]
    rfl
theorem near_b {σ : S0} {H G B T t w : Nat} (h : Rall σ H G B T) (ht : t < T) (hw : w < B) {y : Int32} {n : Nat} (hn12 : n ≤ 12) (e24 : σ 24 t = nI n) (hy : y = 0 ∨ ∃ i, i < n ∧ y = nI (10 + i)) : An (fX10_nearest_b42 σ (nI t) (nI w) y) (fun r τ => An (fX11_nearest_b42 τ (nI t) (nI w) y) (fun q ρ => r = q ∧ R ρ)) := by
  obtain ⟨ok, n', n1, n2, e24', hs, nx, mx⟩ := near_R h ht
  obtain ⟨b1, b2, b3, b4, b5⟩ := h.1.1
  have hnn : nI n = nI n' := e24.symm.trans e24'
  obtain ⟨τ, t1, t2, t3, t4⟩ := find_s ok (by omega) hs n1 n2 (w := w) (by omega) nx
  have hτ := h.cg (onlyN_e t2)
  obtain ⟨ρ, q1, q2, q3⟩ := nsum_s (t := t) (B := B) (s := stk (σ 101) t) ok (by omega) hs n1 n2 (w := w) (by omega) (σ := τ) (by
    unfold MX at mx ⊢
    rw [t2 98 (by omega), t2 99 (by omega), t2 101 (by omega)]
    exact mx)
  have hρ : R ρ := ⟨H, G, B, T, hτ.cg (only7_e q2)⟩
  have hl := lm_le (σ 99) (DI (σ 99) B (stk (σ 101) t) n' w 0) (-4) B
  have hcv := cv_far hl
  by_cases c : lm (σ 99) (DI (σ 99) B (stk (σ 101) t) n' w 0) (-4) B = 99999
  · refine ⟨-4, τ, ?_, -4, ρ, ?_, rfl, hρ⟩
    · unfold fX10_nearest_b42
      rw [t1]
      simp only [obp]
      rw [t3, if_neg (fun q => q (hcv.mpr c))]
    · unfold fX11_nearest_b42
      rw [q1]
      simp only [obp]
      rw [if_neg (fun q => q (by rw [c]; rfl))]
  · have cX : ¬ nI (cv (lm (σ 99) (DI (σ 99) B (stk (σ 101) t) n' w 0) (-4) B)) = 1000000 := fun q => c (hcv.mp q)
    have cM : ¬ nI (lm (σ 99) (DI (σ 99) B (stk (σ 101) t) n' w 0) (-4) B) = 99999 := fun q => c ((nI_eq (b := 99999) (by omega) (by omega)).mp q)
    rcases hy with rfl | ⟨i, hi, rfl⟩
    · refine ⟨nI (lm (σ 99) (DI (σ 99) B (stk (σ 101) t) n' w 0) (-4) B), τ, ?_, nI (lm (σ 99) (DI (σ 99) B (stk (σ 101) t) n' w 0) (-4) B), ρ, ?_, rfl, hρ⟩
      · unfold fX10_nearest_b42
        rw [t1]
        simp only [obp]
        rw [t3, if_pos cX, if_neg (by simp), cv_n (by omega)]
      · unfold fX11_nearest_b42
        rw [q1]
        simp only [obp]
        rw [if_pos cM, if_neg (by simp)]
    · have hi' : i < n' := by
        have := (nI_eq (by omega) (by omega)).mp hnn
        omega
      have hne : ¬ nI (10 + i) = 0 := nI_ne0 (by omega) (by omega)
      have e10 : nI (10 + i) - 10 = nI i := by
        rw [show (10 : Int32) = nI 10 from rfl, pk_sub (by omega), show 10 + i - 10 = i by omega]
      have hS := nstr_l (i := i) ok hs n2 hi' (σ := ρ) (by rw [q2 98 (by omega), t2 98 (by omega)]; exact mx.1) (by rw [q2 99 (by omega), t2 99 (by omega)]) q3 (fin_l (by omega)) (i + 1) 0 400 (by omega) (by omega) (by omega)
      have hS' : fX11_nearestStroke ρ (nI i) = some (rwp (σ 99) B (stk (σ 101) t) n' w (i + 1), ρ) := hS
      refine ⟨rwp (σ 99) B (stk (σ 101) t) n' w (i + 1), τ, ?_, rwp (σ 99) B (stk (σ 101) t) n' w (i + 1), ρ, ?_, rfl, hρ⟩
      · unfold fX10_nearest_b42
        rw [t1]
        simp only [obp]
        rw [t3, if_pos cX, if_pos hne, e10]
        simp only [ol]
        rw [og_t (ix_ok (by omega) (by omega)), nI_clamp (by omega), t4 i hi']
      · unfold fX11_nearest_b42
        rw [q1]
        simp only [obp]
        rw [if_pos cM, if_pos hne, e10, hS']
theorem sim_nearest (x b y : Int32) : Sim (fun σ => fX10_nearest σ x b y) (fun σ => fX11_nearest σ x b y) := by
  intro σ hR
  show An (fX10_nearest σ x b y) (fun r τ => An (fX11_nearest τ x b y) (fun q ρ => r = q ∧ R ρ))
  obtain ⟨H, G, B, T, h⟩ := id hR
  obtain ⟨⟨b1, b2, b3, b4, b5⟩, ⟨e1, e2, e5, e6⟩, e3, e4, e7⟩ := h.1
  have ek := h.2.1.1
  have hone : ¬ (1 : Int32) = 0 := by decide
  rcases ixc x T (by omega) with ⟨t, ht, rfl⟩ | hx
  · rcases ixc b B (by omega) with ⟨w, hw, rfl⟩ | hb
    · obtain ⟨n, a1, a2, a3, a4, a5, a6, a7⟩ := h.2.2.2.1 t ht
      have hgt := ix_ok (j := t) (n := 6) (by omega) (by omega)
      have hct : (nI t).toNatClampNeg = t := nI_clamp (by omega)
      have e9 : (9 + nI n : Int32) = nI (9 + n) := nI_add 9 n
      have e10 : (10 + nI n : Int32) = nI (10 + n) := nI_add 10 n
      have hlt : y < 10 ↔ y.toInt < 10 := i3_lt _ _
      have hle : nI (10 + n) ≤ y ↔ ((10 + n : Nat) : Int) ≤ y.toInt := by rw [i3_le, ir (by omega)]
      -- the class
      have cX : ∀ (z : Int32), fX10_nearest σ (nI t) (nI w) z = if z = 0 then fX10_nearest_b42 σ (nI t) (nI w) z else if z < 10 then some (-1, σ) else if nI (10 + n) ≤ z then some (-1, σ) else fX10_nearest_b42 σ (nI t) (nI w) z := fun z => by
        unfold fX10_nearest fX9_asksStroke
        rw [ht_y e7 (by omega) ht]
        simp only [obp]
        rw [if_neg hone, hb_y ek b4 hw]
        simp only
        rw [if_pos hone, og_t hgt, hct]
        simp only [ol, Nat.reduceAdd, a4, e10]
        by_cases c0 : z = 0
        · rw [if_pos c0, if_pos c0]
        · rw [if_neg c0, if_neg c0]
          by_cases c1 : z < 10
          · rw [if_pos c1, if_pos c1]
            rfl
          · rw [if_neg c1, if_neg c1]
            by_cases c2 : nI (10 + n) ≤ z
            · rw [if_pos c2, if_pos c2]
              rfl
            · rw [if_neg c2, if_neg c2]
              simp only
              rw [if_pos hone]
      have cM : ∀ (τ : S0) (z : Int32), τ 98 = σ 98 → τ 101 = σ 101 → fX11_nearest τ (nI t) (nI w) z = if z = 0 then fX11_nearest_b42 τ (nI t) (nI w) z else if 10 ≤ z.toInt ∧ z.toInt ≤ 9 + n then fX11_nearest_b42 τ (nI t) (nI w) z else some (-1, τ) := fun τ z o1 o2 => by
        unfold fX11_nearest
        rw [it_y (by rw [o1]; exact e6) (by omega) ht]
        simp only [obp]
        rw [if_neg hone, ib_y (by rw [o1]; exact e5) b4 hw]
        simp only
        rw [if_neg hone, strokes_s τ (t := t) (by omega) (by rw [o2]; exact a3)]
        simp only
        rw [in_i τ z 10 _ 10 (9 + n) rfl (by rw [Int32.toInt_toInt64, e9, ir (by omega)]; omega)]
        simp only
        by_cases c0 : z = 0
        · rw [if_pos c0, if_pos c0]
        · rw [if_neg c0, if_neg c0]
          by_cases c1 : 10 ≤ z.toInt ∧ z.toInt ≤ 9 + n
          · rw [if_pos c1, if_pos c1, if_pos hone]
          · rw [if_neg c1, if_neg c1, if_neg (fun q => q rfl)]
      have good : (y = 0 ∨ ∃ i, i < n ∧ y = nI (10 + i)) → An (fX10_nearest_b42 σ (nI t) (nI w) y) (fun r τ => An (fX11_nearest_b42 τ (nI t) (nI w) y) (fun q ρ => r = q ∧ R ρ)) := fun hy => near_b h ht hw a2 a4 hy
      have lift : (∀ τ : S0, τ 98 = σ 98 → τ 101 = σ 101 → fX11_nearest τ (nI t) (nI w) y = fX11_nearest_b42 τ (nI t) (nI w) y) → (y = 0 ∨ ∃ i, i < n ∧ y = nI (10 + i)) → An (fX10_nearest_b42 σ (nI t) (nI w) y) (fun r τ => An (fX11_nearest τ (nI t) (nI w) y) (fun q ρ => r = q ∧ R ρ)) := fun hm hy => by
        obtain ⟨r, τ, p1, p2⟩ := good hy
        have fx := rx_fX10_nearest_b42 σ σ (nI t) (nI w) y
        rw [mix_self, p1] at fx
        obtain ⟨τ', z1, z2⟩ := mo_inv fx.symm
        have : τ = τ' := by cases z1; rfl
        subst this
        refine ⟨r, τ, p1, ?_⟩
        show An (fX11_nearest τ (nI t) (nI w) y) _
        rw [hm τ (by rw [z2, mix_hi (by omega)]) (by rw [z2, mix_hi (by omega)])]
        exact p2
      rw [cX]
      by_cases y0 : y = 0
      · rw [if_pos y0]
        exact lift (fun τ o1 o2 => by rw [cM τ y o1 o2, if_pos y0]) (Or.inl y0)
      · rw [if_neg y0]
        by_cases c : 10 ≤ y.toInt ∧ y.toInt ≤ 9 + n
        · rw [if_neg (by rw [hlt]; omega), if_neg (by rw [hle]; omega)]
          refine lift (fun τ o1 o2 => by rw [cM τ y o1 o2, if_neg y0, if_pos c]) (Or.inr ⟨(y.toInt - 10).toNat, by omega, (i3_eq _ _).mpr ?_⟩)
          rw [ir (by omega)]
          omega
        · have em := cM σ y rfl rfl
          rw [if_neg y0, if_neg c] at em
          by_cases c1 : y < 10
          · rw [if_pos c1]
            exact ⟨-1, σ, rfl, -1, σ, em, rfl, hR⟩
          · rw [if_neg c1, if_pos (by rw [hle]; rw [hlt] at c1; omega)]
            exact ⟨-1, σ, rfl, -1, σ, em, rfl, hR⟩
    · refine Sim.same (fun τ => fX11_nearest τ (nI t) b y) (a := -1) hR ?_ ?_
      · unfold fX10_nearest
        rw [ht_y e7 (by omega) ht]
        simp only [obp]
        rw [if_neg hone, hb_n ek b4 hb]
        rfl
      · show fX11_nearest σ (nI t) b y = _
        unfold fX11_nearest
        rw [it_y e6 (by omega) ht]
        simp only [obp]
        rw [if_neg hone, ib_n e5 b4 hb]
        rfl
  · refine Sim.same (fun τ => fX11_nearest τ x b y) (a := -1) hR ?_ ?_
    · unfold fX10_nearest; rw [ht_n e7 (by omega) hx]; rfl
    · show fX11_nearest σ x b y = _
      unfold fX11_nearest; rw [it_n e6 (by omega) hx]; rfl
/-- dear, after b bells: the bell, how far -/
def dr (V : Nat → Nat) : Nat → Int32 × Nat
  | 0 => (-4, 0)
  | b + 1 => if (dr V b).1 = -4 ∨ (dr V b).2 < V b then (nI b, V b) else dr V b
def drX (V : Nat → Nat) : Nat → Int32
  | 0 => -1
  | b + 1 => nI (cv (dr V (b + 1)).2)
theorem dr_n (V : Nat → Nat) : ∀ b, b < 1000 → ¬ (dr V (b + 1)).1 = -4
  | 0, _ => by
    unfold dr
    rw [if_pos (show (dr V 0).1 = -4 ∨ _ from Or.inl rfl)]
    exact nI_m4 (a := 0) (by decide)
  | b + 1, hb => by
    have ih := dr_n V b (by omega)
    unfold dr
    by_cases c : (dr V (b + 1)).1 = -4 ∨ (dr V (b + 1)).2 < V (b + 1)
    · rw [if_pos c]
      exact nI_m4 (by omega)
    · rw [if_neg c]
      exact ih
theorem dr_le {V : Nat → Nat} (hV : ∀ b, V b ≤ 99999) : ∀ b, (dr V b).2 ≤ 99999
  | 0 => by unfold dr; omega
  | b + 1 => by
    have ih := dr_le hV b
    unfold dr
    by_cases c : (dr V b).1 = -4 ∨ (dr V b).2 < V b
    · rw [if_pos c]; exact hV b
    · rw [if_neg c]; exact ih
theorem dearX_l {f : Nat → Int32} {B : Nat} {s : Nat → Nat} {n t : Nat} (ok : okB f B) (ht : t < 6) (hs : ∀ i, i < n → s i < 12) (hn : 1 ≤ n) (hn2 : n ≤ 12) (V : Nat → Nat) (hV : ∀ w, V w = lm f (DI f B s n w 0) (-4) B) : ∀ (d b m : Nat) (σ : S0), B - b = d → b ≤ B → d < m → NX f B s n t σ → ∃ τ, fX10_dear_h21 m σ (nI t) (dr V b).1 (drX V b) (nI b) = some ((dr V B).1, τ) ∧ ∀ x, x < 55 ∨ 69 < x → τ x = σ x := by
  have hB := ok.1
  have hVl : ∀ b, V b ≤ 99999 := fun b => by rw [hV]; exact lm_le _ _ _ _
  intro d
  induction d with
  | zero =>
    intro b m σ h1 h2 h3 nx
    obtain ⟨m, rfl⟩ : ∃ q, m = q + 1 := ⟨m - 1, by omega⟩
    have : b = B := by omega
    subst this
    refine ⟨σ, ?_, fun _ _ => rfl⟩
    show fX10_dear_b21 _ _ _ _ _ _ = _
    unfold fX10_dear_b21
    rw [if_pos (show σ 32 0 ≤ nI b from by rw [nx.1.1]; exact nI_le (Nat.le_refl _) (by omega))]
  | succ d ih =>
    intro b m σ h1 h2 h3 nx
    obtain ⟨m, rfl⟩ : ∃ q, m = q + 1 := ⟨m - 1, by omega⟩
    obtain ⟨ν, v1, v2, v3, -⟩ := find_s ok ht hs hn hn2 (w := b) (by omega) nx
    rw [← hV] at v3
    obtain ⟨τ, t1, t2⟩ := ih (b + 1) m ν (by omega) (by omega) (by omega) (nx.lo ht (fun x hx => v2 x (by omega)))
    have hvb := hVl b
    have hcb := cv_b _ hvb
    have ed : dr V (b + 1) = if (dr V b).1 = -4 ∨ (dr V b).2 < V b then (nI b, V b) else dr V b := rfl
    have ex : drX V (b + 1) = nI (cv (dr V (b + 1)).2) := rfl
    rw [ex] at t1
    refine ⟨τ, ?_, fun x hx => (t2 x hx).trans (v2 x hx)⟩
    show fX10_dear_b21 _ _ _ _ _ _ = _
    unfold fX10_dear_b21 fX10_dear_b65
    rw [if_neg (show ¬ (σ 32 0 ≤ nI b) from by rw [nx.1.1]; exact nI_ge (by omega) (by omega)), v1]
    simp only [obp, ol, nI_1, v3]
    cases b with
    | zero =>
      rw [if_neg (show ¬ nI (cv (V 0)) ≤ drX V 0 from fun q => by
        have := (i3_le _ _).mp q
        rw [ir (by omega)] at this
        have e1 : (drX V 0).toInt = -1 := rfl
        omega)]
      rw [ed, if_pos (show (dr V 0).1 = -4 ∨ _ from Or.inl rfl)] at t1
      exact t1
    | succ b =>
      have hl := dr_le hVl (b + 1)
      have hcl := cv_b _ hl
      have hn4 := dr_n V b (by omega)
      have e := (nI_leI (a := cv (V (b + 1))) (b := cv (dr V (b + 1)).2) (by omega) (by omega)).trans (cv_le hvb hl)
      have ex2 : drX V (b + 1) = nI (cv (dr V (b + 1)).2) := rfl
      rw [ex2]
      by_cases c : V (b + 1) ≤ (dr V (b + 1)).2
      · rw [if_pos (e.mpr c)]
        rw [ed, if_neg (fun q => q.elim hn4 (fun z => by omega))] at t1
        exact t1
      · rw [if_neg (fun q => c (e.mp q))]
        rw [ed, if_pos (Or.inr (by omega))] at t1
        exact t1
theorem dearM_l {f : Nat → Int32} {B : Nat} {s : Nat → Nat} {n t : Nat} (ok : okB f B) (ht : t < 6) (hs : ∀ i, i < n → s i < 12) (hn : 1 ≤ n) (hn2 : n ≤ 12) (V : Nat → Nat) (hV : ∀ w, V w = lm f (DI f B s n w 0) (-4) B) : ∀ (d b m : Nat) (σ : S0), B - b = d → b ≤ B → d < m → MX f B s n t σ → ∃ τ, fX11_dear_h18 m σ (nI t) (dr V b).1 (nI (dr V b).2) (nI b) = some ((dr V B).1, τ) ∧ ∀ x, x ≠ 107 → τ x = σ x := by
  have hB := ok.1
  have hVl : ∀ b, V b ≤ 99999 := fun b => by rw [hV]; exact lm_le _ _ _ _
  have hone : ¬ (1 : Int32) = 0 := by decide
  intro d
  induction d with
  | zero =>
    intro b m σ h1 h2 h3 mx
    obtain ⟨m, rfl⟩ : ∃ q, m = q + 1 := ⟨m - 1, by omega⟩
    have : b = B := by omega
    subst this
    refine ⟨σ, ?_, fun _ _ => rfl⟩
    show fX11_dear_b18 _ _ _ _ _ _ = _
    unfold fX11_dear_b18
    rw [if_pos (show σ 98 4 ≤ nI b from by rw [mx.1]; exact nI_le (Nat.le_refl _) (by omega))]
  | succ d ih =>
    intro b m σ h1 h2 h3 mx
    obtain ⟨m, rfl⟩ : ∃ q, m = q + 1 := ⟨m - 1, by omega⟩
    obtain ⟨ν, v1, v2, -⟩ := nsum_s ok ht hs hn hn2 (w := b) (by omega) mx
    rw [← hV] at v1
    obtain ⟨τ, t1, t2⟩ := ih (b + 1) m ν (by omega) (by omega) (by omega) (mx.lo v2)
    have hvb := hVl b
    have hl := dr_le hVl b
    have ed : dr V (b + 1) = if (dr V b).1 = -4 ∨ (dr V b).2 < V b then (nI b, V b) else dr V b := rfl
    refine ⟨τ, ?_, fun x hx => (t2 x hx).trans (v2 x hx)⟩
    show fX11_dear_b18 _ _ _ _ _ _ = _
    unfold fX11_dear_b18 fX11_dear_b48 fX11_dear_b53 fX11_dear_b66 fX11_dear_b78
    rw [if_neg (show ¬ (σ 98 4 ≤ nI b) from by rw [mx.1]; exact nI_ge (by omega) (by omega)), v1]
    simp only [obp, ol, nI_1, if_neg hone, if_true]
    have e := nI_leI (a := V b) (b := (dr V b).2) (by omega) (by omega)
    by_cases c1 : (dr V b).1 = -4
    · rw [if_pos c1]
      rw [ed, if_pos (Or.inl c1)] at t1
      exact t1
    · rw [if_neg c1]
      by_cases c : V b ≤ (dr V b).2
      · rw [if_pos (e.mpr c)]
        rw [ed, if_neg (fun q => q.elim c1 (fun z => by omega))] at t1
        exact t1
      · rw [if_neg (fun q => c (e.mp q))]
        rw [ed, if_pos (Or.inr (by omega))] at t1
        exact t1
theorem sim_dear (x : Int32) : Sim (fun σ => fX10_dear σ x) (fun σ => fX11_dear σ x) := by
  intro σ hR
  show An (fX10_dear σ x) (fun r τ => An (fX11_dear τ x) (fun q ρ => r = q ∧ R ρ))
  obtain ⟨H, G, B, T, h⟩ := id hR
  obtain ⟨⟨b1, b2, b3, b4, b5⟩, ⟨e1, e2, e5, e6⟩, e3, e4, e7⟩ := h.1
  have hone : ¬ (1 : Int32) = 0 := by decide
  rcases ixc x T (by omega) with ⟨t, ht, rfl⟩ | hx
  · obtain ⟨ok, n, n1, n2, e24, hs, nx, mx⟩ := near_R h ht
    obtain ⟨τ, t1, t2⟩ := dearX_l ok (by omega) hs n1 n2 (fun w => lm (σ 99) (DI (σ 99) B (stk (σ 101) t) n w 0) (-4) B) (fun _ => rfl) B 0 400 σ (by omega) (by omega) (by omega) nx
    have hτ := h.cg (onlyN_e t2)
    obtain ⟨ρ, q1, q2⟩ := dearM_l (t := t) ok (by omega) hs n1 n2 (fun w => lm (σ 99) (DI (σ 99) B (stk (σ 101) t) n w 0) (-4) B) (fun _ => rfl) B 0 400 τ (by omega) (by omega) (by omega) (by
      unfold MX at mx ⊢
      rw [t2 98 (by omega), t2 99 (by omega), t2 101 (by omega)]
      exact mx)
    refine ⟨(dr (fun w => lm (σ 99) (DI (σ 99) B (stk (σ 101) t) n w 0) (-4) B) B).1, τ, ?_, (dr (fun w => lm (σ 99) (DI (σ 99) B (stk (σ 101) t) n w 0) (-4) B) B).1, ρ, ?_, rfl, H, G, B, T, hτ.cg (only7_e q2)⟩
    · unfold fX10_dear
      rw [ht_y e7 (by omega) ht]
      simp only [obp]
      rw [if_pos hone]
      exact t1
    · show fX11_dear τ (nI t) = _
      unfold fX11_dear
      rw [it_y (by rw [t2 98 (by omega)]; exact e6) (by omega) ht]
      simp only [obp]
      rw [if_pos hone]
      exact q1
  · refine Sim.same (fun τ => fX11_dear τ x) (a := -1) hR ?_ ?_
    · unfold fX10_dear; rw [ht_n e7 (by omega) hx]; rfl
    · show fX11_dear σ x = _
      unfold fX11_dear; rw [it_n e6 (by omega) hx]; rfl
end
