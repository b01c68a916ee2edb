/-! FEASTS: the reference's side, the choice -/
def onlyG (σ τ : S0) : Prop := ∀ k j, ¬ (k = 98 ∧ 24 ≤ j ∧ j ≤ 33) → k ≠ 105 → τ k j = σ k j
theorem onlyG.tr {a b c : S0} (h1 : onlyG a b) (h2 : onlyG b c) : onlyG a c := fun k j x y => (h2 k j x y).trans (h1 k j x y)
theorem onlyG.rf (a : S0) : onlyG a a := fun _ _ _ _ => rfl
theorem onlyG.c {a b : S0} (h : onlyG a b) {k : Nat} (h1 : k ≠ 98) (h2 : k ≠ 105) : b k = a k := funext fun j => h k j (fun q => h1 q.1) h2
theorem onlyG.e {a b : S0} (h : onlyG a b) : eqv a b := fun k j hr => h k j (fun q => by
  obtain ⟨rfl, q2, q3⟩ := q
  unfold rel at hr
  have := of_decide_eq_true hr
  omega) (fun q => by
  subst q
  unfold rel at hr
  have := of_decide_eq_true hr
  omega)
theorem onlyR.g {a b : S0} (h : onlyR a b) : onlyG a b := fun k j x y => h k j (fun q => x ⟨q.1, q.2.1, by omega⟩) y
theorem onlyG.su {a b : S0} (h : onlyG a b) {j : Nat} (hj : 24 ≤ j ∧ j ≤ 33) (v : Int32) : onlyG a (su b 98 j v) := fun k i x y => by
  rw [← h k i x y]
  by_cases hk : k = 98
  · subst hk
    exact su_j (fun q => x ⟨rfl, by omega, by omega⟩)
  · rw [su_ne hk]
theorem isFair_a {H : Nat} (hH : H ≤ 6) (y : Int32) {σ : S0} (e : σ 98 2 = nI H) : ∀ (d i m : Nat) (z : Int32), H - i = d → i ≤ H → d < m → (z = 0 ∨ z = 1) → ∃ r, fX11_isFair_h57 m σ y z (nI i) = some (r, σ) ∧ (r = 0 ∨ r = 1) ∧ (r = 1 ↔ z = 1 ∧ ∀ h, i ≤ h → h < H → σ 105 h ≤ y) := by
  intro d
  induction d with
  | zero =>
    intro i m z h1 h2 h3 hz
    obtain ⟨m, rfl⟩ : ∃ q, m = q + 1 := ⟨m - 1, by omega⟩
    have : i = H := by omega
    subst this
    refine ⟨z, ?_, hz, ⟨fun q => ⟨q, fun h a b => by omega⟩, fun q => q.1⟩⟩
    show fX11_isFair_b57 _ _ _ _ _ = _
    unfold fX11_isFair_b57
    rw [if_pos (show σ 98 2 ≤ nI i from by rw [e]; exact nI_le (Nat.le_refl _) (by omega)), og_t hz]
  | succ d ih =>
    intro i m z h1 h2 h3 hz
    obtain ⟨m, rfl⟩ : ∃ q, m = q + 1 := ⟨m - 1, by omega⟩
    have hone : ¬ (1 : Int32) = 0 := by decide
    have hzero : ¬ (0 : Int32) = 1 := by decide
    have e1 : fX11_isFair_h57 (m + 1) σ y z (nI i) = fX11_isFair_h57 m σ y (if z = 0 then 0 else if y < σ 105 i then 0 else 1) (nI (i + 1)) := by
      show fX11_isFair_b57 _ _ _ _ _ = _
      unfold fX11_isFair_b57 fX11_isFair_b85 fX11_isFair_b86
      rw [if_neg (show ¬ (σ 98 2 ≤ nI i) from by rw [e]; exact nI_ge (by omega) (by omega)), og_t (ix_ok (j := i) (n := 6) (by omega) (by omega)), nI_clamp (by omega)]
      simp only [ol, nI_1]
      by_cases c : z = 0
      · rw [if_pos c, if_pos c]
      · rw [if_neg c, if_neg c]
        by_cases c2 : y < σ 105 i
        · rw [if_pos c2, if_pos c2]
        · rw [if_neg c2, if_neg c2]
    rw [e1]
    by_cases c : z = 0
    · rw [if_pos c]
      obtain ⟨r, r1, r2, r3⟩ := ih (i + 1) m 0 (by omega) (by omega) (by omega) (Or.inl rfl)
      refine ⟨r, r1, r2, r3.trans ⟨fun q => absurd q.1 hzero, fun q => absurd (c.symm.trans q.1) hzero⟩⟩
    · have c' : z = 1 := hz.resolve_left c
      rw [if_neg c]
      by_cases c2 : y < σ 105 i
      · rw [if_pos c2]
        obtain ⟨r, r1, r2, r3⟩ := ih (i + 1) m 0 (by omega) (by omega) (by omega) (Or.inl rfl)
        refine ⟨r, r1, r2, r3.trans ⟨fun q => absurd q.1 hzero, fun q => absurd c2 (Int32.not_lt.mpr (q.2 i (Nat.le_refl _) (by omega)))⟩⟩
      · rw [if_neg c2]
        obtain ⟨r, r1, r2, r3⟩ := ih (i + 1) m 1 (by omega) (by omega) (by omega) (Or.inr rfl)
        refine ⟨r, r1, r2, r3.trans ⟨fun q => ⟨c', fun h a b => ?_⟩, fun q => ⟨rfl, fun h a b => q.2 h (by omega) b⟩⟩⟩
        by_cases hi : h = i
        · subst hi; exact Int32.not_lt.mp c2
        · exact q.2 h (by omega) b
theorem isFair_l (f g : Nat → Int32) {T : Nat} (hT : T ≤ 6) (x y : Int32) (ok : ∀ u, u < T → okT f g u (ln g u)) : ∀ (d t m : Nat) (σ : S0), T - t = d → t ≤ T → d < m → σ 99 = f → σ 101 = g → σ 98 5 = nI T → (∀ h, h < 6 → σ 105 h = smr f g h x t) → σ 98 32 = smc f g x t → ∃ τ, fX11_isFair_h11 m σ x y (nI t) = fX11_isFair_h57 400 τ y 1 0 ∧ onlyG σ τ ∧ τ 98 33 = σ 98 33 ∧ (∀ h, h < 6 → τ 105 h = smr f g h x T) ∧ τ 98 32 = smc f g x T := by
  intro d
  induction d with
  | zero =>
    intro t m σ h1 h2 h3 e1 e2 e3 s1 s2
    obtain ⟨m, rfl⟩ : ∃ q, m = q + 1 := ⟨m - 1, by omega⟩
    have : t = T := by omega
    subst this
    refine ⟨σ, ?_, onlyG.rf σ, rfl, s1, s2⟩
    show fX11_isFair_b11 _ _ _ _ _ = _
    unfold fX11_isFair_b11
    rw [if_pos (show σ 98 5 ≤ nI t from by rw [e3]; exact nI_le (Nat.le_refl _) (by omega))]
  | succ d ih =>
    intro t m σ h1 h2 h3 e1 e2 e3 s1 s2
    obtain ⟨m, rfl⟩ : ∃ q, m = q + 1 := ⟨m - 1, by omega⟩
    have es : ∀ h, smr f g h x (t + 1) = if bitp x t then smr f g h x t + rc f g t h (ln g t) else smr f g h x t := fun _ => rfl
    have ec : smc f g x (t + 1) = if bitp x t then smc f g x t + (rgn f g t).1 else smc f g x t := rfl
    by_cases c : bitp x t
    · obtain ⟨ν, q1, q2, q3, q4, q5, q6, q7⟩ := rings_s (σ := σ) (t := t) (n := ln g t) (by omega) (by rw [e1, e2]; exact ok t (by omega))
      have o : onlyG σ (su ν 98 32 (ν 98 32 + ν 98 24)) := onlyG.su q2.g (by omega) _
      obtain ⟨τ, t1, t2, t3, t4, t5⟩ := ih (t + 1) m (su ν 98 32 (ν 98 32 + ν 98 24)) (by omega) (by omega) (by omega) (by rw [o.c (by omega) (by omega), e1]) (by rw [o.c (by omega) (by omega), e2]) (by rw [o 98 5 (by omega) (by omega), e3]) (fun h hh => by rw [su_ne (by omega), q7 h hh, s1 h hh, es h, if_pos c, e1, e2]) (by rw [su_s, q2 98 32 (by omega) (by omega), s2, q3, ec, if_pos c, e1, e2])
      refine ⟨τ, ?_, o.tr t2, by rw [t3, su_j (by omega), q2 98 33 (by omega) (by omega)], t4, t5⟩
      show fX11_isFair_b11 _ _ _ _ _ = _
      unfold fX11_isFair_b11 fX11_isFair_b46
      rw [if_neg (show ¬ (σ 98 5 ≤ nI t) from by rw [e3]; exact nI_ge (by omega) (by omega)), if_neg (fun q => q c), q1]
      simp only [obp, ol, nI_1]
      exact t1
    · obtain ⟨τ, t1, t2, t3, t4, t5⟩ := ih (t + 1) m σ (by omega) (by omega) (by omega) e1 e2 e3 (fun h hh => by rw [s1 h hh, es h, if_neg c]) (by rw [s2, ec, if_neg c])
      refine ⟨τ, ?_, t2, t3, t4, t5⟩
      show fX11_isFair_b11 _ _ _ _ _ = _
      unfold fX11_isFair_b11 fX11_isFair_b46
      rw [if_neg (show ¬ (σ 98 5 ≤ nI t) from by rw [e3]; exact nI_ge (by omega) (by omega)), if_pos c]
      simp only [ol, nI_1]
      exact t1
theorem isFair_s {σ : S0} {H G B T : Nat} (hr : Rall σ H G B T) (x y : Int32) : ∃ r τ, fX11_isFair σ x y = some (r, τ) ∧ onlyG σ τ ∧ τ 98 33 = σ 98 33 ∧ (r = 0 ∨ r = 1) ∧ (r = 1 ↔ ∀ h, h < H → smr (σ 99) (σ 101) h x T ≤ y) ∧ τ 98 32 = smc (σ 99) (σ 101) x T := by
  obtain ⟨b1, b2, b3, b4, b5⟩ := hr.1.1
  have o : onlyG σ (su (nr σ 0) 98 32 0) := onlyG.su (fun k j _ hk => by rw [nr_ne hk]) (by omega) _
  obtain ⟨τ, t1, t2, t3, t4, t5⟩ := isFair_l (σ 99) (σ 101) b5 x y (fun u hu => (RT hr hu).1) T 0 400 (su (nr σ 0) 98 32 0) (by omega) (by omega) (by omega) (o.c (by omega) (by omega)) (o.c (by omega) (by omega)) (by rw [o 98 5 (by omega) (by omega)]; exact hr.1.2.1.2.2.2) (fun h hh => by rw [su_ne (by omega), nr_in hh]; rfl) (by rw [su_s]; rfl)
  have o2 := o.tr t2
  obtain ⟨r, r1, r2, r3⟩ := isFair_a b2 y (σ := τ) (by rw [o2 98 2 (by omega) (by omega)]; exact hr.1.2.1.1) H 0 400 1 (by omega) (by omega) (by omega) (Or.inr rfl)
  refine ⟨r, τ, ?_, o2, ?_, r2, r3.trans ⟨fun q h hh => ?_, fun q => ⟨rfl, fun h _ hh => ?_⟩⟩, t5⟩
  · unfold fX11_isFair
    rw [noRung_s]
    simp only [obp, ol]
    exact t1.trans r1
  · rw [t3, su_j (by omega), nr_ne (by omega)]
  · rw [← t4 h (by omega)]; exact q.2 h (by omega) hh
  · rw [t4 h (by omega)]; exact q h hh
/-- the choice among the first v sets: cost, set -/
def chz (f g : Nat → Int32) (H T : Nat) (n y : Int32) : Nat → Int32 × Int32
  | 0 => (99999, -4)
  | v + 1 => if pb (nI v) 12 = n ∧ (∀ h, h < H → smr f g h (nI v) T ≤ y) ∧ smc f g (nI v) T < (chz f g H T n y v).1 then (smc f g (nI v) T, nI v) else chz f g H T n y v
theorem pow_t : ∀ T : Fin 7, (1 : Int32) <<< (nI T.1 &&& 31) = nI (2 ^ T.1) := by decide
theorem pow_s {T : Nat} (h : T ≤ 6) : (1 : Int32) <<< (nI T &&& 31) = nI (2 ^ T) := pow_t ⟨T, by omega⟩
theorem pow_le {T : Nat} (h : T ≤ 6) : 2 ^ T ≤ 64 := Nat.pow_le_pow_right (n := 2) (by omega) h
theorem cheap_l {H G B T : Nat} (n y : Int32) (f g : Nat → Int32) : ∀ (d v m : Nat) (σ : S0), 2 ^ T - v = d → v ≤ 2 ^ T → d < m → Rall σ H G B T → σ 99 = f → σ 101 = g → σ 98 33 = (chz f g H T n y v).2 → ∃ τ, fX11_cheapest_h13 m σ n y (chz f g H T n y v).1 (nI v) = some ((chz f g H T n y (2 ^ T)).1, τ) ∧ onlyG σ τ ∧ τ 98 33 = (chz f g H T n y (2 ^ T)).2 := by
  intro d
  induction d with
  | zero =>
    intro v m σ h1 h2 h3 hr e1 e2 hs
    obtain ⟨m, rfl⟩ : ∃ q, m = q + 1 := ⟨m - 1, by omega⟩
    have hT := hr.1.1.2.2.2.2
    have hp := pow_le hT
    have : v = 2 ^ T := by omega
    subst this
    refine ⟨σ, ?_, onlyG.rf σ, hs⟩
    show fX11_cheapest_b13 _ _ _ _ _ _ = _
    unfold fX11_cheapest_b13
    rw [if_pos (show (1 : Int32) <<< (σ 98 5 &&& 31) ≤ nI (2 ^ T) from by rw [hr.1.2.1.2.2.2, pow_s hT]; exact nI_le (Nat.le_refl _) (by omega))]
  | succ d ih =>
    intro v m σ h1 h2 h3 hr e1 e2 hs
    obtain ⟨m, rfl⟩ : ∃ q, m = q + 1 := ⟨m - 1, by omega⟩
    have hT := hr.1.1.2.2.2.2
    have hp := pow_le hT
    have ez : chz f g H T n y (v + 1) = if pb (nI v) 12 = n ∧ (∀ h, h < H → smr f g h (nI v) T ≤ y) ∧ smc f g (nI v) T < (chz f g H T n y v).1 then (smc f g (nI v) T, nI v) else chz f g H T n y v := rfl
    have e0 : fX11_cheapest_h13 (m + 1) σ n y (chz f g H T n y v).1 (nI v) = fX11_cheapest_b13 (fX11_cheapest_h13 m) σ n y (chz f g H T n y v).1 (nI v) := rfl
    have g0 : ¬ (1 : Int32) <<< (σ 98 5 &&& 31) ≤ nI v := by rw [hr.1.2.1.2.2.2, pow_s hT]; exact nI_ge (by omega) (by omega)
    rw [e0]
    unfold fX11_cheapest_b13 fX11_cheapest_b62
    rw [if_neg g0, bitsOf_s]
    simp only [obp, ol, nI_1]
    by_cases c1 : pb (nI v) 12 = n
    · rw [if_neg (fun q => q c1)]
      obtain ⟨r, ν, r1, r2, r3, r4, r5, r6⟩ := isFair_s hr (nI v) y
      rw [e1, e2] at r5 r6
      rw [r1]
      simp only
      have hν := hr.cg r2.e
      have ν1 : ν 99 = f := (r2.c (by omega) (by omega)).trans e1
      have ν2 : ν 101 = g := (r2.c (by omega) (by omega)).trans e2
      by_cases c2 : r = 0
      · rw [if_pos c2]
        have c2' : ¬ ∀ h, h < H → smr f g h (nI v) T ≤ y := fun q => by
          have := r5.mpr q
          rw [c2] at this
          exact absurd this (by decide)
        rw [if_neg (fun q => c2' q.2.1)] at ez
        obtain ⟨τ, t1, t2, t3⟩ := ih (v + 1) m ν (by omega) (by omega) (by omega) hν ν1 ν2 (by rw [r3, hs, ez])
        rw [ez] at t1
        exact ⟨τ, t1, r2.tr t2, t3⟩
      · rw [if_neg c2]
        have c2' := r5.mp (r4.resolve_left c2)
        rw [r6]
        by_cases c3 : (chz f g H T n y v).1 ≤ smc f g (nI v) T
        · rw [if_pos c3]
          rw [if_neg (fun q => absurd q.2.2 (Int32.not_lt.mpr c3))] at ez
          obtain ⟨τ, t1, t2, t3⟩ := ih (v + 1) m ν (by omega) (by omega) (by omega) hν ν1 ν2 (by rw [r3, hs, ez])
          rw [ez] at t1
          exact ⟨τ, t1, r2.tr t2, t3⟩
        · rw [if_neg c3]
          rw [if_pos ⟨c1, c2', Int32.not_le.mp c3⟩] at ez
          have o := onlyG.su (onlyG.rf ν) (j := 33) (by omega) (nI v)
          obtain ⟨τ, t1, t2, t3⟩ := ih (v + 1) m (su ν 98 33 (nI v)) (by omega) (by omega) (by omega) (hν.cg o.e) ((o.c (by omega) (by omega)).trans ν1) ((o.c (by omega) (by omega)).trans ν2) (by rw [su_s, ez])
          rw [ez] at t1
          exact ⟨τ, t1, (r2.tr o).tr t2, t3⟩
    · rw [if_pos c1]
      rw [if_neg (fun q => c1 q.1)] at ez
      obtain ⟨τ, t1, t2, t3⟩ := ih (v + 1) m σ (by omega) (by omega) (by omega) hr e1 e2 (by rw [hs, ez])
      rw [ez] at t1
      exact ⟨τ, t1, t2, t3⟩
theorem cheap_s {σ : S0} {H G B T : Nat} (hr : Rall σ H G B T) (n y : Int32) : ∃ τ, fX11_cheapest σ n y = some ((chz (σ 99) (σ 101) H T n y (2 ^ T)).1, τ) ∧ onlyG σ τ ∧ τ 98 33 = (chz (σ 99) (σ 101) H T n y (2 ^ T)).2 := by
  have hT := hr.1.1.2.2.2.2
  have hp := pow_le hT
  have o := onlyG.su (onlyG.rf σ) (j := 33) (by omega) (-4)
  obtain ⟨τ, t1, t2, t3⟩ := cheap_l n y (σ 99) (σ 101) (2 ^ T) 0 400 (su σ 98 33 (-4)) rfl (Nat.zero_le _) (by omega) (hr.cg o.e) (o.c (by omega) (by omega)) (o.c (by omega) (by omega)) (by rw [su_s]; rfl)
  exact ⟨τ, t1, o.tr t2, t3⟩
/-- the class's choice against chz -/
def crel (c : Int32 × Int32) (σ : S0) : Prop := (c = (99999, -4) ∧ σ 46 5 = 0) ∨ ∃ k, 1 ≤ k ∧ k < 64 ∧ c.2 = nI k ∧ σ 46 5 = nI k ∧ σ 46 4 = c.1
theorem FT.o {f g : Nat → Int32} {t : Nat} {a b : S0} (h : FT f g t a) (ht : t < 6) (o : ∀ x, x ≠ 46 → b x = a x) : FT f g t b := by
  unfold FT at h ⊢
  rw [o 47 (by omega), o (49 + t) (by omega)]
  exact h
theorem chooseF_l {f g : Nat → Int32} {H T : Nat} (hH : H ≤ 6) (hT : T ≤ 6) (n y y2 : Int32) (hy : ∀ v, v < 64 → ((∀ h, h < H → smr f g h (nI v) T ≤ y2) ↔ ∀ h, h < H → smr f g h (nI v) T ≤ y)) (hc : ∀ x, smc f g x T < 99999) : ∀ (d v m : Nat) (σ : S0), 2 ^ T - v = d → 1 ≤ v → v ≤ 2 ^ T → d < m → σ 22 0 = nI H → σ 22 2 = nI T → (∀ u, u < T → FT f g u σ) → crel (chz f g H T n y v) σ → ∃ τ, fX2_choose_h11 m σ n y2 (nI v) = some (0, τ) ∧ (∀ x, x ≠ 46 → τ x = σ x) ∧ crel (chz f g H T n y (2 ^ T)) τ := by
  have hp := pow_le hT
  intro d
  induction d with
  | zero =>
    intro v m σ h1 h0 h2 h3 e0 e hF hs
    obtain ⟨m, rfl⟩ : ∃ q, m = q + 1 := ⟨m - 1, by omega⟩
    have : v = 2 ^ T := by omega
    subst this
    refine ⟨σ, ?_, fun _ _ => rfl, hs⟩
    show fX2_choose_b11 _ _ _ _ _ = _
    unfold fX2_choose_b11
    rw [if_pos (show (1 : Int32) <<< (σ 22 2 &&& 31) ≤ nI (2 ^ T) from by rw [e, pow_s hT]; exact nI_le (Nat.le_refl _) (by omega))]
  | succ d ih =>
    intro v m σ h1 h0 h2 h3 e0 e hF hs
    obtain ⟨m, rfl⟩ : ∃ q, m = q + 1 := ⟨m - 1, by omega⟩
    have ez : chz f g H T n y (v + 1) = if pb (nI v) 12 = n ∧ (∀ h, h < H → smr f g h (nI v) T ≤ y) ∧ smc f g (nI v) T < (chz f g H T n y v).1 then (smc f g (nI v) T, nI v) else chz f g H T n y v := rfl
    have ee : fX2_choose_h11 (m + 1) σ n y2 (nI v) = fX2_choose_b11 (fX2_choose_h11 m) σ n y2 (nI v) := rfl
    have g0 : ¬ (1 : Int32) <<< (σ 22 2 &&& 31) ≤ nI v := by rw [e, pow_s hT]; exact nI_ge (by omega) (by omega)
    obtain ⟨r, r1, r2, r3⟩ := isWithin_l hH hT e0 e hF (nI v) y2 H 0 400 (by omega) (by omega) (by omega)
    have r1' : fX2_isWithin σ (nI v) y2 = some (r, σ) := r1
    have r3' : r = 1 ↔ ∀ h, h < H → smr f g h (nI v) T ≤ y := r3.trans (Iff.trans ⟨fun q h b => q h (by omega) b, fun q h _ b => q h b⟩ (hy v (by omega)))
    rw [ee]
    unfold fX2_choose_b11 fX2_choose_b64 fX2_choose_b75
    rw [if_neg g0, bcf_s, show bcf (nI v) = pb (nI v) 12 from bcf_t ⟨v, by omega⟩]
    simp only [obp, ol, nI_1]
    have keep : chz f g H T n y (v + 1) = chz f g H T n y v → ∃ τ, fX2_choose_h11 m σ n y2 (nI (v + 1)) = some (0, τ) ∧ (∀ x, x ≠ 46 → τ x = σ x) ∧ crel (chz f g H T n y (2 ^ T)) τ := fun q => ih (v + 1) m σ (by omega) (by omega) (by omega) (by omega) e0 e hF (by rw [q]; exact hs)
    have take : chz f g H T n y (v + 1) = (smc f g (nI v) T, nI v) → ∃ τ, fX2_choose_h11 m (su (su σ 46 5 (nI v)) 46 4 (smc f g (nI v) T)) n y2 (nI (v + 1)) = some (0, τ) ∧ (∀ x, x ≠ 46 → τ x = σ x) ∧ crel (chz f g H T n y (2 ^ T)) τ := fun q => by
      have o : ∀ x, x ≠ 46 → su (su σ 46 5 (nI v)) 46 4 (smc f g (nI v) T) x = σ x := fun x hx => by rw [su_ne hx, su_ne hx]
      obtain ⟨τ, t1, t2, t3⟩ := ih (v + 1) m (su (su σ 46 5 (nI v)) 46 4 (smc f g (nI v) T)) (by omega) (by omega) (by omega) (by omega) (by rw [o 22 (by omega)]; exact e0) (by rw [o 22 (by omega)]; exact e) (fun u hu => (hF u hu).o (by omega) o) (by rw [q]; exact Or.inr ⟨v, h0, by omega, rfl, by rw [su_j (by omega), su_s], su_s⟩)
      exact ⟨τ, t1, fun x hx => (t2 x hx).trans (o x hx), t3⟩
    by_cases c1 : pb (nI v) 12 = n
    · rw [if_neg (fun q => q c1), r1']
      simp only
      by_cases c2 : r = 0
      · rw [if_pos c2]
        have c2' : ¬ ∀ h, h < H → smr f g h (nI v) T ≤ y := fun q => by
          have := r3'.mpr q
          rw [c2] at this
          exact absurd this (by decide)
        exact keep (ez.trans (if_neg (fun q => c2' q.2.1)))
      · rw [if_neg c2, costOf_s hT e hF]
        simp only
        have c2' := r3'.mp (r2.resolve_left c2)
        rcases hs with ⟨s1, s2⟩ | ⟨k, k1, k2, k3, k4, k5⟩
        · rw [if_pos s2]
          exact take (ez.trans (if_pos ⟨c1, c2', by rw [s1]; exact hc _⟩))
        · rw [if_neg (show ¬ σ 46 5 = 0 from by rw [k4]; exact nI_ne0 (by omega) (by omega)), k5]
          by_cases c3 : (chz f g H T n y v).1 ≤ smc f g (nI v) T
          · rw [if_pos c3]
            exact keep (ez.trans (if_neg (fun q => absurd q.2.2 (Int32.not_lt.mpr c3))))
          · rw [if_neg c3]
            exact take (ez.trans (if_pos ⟨c1, c2', Int32.not_le.mp c3⟩))
    · rw [if_pos c1]
      exact keep (ez.trans (if_neg (fun q => c1 q.1)))
/-! bounds -/
theorem rc_b (f g : Nat → Int32) (t h : Nat) : ∀ i, ∃ c, c ≤ i ∧ rc f g t h i = nI c
  | 0 => ⟨0, by omega, rfl⟩
  | i + 1 => by
    obtain ⟨c, h1, h2⟩ := rc_b f g t h i
    unfold rc
    by_cases q : ¬ sil f (stk g t i) (rg f g t i).2.2.2.2 ∧ f (5 * stk g t i) = nI h
    · rw [if_pos q, h2, nI_1]
      exact ⟨c + 1, by omega, rfl⟩
    · rw [if_neg q, h2]
      exact ⟨c, by omega, Int32.add_zero _⟩
theorem rg_b {f g : Nat → Int32} {t n : Nat} (hf : ∀ i, i < n → ∃ c, c ≤ 20 ∧ f (5 * stk g t i + 1) = nI c) : ∀ i, i ≤ n → ∃ c, c ≤ 20 * i ∧ (rg f g t i).1 = nI c
  | 0, _ => ⟨0, by omega, rfl⟩
  | i + 1, hi => by
    obtain ⟨c, h1, h2⟩ := rg_b hf i (by omega)
    obtain ⟨c2, h3, h4⟩ := hf i (by omega)
    unfold rg
    by_cases q : sil f (stk g t i) (rg f g t i).2.2.2.2
    · rw [if_pos q]
      exact ⟨c, by omega, h2⟩
    · rw [if_neg q]
      refine ⟨c + c2, by omega, ?_⟩
      show (rg f g t i).1 + f (5 * stk g t i + 1) = _
      rw [h2, h4, nI_add]
theorem sm_b {F : Nat → Int32} {K : Nat} (x : Int32) : ∀ T, (∀ u, u < T → ∃ c, c ≤ K ∧ F u = nI c) → ∃ c, c ≤ K * T ∧ sm F x T = nI c
  | 0, _ => ⟨0, by omega, rfl⟩
  | T + 1, hF => by
    obtain ⟨c, h1, h2⟩ := sm_b x T (fun u hu => hF u (by omega))
    obtain ⟨c2, h3, h4⟩ := hF T (by omega)
    have hK : K * (T + 1) = K * T + K := Nat.mul_succ _ _
    unfold sm
    by_cases q : bitp x T
    · rw [if_pos q, h2, h4, nI_add]
      exact ⟨c + c2, by omega, rfl⟩
    · rw [if_neg q]
      exact ⟨c, by omega, h2⟩
theorem smr_b {σ : S0} {H G B T : Nat} (hr : Rall σ H G B T) (h : Nat) (x : Int32) : ∃ c, c ≤ 72 ∧ smr (σ 99) (σ 101) h x T = nI c := by
  have hT := hr.1.1.2.2.2.2
  obtain ⟨c, h1, h2⟩ := sm_b (F := fun u => rc (σ 99) (σ 101) u h (ln (σ 101) u)) (K := 12) x T (fun u hu => by
    obtain ⟨c, a, b⟩ := rc_b (σ 99) (σ 101) u h (ln (σ 101) u)
    exact ⟨c, by have := (RT hr hu).1.1; omega, b⟩)
  exact ⟨c, by omega, h2⟩
theorem smc_b {σ : S0} {H G B T : Nat} (hr : Rall σ H G B T) (x : Int32) : smc (σ 99) (σ 101) x T < 99999 := by
  have hT := hr.1.1.2.2.2.2
  obtain ⟨c, h1, h2⟩ := sm_b (F := fun u => (rgn (σ 99) (σ 101) u).1) (K := 240) x T (fun u hu => by
    obtain ⟨c, a, b⟩ := rg_b (f := σ 99) (g := σ 101) (t := u) (n := ln (σ 101) u) (fun i hi => by
      have := (hr.2.2.1.2.1 _ (stk_B hr hu i hi)).2.1
      simpa using this) _ (Nat.le_refl _)
    exact ⟨c, by have := (RT hr hu).1.1; omega, b⟩)
  have h2' : smc (σ 99) (σ 101) x T = nI c := h2
  rw [h2']
  exact nI_lt (b := 99999) (by omega) (by omega)
/-- a feast by a bound, on both sides -/
theorem fair_s {σ : S0} {H G B T : Nat} (hr : Rall σ H G B T) {n : Int32} (hn : ¬ n = 0) (y y2 : Int32) (hy : ∀ v, v < 64 → ((∀ h, h < H → smr (σ 99) (σ 101) h (nI v) T ≤ y2) ↔ ∀ h, h < H → smr (σ 99) (σ 101) h (nI v) T ≤ y)) : ∃ τ ρ, fX2_choose σ n y2 = some (0, τ) ∧ onlyE σ τ ∧ ∃ c : Int32 × Int32, fX11_cheapest τ n y = some (c.1, ρ) ∧ onlyG τ ρ ∧ ρ 98 33 = c.2 ∧ crel c τ := by
  obtain ⟨b1, b2, b3, b4, b5⟩ := hr.1.1
  have hp := pow_le b5
  have hp1 : 1 ≤ 2 ^ T := Nat.one_le_two_pow
  obtain ⟨ν, p1, p2, p3⟩ := ringAll_s hr
  have o : ∀ x, x ≠ 46 → su ν 46 5 0 x = ν x := fun x hx => su_ne hx
  have z0 : chz (σ 99) (σ 101) H T n y 1 = (99999, -4) := by
    show (if _ then _ else _) = _
    rw [if_neg (fun q => hn (q.1.symm.trans (by decide)))]
    rfl
  obtain ⟨τ, t1, t2, t3⟩ := chooseF_l b2 b5 n y y2 hy (smc_b hr) (2 ^ T - 1) 1 400 (su ν 46 5 0) rfl (by omega) hp1 (by omega) (by rw [o 22 (by omega), p2 22 (by omega)]; exact hr.1.2.2.1) (by rw [o 22 (by omega), p2 22 (by omega)]; exact hr.1.2.2.2.2) (fun u hu => (p3 u hu).o (by omega) o) (by rw [z0]; exact Or.inl ⟨rfl, su_s⟩)
  have hF : onlyE σ τ := fun x hx => by rw [t2 x (by omega), o x (by omega), p2 x hx]
  obtain ⟨ρ, q1, q2, q3⟩ := cheap_s (hr.cg hF.e) n y
  rw [hF 99 (by omega), hF 101 (by omega)] at q1 q3
  refine ⟨τ, ρ, ?_, hF, _, q1, q2, q3, t3⟩
  unfold fX2_choose
  rw [p1]
  simp only [obp, ol]
  exact t1
theorem fair_e {σ : S0} {H G B T : Nat} (hr : Rall σ H G B T) {n : Int32} (hn : ¬ n = 0) (y y2 x3 : Int32) (hy : ∀ v, v < 64 → ((∀ h, h < H → smr (σ 99) (σ 101) h (nI v) T ≤ y2) ↔ ∀ h, h < H → smr (σ 99) (σ 101) h (nI v) T ≤ y)) : An (obp (fX2_choose σ n y2) (fun r7 σ8 => if ¬ (σ8 46 5) = 0 then (if ¬ x3 = 0 then (some (σ8 46 5, σ8)) else (some (σ8 46 4, σ8))) else (some ((-4), σ8)))) (fun r τ => An (obp (fX11_cheapest τ n y) (fun r13 σ14 => if ¬ (σ14 98 33) = ((-4)) then (if ¬ x3 = 0 then (some (σ14 98 33, σ14)) else (some (r13, σ14))) else (some ((-4), σ14)))) (fun q ρ => r = q ∧ R ρ ∧ onlyE σ τ)) := by
  obtain ⟨τ, ρ, t1, t2, c, q1, q2, q3, q4⟩ := fair_s hr hn y y2 hy
  have hR : R ρ := ⟨H, G, B, T, (hr.cg t2.e).cg q2.e⟩
  rcases q4 with ⟨s1, s2⟩ | ⟨k, k1, k2, k3, k4, k5⟩
  · refine ⟨-4, τ, ?_, -4, ρ, ?_, rfl, hR, t2⟩
    · rw [t1]
      simp only [obp]
      rw [if_neg (fun q => q s2)]
    · rw [q1]
      simp only [obp]
      rw [if_neg (fun q => q (by rw [q3, s1]))]
  · have n5 : ¬ τ 46 5 = 0 := by rw [k4]; exact nI_ne0 (by omega) (by omega)
    have n4 : ¬ ρ 98 33 = -4 := by rw [q3, k3]; exact nI_m4 (by omega)
    by_cases cx : x3 = 0
    · refine ⟨c.1, τ, ?_, c.1, ρ, ?_, rfl, hR, t2⟩
      · rw [t1]
        simp only [obp]
        rw [if_pos n5, if_neg (fun q => q cx), k5]
      · rw [q1]
        simp only [obp]
        rw [if_pos n4, if_neg (fun q => q cx)]
    · refine ⟨nI k, τ, ?_, nI k, ρ, ?_, rfl, hR, t2⟩
      · rw [t1]
        simp only [obp]
        rw [if_pos n5, if_pos cx, k4]
      · rw [q1]
        simp only [obp]
        rw [if_pos n4, if_pos cx, q3, k3]
theorem fairX_c (σ : S0) (x1 x2 x3 : Int32) : fX10_fair σ x1 x2 x3 = if (1 ≤ x1.toInt ∧ x1.toInt ≤ 6) ∧ (0 ≤ x2.toInt ∧ x2.toInt ≤ 72) ∧ 0 ≤ x3.toInt ∧ x3.toInt ≤ 1 then (obp (fX2_choose σ x1 x2) (fun r7 σ8 => if ¬ (σ8 46 5) = 0 then (if ¬ x3 = 0 then (some (σ8 46 5, σ8)) else (some (σ8 46 4, σ8))) else (some ((-4), σ8)))) else some (-1, σ) := by
  unfold fX10_fair
  have a1 : x1 < 1 ↔ x1.toInt < 1 := i3_lt _ _
  have a2 : (6 : Int32) < x1 ↔ 6 < x1.toInt := i3_lt _ _
  have a3 : x2 < 0 ↔ x2.toInt < 0 := i3_lt _ _
  have a4 : (72 : Int32) < x2 ↔ 72 < x2.toInt := i3_lt _ _
  have a5 : x3 < 0 ↔ x3.toInt < 0 := i3_lt _ _
  have a6 : x3 ≤ 1 ↔ x3.toInt ≤ 1 := i3_le _ _
  by_cases c1 : x1 < 1
  · rw [if_pos c1, if_neg (fun q => by have := a1.mp c1; omega)]
  · rw [if_neg c1]
    by_cases c2 : (6 : Int32) < x1
    · rw [if_pos c2, if_neg (fun q => by have := a2.mp c2; omega)]
    · rw [if_neg c2]
      by_cases c3 : x2 < 0
      · rw [if_pos c3, if_neg (fun q => by have := a3.mp c3; omega)]
      · rw [if_neg c3]
        by_cases c4 : (72 : Int32) < x2
        · rw [if_pos c4, if_neg (fun q => by have := a4.mp c4; omega)]
        · rw [if_neg c4]
          by_cases c5 : x3 < 0
          · rw [if_pos c5, if_neg (fun q => by have := a5.mp c5; omega)]
          · rw [if_neg c5]
            by_cases c6 : x3 ≤ 1
            · rw [if_pos c6, if_pos]
              rw [a1] at c1
              rw [a2] at c2
              rw [a3] at c3
              rw [a4] at c4
              rw [a5] at c5
              rw [a6] at c6
              omega
            · rw [if_neg c6, if_neg (fun q => c6 (a6.mpr q.2.2.2))]
theorem n1_ne0 {x : Int32} (h : 1 ≤ x.toInt) : ¬ x = 0 := fun q => by
  rw [q] at h
  exact absurd h (by decide)
theorem sim_fair (x1 x2 x3 : Int32) : Sim (fun σ => fX10_fair σ x1 x2 x3) (fun σ => fX11_fair σ x1 x2 x3) := by
  intro σ hR
  show An (fX10_fair σ x1 x2 x3) (fun r τ => An (fX11_fair τ x1 x2 x3) (fun q ρ => r = q ∧ R ρ))
  obtain ⟨H, G, B, T, h⟩ := id hR
  rw [fairX_c]
  have em : ∀ τ : S0, fX11_fair τ x1 x2 x3 = if (1 ≤ x1.toInt ∧ x1.toInt ≤ 6) ∧ (0 ≤ x2.toInt ∧ x2.toInt ≤ 72) ∧ 0 ≤ x3.toInt ∧ x3.toInt ≤ 1 then (obp (fX11_cheapest τ x1 x2) (fun r13 σ14 => if ¬ (σ14 98 33) = ((-4)) then (if ¬ x3 = 0 then (some (σ14 98 33, σ14)) else (some (r13, σ14))) else (some ((-4), σ14)))) else some (-1, τ) := fun τ => by
    unfold fX11_fair
    rw [in_i τ x1 1 6 1 6 rfl rfl]
    simp only [obp]
    by_cases c1 : 1 ≤ x1.toInt ∧ x1.toInt ≤ 6
    · rw [if_pos c1, if_neg (by decide), in_i τ x2 0 72 0 72 rfl rfl]
      simp only
      by_cases c2 : 0 ≤ x2.toInt ∧ x2.toInt ≤ 72
      · rw [if_pos c2, if_neg (by decide), in_i τ x3 0 1 0 1 rfl rfl]
        simp only
        by_cases c3 : 0 ≤ x3.toInt ∧ x3.toInt ≤ 1
        · rw [if_pos c3, if_pos (by decide), if_pos ⟨c1, c2, c3⟩]
        · rw [if_neg c3, if_neg (by decide), if_neg (fun q => c3 q.2.2)]
      · rw [if_neg c2, if_pos rfl, if_neg (fun q => c2 q.2.1)]
    · rw [if_neg c1, if_pos rfl, if_neg (fun q => c1 q.1)]
  by_cases c : (1 ≤ x1.toInt ∧ x1.toInt ≤ 6) ∧ (0 ≤ x2.toInt ∧ x2.toInt ≤ 72) ∧ 0 ≤ x3.toInt ∧ x3.toInt ≤ 1
  · rw [if_pos c]
    refine (fair_e h (n1_ne0 c.1.1) x2 x2 x3 (fun v _ => Iff.rfl)).mono (fun r τ q => ?_)
    rw [em τ, if_pos c]
    exact q.mono (fun _ _ z => ⟨z.1, z.2.1⟩)
  · rw [if_neg c]
    exact ⟨_, σ, rfl, _, σ, (em σ).trans (if_neg c), rfl, hR⟩
theorem sim_feast (x1 x3 : Int32) : Sim (fun σ => fX10_feast σ x1 x3) (fun σ => fX11_feast σ x1 x3) := by
  intro σ hR
  show An (fX10_feast σ x1 x3) (fun r τ => An (fX11_feast τ x1 x3) (fun q ρ => r = q ∧ R ρ))
  obtain ⟨H, G, B, T, h⟩ := id hR
  have e72 : (72 : Int32).toInt = 72 := rfl
  have ex : fX10_feast σ x1 x3 = fX10_fair σ x1 72 x3 := by
    unfold fX10_feast
    cases fX10_fair σ x1 72 x3 <;> rfl
  rw [ex, fairX_c]
  have em : ∀ τ : S0, fX11_feast τ x1 x3 = if (1 ≤ x1.toInt ∧ x1.toInt ≤ 6) ∧ 0 ≤ x3.toInt ∧ x3.toInt ≤ 1 then (obp (fX11_cheapest τ x1 99999) (fun r13 σ14 => if ¬ (σ14 98 33) = ((-4)) then (if ¬ x3 = 0 then (some (σ14 98 33, σ14)) else (some (r13, σ14))) else (some ((-4), σ14)))) else some (-1, τ) := fun τ => by
    unfold fX11_feast
    rw [in_i τ x1 1 6 1 6 rfl rfl]
    simp only [obp]
    by_cases c1 : 1 ≤ x1.toInt ∧ x1.toInt ≤ 6
    · rw [if_pos c1, if_neg (by decide), in_i τ x3 0 1 0 1 rfl rfl]
      simp only
      by_cases c3 : 0 ≤ x3.toInt ∧ x3.toInt ≤ 1
      · rw [if_pos c3, if_pos (by decide), if_pos ⟨c1, c3⟩]
      · rw [if_neg c3, if_neg (by decide), if_neg (fun q => c3 q.2)]
    · rw [if_neg c1, if_pos rfl, if_neg (fun q => c1 q.1)]
  by_cases c : (1 ≤ x1.toInt ∧ x1.toInt ≤ 6) ∧ 0 ≤ x3.toInt ∧ x3.toInt ≤ 1
  · rw [if_pos ⟨c.1, by omega, c.2⟩]
    refine (fair_e h (n1_ne0 c.1.1) 99999 72 x3 (fun v _ => ⟨fun _ w _ => ?_, fun _ w _ => ?_⟩)).mono (fun r τ q => ?_)
    · obtain ⟨k, k1, k2⟩ := smr_b h w (nI v)
      rw [k2]
      exact nI_le (b := 99999) (by omega) (by omega)
    · obtain ⟨k, k1, k2⟩ := smr_b h w (nI v)
      rw [k2]
      exact nI_le (b := 72) (by omega) (by omega)
    · rw [em τ, if_pos c]
      exact q.mono (fun _ _ z => ⟨z.1, z.2.1⟩)
  · rw [if_neg (fun q => c ⟨q.1, q.2.2⟩)]
    exact ⟨_, σ, rfl, _, σ, (em σ).trans (if_neg c), rfl, hR⟩
