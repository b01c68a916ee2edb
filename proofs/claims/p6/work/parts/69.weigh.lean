/-! the class weighs the tunes -/
theorem su_off {σ : S0} {k j x y : Nat} {v : Int32} (h : y ≠ j) : su σ k j v x y = σ x y := by
  by_cases hx : x = k
  · subst hx; exact su_j h
  · rw [su_ne hx]
theorem partsOf_s (σ : S0) {f : Nat → Int32} {h b : Nat} (hb : b < 12) (e0 : σ 33 b = f (5 * b)) (e4 : σ 37 b = f (5 * b + 4)) : fX1_partsOf σ 32 (nI h) (nI b) = some (pp f h b, σ) := by
  unfold fX1_partsOf pp
  have hgb := ix_ok (j := b) (n := 12) (by omega) (by omega)
  have hcb : (nI b).toNatClampNeg = b := nI_clamp (by omega)
  have hgb2 : ¬ (nI b < 0 ∨ 12 ≤ b) := fun q => hgb (by rw [hcb]; exact q)
  simp only [og_t hgb, og_t hgb2, hcb, ol, e0, e4, Nat.reduceAdd]
  by_cases c1 : f (5 * b) = nI h
  · rw [if_neg (fun q => q c1), if_pos c1]
    by_cases c2 : f (5 * b + 4) = -4
    · rw [if_neg (fun q => q c2), if_pos c2]
    · rw [if_pos c2, if_neg c2]
  · rw [if_pos c1, if_neg c1]
    by_cases c2 : f (5 * b + 4) = nI h
    · rw [if_neg (fun q => q c2), if_pos c2]
    · rw [if_pos c2, if_neg c2]
theorem okP.lo {f g : Nat → Int32} {t n : Nat} {a b : S0} (ht : t < 6) (h : okP f g t n a) (o : ∀ x, x < 40 → b x = a x) : okP f g t n b := by
  unfold okP at h ⊢
  rw [o 24 (by omega), o (26 + t) (by omega), o 33 (by omega), o 34 (by omega), o 35 (by omega), o 36 (by omega), o 38 (by omega)]
  exact h
theorem weighT_l (f g : Nat → Int32) (V : Int32) {h t n : Nat} (ht : t < 6) (hh : h < 6) (hn : n ≤ 12) : ∀ (d i m : Nat) (σ : S0), n - i = d → i ≤ n → d < m → okP f g t n σ → (∀ i, i < n → σ 37 (stk g t i) = f (5 * stk g t i + 4)) → σ 40 4 = (rg f g t n).2.2.1 → σ 42 t = V + (ws f g h t i).1 → σ 43 t = (ws f g h t i).2.1 → σ 44 t = (ws f g h t i).2.2.1 → σ 45 t = (ws f g h t i).2.2.2 → ∃ τ, fX0_weighTune_h44 m σ (nI h) (nI t) (nI i) = some (0, τ) ∧ (∀ x, x < 42 ∨ 45 < x → τ x = σ x) ∧ (∀ x j, j ≠ t → τ x j = σ x j) ∧ τ 42 t = V + (ws f g h t n).1 ∧ τ 43 t = (ws f g h t n).2.1 ∧ τ 44 t = (ws f g h t n).2.2.1 ∧ τ 45 t = (ws f g h t n).2.2.2 := by
  intro d
  induction d with
  | zero =>
    intro i m σ h1 h2 h3 okp h37 h40 w1 w2 w3 w4
    obtain ⟨m, rfl⟩ : ∃ q, m = q + 1 := ⟨m - 1, by omega⟩
    have : i = n := by omega
    subst this
    refine ⟨σ, ?_, fun _ _ => rfl, fun _ _ _ => rfl, w1, w2, w3, w4⟩
    show fX0_weighTune_b44 _ _ _ _ _ = _
    unfold fX0_weighTune_b44
    rw [og_t (ix_ok (by omega) (by omega)), nI_clamp (by omega)]
    simp only [ol]
    rw [okp.1, if_pos (nI_le (Nat.le_refl _) (by omega))]
  | succ d ih =>
    intro i m σ h1 h2 h3 okp h37 h40 w1 w2 w3 w4
    obtain ⟨m, rfl⟩ : ∃ q, m = q + 1 := ⟨m - 1, by omega⟩
    obtain ⟨b, hb, g1, s1, o1, o2, -⟩ := okp.2.1 i (by omega)
    have hsb : stk g t i = b := by unfold stk; rw [g1]; exact nI_clamp (by omega)
    have h37b := h37 i (by omega)
    rw [hsb] at h37b
    have s1' : σ (26 + 1 * t) i = nI b := by rw [Nat.one_mul]; exact s1
    have hgi := ix_ok (j := i) (n := 12) (by omega) (by omega)
    have hci : (nI i).toNatClampNeg = i := nI_clamp (by omega)
    have hgi2 : ¬ (nI i < 0 ∨ 12 ≤ i) := fun q => hgi (by rw [hci]; exact q)
    have hgt := ix_ok (j := t) (n := 6) (by omega) (by omega)
    have hct : (nI t).toNatClampNeg = t := nI_clamp (by omega)
    have hgt2 : ¬ (nI t < 0 ∨ 6 ≤ t) := fun q => hgt (by rw [hct]; exact q)
    have hgb := ix_ok (j := b) (n := 12) (by omega) (by omega)
    have hcb : (nI b).toNatClampNeg = b := nI_clamp (by omega)
    have hgb2 : ¬ (nI b < 0 ∨ 12 ≤ b) := fun q => hgb (by rw [hcb]; exact q)
    have hpt := partsOf_s σ (h := h) hb o1 h37b
    have hrang : fX6_rang σ (nI i) = some (if si f g t i then 0 else 1, σ) := by
      have hb1 := bit_g (i := i) (by omega) (σ 40 4)
      have hb2 := rg_bit f g t n i hn (by omega)
      rw [← h40] at hb2
      unfold fX6_rang
      by_cases c : si f g t i
      · rw [if_pos (fun q => hb1.mp q (hb2.mpr ⟨by omega, c⟩)), if_pos c]
      · rw [if_neg (fun q => q (hb1.mpr (fun q2 => c (hb2.mp q2).2))), if_neg c]
    have hone : ¬ (1 : Int32) = 0 := by decide
    have e1 : fX0_weighTune_h44 (m + 1) σ (nI h) (nI t) (nI i) = if si f g t i then fX0_weighTune_h44 m σ (nI h) (nI t) (nI (i + 1)) else if f (5 * b) = nI h then fX0_weighTune_h44 m (su (su (su σ 42 t (σ 42 t + f (5 * b + 1))) 43 t (σ 43 t + 1)) 44 t (σ 44 t + pp f h b)) (nI h) (nI t) (nI (i + 1)) else fX0_weighTune_h44 m (su σ 45 t (σ 45 t + pp f h b * f (5 * b + 1))) (nI h) (nI t) (nI (i + 1)) := by
      show fX0_weighTune_b44 _ _ _ _ _ = _
      unfold fX0_weighTune_b44 fX0_weighTune_b175
      simp only [og_t hgt, og_t hgt2, hct, ol]
      rw [okp.1, if_neg (nI_ge (by omega) (by omega)), hrang]
      simp only [obp]
      by_cases c : si f g t i
      · simp only [if_pos c]
        rw [if_neg (fun q => q trivial), nI_1]
      · simp only [if_neg c]
        rw [if_pos hone]
        simp only [og_t hgi, og_t hgi2, hci, s1', hpt, og_t hgb, og_t hgb2, hcb, o1, o2, nI_1]
        by_cases c2 : f (5 * b) = nI h
        · rw [if_neg (fun q => q c2), if_pos c2, su_ne (by omega), su_ne (by omega), su_ne (by omega)]
        · rw [if_pos c2, if_neg c2]
    rw [e1]
    have ew := ws.eq_2 f g h t i
    simp only [hsb] at ew
    by_cases c : si f g t i
    · rw [if_pos c] at ew ⊢
      rw [← ew] at w1 w2 w3 w4
      exact ih (i + 1) m σ (by omega) (by omega) (by omega) okp h37 h40 w1 w2 w3 w4
    · rw [if_neg c] at ew ⊢
      by_cases c2 : f (5 * b) = nI h
      · rw [if_pos c2] at ew ⊢
        obtain ⟨τ, t1, t2, t3, t4⟩ := ih (i + 1) m (su (su (su σ 42 t (σ 42 t + f (5 * b + 1))) 43 t (σ 43 t + 1)) 44 t (σ 44 t + pp f h b)) (by omega) (by omega) (by omega) (okp.lo ht (fun x hx => by rw [su_ne (by omega), su_ne (by omega), su_ne (by omega)])) (fun j hj => by rw [su_ne (by omega), su_ne (by omega), su_ne (by omega)]; exact h37 j hj) (by rw [su_ne (by omega), su_ne (by omega), su_ne (by omega)]; exact h40) (by rw [su_ne (by omega), su_ne (by omega), su_s, w1, ew]; exact Int32.add_assoc _ _ _) (by rw [su_ne (by omega), su_s, w2, ew]) (by rw [su_s, w3, ew]) (by rw [su_ne (by omega), su_ne (by omega), su_ne (by omega), w4, ew])
        refine ⟨τ, t1, fun x hx => ?_, fun x j hj => ?_, t4⟩
        · rw [t2 x hx, su_ne (by omega), su_ne (by omega), su_ne (by omega)]
        · rw [t3 x j hj, su_off hj, su_off hj, su_off hj]
      · rw [if_neg c2] at ew ⊢
        obtain ⟨τ, t1, t2, t3, t4⟩ := ih (i + 1) m (su σ 45 t (σ 45 t + pp f h b * f (5 * b + 1))) (by omega) (by omega) (by omega) (okp.lo ht (fun x hx => by rw [su_ne (by omega)])) (fun j hj => by rw [su_ne (by omega)]; exact h37 j hj) (by rw [su_ne (by omega)]; exact h40) (by rw [su_ne (by omega), w1, ew]) (by rw [su_ne (by omega), w2, ew]) (by rw [su_ne (by omega), w3, ew]) (by rw [su_s, w4, ew])
        refine ⟨τ, t1, fun x hx => ?_, fun x j hj => ?_, t4⟩
        · rw [t2 x hx, su_ne (by omega)]
        · rw [t3 x j hj, su_off hj]
/-- nothing but the class's row of asks has changed -/
def onlyW (σ τ : S0) : Prop := ∀ x, (x < 40 ∨ 45 < x) → τ x = σ x
theorem onlyW.tr {a b c : S0} (h1 : onlyW a b) (h2 : onlyW b c) : onlyW a c := fun k x => (h2 k x).trans (h1 k x)
theorem onlyW.rf (a : S0) : onlyW a a := fun _ _ => rfl
theorem onlyW.su {a b : S0} (h : onlyW a b) {k : Nat} (hk : 40 ≤ k ∧ k ≤ 45) (j : Nat) (v : Int32) : onlyW a (su b k j v) := fun x hx => (su_ne (by omega)).trans (h x hx)
theorem onlyW.e {a b : S0} (h : onlyW a b) : eqv a b := fun k j hr => by
  by_cases q : k < 40 ∨ 45 < k
  · rw [h k q]
  · unfold rel at hr
    have := of_decide_eq_true hr
    omega
theorem onlyP.w {a b : S0} (h : onlyP a b) : onlyW a b := fun x hx => h x (by omega)
def WT (f g : Nat → Int32) (G : Int32) (h t : Nat) (σ : S0) : Prop := σ 42 t = vl f g G t + (ws f g h t (ln g t)).1 ∧ σ 43 t = (ws f g h t (ln g t)).2.1 ∧ σ 44 t = (ws f g h t (ln g t)).2.2.1 ∧ σ 45 t = (ws f g h t (ln g t)).2.2.2
theorem stk_B {σ : S0} {H G B T t : Nat} (hr : Rall σ H G B T) (ht : t < T) : ∀ i, i < ln (σ 101) t → stk (σ 101) t i < B := fun i hi => by
  obtain ⟨n, n1, n2, n3, n4, n5, n6, n7⟩ := hr.2.2.2.1 t ht
  have hl : ln (σ 101) t = n := by unfold ln; rw [n3]; exact nI_clamp (by omega)
  rw [hl] at hi
  obtain ⟨b, c1, c2, c3⟩ := n7 i hi
  have hB := hr.1.1.2.2.2.1
  unfold stk
  rw [c2, nI_clamp (by omega)]
  exact c1
theorem weighT_s {σ : S0} {H G B T t h : Nat} (hr : Rall σ H G B T) (ht : t < T) (hh : h < H) : ∃ τ, fX0_weighTune σ (nI h) (nI t) = some (0, τ) ∧ onlyW σ τ ∧ (∀ x j, x ≠ 40 → j ≠ t → τ x j = σ x j) ∧ WT (σ 99) (σ 101) (nI G) h t τ := by
  obtain ⟨ok, okp, l1, -⟩ := RT hr ht
  obtain ⟨b1, b2, b3, b4, b5⟩ := hr.1.1
  obtain ⟨ν, p1, p2, p3, p4, p5, p6⟩ := play_s hr ht
  have hsB := stk_B hr ht
  have hgt := ix_ok (j := t) (n := 6) (by omega) (by omega)
  have hct : (nI t).toNatClampNeg = t := nI_clamp (by omega)
  have hgt2 : ¬ (nI t < 0 ∨ 6 ≤ t) := fun q => hgt (by rw [hct]; exact q)
  obtain ⟨τ, t1, t2, t3, t4⟩ := weighT_l (σ 99) (σ 101) (vl (σ 99) (σ 101) (nI G) t) (h := h) (t := t) (n := ln (σ 101) t) (by omega) (by omega) ok.1 (ln (σ 101) t) 0 400 (su (su (su (su ν 42 t (ν 40 5)) 43 t 0) 44 t 0) 45 t 0) (by omega) (by omega) (by have := ok.1; omega)
    (okp.lo (by omega) (fun x hx => by rw [su_ne (by omega), su_ne (by omega), su_ne (by omega), su_ne (by omega), p2 x (by omega)]))
    (fun i hi => by
      rw [su_ne (by omega), su_ne (by omega), su_ne (by omega), su_ne (by omega), p2 37 (by omega)]
      have := (hr.2.1.2.1 _ (hsB i hi)).2.2.2.2
      simpa using this)
    (by rw [su_ne (by omega), su_ne (by omega), su_ne (by omega), su_ne (by omega)]; exact p5)
    (by rw [su_ne (by omega), su_ne (by omega), su_ne (by omega), su_s, p6]; simp [ws])
    (by rw [su_ne (by omega), su_ne (by omega), su_s]; rfl)
    (by rw [su_ne (by omega), su_s]; rfl)
    (by rw [su_s]; rfl)
  refine ⟨τ, ?_, fun x hx => ?_, fun x j hx hj => ?_, t4⟩
  · unfold fX0_weighTune
    rw [p1]
    simp only [obp, ol, og_t hgt, og_t hgt2, hct]
    exact t1
  · rw [t2 x (by omega), su_ne (by omega), su_ne (by omega), su_ne (by omega), su_ne (by omega), p2 x (by omega)]
  · rw [t3 x j hj, su_off hj, su_off hj, su_off hj, su_off hj, p2 x hx]
theorem weigh_l {H G B T h : Nat} : ∀ (d t m : Nat) (σ : S0), T - t = d → t ≤ T → d < m → h < H → Rall σ H G B T → (∀ u, u < t → WT (σ 99) (σ 101) (nI G) h u σ) → ∃ τ, fX0_weigh_h2 m σ (nI h) (nI t) = some (0, τ) ∧ onlyW σ τ ∧ ∀ u, u < T → WT (σ 99) (σ 101) (nI G) h u τ := by
  intro d
  induction d with
  | zero =>
    intro t m σ h1 h2 h3 hh hr hw
    obtain ⟨m, rfl⟩ : ∃ q, m = q + 1 := ⟨m - 1, by omega⟩
    have hT := hr.1.1.2.2.2.2
    have : t = T := by omega
    subst this
    refine ⟨σ, ?_, onlyW.rf σ, hw⟩
    show fX0_weigh_b2 _ _ _ _ = _
    unfold fX0_weigh_b2
    rw [if_pos (show σ 22 2 ≤ nI t from by rw [hr.1.2.2.2.2]; exact nI_le (Nat.le_refl _) (by omega))]
  | succ d ih =>
    intro t m σ h1 h2 h3 hh hr hw
    obtain ⟨m, rfl⟩ : ∃ q, m = q + 1 := ⟨m - 1, by omega⟩
    have hT := hr.1.1.2.2.2.2
    obtain ⟨τ, t1, t2, t3, t4⟩ := weighT_s hr (show t < T by omega) hh
    have e99 := t2 99 (by omega)
    have e101 := t2 101 (by omega)
    obtain ⟨ν, v1, v2, v3⟩ := ih (t + 1) m τ (by omega) (by omega) (by omega) hh (hr.cg t2.e) (fun u hu => by
      rw [e99, e101]
      by_cases q : u = t
      · subst q; exact t4
      · have := hw u (by omega)
        unfold WT at this ⊢
        rw [t3 42 u (by omega) q, t3 43 u (by omega) q, t3 44 u (by omega) q, t3 45 u (by omega) q]
        exact this)
    rw [e99, e101] at v3
    refine ⟨ν, ?_, t2.tr v2, v3⟩
    show fX0_weigh_b2 _ _ _ _ = _
    unfold fX0_weigh_b2
    rw [if_neg (show ¬ (σ 22 2 ≤ nI t) from by rw [hr.1.2.2.2.2]; exact nI_ge (by omega) (by omega)), t1]
    simp only [obp, ol, nI_1]
    exact v1
theorem weigh_s {σ : S0} {H G B T h : Nat} (hr : Rall σ H G B T) (hh : h < H) : ∃ τ, fX0_weigh σ (nI h) = some (0, τ) ∧ onlyW σ τ ∧ ∀ u, u < T → WT (σ 99) (σ 101) (nI G) h u τ := weigh_l T 0 400 σ (by omega) (by omega) (by have := hr.1.1.2.2.2.2; omega) hh hr (fun u hu => by omega)
theorem brings_l {f g : Nat → Int32} {σ : S0} {G a : Int32} {T B h : Nat} (hT : T ≤ 6) (hB : B ≤ 12) (e : σ 22 2 = nI T) (hl : ∀ u, u < T → ln g u ≤ 12) (hs : ∀ u, u < T → ∀ i, i < ln g u → stk g u i < B) (hw : ∀ u, u < T → WT f g G h u σ) : ∀ (d t m : Nat), T - t = d → t ≤ T → d < m → fX0_bringsAt_h7 m σ a (wgh (fs f h a B) g G t h) (tk (fs f h a B) g G t).2 (nI t) = some (wgh (fs f h a B) g G T h, σ) := by
  intro d
  induction d with
  | zero =>
    intro t m h1 h2 h3
    obtain ⟨m, rfl⟩ : ∃ q, m = q + 1 := ⟨m - 1, by omega⟩
    have : t = T := by omega
    subst this
    show fX0_bringsAt_b7 _ _ _ _ _ _ = _
    unfold fX0_bringsAt_b7
    rw [if_pos (show σ 22 2 ≤ nI t from by rw [e]; exact nI_le (Nat.le_refl _) (by omega))]
  | succ d ih =>
    intro t m h1 h2 h3
    obtain ⟨m, rfl⟩ : ∃ q, m = q + 1 := ⟨m - 1, by omega⟩
    have hlt : t < T := by omega
    obtain ⟨w1, w2, w3, w4⟩ := hw t hlt
    have hgt := ix_ok (j := t) (n := 6) (by omega) (by omega)
    have hct : (nI t).toNatClampNeg = t := nI_clamp (by omega)
    have hgt2 : ¬ (nI t < 0 ∨ 6 ≤ t) := fun q => hgt (by rw [hct]; exact q)
    have hv := vl_fs (f := f) (h := h) (a := a) (G := G) hB (hs t hlt)
    have hg := gs_fs (f := f) (h := h) (a := a) (hl t hlt) (hs t hlt) (ln g t) (Nat.le_refl _)
    have hrg := (rg_fs (f := f) (h := h) (a := a) hB (hs t hlt) (ln g t) (Nat.le_refl _)).1
    have ih' := ih (t + 1) m (by omega) (by omega) (by omega)
    show fX0_bringsAt_b7 _ _ _ _ _ _ = _
    unfold fX0_bringsAt_b7 fX0_bringsAt_b65
    rw [if_neg (show ¬ (σ 22 2 ≤ nI t) from by rw [e]; exact nI_ge (by omega) (by omega))]
    simp only [og_t hgt, og_t hgt2, hct, ol, w1, w2, w3, w4, ← hv, nI_1]
    by_cases c : vl (fs f h a B) g G t ≤ (tk (fs f h a B) g G t).2
    · rw [if_pos c]
      unfold wgh at ih' ⊢
      rw [tk, if_pos c] at ih'
      exact ih'
    · rw [if_neg c]
      have ewg : wgh (fs f h a B) g G (t + 1) h = a * (ws f g h t (ln g t)).2.2.1 + (ws f g h t (ln g t)).2.2.2 := by
        unfold wgh
        rw [tk, if_neg c]
        simp only
        rw [if_neg (nI_m4 (by omega)), nI_clamp (by omega)]
        rw [← hg]
        unfold rgn
        rw [hrg]
      rw [ewg] at ih'
      rw [tk, if_neg c] at ih'
      exact ih'
theorem brings_s {σ τ : S0} {H G B T h : Nat} (a : Int32) (hr : Rall σ H G B T) (hw : ∀ u, u < T → WT (σ 99) (σ 101) (nI G) h u τ) (e : τ 22 2 = nI T) : fX0_bringsAt τ a = some (wgh (fs (σ 99) h a B) (σ 101) (nI G) T h, τ) := brings_l hr.1.1.2.2.2.2 hr.1.1.2.2.2.1 e (fun u hu => (RT hr hu).1.1) (fun u hu => stk_B hr hu) hw T 0 400 (by omega) (by omega) (by have := hr.1.1.2.2.2.2; omega)
