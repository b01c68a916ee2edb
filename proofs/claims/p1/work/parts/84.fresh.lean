/-! THE FIRST CALL ON A NEW OBJECT: the calls that have no sim row -/
theorem f0_22 : sig0 22 2 = nI 0 ∧ sig0 22 0 = nI 3 := by
  rw [s0_i (by omega)]
  exact ⟨rfl, rfl⟩
theorem f0_m : sig0 98 2 = nI 3 ∧ sig0 98 4 = nI 0 ∧ sig0 98 5 = nI 0 := ⟨s0_n.1, s0_n.2.2.1, s0_n.2.2.2.1⟩
theorem s1_fault : An (fX10_fault sig0) (fun r τ => An (fX11_fault τ) (fun q _ρ => r = q ∧ True)) := ⟨_, _, rfl, _, _, rfl, by rw [s0_o (by omega), s0_98 (by omega)], trivial⟩
def chk2 (ox : Option (Int32 × S0)) (fm : S0 → Option (Int32 × S0)) : Bool := match ox with
  | some (r, τ) => (match fm τ with
    | some (q, _) => decide (r = q)
    | none => false)
  | none => false
theorem chk2_t {ox : Option (Int32 × S0)} {fm : S0 → Option (Int32 × S0)} (h : chk2 ox fm = true) : An ox (fun r τ => An (fm τ) (fun q _ρ => r = q ∧ True)) := by
  cases ox with
  | none => cases h
  | some a =>
    obtain ⟨r, τ⟩ := a
    unfold chk2 at h
    dsimp only at h
    cases e2 : fm τ with
    | none => rw [e2] at h; cases h
    | some b =>
      obtain ⟨q, ρ⟩ := b
      rw [e2] at h
      exact ⟨r, τ, rfl, q, ρ, e2, of_decide_eq_true h, trivial⟩
set_option maxRecDepth 100000 in
theorem t1b_t : chk2 (fX10_text sig0) fX11_text = true := by decide +kernel
theorem s1_text : An (fX10_text sig0) (fun r τ => An (fX11_text τ) (fun q _ρ => r = q ∧ True)) := chk2_t t1b_t
theorem x0 (x : Int32) : x.toInt < 0 ∨ ((0 : Nat) : Int) ≤ x.toInt := by omega
theorem s1_nearest (x y z : Int32) : An (fX10_nearest sig0 x y z) (fun r τ => An (fX11_nearest τ x y z) (fun q _ρ => r = q ∧ True)) := by
  refine ⟨-1, sig0, ?_, -1, sig0, ?_, rfl, trivial⟩
  · unfold fX10_nearest
    rw [ht_n f0_22.1 (by omega) (x0 x)]
    rfl
  · unfold fX11_nearest
    rw [it_n f0_m.2.2 (by omega) (x0 x)]
    rfl
theorem s1_dear (x : Int32) : An (fX10_dear sig0 x) (fun r τ => An (fX11_dear τ x) (fun q _ρ => r = q ∧ True)) := by
  refine ⟨-1, sig0, ?_, -1, sig0, ?_, rfl, trivial⟩
  · unfold fX10_dear
    rw [ht_n f0_22.1 (by omega) (x0 x)]
    rfl
  · unfold fX11_dear
    rw [it_n f0_m.2.2 (by omega) (x0 x)]
    rfl
theorem ra0 : fX2_ringAll sig0 = some (0, sig0) := by
  show fX2_ringAll_b2 (fX2_ringAll_h2 399) sig0 0 = _
  unfold fX2_ringAll_b2
  rw [f0_22.1, if_pos (by decide)]
theorem ch0 (x y : Int32) : fX2_choose sig0 x y = some (0, su sig0 46 5 0) := by
  unfold fX2_choose
  rw [ra0]
  show fX2_choose_b11 (fX2_choose_h11 399) (su sig0 46 5 0) x y 1 = _
  unfold fX2_choose_b11
  rw [su_ne (by omega), f0_22.1, if_pos (by decide)]
theorem chm (σ : S0) (h5 : σ 98 5 = nI 0) (x y : Int32) (hx : ¬ x = 0) : fX11_cheapest σ x y = some (99999, su σ 98 33 (-4)) := by
  unfold fX11_cheapest
  show fX11_cheapest_b13 (fX11_cheapest_h13 399) (su σ 98 33 (-4)) x y 99999 0 = _
  have e5 : su σ 98 33 (-4) 98 5 = nI 0 := by rw [su_j (by omega)]; exact h5
  unfold fX11_cheapest_b13
  rw [e5, if_neg (by decide), bitsOf_s, show pb 0 12 = 0 by decide]
  show (if ¬ ((0 : Int32) = x) then _ else _) = _
  rw [if_pos (fun h => hx h.symm)]
  show fX11_cheapest_b13 (fX11_cheapest_h13 398) (su σ 98 33 (-4)) x y 99999 1 = _
  unfold fX11_cheapest_b13
  rw [e5, if_pos (by decide)]
theorem fa0 (x y z : Int32) : An (fX10_fair sig0 x y z) (fun r τ => τ 98 = sig0 98 ∧ r = if (1 ≤ x.toInt ∧ x.toInt ≤ 6) ∧ (0 ≤ y.toInt ∧ y.toInt ≤ 72) ∧ (0 ≤ z.toInt ∧ z.toInt ≤ 1) then -4 else -1) := by
  unfold fX10_fair
  have e0 : (0 : Int32).toInt = 0 := rfl
  have e1 : (1 : Int32).toInt = 1 := rfl
  have e6 : (6 : Int32).toInt = 6 := rfl
  have e72 : (72 : Int32).toInt = 72 := rfl
  refine An.ite (fun h => ?_) (fun h1 => An.ite (fun h => ?_) (fun h2 => An.ite (fun h => ?_) (fun h3 => An.ite (fun h => ?_) (fun h4 => An.ite (fun h => ?_) (fun h5 => An.ite (fun h => ?_) (fun h6 => ?_))))))
  all_goals simp only [i3_lt, i3_le] at *
  case refine_6 =>
    rw [ch0]
    refine ⟨-4, su sig0 46 5 0, ?_, su_ne (by omega), by rw [if_pos (by omega)]⟩
    dsimp only [obp]
    rw [if_neg (not_not_intro su_s)]
  all_goals exact An.mk ⟨rfl, by rw [if_neg (by omega)]⟩
theorem fmA0 (σ : S0) (h5 : σ 98 5 = nI 0) (x y z : Int32) : An (fX11_fair σ x y z) (fun r _ => r = if (1 ≤ x.toInt ∧ x.toInt ≤ 6) ∧ (0 ≤ y.toInt ∧ y.toInt ≤ 72) ∧ (0 ≤ z.toInt ∧ z.toInt ≤ 1) then -4 else -1) := by
  unfold fX11_fair
  rw [in_i σ x 1 6 1 6 rfl rfl]
  by_cases h1 : 1 ≤ x.toInt ∧ x.toInt ≤ 6
  · rw [if_pos h1]
    dsimp only [obp]
    rw [if_neg (by decide), in_i σ y 0 72 0 72 rfl rfl]
    by_cases h2 : 0 ≤ y.toInt ∧ y.toInt ≤ 72
    · rw [if_pos h2]
      dsimp only [obp]
      rw [if_neg (by decide), in_i σ z 0 1 0 1 rfl rfl]
      by_cases h3 : 0 ≤ z.toInt ∧ z.toInt ≤ 1
      · rw [if_pos h3]
        dsimp only [obp]
        rw [if_pos (by decide), chm σ h5 x y (fun q => by rw [q] at h1; exact absurd h1 (by decide))]
        refine ⟨-4, su σ 98 33 (-4), ?_, by rw [if_pos ⟨h1, h2, h3⟩]⟩
        dsimp only [obp]
        rw [if_neg (not_not_intro su_s)]
      · rw [if_neg h3]
        dsimp only [obp]
        rw [if_neg (by decide)]
        exact An.mk (by rw [if_neg (fun q => h3 q.2.2)])
    · rw [if_neg h2]
      dsimp only [obp]
      rw [if_pos rfl]
      exact An.mk (by rw [if_neg (fun q => h2 q.2.1)])
  · rw [if_neg h1]
    dsimp only [obp]
    rw [if_pos rfl]
    exact An.mk (by rw [if_neg (fun q => h1 q.1)])
theorem s1_fair (x y z : Int32) : An (fX10_fair sig0 x y z) (fun r τ => An (fX11_fair τ x y z) (fun q _ρ => r = q ∧ True)) := by
  obtain ⟨r, τ, e, h1, h2⟩ := fa0 x y z
  obtain ⟨q, ρ, e2, h3⟩ := fmA0 τ (by rw [h1]; exact f0_m.2.2) x y z
  exact ⟨r, τ, e, q, ρ, e2, h2.trans h3.symm, trivial⟩
theorem fe0 (σ : S0) (h5 : σ 98 5 = nI 0) (x z : Int32) : An (fX11_feast σ x z) (fun r _ => r = if (1 ≤ x.toInt ∧ x.toInt ≤ 6) ∧ (0 ≤ z.toInt ∧ z.toInt ≤ 1) then -4 else -1) := by
  unfold fX11_feast
  rw [in_i σ x 1 6 1 6 rfl rfl]
  by_cases h1 : 1 ≤ x.toInt ∧ x.toInt ≤ 6
  · rw [if_pos h1]
    dsimp only [obp]
    rw [if_neg (by decide), in_i σ z 0 1 0 1 rfl rfl]
    by_cases h3 : 0 ≤ z.toInt ∧ z.toInt ≤ 1
    · rw [if_pos h3]
      dsimp only [obp]
      rw [if_pos (by decide), chm σ h5 x _ (fun q => by rw [q] at h1; exact absurd h1 (by decide))]
      refine ⟨-4, su σ 98 33 (-4), ?_, by rw [if_pos ⟨h1, h3⟩]⟩
      dsimp only [obp]
      rw [if_neg (not_not_intro su_s)]
    · rw [if_neg h3]
      dsimp only [obp]
      rw [if_neg (by decide)]
      exact An.mk (by rw [if_neg (fun q => h3 q.2)])
  · rw [if_neg h1]
    dsimp only [obp]
    rw [if_pos rfl]
    exact An.mk (by rw [if_neg (fun q => h1 q.1)])
theorem s1_feast (x z : Int32) : An (fX10_feast sig0 x z) (fun r τ => An (fX11_feast τ x z) (fun q _ρ => r = q ∧ True)) := by
  obtain ⟨r, τ, e, h1, h2⟩ := fa0 x 72 z
  obtain ⟨q, ρ, e2, h3⟩ := fe0 τ (by rw [h1]; exact f0_m.2.2) x z
  refine ⟨r, τ, ?_, q, ρ, e2, ?_, trivial⟩
  · unfold fX10_feast
    rw [e]
    rfl
  · rw [h2, h3]
    have e72 : (72 : Int32).toInt = 72 := rfl
    by_cases h : (1 ≤ x.toInt ∧ x.toInt ≤ 6) ∧ (0 ≤ z.toInt ∧ z.toInt ≤ 1)
    · rw [if_pos h, if_pos (by omega)]
    · rw [if_neg h, if_neg (by omega)]
theorem so0 (g : Int32) : fX2_strokesOf sig0 g = some (0, sig0) := by
  unfold fX2_strokesOf
  have : ∀ x y, fX2_strokesIn sig0 x y = some (0, sig0) := fun x y => by
    show fX2_strokesIn_b5 (fX2_strokesIn_h5 399) sig0 x y 0 0 = _
    unfold fX2_strokesIn_b5
    rw [f0_22.1, if_pos (by decide)]
  rw [this]
  rfl
theorem wx_step (m : Nat) (x y : Int32) (i : Nat) (hi : i < 3) : fX10_wine_h36 (m + 1) sig0 x y 0 (nI i) = fX10_wine_h36 m sig0 x y 0 (nI (i + 1)) := by
  show fX10_wine_b36 _ sig0 x y 0 (nI i) = _
  unfold fX10_wine_b36
  rw [f0_22.2, if_neg (nI_ge hi (by omega)), so0]
  show fX10_wine_h36 m sig0 x y (0 + 0) (nI i + 1) = _
  rw [nI_1]
  rfl
theorem wx_end (m : Nat) (x y : Int32) : fX10_wine_h36 (m + 1) sig0 x y 0 (nI 3) = some (-4, sig0) := by
  show fX10_wine_b36 _ sig0 x y 0 (nI 3) = _
  unfold fX10_wine_b36
  rw [f0_22.2, if_pos (by decide), if_neg (by decide)]
theorem wm_step {σ : S0} (h2 : σ 98 2 = nI 3) (h0 : ∀ j, j < 6 → σ 105 j = 0) (m : Nat) (x y : Int32) (i : Nat) (hi : i < 3) : fX11_wine_h52 (m + 1) σ x y 0 (nI i) = fX11_wine_h52 m σ x y 0 (nI (i + 1)) := by
  show fX11_wine_b52 _ σ x y 0 (nI i) = _
  unfold fX11_wine_b52
  rw [h2, if_neg (nI_ge hi (by omega))]
  simp only [ol]
  rw [og_t (ix_ok (by omega) (by omega)), nI_clamp (by omega), h0 i (by omega), nI_1]
  rfl
theorem wm_end {σ : S0} (h2 : σ 98 2 = nI 3) (m : Nat) (x y : Int32) : fX11_wine_h52 (m + 1) σ x y 0 (nI 3) = some (-4, σ) := by
  show fX11_wine_b52 _ σ x y 0 (nI 3) = _
  unfold fX11_wine_b52
  rw [h2, if_pos (by decide), if_neg (by decide)]
theorem s1_wine (x y : Int32) : An (fX10_wine sig0 x y) (fun r τ => An (fX11_wine τ x y) (fun q _ρ => r = q ∧ True)) := by
  have hm : ∀ v : Int32, (¬ (0 ≤ x.toInt ∧ x.toInt ≤ 999) ∨ (y.toInt < 0 ∨ ((3 : Nat) : Int) ≤ y.toInt)) → An (fX11_wine sig0 x y) (fun q _ρ => -1 = q ∧ True) := fun v hv => by
    unfold fX11_wine
    rw [in_i sig0 x 0 999 0 999 rfl rfl]
    by_cases h1 : 0 ≤ x.toInt ∧ x.toInt ≤ 999
    · rw [if_pos h1]
      dsimp only [obp]
      rw [if_neg (by decide), ih_n f0_m.1 (by omega) (hv.resolve_left (fun q => q h1))]
      exact An.mk ⟨rfl, trivial⟩
    · rw [if_neg h1]
      exact An.mk ⟨rfl, trivial⟩
  have e0 : (0 : Int32).toInt = 0 := rfl
  have e9 : (999 : Int32).toInt = 999 := rfl
  unfold fX10_wine
  refine An.ite (fun h => An.mk (hm 0 (Or.inl (by rw [i3_lt] at h; omega)))) (fun h1 => An.ite (fun h => An.mk (hm 0 (Or.inl (by rw [i3_lt] at h; omega)))) (fun h2 => ?_))
  rw [i3_lt] at h1 h2
  rcases ixc y 3 (by omega) with ⟨j, hj, rfl⟩ | hy
  · rw [hh_y f0_22.2 (by omega) hj]
    dsimp only [obp]
    rw [if_pos (by decide), ra0]
    refine ⟨-4, sig0, ?_, -4, nr sig0 0, ?_, rfl, trivial⟩
    · show fX10_wine_h36 400 sig0 x (nI j) 0 (nI 0) = _
      rw [wx_step 399 _ _ 0 (by omega), wx_step 398 _ _ 1 (by omega), wx_step 397 _ _ 2 (by omega), wx_end]
    · unfold fX11_wine
      rw [in_i sig0 x 0 999 0 999 rfl rfl, if_pos (by omega)]
      dsimp only [obp]
      rw [if_neg (by decide), ih_y f0_m.1 (by omega) hj]
      dsimp only [obp]
      rw [if_pos (by decide), noRung_s]
      have a2 : nr sig0 0 98 2 = nI 3 := by rw [nr_ne (by omega)]; exact f0_m.1
      have a5 : nr sig0 0 98 5 = nI 0 := by rw [nr_ne (by omega)]; exact f0_m.2.2
      show fX11_wine_b28 (fX11_wine_h28 399) (nr sig0 0) x (nI j) 0 = _
      unfold fX11_wine_b28
      rw [a5, if_pos (by decide)]
      show fX11_wine_h52 400 (nr sig0 0) x (nI j) 0 (nI 0) = _
      rw [wm_step a2 (fun j => nr_in) 399 _ _ 0 (by omega), wm_step a2 (fun j => nr_in) 398 _ _ 1 (by omega), wm_step a2 (fun j => nr_in) 397 _ _ 2 (by omega), wm_end a2]
  · rw [hh_n f0_22.2 (by omega) hy]
    exact An.mk (hm 0 (Or.inr hy))
