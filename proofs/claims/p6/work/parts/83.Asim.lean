/-! TEXT -/
theorem cpT_l : ∀ (d t m : Nat) (σ : S0), 6 - t = d → t ≤ 6 → d < m → ∃ τ, fX9_copyFrom_h56 m σ 22 4 (nI t) = some (0, c7s τ 32 14) ∧ (∀ x, (x < 26 + t ∨ 31 < x) → τ x = σ x) ∧ ∀ u, t ≤ u → u < 6 → ∀ i, i < 12 → τ (26 + u) i = σ (8 + u) i := by
  intro d
  induction d with
  | zero =>
    intro t m σ h1 h2 h3
    obtain ⟨m, rfl⟩ : ∃ q, m = q + 1 := ⟨m - 1, by omega⟩
    have : t = 6 := by omega
    subst this
    refine ⟨σ, ?_, fun _ _ => rfl, fun u a b => by omega⟩
    show fX9_copyFrom_b56 _ _ _ _ _ = _
    unfold fX9_copyFrom_b56
    rw [if_pos (show (6 : Int32) ≤ nI 6 by decide), copyFrom_e]
    rfl
  | succ d ih =>
    intro t m σ h1 h2 h3
    obtain ⟨m, rfl⟩ : ∃ q, m = q + 1 := ⟨m - 1, by omega⟩
    have hgt := ix_ok (j := t) (n := 6) (by omega) (by omega)
    have hct : (nI t).toNatClampNeg = t := nI_clamp (by omega)
    have hgt2 : ¬ (nI t < 0 ∨ 6 ≤ t) := fun q => hgt (by rw [hct]; exact q)
    obtain ⟨τ, t1, t2, t3⟩ := ih (t + 1) m (cpa σ (26 + t) (8 + t) 12) (by omega) (by omega) (by omega)
    refine ⟨τ, ?_, fun x hx => ?_, fun u a b i hi => ?_⟩
    · show fX9_copyFrom_b56 _ _ _ _ _ = _
      unfold fX9_copyFrom_b56
      rw [if_neg (show ¬ (6 : Int32) ≤ nI t from nI_ge (b := 6) (by omega) (by omega))]
      simp only [og_t hgt, og_t hgt2, hct, ol, Nat.one_mul, Nat.reduceAdd, nI_1, n12]
      exact t1
    · rw [t2 x (by omega), cpa_ne (by omega)]
    · by_cases q : u = t
      · subst q
        rw [t2 _ (by omega), cpa_in hi]
      · rw [t3 u (by omega) b i hi, cpa_ne (by omega)]
theorem cpF (σ : S0) : ∃ s, fX9_copyFrom σ 22 4 = fX9_copyFrom_h56 400 s 22 4 (nI 0) ∧ s = cpa (cpa (su (su (su σ 22 0 (σ 4 0)) 22 1 (σ 4 1)) 22 2 (σ 4 2)) 23 5 6) 24 6 6 := by
  refine ⟨_, by unfold fX9_copyFrom; rw [ol_g, ol_g, ol_g, ol_g, ol_g, ol_g, ol_g, ol_g, ← nI_0], ?_⟩
  unfold cpa
  rw [n6, su_ne (show 4 ≠ 22 by omega), su_ne (show 4 ≠ 22 by omega), su_ne (show 4 ≠ 22 by omega)]
theorem cpTown (σ : S0) : ∃ τ, fX9_copyFrom σ 22 4 = some (0, τ) ∧ (∀ x, (x < 22 ∨ 39 < x) → τ x = σ x) ∧ τ 22 0 = σ 4 0 ∧ τ 22 1 = σ 4 1 ∧ τ 22 2 = σ 4 2 ∧ (∀ t, t < 6 → τ 23 t = σ 5 t ∧ τ 24 t = σ 6 t ∧ ∀ i, i < 12 → τ (26 + t) i = σ (8 + t) i) ∧ τ 32 0 = σ 14 0 ∧ τ 32 7 = σ 14 7 ∧ (∀ d j, 1 ≤ d → d ≤ 5 → j < 12 → τ (32 + d) j = σ (14 + d) j) ∧ ∀ j, j < 6 → τ 38 j = σ 20 j := by
  obtain ⟨τ, t1, t2, t3⟩ := cpT_l 6 0 400 (cpa (cpa (su (su (su σ 22 0 (σ 4 0)) 22 1 (σ 4 1)) 22 2 (σ 4 2)) 23 5 6) 24 6 6) (by omega) (by omega) (by omega)
  have lo : ∀ x, x ≠ 22 → x ≠ 23 → x ≠ 24 → cpa (cpa (su (su (su σ 22 0 (σ 4 0)) 22 1 (σ 4 1)) 22 2 (σ 4 2)) 23 5 6) 24 6 6 x = σ x := fun x h1 h2 h3 => by rw [cpa_ne h3, cpa_ne h2, su_ne h1, su_ne h1, su_ne h1]
  refine ⟨c7s τ 32 14, ?_, fun x hx => ?_, ?_, ?_, ?_, fun t ht => ⟨?_, ?_, fun i hi => ?_⟩, ?_, ?_, fun d j h1 h2 hj => ?_, fun j hj => ?_⟩
  · obtain ⟨s, s1, s2⟩ := cpF σ
    rw [s1, s2]
    exact t1
  · rw [c7s_o (by omega), t2 x (by omega), lo x (by omega) (by omega) (by omega)]
  · rw [c7s_o (by omega), t2 22 (by omega), cpa_ne (by omega), cpa_ne (by omega), su_j (by omega), su_j (by omega), su_s]
  · rw [c7s_o (by omega), t2 22 (by omega), cpa_ne (by omega), cpa_ne (by omega), su_j (by omega), su_s]
  · rw [c7s_o (by omega), t2 22 (by omega), cpa_ne (by omega), cpa_ne (by omega), su_s]
  · rw [c7s_o (by omega), t2 23 (by omega), cpa_ne (by omega), cpa_in ht, su_ne (by omega), su_ne (by omega), su_ne (by omega)]
  · rw [c7s_o (by omega), t2 24 (by omega), cpa_in ht, cpa_ne (by omega), su_ne (by omega), su_ne (by omega), su_ne (by omega)]
  · rw [c7s_o (by omega), t3 t (by omega) ht i hi, lo _ (by omega) (by omega) (by omega)]
  · rw [c7s_0 (by omega), t2 14 (by omega), lo 14 (by omega) (by omega) (by omega)]
  · rw [c7s_7 (by omega), t2 14 (by omega), lo 14 (by omega) (by omega) (by omega)]
  · rw [c7s_d (by omega) h1 (by omega) (by omega) hj, t2 _ (by omega), lo _ (by omega) (by omega) (by omega)]
  · rw [show (38 : Nat) = 32 + 6 from rfl, c7s_6 (by omega) hj, t2 _ (by omega), lo _ (by omega) (by omega) (by omega)]
theorem h47_s (σ : S0) : fX10_text_h47 400 σ 0 = some (σ 3 4, su (su σ 72 0 0) 72 1 0) := by
  have c0 : (nI 0).toNatClampNeg = 0 := nI_clamp (by omega)
  have c1 : (nI 1).toNatClampNeg = 1 := nI_clamp (by omega)
  have e0 : fX10_text_h47 400 σ (nI 0) = fX10_text_h47 399 (su σ 72 0 0) (nI 1) := by
    show fX10_text_b47 _ _ _ = _
    unfold fX10_text_b47
    rw [if_neg (show ¬ (2 : Int32) ≤ nI 0 by decide), og_t (ix_ok (by omega) (by omega)), c0, ol_g, ol_g, nI_1]
    rfl
  have e1 : fX10_text_h47 399 (su σ 72 0 0) (nI 1) = fX10_text_h47 398 (su (su σ 72 0 0) 72 1 0) (nI 2) := by
    show fX10_text_b47 _ _ _ = _
    unfold fX10_text_b47
    rw [if_neg (show ¬ (2 : Int32) ≤ nI 1 by decide), og_t (ix_ok (by omega) (by omega)), c1, ol_g, ol_g, nI_1]
    rfl
  have e2 : fX10_text_h47 398 (su (su σ 72 0 0) 72 1 0) (nI 2) = some (σ 3 4, su (su σ 72 0 0) 72 1 0) := by
    show fX10_text_b47 _ _ _ = _
    unfold fX10_text_b47
    rw [if_pos (show (2 : Int32) ≤ nI 2 by decide), su_ne (by omega), su_ne (by omega)]
  rw [show (0 : Int32) = nI 0 from nI_0.symm, e0, e1, e2, nI_0]
/-- bits of feuds: below H, if none from H on has a feud -/
theorem fo_lt {H : Nat} {fo : Nat → Nat} (hH : H ≤ 6) (f1 : ∀ h, h < 6 → fo h < 64) (f2 : ∀ a b, a < 6 → b < 6 → (fo a).testBit b = (fo b).testBit a) (f4 : ∀ a, H ≤ a → a < 6 → fo a = 0) {x : Nat} (hx : x < 6) : fo x < 2 ^ H := by
  refine Nat.lt_pow_two_of_testBit _ (fun i hi => ?_)
  by_cases c : i < 6
  · rw [f2 x i hx c, f4 i hi c]
    exact Nat.zero_testBit _
  · exact Nat.testBit_lt_two_pow (Nat.lt_of_lt_of_le (f1 x hx) (Nat.pow_le_pow_right (n := 2) (by omega) (show 6 ≤ i by omega)))
theorem sim_text : Sim fX10_text fX11_text := by
  refine Sim.of2 (fun σ ρ => rx_fX10_text ρ σ) (fun σ ρ => rm_fX11_text σ ρ) (fun σ hR => ?_)
  obtain ⟨H0, G0, B0, T0, h⟩ := hR
  obtain ⟨hn0, hk0, hm0, ht0, hi0, ⟨n, n1, p1, p2, p3⟩, hs0, hf0, hq0⟩ := h
  have hB0 := hn0.1.2.2.2.1
  have hT0 := hn0.1.2.2.2.2
  -- the bytes
  have ea : ∀ j, j < n → (σ 104 j).toNatClampNeg < 256 ∧ σ 104 j = nI (σ 104 j).toNatClampNeg ∧ σ 2 j = sbt (σ 104 j).toNatClampNeg := fun j hj => by
    obtain ⟨x, x1, x2, x3⟩ := p3 j hj
    rw [x2, nI_clamp (by omega)]
    exact ⟨x1, rfl, x3⟩
  have tx : TpX (fun j => (σ 104 j).toNatClampNeg) n σ := ⟨n1, p1, fun j hj => ⟨(ea j hj).1, (ea j hj).2.2⟩⟩
  have tp : TpM (fun j => (σ 104 j).toNatClampNeg) n σ := ⟨n1, p2, fun j hj => ⟨(ea j hj).1, (ea j hj).2.1⟩⟩
  obtain ⟨r, τ, c, μ, a1, a2, k1, k2, a3⟩ := all_s tx tp
  unfold fX10_text
  rw [a1, a2]
  simp only [obp, ol]
  unfold fX11_text_b84
  simp only [ol]
  rcases a3 with ⟨r1, d, w1, w2, e34, e35, e22⟩ | ⟨r0, fl⟩
  · -- the text is taken
    have g22 : su μ 98 17 0 98 22 ≤ 0 := by rw [su_j (by omega), e22]; decide
    rw [r1, if_pos (by decide), if_pos g22, keepDraft_s]
    try simp only
    obtain ⟨τ2, c1, c2, c3, c4, c5, c6, c7, c8, c9, c10⟩ := cpTown (su τ 1 1 0)
    rw [c1]
    try simp only
    rw [h47_s]
    obtain ⟨b1, b2, b3, b4, b5, b6, b7, b8, b9, b10, b11⟩ := kd_facts (su μ 98 17 0)
    have e34' : τ2 3 4 = nI c := by rw [c2 3 (by omega), su_ne (by omega)]; exact e34
    rw [e34']
    refine ⟨nI c, _, nI c, _, rfl, rfl, rfl, ?_⟩
    -- the relation
    obtain ⟨⟨⟨H, h1, h2, h3, h4⟩, G, g1, g2, g3⟩, -, ⟨fo, f1, f2, f3⟩, ⟨d1, d2⟩, ⟨B, hB, hM⟩, T, hT, hN⟩ := d
    have hB12 := hB.1
    have hT6 := hT.1
    rw [h4, (hM.lt (by omega) (m := H) (by omega))] at w1
    rw [hB.2.2.1, (hN.lt (by omega) (m := B) (by omega))] at w2
    have wth : ∀ y, y < 6 → th μ B y → y < H := fun y y1 y2 => Classical.byContradiction fun q => w1 ⟨y, y1, y2, by omega⟩
    have wsb : ∀ y, y < 12 → sbr μ T y → y < B := fun y y1 y2 => Classical.byContradiction fun q => w2 ⟨y, y1, y2, by omega⟩
    have f4 : ∀ a, H ≤ a → a < 6 → fo a = 0 := fun a a1 a2 => Classical.byContradiction fun q => by
      have := wth a a2 (Or.inr (by rw [(f1 a a2).2.2]; exact nI_ne0 (by omega) (by have := (f1 a a2).1; omega)))
      omega
    generalize kdS (k84 (k80 (su μ 98 17 0) 0) 0) = ρ at b1 b2 b3 b4 b5 b6 b7 b8 b9 b10 b11
    -- the class's cells
    have X : ∀ k, k < 98 → mix (su (su τ2 72 0 0) 72 1 0) ρ k = su (su τ2 72 0 0) 72 1 0 k := fun k hk => mix_lo hk
    have Y : ∀ k, 98 ≤ k → mix (su (su τ2 72 0 0) 72 1 0) ρ k = ρ k := fun k hk => mix_hi hk
    have X2 : ∀ k, k < 98 → k ≠ 72 → mix (su (su τ2 72 0 0) 72 1 0) ρ k = τ2 k := fun k hk h72 => by rw [X k hk, su_ne h72, su_ne h72]
    have X72 : ∀ k, k < 2 → mix (su (su τ2 72 0 0) 72 1 0) ρ 72 k = 0 := fun k hk => by
      rw [X 72 (by omega)]
      rcases (show k = 0 ∨ k = 1 by omega) with rfl | rfl
      · rw [su_j (by omega), su_s]
      · rw [su_s]
    generalize mix (su (su τ2 72 0 0) 72 1 0) ρ = ν at X Y X2 X72
    have T1 : ∀ k j, k ≠ 1 → su τ 1 1 0 k j = τ k j := fun k j hk => by rw [su_ne hk]
    have M1 : ∀ k j, k ≠ 98 → su μ 98 17 0 k j = μ k j := fun k j hk => by rw [su_ne hk]
    have M8 : ∀ j, j ≠ 17 → su μ 98 17 0 98 j = μ 98 j := fun j hj => su_j hj
    have e99 : ∀ j, j < 80 → ν 99 j = μ 102 j := fun j hj => by rw [Y 99 (by omega), b2 j hj, M1 102 j (by omega)]
    have e101 : ∀ j, j < 84 → ν 101 j = μ 103 j := fun j hj => by rw [Y 101 (by omega), b4 j hj, M1 103 j (by omega)]
    have hold : ∀ x, (39 < x ∧ x < 98 ∧ x ≠ 72) ∨ x = 0 ∨ x = 2 → ν x = σ x := fun x hx => by
      rw [X2 x (by omega) (by omega), c2 x (by omega), su_ne (by omega)]
      exact funext fun j => k1 x j (by unfold scX; omega)
    have holdM : ∀ x, 104 ≤ x → ν x = σ x := fun x hx => by
      rw [Y x (by omega), b1 x (by omega) (by omega) (by omega) (by omega), su_ne (by omega)]
      exact funext fun j => k2 x j (by unfold scM; omega)
    refine ⟨H, G, B, T, ⟨⟨h1, h2, g1, hB12, hT6⟩, ⟨?_, ?_, ?_, ?_⟩, ?_, ?_, ?_⟩, ⟨?_, fun b hb => ?_, fun x hx => ?_, ?_, fun j hj hl => ?_⟩, ⟨⟨0, by omega, ?_, fun j hj => by omega⟩, fun b hb => ?_, fo, fun x hx => ⟨fo_lt h2 (fun x hx => (f1 x hx).1) f2 f4 hx, ?_⟩, f2, f3, f4⟩, fun t ht => ?_, fun k hk => Or.inl ⟨?_, X72 k hk⟩, ⟨0, by omega, ?_, ?_, fun j hj => by omega⟩, hs0.c (holdM 108 (by omega)) (holdM 109 (by omega)) (holdM 110 (by omega)) (fun x x1 x2 => hold x (by omega)), ?_, ?_⟩
    · rw [Y 98 (by omega), b6, M8 9 (by omega)]; exact h4
    · rw [Y 98 (by omega), b7, M8 10 (by omega)]; exact g3
    · rw [Y 98 (by omega), b8, M8 11 (by omega)]; exact hB.2.2.1
    · rw [Y 98 (by omega), b9, M8 12 (by omega)]; exact hT.2.2.1
    · rw [X2 22 (by omega) (by omega), c3, T1 4 0 (by omega)]; exact h3
    · rw [X2 22 (by omega) (by omega), c4, T1 4 1 (by omega)]; exact g2
    · rw [X2 22 (by omega) (by omega), c5, T1 4 2 (by omega)]; exact hT.2.1
    · rw [X2 32 (by omega) (by omega), c7, T1 14 0 (by omega)]; exact hB.2.1
    · obtain ⟨⟨w, q1, q2, q3⟩, ⟨f, q4, q5, q6⟩, ⟨f', q7, q8, q9⟩, q10, q11⟩ := hB.2.2.2 b hb
      have z : ∀ d, 1 ≤ d → d ≤ 5 → ν (32 + d) b = τ (14 + d) b := fun d u1 u2 => by rw [X2 _ (by omega) (by omega), c9 d b u1 u2 (by omega), T1 _ _ (by omega)]
      refine ⟨?_, ?_, ?_, ?_, ?_⟩
      · rw [z 1 (by omega) (by omega), e99 _ (by omega), show 0 + 5 * b = 5 * b by omega, q3]; exact q2
      · rw [z 2 (by omega) (by omega), e99 _ (by omega), show 0 + 5 * b + 1 = 5 * b + 1 by omega, q6]; exact q5
      · rw [z 3 (by omega) (by omega), e99 _ (by omega), show 0 + 5 * b + 2 = 5 * b + 2 by omega, q9]; exact q8
      · rw [z 4 (by omega) (by omega), e99 _ (by omega), show 0 + 5 * b + 3 = 5 * b + 3 by omega]
        rcases q10 with q | q
        · rw [q.2]; exact q.1
        · rw [q.2]; exact q.1
      · rw [z 5 (by omega) (by omega), e99 _ (by omega), show 0 + 5 * b + 4 = 5 * b + 4 by omega]
        rcases q11 with q | ⟨x, -, x2, x3⟩
        · rw [q.2]; exact q.1
        · rw [x3]; exact x2
    · rw [X2 (32 + 6) (by omega) (by omega), show (32 + 6 : Nat) = 38 from rfl, c10 x hx, T1 _ _ (by omega), e99 _ (by omega), show 0 + 60 + x = 60 + x by omega, (f1 x hx).2.2]; exact (f1 x hx).2.1
    · rw [X2 32 (by omega) (by omega), c8, T1 14 7 (by omega), d1, e99 _ (by omega), d2]
    · rw [e99 _ (by omega), d2] at hl
      exact absurd hl (nI_pos (by omega))
    · rw [e99 _ (by omega), d2]; rfl
    · obtain ⟨⟨w, q1, q2, q3⟩, ⟨f, q4, q5, q6⟩, ⟨f', q7, q8, q9⟩, q10, q11⟩ := hB.2.2.2 b hb
      refine ⟨⟨w, wth w q1 (Or.inl ⟨b, hb, Or.inl q3⟩), ?_⟩, ⟨f, q4, ?_⟩, ⟨f', q7, ?_⟩, ?_, ?_⟩
      · rw [e99 _ (by omega), show 0 + 5 * b = 5 * b by omega]; exact q3
      · rw [e99 _ (by omega), show 0 + 5 * b + 1 = 5 * b + 1 by omega]; exact q6
      · rw [e99 _ (by omega), show 0 + 5 * b + 2 = 5 * b + 2 by omega]; exact q9
      · rw [e99 _ (by omega), show 0 + 5 * b + 3 = 5 * b + 3 by omega]
        exact q10.elim (fun q => Or.inl q.2) (fun q => Or.inr q.2)
      · rw [e99 _ (by omega), show 0 + 5 * b + 4 = 5 * b + 4 by omega]
        rcases q11 with q | ⟨x, x1, x2, x3⟩
        · exact Or.inl q.2
        · exact Or.inr ⟨x, wth x x1 (Or.inl ⟨b, hb, Or.inr x3⟩), x3⟩
    · rw [e99 _ (by omega), show 0 + 60 + x = 60 + x by omega]; exact (f1 x hx).2.2
    · obtain ⟨m, m1, m2, m3, m4, ⟨w, u1, u2, u3⟩, m6⟩ := hT.2.2.2 t ht
      obtain ⟨v1, v2, v3⟩ := c6 t (by omega)
      refine ⟨m, m1, m2, ?_, ?_, ?_, ⟨w, u1, ?_⟩, fun i hi => ?_⟩
      · rw [e101 _ (by omega)]; exact m4
      · rw [X2 24 (by omega) (by omega), v2, T1 _ _ (by omega)]; exact m3
      · rw [X2 23 (by omega) (by omega), v1, T1 _ _ (by omega), e101 _ (by omega), u3]; exact u2
      · rw [e101 _ (by omega)]; exact u3
      · obtain ⟨b, o1, o2, o3⟩ := m6 i hi
        refine ⟨b, wsb b o1 ⟨t, m, i, ht, m2, m4, hi, o3⟩, ?_, ?_⟩
        · rw [e101 _ (by omega)]; exact o3
        · rw [X2 _ (by omega) (by omega), v3 i (by omega), T1 _ _ (by omega)]; exact o2
    · rw [Y 100 (by omega)]
      rcases (show k = 0 ∨ k = 1 by omega) with rfl | rfl
      · exact b10
      · exact b11
    · rw [X2 1 (by omega) (by omega), c2 1 (by omega), su_s]; rfl
    · rw [Y 98 (by omega), b5 17 (by omega), su_s]; rfl
    · have q1 : ν 3 5 = 0 := by rw [X2 3 (by omega) (by omega), c2 3 (by omega), T1 3 5 (by omega)]; exact e35
      have q2 : ν 98 22 = 0 := by rw [Y 98 (by omega), b5 22 (by omega), M8 22 (by omega)]; exact e22
      exact ⟨fun _ => q2, fun _ => q1⟩
    · rw [hold 0 (by omega), Y 98 (by omega), b5 39 (by omega), M8 39 (by omega), k2 98 39 (by unfold scM; omega)]; exact hq0
  · -- a fault
    obtain ⟨f, g, pl, q1, q2, q3, q4, q5, q6, q7⟩ := fl
    have g22 : ¬ su μ 98 17 0 98 22 ≤ 0 := by rw [su_j (by omega), q5]; exact nI_nle (by omega) (by omega)
    rw [r0, if_neg (fun q => q rfl), if_neg g22, su_ne (show 3 ≠ 1 by omega), q6, su_j (show 23 ≠ 17 by omega), q7]
    refine ⟨_, _, _, _, rfl, rfl, rfl, ?_⟩
    have X : ∀ k, k < 98 → mix (su τ 1 1 0) (su μ 98 17 0) k = su τ 1 1 0 k := fun k hk => mix_lo hk
    have Y : ∀ k, 98 ≤ k → mix (su τ 1 1 0) (su μ 98 17 0) k = su μ 98 17 0 k := fun k hk => mix_hi hk
    generalize mix (su τ 1 1 0) (su μ 98 17 0) = ν at X Y
    have hold : ∀ x, x < 98 → x ≠ 1 → x ≠ 3 → (x < 4 ∨ 21 < x) → ν x = σ x := fun x h1 h2 h3 h4 => by
      rw [X x h1, su_ne h2]
      exact funext fun j => k1 x j (by unfold scX; omega)
    have holdM : ∀ x, 98 < x → x ≠ 102 → x ≠ 103 → ν x = σ x := fun x h1 h2 h3 => by
      rw [Y x (by omega), su_ne (by omega)]
      exact funext fun j => k2 x j (by unfold scM; omega)
    have hold8 : ∀ j, j ≠ 17 → ¬ (9 ≤ j ∧ j ≤ 15) → ¬ (18 ≤ j ∧ j ≤ 23) → ν 98 j = σ 98 j := fun j h1 h2 h3 => by
      rw [Y 98 (by omega), su_j h1]
      exact k2 98 j (by unfold scM; omega)
    refine ⟨H0, G0, B0, T0, hn0.c (hold8 2 (by omega) (by omega) (by omega)) (hold8 3 (by omega) (by omega) (by omega)) (hold8 4 (by omega) (by omega) (by omega)) (hold8 5 (by omega) (by omega) (by omega)) (hold 22 (by omega) (by omega) (by omega) (by omega)), hk0.c (fun d hd => hold _ (by omega) (by omega) (by omega) (by omega)) (fun i _ _ => by rw [holdM 99 (by omega) (by omega) (by omega)]) hB0, hm0.c (fun i _ _ => by rw [holdM 99 (by omega) (by omega) (by omega)]) hB0, ht0.c (holdM 101 (by omega) (by omega) (by omega)) (hold 24 (by omega) (by omega) (by omega) (by omega)) (hold 23 (by omega) (by omega) (by omega) (by omega)) (fun t ht => hold _ (by omega) (by omega) (by omega) (by omega)), hi0.c (holdM 100 (by omega) (by omega) (by omega)) (hold 72 (by omega) (by omega) (by omega) (by omega)) (fun x x1 x2 => hold _ (by omega) (by omega) (by omega) (by omega)) (fun i _ _ => by rw [holdM 99 (by omega) (by omega) (by omega)]) hB0, ⟨0, by omega, ?_, ?_, fun j hj => by omega⟩, hs0.c (holdM 108 (by omega) (by omega) (by omega)) (holdM 109 (by omega) (by omega) (by omega)) (holdM 110 (by omega) (by omega) (by omega)) (fun x x1 x2 => hold _ (by omega) (by omega) (by omega) (by omega)), ?_, ?_⟩
    · rw [X 1 (by omega), su_s]; rfl
    · rw [Y 98 (by omega), su_s]; rfl
    · have e1 : ¬ ν 3 5 = 0 := by rw [X 3 (by omega), su_ne (by omega), q4]; exact nI_ne0 (by omega) (by omega)
      have e2 : ¬ ν 98 22 = 0 := by rw [Y 98 (by omega), su_j (by omega), q5]; exact nI_ne0 (by omega) (by omega)
      exact ⟨fun q => absurd q e1, fun q => absurd q e2⟩
    · rw [hold 0 (by omega) (by omega) (by omega) (by omega), hold8 39 (by omega) (by omega) (by omega)]; exact hq0
