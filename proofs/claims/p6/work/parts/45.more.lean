theorem sim_half (x y : Int32) : Sim (fun σ => fX10_half σ x y) (fun σ => fX11_half σ x y) := by
  intro σ hR
  show An (fX10_half σ x y) (fun r τ => An (fX11_half τ x y) (fun q ρ => r = q ∧ R ρ))
  obtain ⟨H, G, B, T, h⟩ := id hR
  obtain ⟨⟨b1, b2, b3, b4, b5⟩, ⟨e1, e2, e5, -⟩, e3, e4, -⟩ := h.1
  have ek := h.2.1.1
  rcases ixc x B (by omega) with ⟨j, hj, rfl⟩ | hx
  · obtain ⟨a0, a1, a2, a3, a4⟩ := h.2.1.2.1 j hj
    obtain ⟨⟨w0, hw0, m0⟩, -, -, -, m4⟩ := h.2.2.1.2.1 j hj
    simp only [Nat.zero_add] at a0 a1 a2 a3 a4 m0 m4
    have hg := ix_ok (j := j) (n := 12) (by omega) (by omega)
    have hc : (nI j).toNatClampNeg = j := nI_clamp (by omega)
    have hg2 : ¬ (nI j < 0 ∨ 12 ≤ j) := fun q => hg (by rw [hc]; exact q)
    have core : (y = -4 ∨ ∃ w, w < H ∧ y = nI w) → An (fX10_half_b30 σ (nI j) y) (fun r τ => An (fX11_half_b24 τ (nI j) y) (fun q ρ => r = q ∧ R ρ)) := fun hy => by
      by_cases hs : σ 33 j = y
      · refine Sim.same (fun τ => fX11_half_b24 τ (nI j) y) (a := -2) hR ?_ ?_
        · unfold fX10_half_b30
          simp only [ol, og_t hg, og_t hg2, hc]
          rw [if_neg (by simp [hs])]
        · show fX11_half_b24 _ _ _ = _
          unfold fX11_half_b24
          rw [of_l _ (b := j) (w := 0) (x := 0) (by omega) (by omega) rfl]
          simp only [obp, Nat.add_zero]
          have hs2 : σ 99 (5 * j) = y := a0.symm.trans hs
          rw [if_neg (by simp [hs2])]
      · refine Sim.bell (fun τ => fX11_half_b24 τ (nI j) y) (d := 4) (v := y) (a := σ 37 j) h hj (by omega) ⟨by omega, by omega, by omega, by omega, fun _ => hy⟩ ?_ ?_
        · unfold fX10_half_b30
          simp only [ol, og_t hg, og_t hg2, hc]
          rw [if_pos hs]
        · show fX11_half_b24 _ _ _ = _
          unfold fX11_half_b24
          rw [of_l _ (b := j) (w := 0) (x := 0) (by omega) (by omega) rfl]
          simp only [obp, Nat.add_zero]
          have hs2 : ¬ su σ (33 + 4) j y 99 (5 * j) = y := by rw [su_ne (by omega)]; exact fun q => hs (a0.trans q)
          rw [if_pos hs2, of_l _ (b := j) (w := 4) (x := 4) (by omega) (by omega) rfl]
          simp only [obp, ol]
          rw [x5 j 4 (x := 4) rfl, og_t (ix_ok (by omega) (by omega)), nI_clamp (by omega), su_ne (by omega), ← a4]
    have hX : ∀ τ : S0, τ 32 = σ 32 → τ 22 = σ 22 → fX10_half τ (nI j) y = if y = -4 ∨ (0 ≤ y.toInt ∧ y.toInt < (H : Int)) then fX10_half_b30 τ (nI j) y else some (-1, τ) := fun τ t1 t2 => by
      unfold fX10_half
      rw [hb_y (by rw [t1]; exact ek) b4 hj]
      simp only [obp]
      rw [if_neg (by decide)]
      by_cases h4 : y = -4
      · rw [if_pos h4, if_pos (Or.inl h4)]
      · rw [if_neg h4, hh_s, t2, e3, ir (by omega)]
        by_cases h5 : 0 ≤ y.toInt ∧ y.toInt < (H : Int)
        · simp [h5]
        · simp [h5, h4]
    have hM : ∀ τ : S0, τ 98 = σ 98 → fX11_half τ (nI j) y = if y = -4 ∨ (0 ≤ y.toInt ∧ y.toInt < (H : Int)) then fX11_half_b24 τ (nI j) y else some (-1, τ) := fun τ t1 => by
      unfold fX11_half
      rw [ib_y (by rw [t1]; exact e5) b4 hj]
      simp only [obp]
      rw [if_neg (by decide)]
      by_cases h4 : y = -4
      · rw [if_pos h4, if_pos (Or.inl h4)]
      · rw [if_neg h4, isR_s τ 2 fX11_isHouse (fun _ => rfl) _ (by rw [t1, e1, ir (by omega)]; omega), t1, e1, ir (by omega)]
        by_cases h5 : 0 ≤ y.toInt ∧ y.toInt < (H : Int)
        · simp [h5]
        · simp [h5, h4]
    by_cases hy : y = -4 ∨ (0 ≤ y.toInt ∧ y.toInt < (H : Int))
    · have hy2 : y = -4 ∨ ∃ w, w < H ∧ y = nI w := by
        rcases hy with q | q
        · exact Or.inl q
        · rcases ixc y H (by omega) with q2 | q2
          · exact Or.inr q2
          · omega
      obtain ⟨r, τ, g1, q, ρ, g2, g3⟩ := core hy2
      refine ⟨r, τ, by rw [hX σ rfl rfl, if_pos hy]; exact g1, q, ρ, ?_, g3⟩
      have ht : τ 98 = σ 98 := by
        by_cases hs : σ 33 j = y
        · have : fX10_half_b30 σ (nI j) y = some (-2, σ) := by
            unfold fX10_half_b30
            simp only [ol, og_t hg, og_t hg2, hc]
            rw [if_neg (by simp [hs])]
          rw [this] at g1
          rw [(os_e g1).2]
        · have : fX10_half_b30 σ (nI j) y = some (σ 37 j, su σ 37 j y) := by
            unfold fX10_half_b30
            simp only [ol, og_t hg, og_t hg2, hc]
            rw [if_pos hs]
          rw [this] at g1
          rw [(os_e g1).2, su_ne (by omega)]
      rw [hM τ ht, if_pos hy]
      exact g2
    · refine Sim.same (fun τ => fX11_half τ (nI j) y) (a := -1) hR ?_ ?_
      · rw [hX σ rfl rfl, if_neg hy]
      · show fX11_half _ _ _ = _
        rw [hM σ rfl, if_neg hy]
  · refine Sim.same (fun τ => fX11_half τ x y) (a := -1) hR ?_ ?_
    · unfold fX10_half; rw [hb_n ek b4 hx]; rfl
    · show fX11_half _ _ _ = _
      unfold fX11_half; rw [ib_n e5 b4 hx]; rfl
/-- what is heard is written on both sides: n strokes from now on, the last one v where there is one more -/
theorem R_heard {σ τ : S0} {H G B T n : Nat} (h : Rall σ H G B T) (hn : n ≤ 12) (t1 : ∀ x, x ≠ 32 → x ≠ 39 → x ≠ 99 → τ x = σ x) (t2 : ∀ i, i ≠ 7 → τ 32 i = σ 32 i) (t3 : τ 32 7 = nI n) (t4 : τ 99 66 = nI n) (t5 : ∀ i, i < 66 ∨ 79 ≤ i → τ 99 i = σ 99 i) (t6 : ∀ j, j < n → τ 39 j = τ 99 (67 + j) ∧ (τ 99 (67 + j) = -4 ∨ ∃ b, b < B ∧ τ 99 (67 + j) = nI b)) : Rall τ H G B T := by
  obtain ⟨hn0, hk, hm, ht, hi, hp, hs, hf, hq⟩ := h
  have hB := hn0.1.2.2.2.1
  have hT := hn0.1.2.2.2.2
  obtain ⟨k1, k2, k3, k4, k5⟩ := hk
  obtain ⟨-, m2, fo, f1, f2, f3, f4⟩ := hm
  have ta : ∀ x, x ≠ 32 → x ≠ 39 → x ≠ 99 → τ x = σ x := t1
  refine ⟨hn0.c (by rw [ta 98 (by omega) (by omega) (by omega)]) (by rw [ta 98 (by omega) (by omega) (by omega)]) (by rw [ta 98 (by omega) (by omega) (by omega)]) (by rw [ta 98 (by omega) (by omega) (by omega)]) (ta 22 (by omega) (by omega) (by omega)), ?_, ?_, ht.c (ta _ (by omega) (by omega) (by omega)) (ta _ (by omega) (by omega) (by omega)) (ta _ (by omega) (by omega) (by omega)) (fun t h => ta _ (by omega) (by omega) (by omega)), hi.c (ta _ (by omega) (by omega) (by omega)) (ta _ (by omega) (by omega) (by omega)) (fun x h1 h2 => ta _ (by omega) (by omega) (by omega)) (fun i h1 h2 => t5 i (by omega)) hB, hp.c (by rw [ta 1 (by omega) (by omega) (by omega)]) (by rw [ta 98 (by omega) (by omega) (by omega)]) (ta _ (by omega) (by omega) (by omega)) (ta _ (by omega) (by omega) (by omega)), hs.c (ta _ (by omega) (by omega) (by omega)) (ta _ (by omega) (by omega) (by omega)) (ta _ (by omega) (by omega) (by omega)) (fun x h1 h2 => ta _ (by omega) (by omega) (by omega)), by rw [ta 3 (by omega) (by omega) (by omega), ta 98 (by omega) (by omega) (by omega)]; exact hf, by rw [ta 0 (by omega) (by omega) (by omega), ta 98 (by omega) (by omega) (by omega)]; exact hq⟩
  · refine ⟨by rw [t2 0 (by omega)]; exact k1, fun b hb => ?_, fun x hx => ?_, ?_, fun i hi2 hl => ?_⟩
    · obtain ⟨a1, a2, a3, a4, a5⟩ := k2 b hb
      refine ⟨?_, ?_, ?_, ?_, ?_⟩ <;> rw [ta _ (by omega) (by omega) (by omega), t5 _ (by omega)] <;> assumption
    · rw [ta _ (by omega) (by omega) (by omega), t5 _ (by omega)]; exact k3 x hx
    · rw [t3]; exact t4.symm
    · rw [show 0 + 66 = 66 from rfl, t4] at hl
      have hin : i < n := (nI_ltI (by omega) (by omega)).mp hl
      rw [show 0 + 67 + i = 67 + i by omega]
      exact (t6 i hin).1
  · refine ⟨⟨n, hn, t4, fun j hj => by rw [show 0 + 67 + j = 67 + j by omega]; exact (t6 j hj).2⟩, fun b hb => ?_, fo, fun x hx => ⟨(f1 x hx).1, by rw [t5 _ (by omega)]; exact (f1 x hx).2⟩, f2, f3, f4⟩
    have := m2 b hb
    rw [t5 _ (by omega), t5 _ (by omega), t5 _ (by omega), t5 _ (by omega), t5 _ (by omega)]
    exact this
theorem c66 : ¬ (((66 : Int32)) < 0 ∨ 240 ≤ ((66 : Int32)).toNatClampNeg) := by decide
theorem v66 : ((66 : Int32)).toNatClampNeg = 66 := by decide
theorem sim_hush : Sim fX10_hush fX11_hush := by
  intro σ hR
  obtain ⟨H, G, B, T, h⟩ := id hR
  have e := h.2.1.2.2.2.1
  refine ⟨σ 32 7, su σ 32 7 0, rfl, σ 32 7, su (su σ 32 7 0) 99 66 0, ?_, rfl, H, G, B, T, R_heard (n := 0) h (by omega) (fun x h1 h2 h3 => by rw [su_ne h3, su_ne h1]) (fun i hi => by rw [su_ne (by omega), su_j hi]) (by rw [su_ne (by omega), su_s]; rfl) (by rw [su_s]; rfl) (fun i hi => by rw [su_j (by omega), su_ne (by omega)]) (fun j hj => absurd hj (by omega))⟩
  unfold fX11_hush
  simp only [og_t c66, ol]
  simp only [v66]
  rw [su_ne (by omega), e]
theorem cbh_s (σ : S0) (k : Nat) (x : Int32) {B : Nat} (e : σ k 0 = nI B) (hB : B ≤ 12) : fX1_canBeHeard σ k x = some (if x = -4 ∨ (0 ≤ x.toInt ∧ x.toInt < (B : Int)) then 1 else 0, σ) := by
  unfold fX1_canBeHeard fX1_canBeHeard_b14
  by_cases h : x = -4
  · simp [h]
  · rw [if_neg h, hasBell_s, e, ir (by omega)]
    by_cases h2 : 0 ≤ x.toInt ∧ x.toInt < (B : Int)
    · simp [obp, h2]
    · simp [obp, h2, h]
theorem addHeard_y (σ : S0) (k : Nat) (x : Int32) {n : Nat} (e : σ k 7 = nI n) (hn : n < 12) (hk : k ≠ k + 7) : fX1_addHeard σ k x = some (0, su (su σ (k + 7) n x) k 7 (nI (n + 1))) := by
  unfold fX1_addHeard
  rw [e, if_neg (show ¬ ((12 : Int32) ≤ nI n) from nI_ge (b := 12) hn (by omega))]
  simp only [ol]
  rw [og_t (ix_ok hn (by omega)), nI_clamp (by omega), su_ne hk, e, nI_1]
theorem hear_m (σ : S0) (x : Int32) {n : Nat} (e : σ 99 66 = nI n) (hn : n < 12) : fX11_hear_b16 σ x = some (nI (n + 1), su (su σ 99 (67 + n) x) 99 66 (nI (n + 1))) := by
  unfold fX11_hear_b16
  simp only [og_t c66, ol]
  simp only [v66]
  have h1 : ¬ σ 99 66 = 12 := by rw [e]; exact nI_ne (b := 12) (by omega) (by omega) (by omega)
  rw [if_pos h1]
  have e2 : (67 : Int32) + σ 99 66 = nI (67 + n) := by rw [e]; exact nI_add 67 n
  have hq : su σ 99 (67 + n) x 99 66 = nI n := by rw [su_j (by omega)]; exact e
  rw [e2, og_t (ix_ok (by omega) (by omega)), nI_clamp (by omega), su_s, hq, nI_1]
theorem hear_f (σ : S0) (x : Int32) (e : σ 99 66 = nI 12) : fX11_hear_b16 σ x = some (-3, σ) := by
  unfold fX11_hear_b16
  simp only [og_t c66, ol]
  simp only [v66]
  rw [if_neg (by rw [e]; decide)]
theorem sim_hear (x : Int32) : Sim (fun σ => fX10_hear σ x) (fun σ => fX11_hear σ x) := by
  intro σ hR
  show An (fX10_hear σ x) (fun r τ => An (fX11_hear τ x) (fun q ρ => r = q ∧ R ρ))
  obtain ⟨H, G, B, T, h⟩ := id hR
  obtain ⟨⟨b1, b2, b3, b4, b5⟩, ⟨e1, e2, e5, -⟩, e3, e4, -⟩ := h.1
  have ek := h.2.1.1
  obtain ⟨n, n1, n2, n3⟩ := h.2.2.1.1
  have eh : σ 32 7 = nI n := h.2.1.2.2.2.1.trans n2
  have n2 : σ 99 66 = nI n := n2
  by_cases hv : x = -4 ∨ (0 ≤ x.toInt ∧ x.toInt < (B : Int))
  · have hv2 : x = -4 ∨ ∃ b, b < B ∧ x = nI b := by
      rcases hv with q | q
      · exact Or.inl q
      · rcases ixc x B (by omega) with q2 | q2
        · exact Or.inr q2
        · omega
    have hm : ∀ τ : S0, τ 98 = σ 98 → fX11_hear τ x = fX11_hear_b16 τ x := fun τ t1 => by
      unfold fX11_hear
      by_cases h4 : x = -4
      · rw [if_pos h4]
      · rw [if_neg h4, isBell_s τ x (by rw [t1, e5, ir (by omega)]; omega), t1, e5, ir (by omega), if_pos (hv.resolve_left h4)]
        rfl
    by_cases hn : n < 12
    · refine ⟨nI (n + 1), su (su σ 39 n x) 32 7 (nI (n + 1)), ?_, nI (n + 1), su (su (su (su σ 39 n x) 32 7 (nI (n + 1))) 99 (67 + n) x) 99 66 (nI (n + 1)), ?_, rfl, H, G, B, T, ?_⟩
      · unfold fX10_hear
        rw [cbh_s σ 32 x ek b4, if_pos hv]
        simp only [obp]
        have hlt : σ 32 7 < 12 := by rw [eh]; exact nI_lt (b := 12) hn (by omega)
        rw [if_pos (by decide), if_pos hlt, addHeard_y σ 32 x eh hn (by omega)]
        simp only [obp]
        rw [su_s]
      · rw [hm _ (by rw [su_ne (by omega), su_ne (by omega)]), hear_m _ x (n := n) (by rw [su_ne (by omega), su_ne (by omega)]; exact n2) hn]
      · refine R_heard (n := n + 1) h (by omega) (fun y h1 h2 h3 => by rw [su_ne h3, su_ne h3, su_ne h1, su_ne h2]) (fun i hi => by rw [su_ne (by omega), su_ne (by omega), su_j hi, su_ne (by omega)]) (by rw [su_ne (by omega), su_ne (by omega), su_s]) su_s (fun i hi => by rw [su_j (by omega), su_j (by omega), su_ne (by omega), su_ne (by omega)]) (fun j hj => ?_)
        have g1 : ∀ i, i ≠ n → su (su (su (su σ 39 n x) 32 7 (nI (n + 1))) 99 (67 + n) x) 99 66 (nI (n + 1)) 39 i = σ 39 i := fun i hi => by rw [su_ne (by omega), su_ne (by omega), su_ne (by omega), su_j hi]
        by_cases hjn : j = n
        · subst hjn
          rw [su_j (by omega), su_s, su_ne (by omega), su_ne (by omega), su_ne (by omega), su_s]
          exact ⟨rfl, hv2⟩
        · rw [g1 j hjn, su_j (by omega), su_j (by omega), su_ne (by omega), su_ne (by omega)]
          have hl : nI j < σ 99 (0 + 66) := by show nI j < σ 99 66; rw [n2]; exact nI_lt (by omega) (by omega)
          have k5 := h.2.1.2.2.2.2 j (by omega) hl
          rw [show 0 + 67 + j = 67 + j by omega] at k5
          refine ⟨k5, ?_⟩
          have := n3 j (by omega)
          rw [show 0 + 67 + j = 67 + j by omega] at this
          exact this
    · have hn12 : n = 12 := by omega
      subst hn12
      refine Sim.same (fun τ => fX11_hear τ x) (a := -3) hR ?_ ?_
      · unfold fX10_hear
        rw [cbh_s σ 32 x ek b4, if_pos hv]
        simp only [obp]
        have hlt : ¬ σ 32 7 < 12 := by rw [eh]; decide
        rw [if_pos (by decide), if_neg hlt]
      · show fX11_hear _ _ = _
        rw [hm σ rfl, hear_f σ x n2]
  · refine Sim.same (fun τ => fX11_hear τ x) (a := -1) hR ?_ ?_
    · unfold fX10_hear
      rw [cbh_s σ 32 x ek b4, if_neg hv]
      rfl
    · show fX11_hear _ _ = _
      unfold fX11_hear
      rw [if_neg (fun q => hv (Or.inl q)), isBell_s σ x (by rw [e5, ir (by omega)]; omega), e5, ir (by omega), if_neg (fun q => hv (Or.inr q))]
      rfl
