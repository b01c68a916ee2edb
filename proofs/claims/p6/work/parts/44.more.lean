theorem su_comm {σ : S0} {k j k2 j2 : Nat} {v v2 : Int32} (h : k ≠ k2) : su (su σ k j v) k2 j2 v2 = su (su σ k2 j2 v2) k j v := by
  funext x y
  simp only [su_at]
  by_cases h1 : x = k2
  · have h2 : ¬ x = k := by omega
    have h3 : ¬ k2 = k := by omega
    simp [h1, h3]
  · by_cases h2 : x = k
    · have h3 : ¬ k = k2 := h
      simp [h2, h3]
    · simp [h1, h2]
theorem su_id {σ : S0} {k j : Nat} {v : Int32} (h : σ k j = v) : su σ k j v = σ := by
  funext x y
  rw [su_at]
  by_cases h1 : x = k
  · rw [if_pos h1]
    by_cases h2 : y = j
    · rw [if_pos h2, ← h, h1, h2]
    · rw [if_neg h2, h1]
  · rw [if_neg h1]
theorem nI_ne {a b : Nat} (h : a ≠ b) (ha : a < 2 ^ 31) (hb : b < 2 ^ 31) : ¬ nI a = nI b := fun e => h ((nI_eq ha hb).mp e)
theorem nI_m4 {a : Nat} (ha : a < 2 ^ 31) : ¬ nI a = -4 := fun e => by
  have h1 := congrArg Int32.toInt e
  rw [ir ha] at h1
  have h2 : (-4 : Int32).toInt = -4 := rfl
  omega
/-- sell(), the good case: owner h, the half w -/
theorem R_sell {σ : S0} {H G B T : Nat} (h : Rall σ H G B T) {j w : Nat} (hj : j < B) (hw : w < H) {u : Int32} (hu : u = -4 ∨ ∃ h, h < H ∧ u = nI h) : Rall (su (su (su (su σ 33 j (nI w)) 37 j u) 99 (5 * j) (nI w)) 99 (5 * j + 4) u) H G B T := by
  have h1 := R_bell h (j := j) (d := 0) hj (by omega) (v := nI w) ⟨fun _ => ⟨w, hw, rfl⟩, by omega, by omega, by omega, by omega⟩
  have h2 := R_bell h1 (j := j) (d := 4) hj (by omega) (v := u) ⟨by omega, by omega, by omega, by omega, fun _ => hu⟩
  simp only [Nat.add_zero] at h2
  rw [su_comm (k := 37) (k2 := 99) (by omega)]
  exact h2
theorem sim_sell (x y : Int32) : Sim (fun σ => fX10_sell σ x y) (fun σ => fX11_sell σ x y) := by
  intro σ hR
  show An (fX10_sell σ x y) (fun r τ => An (fX11_sell τ x y) (fun q ρ => r = q ∧ R ρ))
  obtain ⟨H, G, B, T, h⟩ := id hR
  obtain ⟨⟨b1, b2, b3, b4, b5⟩, ⟨e1, e2, e5, -⟩, e3, e4, -⟩ := h.1
  have ek := h.2.1.1
  rcases ixc x B (by omega) with ⟨j, hj, rfl⟩ | hx
  · obtain ⟨a0, a1, a2, a3, a4⟩ := h.2.1.2.1 j hj
    obtain ⟨⟨w0, hw0, m0⟩, -, -, -, m4⟩ := h.2.2.1.2.1 j hj
    simp only [Nat.zero_add] at a0 a1 a2 a3 a4 m0 m4
    have hg := ix_ok (j := j) (n := 12) (by omega) (by omega)
    have hc : (nI j).toNatClampNeg = j := nI_clamp (by omega)
    have hg2 : ¬ (nI j < 0 ∨ 12 ≤ j) := fun q => hg (by rw [hc]; exact q)
    rcases ixc y H (by omega) with ⟨w, hw, rfl⟩ | hy
    · by_cases hs : σ 33 j = nI w
      · refine Sim.same (fun τ => fX11_sell τ (nI j) (nI w)) (a := -2) hR ?_ ?_
        · unfold fX10_sell
          rw [hb_y ek b4 hj]
          simp only [obp, ol]
          rw [if_neg (by decide), hh_y e3 (by omega) hw]
          simp only [obp, ol, og_t hg, og_t hg2, hc]
          rw [if_pos (by decide), if_neg (by simp [hs])]
        · show fX11_sell _ _ _ = _
          unfold fX11_sell
          rw [ib_y e5 b4 hj]
          simp only [obp, ol]
          rw [if_neg (by decide), ih_y e1 (by omega) hw]
          simp only [obp, ol]
          rw [if_pos (by decide), of_l _ (b := j) (w := 0) (x := 0) (by omega) (by omega) rfl]
          simp only [obp, ol, Nat.add_zero]
          rw [← a0, if_neg (by simp [hs])]
      · have main : ∀ u : Int32, (u = -4 ∨ ∃ h, h < H ∧ u = nI h) → (if σ 37 j = nI w then -4 else σ 37 j) = u → An (fX10_sell σ (nI j) (nI w)) (fun r τ => An (fX11_sell τ (nI j) (nI w)) (fun q ρ => r = q ∧ R ρ)) := fun u hu he => by
          refine ⟨σ 33 j, su (su σ 33 j (nI w)) 37 j u, ?_, σ 33 j, _, ?_, rfl, H, G, B, T, R_sell h hj hw hu⟩
          · unfold fX10_sell
            rw [hb_y ek b4 hj]
            simp only [obp, ol]
            rw [if_neg (by decide), hh_y e3 (by omega) hw]
            simp only [obp, ol, og_t hg, og_t hg2, hc]
            rw [if_pos (by decide), if_pos hs, su_ne (by omega)]
            by_cases h4 : σ 37 j = nI w
            · rw [if_pos h4] at he
              rw [if_neg (by simp [h4]), he]
            · rw [if_neg h4] at he
              rw [if_pos h4, su_id (k := 37) (by rw [su_ne (by omega)]; exact he)]
          · unfold fX11_sell
            have q98 : su (su σ 33 j (nI w)) 37 j u 98 = σ 98 := by rw [su_ne (by omega), su_ne (by omega)]
            have q99 : su (su σ 33 j (nI w)) 37 j u 99 = σ 99 := by rw [su_ne (by omega), su_ne (by omega)]
            generalize su (su σ 33 j (nI w)) 37 j u = τ at q98 q99
            rw [ib_y (by rw [q98]; exact e5) b4 hj]
            simp only [obp, ol]
            rw [if_neg (by decide), ih_y (by rw [q98]; exact e1) (by omega) hw]
            simp only [obp, ol]
            rw [if_pos (by decide), of_l _ (b := j) (w := 0) (x := 0) (by omega) (by omega) rfl]
            simp only [obp, ol, Nat.add_zero]
            rw [q99, ← a0, if_pos hs, x5 j 0 (x := 0) rfl, og_t (ix_ok (by omega) (by omega)), nI_clamp (by omega), Nat.add_zero, of_l _ (b := j) (w := 4) (x := 4) (by omega) (by omega) rfl]
            simp only [obp, ol]
            rw [su_j (by omega), q99, ← a4]
            by_cases h4 : σ 37 j = nI w
            · rw [if_pos h4] at he
              rw [if_neg (by simp [h4])]
              unfold fX11_sell_b74
              simp only [ol]
              rw [x5 j 4 (x := 4) rfl, og_t (ix_ok (by omega) (by omega)), nI_clamp (by omega), he]
            · rw [if_neg h4] at he
              rw [if_pos h4, of_l _ (b := j) (w := 4) (x := 4) (by omega) (by omega) rfl]
              simp only [obp, ol]
              unfold fX11_sell_b74
              simp only [ol]
              rw [x5 j 4 (x := 4) rfl, og_t (ix_ok (by omega) (by omega)), nI_clamp (by omega), su_j (by omega), q99, ← a4, he]
        by_cases h4 : σ 37 j = nI w
        · exact main (-4) (Or.inl rfl) (if_pos h4)
        · exact main (σ 37 j) (by rw [a4]; exact m4) (if_neg h4)
    · refine Sim.same (fun τ => fX11_sell τ (nI j) y) (a := -1) hR ?_ ?_
      · unfold fX10_sell
        rw [hb_y ek b4 hj]
        simp only [obp]
        rw [if_neg (by decide), hh_n e3 (by omega) hy]
        rfl
      · show fX11_sell _ _ _ = _
        unfold fX11_sell
        rw [ib_y e5 b4 hj]
        simp only [obp]
        rw [if_neg (by decide), ih_n e1 (by omega) hy]
        rfl
  · refine Sim.same (fun τ => fX11_sell τ x y) (a := -1) hR ?_ ?_
    · unfold fX10_sell; rw [hb_n ek b4 hx]; rfl
    · show fX11_sell _ _ _ = _
      unfold fX11_sell; rw [ib_n e5 b4 hx]; rfl
