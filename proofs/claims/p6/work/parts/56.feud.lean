theorem sim_feud (x y v : Int32) : Sim (fun σ => fX10_feud σ x y v) (fun σ => fX11_feud σ x y v) := by
  intro σ hR
  show An (fX10_feud σ x y v) (fun r τ => An (fX11_feud τ x y v) (fun q ρ => r = q ∧ R ρ))
  obtain ⟨H, G, B, T, h⟩ := id hR
  obtain ⟨⟨b1, b2, b3, b4, b5⟩, ⟨e1, e2, e5, e6⟩, e3, e4, e7⟩ := h.1
  have hone : ¬ (1 : Int32) = 0 := by decide
  rcases ixc x H (by omega) with ⟨a, ha, rfl⟩ | hx
  · rcases ixc y H (by omega) with ⟨b, hb, rfl⟩ | hy
    · by_cases hab : a = b
      · refine Sim.same (fun τ => fX11_feud τ (nI a) (nI b) v) (a := -1) hR ?_ ?_
        · unfold fX10_feud
          rw [hh_y e3 (by omega) ha]
          simp only [obp]
          rw [if_neg hone, hh_y e3 (by omega) hb]
          simp only [obp]
          rw [if_neg hone, if_neg (by simp [hab])]
        · show fX11_feud _ _ _ _ = _
          unfold fX11_feud
          rw [ih_y e1 (by omega) ha]
          simp only [obp]
          rw [if_neg hone, ih_y e1 (by omega) hb]
          simp only [obp]
          rw [if_neg hone, if_neg (by simp [hab])]
      · obtain ⟨τ, ρ, p1, p2, p3, p4, p5⟩ := R_pair v h ha hb hab
        have hne : ¬ nI a = nI b := nI_ne hab (by omega) (by omega)
        have k3 := h.2.1.2.2.1 a (by omega)
        rw [show 0 + 60 + a = 60 + a by omega] at k3
        have hbit := bit_g (i := b) (by omega) (σ 99 (60 + a))
        have hfo : fX1_areFoes σ 32 (nI a) (nI b) = some (if (σ 99 (60 + a) >>> (nI b &&& 31)) &&& 1 = 1 then 1 else 0, σ) := by
          unfold fX1_areFoes
          rw [og_t (ix_ok (by omega) (by omega)), nI_clamp (by omega)]
          simp only [ol, Nat.reduceAdd]
          rw [k3]
          by_cases c : (σ 99 (60 + a) >>> (nI b &&& 31)) &&& 1 = 1
          · rw [if_neg (fun q => hbit.mp q c), if_pos c]
          · rw [if_pos (hbit.mpr c), if_neg c]
        refine ⟨if (σ 99 (60 + a) >>> (nI b &&& 31)) &&& 1 = 1 then 1 else 0, τ, ?_, if (σ 99 (60 + a) >>> (nI b &&& 31)) &&& 1 = 1 then 1 else 0, ρ, ?_, rfl, H, G, B, T, p3⟩
        · unfold fX10_feud fX10_feud_b46
          rw [hh_y e3 (by omega) ha]
          simp only [obp]
          rw [if_neg hone, hh_y e3 (by omega) hb]
          simp only [obp]
          rw [if_neg hone, if_pos hne, hfo]
          simp only [p1]
          by_cases c : (σ 99 (60 + a) >>> (nI b &&& 31)) &&& 1 = 1
          · simp [c]
          · simp [c]
        · unfold fX11_feud fX11_flag
          rw [ih_y (by rw [p4 98 (by omega)]; exact e1) (by omega) ha]
          simp only [obp]
          rw [if_neg hone, ih_y (by rw [p4 98 (by omega)]; exact e1) (by omega) hb]
          simp only [obp]
          rw [if_neg hone, if_pos hne, isFeud_s τ (by omega), p4 99 (by omega)]
          simp only
          by_cases c : (σ 99 (60 + a) >>> (nI b &&& 31)) &&& 1 = 1
          · simp [c, p2]
          · simp [c, p2]
    · refine Sim.same (fun τ => fX11_feud τ (nI a) y v) (a := -1) hR ?_ ?_
      · unfold fX10_feud
        rw [hh_y e3 (by omega) ha]
        simp only [obp]
        rw [if_neg hone, hh_n e3 (by omega) hy]
        rfl
      · show fX11_feud _ _ _ _ = _
        unfold fX11_feud
        rw [ih_y e1 (by omega) ha]
        simp only [obp]
        rw [if_neg hone, ih_n e1 (by omega) hy]
        rfl
  · refine Sim.same (fun τ => fX11_feud τ x y v) (a := -1) hR ?_ ?_
    · unfold fX10_feud; rw [hh_n e3 (by omega) hx]; rfl
    · show fX11_feud _ _ _ _ = _
      unfold fX11_feud; rw [ih_n e1 (by omega) hx]; rfl
