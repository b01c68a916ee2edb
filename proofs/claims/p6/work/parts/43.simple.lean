/-- a number is one of the first n, or none of them -/
theorem ixc (x : Int32) (n : Nat) (hn : n < 2 ^ 31) : (∃ j, j < n ∧ x = nI j) ∨ (x.toInt < 0 ∨ (n : Int) ≤ x.toInt) := by
  rcases pk_ix x hn with h | h | h
  · exact Or.inr (Or.inl ((i3_lt _ _).mp h))
  · refine Or.inr (Or.inr ?_)
    have := (i3_le _ _).mp h
    rwa [nI_toInt hn] at this
  · exact Or.inl h
theorem ir {k : Nat} (h : k < 2 ^ 31) : (nI k).toInt = k := nI_toInt h
section V
variable {σ : S0} {k H B T : Nat} {x : Int32}
theorem hb_y (e : σ k 0 = nI B) (hB : B ≤ 12) {j : Nat} (hj : j < B) : fX1_hasBell σ k (nI j) = some (1, σ) := by
  rw [hasBell_s, e, ir (by omega), ir (by omega), if_pos (by omega)]
theorem hb_n (e : σ k 0 = nI B) (hB : B ≤ 12) (h : x.toInt < 0 ∨ (B : Int) ≤ x.toInt) : fX1_hasBell σ k x = some (0, σ) := by
  rw [hasBell_s, e, ir (by omega), if_neg (by omega)]
theorem ib_y (e : σ 98 4 = nI B) (hB : B ≤ 12) {j : Nat} (hj : j < B) : fX11_isBell σ (nI j) = some (1, σ) := by
  rw [isBell_s σ _ (by rw [e, ir (by omega)]; omega), e, ir (by omega), ir (by omega), if_pos (by omega)]
theorem ib_n (e : σ 98 4 = nI B) (hB : B ≤ 12) (h : x.toInt < 0 ∨ (B : Int) ≤ x.toInt) : fX11_isBell σ x = some (0, σ) := by
  rw [isBell_s σ _ (by rw [e, ir (by omega)]; omega), e, ir (by omega), if_neg (by omega)]
theorem hh_s (σ : S0) (k : Nat) (b : Int32) : fX9_hasHouse σ k b = some (if 0 ≤ b.toInt ∧ b.toInt < (σ k 0).toInt then 1 else 0, σ) := hasBell_s σ k b
theorem hh_y (e : σ k 0 = nI H) (hB : H ≤ 12) {j : Nat} (hj : j < H) : fX9_hasHouse σ k (nI j) = some (1, σ) := hb_y e hB hj
theorem hh_n (e : σ k 0 = nI H) (hB : H ≤ 12) (h : x.toInt < 0 ∨ (H : Int) ≤ x.toInt) : fX9_hasHouse σ k x = some (0, σ) := hb_n e hB h
theorem isR_s (σ : S0) (q : Nat) (f : S0 → Int32 → Option (Int32 × S0)) (hf : ∀ b, f σ b = obp (fX11_in σ b.toInt64 ((0 : Int64)) (((σ 98 q) - 1).toInt64)) (fun r1 σ2 => og (r1 = 0 ∨ r1 = 1) (some (r1, σ2)))) (b : Int32) (h0 : 0 ≤ (σ 98 q).toInt) : f σ b = some (if 0 ≤ b.toInt ∧ b.toInt < (σ 98 q).toInt then 1 else 0, σ) := by
  rw [hf]
  have hs : ((σ 98 q) - 1).toInt = (σ 98 q).toInt - 1 := i3_sub (by have : (1 : Int32).toInt = 1 := rfl; omega) (by have : (1 : Int32).toInt = 1 := rfl; have := i3_bd (σ 98 q); omega)
  rw [in_i σ b 0 _ 0 ((σ 98 q).toInt - 1) rfl (by rw [Int32.toInt_toInt64, hs])]
  have e : (0 ≤ b.toInt ∧ b.toInt ≤ (σ 98 q).toInt - 1) ↔ (0 ≤ b.toInt ∧ b.toInt < (σ 98 q).toInt) := by omega
  simp only [e]
  by_cases h : 0 ≤ b.toInt ∧ b.toInt < (σ 98 q).toInt
  · simp [obp, og, h]
  · simp [obp, og, h]
theorem ih_y (e : σ 98 2 = nI H) (hB : H ≤ 12) {j : Nat} (hj : j < H) : fX11_isHouse σ (nI j) = some (1, σ) := by
  rw [isR_s σ 2 fX11_isHouse (fun _ => rfl) _ (by rw [e, ir (by omega)]; omega), e, ir (by omega), ir (by omega), if_pos (by omega)]
theorem ih_n (e : σ 98 2 = nI H) (hB : H ≤ 12) (h : x.toInt < 0 ∨ (H : Int) ≤ x.toInt) : fX11_isHouse σ x = some (0, σ) := by
  rw [isR_s σ 2 fX11_isHouse (fun _ => rfl) _ (by rw [e, ir (by omega)]; omega), e, ir (by omega), if_neg (by omega)]
theorem it_y (e : σ 98 5 = nI T) (hB : T ≤ 12) {j : Nat} (hj : j < T) : fX11_isTune σ (nI j) = some (1, σ) := by
  rw [isR_s σ 5 fX11_isTune (fun _ => rfl) _ (by rw [e, ir (by omega)]; omega), e, ir (by omega), ir (by omega), if_pos (by omega)]
theorem it_n (e : σ 98 5 = nI T) (hB : T ≤ 12) (h : x.toInt < 0 ∨ (T : Int) ≤ x.toInt) : fX11_isTune σ x = some (0, σ) := by
  rw [isR_s σ 5 fX11_isTune (fun _ => rfl) _ (by rw [e, ir (by omega)]; omega), e, ir (by omega), if_neg (by omega)]
theorem ht_s (σ : S0) (k : Nat) (b : Int32) : fX9_hasTune σ k b = some (if 0 ≤ b.toInt ∧ b.toInt < (σ k 2).toInt then 1 else 0, σ) := by
  unfold fX9_hasTune
  simp only [i3_lt, i3_le]
  have e0 : (0 : Int32).toInt = 0 := rfl
  rw [e0]
  by_cases h1 : b.toInt < 0
  · have : ¬ (0 ≤ b.toInt ∧ b.toInt < (σ k 2).toInt) := by omega
    simp [h1, this]
  · by_cases h2 : (σ k 2).toInt ≤ b.toInt
    · have : ¬ (0 ≤ b.toInt ∧ b.toInt < (σ k 2).toInt) := by omega
      simp [h1, h2, this]
    · have : 0 ≤ b.toInt ∧ b.toInt < (σ k 2).toInt := by omega
      simp [h1, h2, this]
theorem ht_y (e : σ k 2 = nI T) (hB : T ≤ 12) {j : Nat} (hj : j < T) : fX9_hasTune σ k (nI j) = some (1, σ) := by
  rw [ht_s, e, ir (by omega), ir (by omega), if_pos (by omega)]
theorem ht_n (e : σ k 2 = nI T) (hB : T ≤ 12) (h : x.toInt < 0 ∨ (T : Int) ≤ x.toInt) : fX9_hasTune σ k x = some (0, σ) := by
  rw [ht_s, e, ir (by omega), if_neg (by omega)]
end V
theorem Sim.ro {fx fm : S0 → Option (Int32 × S0)} (h : ∀ σ, R σ → ∃ a, fx σ = some (a, σ) ∧ fm σ = some (a, σ)) : Sim fx fm := fun σ hR => by
  obtain ⟨a, h1, h2⟩ := h σ hR
  exact ⟨a, σ, h1, a, σ, h2, rfl, hR⟩
theorem sim_torn : Sim fX10_torn fX11_torn := Sim.ro (fun σ hR => by
  obtain ⟨H, G, B, T, h⟩ := hR
  exact ⟨σ 0 12, rfl, by unfold fX11_torn; rw [h.2.2.2.2.2.2.2.2]⟩)
theorem sim_rule (x : Int32) : Sim (fun σ => fX10_rule σ x) (fun σ => fX11_rule σ x) := Sim.ro (fun σ hR => by
  obtain ⟨H, G, B, T, h⟩ := hR
  obtain ⟨-, ⟨e1, e2, -, -⟩, e3, e4, -⟩ := h.1
  unfold fX10_rule fX11_rule
  by_cases h0 : x = 0
  · exact ⟨nI H, by rw [if_pos h0, e3], by rw [if_neg (by simp [h0]), e1]⟩
  · by_cases h1 : x = 1
    · exact ⟨nI G, by rw [if_neg h0, if_pos h1, e4], by rw [if_pos h0, if_neg (by simp [h1]), e2]⟩
    · exact ⟨-1, by rw [if_neg h0, if_neg h1], by rw [if_pos h0, if_pos h1]⟩)
theorem sim_feuds (x : Int32) : Sim (fun σ => fX10_feuds σ x) (fun σ => fX11_feuds σ x) := Sim.ro (fun σ hR => by
  obtain ⟨H, G, B, T, h⟩ := hR
  obtain ⟨⟨b1, b2, b3, b4, b5⟩, ⟨e1, e2, -, -⟩, e3, e4, -⟩ := h.1
  unfold fX10_feuds fX11_feuds
  rcases ixc x H (by omega) with ⟨j, hj, rfl⟩ | hx
  · refine ⟨σ 38 j, ?_, ?_⟩
    · rw [hh_y e3 (by omega) hj]
      simp only [obp, ol]
      rw [if_neg (by decide), og_t (ix_ok (by omega) (by omega)), nI_clamp (by omega)]
    · rw [ih_y e1 (by omega) hj]
      simp only [obp, ol]
      rw [if_neg (by decide), show (60 : Int32) + nI j = nI (60 + j) from nI_add 60 j, og_t (ix_ok (by omega) (by omega)), nI_clamp (by omega)]
      have := h.2.1.2.2.1 j (by omega)
      rw [this, show 0 + 60 + j = 60 + j by omega]
  · refine ⟨-1, ?_, ?_⟩
    · rw [hh_n e3 (by omega) hx]; rfl
    · rw [ih_n e1 (by omega) hx]; rfl)
theorem of_l (σ : S0) {b w : Nat} (hb : b < 12) (hw : w < 5) {x : Int32} (hx : x = nI w) : fX11_of σ (nI b) x = some (σ 99 (5 * b + w), σ) := by rw [hx]; exact of_s σ b w hb hw
theorem x5 (b w : Nat) {x : Int32} (hx : x = nI w) : (5 : Int32) * nI b + x = nI (5 * b + w) := by
  rw [hx, show (5 : Int32) = nI 5 from rfl, pk_mul, nI_add]
theorem sim_bell (x y : Int32) : Sim (fun σ => fX10_bell σ x y) (fun σ => fX11_bell σ x y) := Sim.ro (fun σ hR => by
  obtain ⟨H, G, B, T, h⟩ := hR
  obtain ⟨⟨b1, b2, b3, b4, b5⟩, ⟨e1, e2, e5, -⟩, e3, e4, -⟩ := h.1
  have ek := h.2.1.1
  unfold fX10_bell fX11_bell
  rcases ixc x B (by omega) with ⟨j, hj, rfl⟩ | hx
  · rw [hb_y ek b4 hj, ib_y e5 b4 hj]
    obtain ⟨a0, a1, a2, a3, a4⟩ := h.2.1.2.1 j hj
    simp only [Nat.zero_add] at a0 a1 a2 a3 a4
    have hg := ix_ok (j := j) (n := 12) (by omega) (by omega)
    have hc : (nI j).toNatClampNeg = j := nI_clamp (by omega)
    have hg2 : ¬ (nI j < 0 ∨ 12 ≤ j) := fun q => hg (by rw [hc]; exact q)
    rcases ixc y 5 (by omega) with ⟨w, hw, rfl⟩ | hy
    · refine ⟨σ (33 + w) j, ?_, ?_⟩
      · simp only [obp, ol]
        rw [if_pos (by decide), if_neg (by rw [ir (by omega)]; omega)]
        simp only [og_t hg, og_t hg2, hc]
        rcases (show w = 0 ∨ w = 1 ∨ w = 2 ∨ w = 3 ∨ w = 4 by omega) with rfl | rfl | rfl | rfl | rfl <;> rfl
      · simp only [obp]
        rw [if_neg (by decide), in_i σ (nI w) 0 4 0 4 rfl rfl, ir (by omega), if_pos (by omega)]
        simp only [obp]
        rw [if_neg (by decide), of_s σ j w (by omega) hw]
        rcases (show w = 0 ∨ w = 1 ∨ w = 2 ∨ w = 3 ∨ w = 4 by omega) with rfl | rfl | rfl | rfl | rfl <;> simp [a0, a1, a2, a3, a4]
    · refine ⟨-1, ?_, ?_⟩
      · simp only [obp, ol]
        rw [if_pos (by decide), if_pos (by omega)]
      · simp only [obp]
        rw [if_neg (by decide), in_i σ y 0 4 0 4 rfl rfl, if_neg (by omega)]
        rfl
  · refine ⟨-1, ?_, ?_⟩
    · rw [hb_n ek b4 hx]; rfl
    · rw [ib_n e5 b4 hx]; rfl)
theorem isFee_y {σ : S0} {f : Nat} (h : f ≤ 20) : fX10_isFee σ (nI f) = some (1, σ) := by
  unfold fX10_isFee
  rw [if_neg (nI_pos (by omega)), if_neg (show ¬ ((20 : Int32) < nI f) from nI_nlt (a := 20) h (by omega))]
theorem isFee_n {σ : S0} {x : Int32} (h : x.toInt < 0 ∨ (21 : Int) ≤ x.toInt) : fX10_isFee σ x = some (0, σ) := by
  unfold fX10_isFee
  simp only [i3_lt]
  have e0 : (0 : Int32).toInt = 0 := rfl
  have e1 : (20 : Int32).toInt = 20 := rfl
  rw [e0, e1]
  by_cases h1 : x.toInt < 0
  · rw [if_pos h1]
  · rw [if_neg h1, if_pos (by omega)]
/-- how a call that writes a field of a bell goes, in the good case -/
theorem Sim.bell {o : Option (Int32 × S0)} (fm : S0 → Option (Int32 × S0)) {σ : S0} {H G B T j d : Nat} {v a : Int32} (h : Rall σ H G B T) (hj : j < B) (hd : d < 5) (hv : bOk H d v) (h1 : o = some (a, su σ (33 + d) j v)) (h2 : fm (su σ (33 + d) j v) = some (a, su (su σ (33 + d) j v) 99 (5 * j + d) v)) : An o (fun r τ => An (fm τ) (fun q ρ => r = q ∧ R ρ)) := ⟨a, _, h1, a, _, h2, rfl, H, G, B, T, R_bell h hj hd hv⟩
theorem Sim.same {o : Option (Int32 × S0)} (fm : S0 → Option (Int32 × S0)) {σ : S0} {a : Int32} (hR : R σ) (h1 : o = some (a, σ)) (h2 : fm σ = some (a, σ)) : An o (fun r τ => An (fm τ) (fun q ρ => r = q ∧ R ρ)) := ⟨a, σ, h1, a, σ, h2, rfl, hR⟩
theorem sim_fee (x y : Int32) : Sim (fun σ => fX10_fee σ x y) (fun σ => fX11_fee σ x y) := by
  intro σ hR
  show An (fX10_fee σ x y) (fun r τ => An (fX11_fee τ x y) (fun q ρ => r = q ∧ R ρ))
  obtain ⟨H, G, B, T, h⟩ := id hR
  obtain ⟨⟨b1, b2, b3, b4, b5⟩, ⟨e1, e2, e5, -⟩, e3, e4, -⟩ := h.1
  have ek := h.2.1.1
  rcases ixc x B (by omega) with ⟨j, hj, rfl⟩ | hx
  · obtain ⟨a0, a1, a2, a3, a4⟩ := h.2.1.2.1 j hj
    simp only [Nat.zero_add] at a0 a1 a2 a3 a4
    have hg := ix_ok (j := j) (n := 12) (by omega) (by omega)
    have hc : (nI j).toNatClampNeg = j := nI_clamp (by omega)
    have hg2 : ¬ (nI j < 0 ∨ 12 ≤ j) := fun q => hg (by rw [hc]; exact q)
    rcases ixc y 21 (by omega) with ⟨w, hw, rfl⟩ | hy
    · refine Sim.bell (fun τ => fX11_fee τ (nI j) (nI w)) (d := 1) (v := nI w) (a := σ 34 j) h hj (by omega) ⟨by omega, fun _ => ⟨w, by omega, rfl⟩, by omega, by omega, by omega⟩ ?_ ?_
      · unfold fX10_fee
        rw [hb_y ek b4 hj]
        simp only [obp, ol]
        rw [if_neg (by decide), isFee_y (by omega)]
        simp only [obp, ol, og_t hg, og_t hg2, hc]
        rw [if_pos (by decide)]
      · show fX11_fee _ _ _ = _
        unfold fX11_fee
        rw [ib_y (by rw [su_ne (by omega)]; exact e5) b4 hj]
        simp only [obp, ol]
        rw [if_neg (by decide), in_i _ (nI w) 0 20 0 20 rfl rfl, ir (by omega), if_pos (by omega)]
        simp only [obp, ol]
        rw [if_pos (by decide), of_l _ (b := j) (w := 1) (x := 1) (by omega) (by omega) rfl]
        simp only [obp, ol]
        rw [x5 j 1 (x := 1) rfl, og_t (ix_ok (by omega) (by omega)), nI_clamp (by omega), su_ne (by omega), a1]
    · refine Sim.same (fun τ => fX11_fee τ (nI j) y) (a := -1) hR ?_ ?_
      · unfold fX10_fee
        rw [hb_y ek b4 hj]
        simp only [obp]
        rw [if_neg (by decide), isFee_n (by omega)]
        rfl
      · show fX11_fee _ _ _ = _
        unfold fX11_fee
        rw [ib_y e5 b4 hj]
        simp only [obp]
        rw [if_neg (by decide), in_i _ y 0 20 0 20 rfl rfl, if_neg (by omega)]
        rfl
  · refine Sim.same (fun τ => fX11_fee τ x y) (a := -1) hR ?_ ?_
    · unfold fX10_fee; rw [hb_n ek b4 hx]; rfl
    · show fX11_fee _ _ _ = _
      unfold fX11_fee; rw [ib_n e5 b4 hx]; rfl
theorem sim_shut (x y : Int32) : Sim (fun σ => fX10_shut σ x y) (fun σ => fX11_shut σ x y) := by
  intro σ hR
  show An (fX10_shut σ x y) (fun r τ => An (fX11_shut τ x y) (fun q ρ => r = q ∧ R ρ))
  obtain ⟨H, G, B, T, h⟩ := id hR
  obtain ⟨⟨b1, b2, b3, b4, b5⟩, ⟨e1, e2, e5, -⟩, e3, e4, -⟩ := h.1
  have ek := h.2.1.1
  rcases ixc x B (by omega) with ⟨j, hj, rfl⟩ | hx
  · obtain ⟨a0, a1, a2, a3, a4⟩ := h.2.1.2.1 j hj
    simp only [Nat.zero_add] at a0 a1 a2 a3 a4
    have hg := ix_ok (j := j) (n := 12) (by omega) (by omega)
    have hc : (nI j).toNatClampNeg = j := nI_clamp (by omega)
    have hg2 : ¬ (nI j < 0 ∨ 12 ≤ j) := fun q => hg (by rw [hc]; exact q)
    have main : ∀ v : Int32, (v = 0 ∨ v = 1) → (y = 0 ∧ v = 0 ∨ ¬ y = 0 ∧ v = 1) → An (fX10_shut σ (nI j) y) (fun r τ => An (fX11_shut τ (nI j) y) (fun q ρ => r = q ∧ R ρ)) := fun v hv hy => by
      refine Sim.bell (fun τ => fX11_shut τ (nI j) y) (d := 3) (v := v) (a := σ 36 j) h hj (by omega) ⟨by omega, by omega, by omega, fun _ => hv, by omega⟩ ?_ ?_
      · show fX10_shut σ (nI j) y = _
        unfold fX10_shut
        rw [hb_y ek b4 hj]
        simp only [obp, ol, og_t hg, og_t hg2, hc]
        rw [if_pos (by decide)]
        rcases hy with ⟨hy, rfl⟩ | ⟨hy, rfl⟩
        · rw [if_pos hy]
          unfold fX10_shut_b40
          simp only [ol, og_t hg, og_t hg2, hc]
        · rw [if_neg hy]
          unfold fX10_shut_b40
          simp only [ol, og_t hg, og_t hg2, hc]
      · show fX11_shut _ (nI j) y = _
        unfold fX11_shut
        rw [ib_y (by rw [su_ne (by omega)]; exact e5) b4 hj]
        simp only [obp, ol]
        rw [if_pos (by decide), of_l _ (b := j) (w := 3) (x := 3) (by omega) (by omega) rfl]
        have hfl : ∀ τ : S0, fX11_flag τ y = some (v, τ) := fun τ => by
          unfold fX11_flag
          rcases hy with ⟨hy, rfl⟩ | ⟨hy, rfl⟩
          · rw [if_pos hy]
          · rw [if_neg hy]
        simp only [obp, ol, hfl]
        rw [x5 j 3 (x := 3) rfl, og_t (ix_ok (by omega) (by omega)), nI_clamp (by omega), su_ne (by omega), a3]
    by_cases hy : y = 0
    · exact main 0 (Or.inl rfl) (Or.inl ⟨hy, rfl⟩)
    · exact main 1 (Or.inr rfl) (Or.inr ⟨hy, rfl⟩)
  · refine Sim.same (fun τ => fX11_shut τ x y) (a := -1) hR ?_ ?_
    · unfold fX10_shut; rw [hb_n ek b4 hx]; rfl
    · show fX11_shut _ _ _ = _
      unfold fX11_shut; rw [ib_n e5 b4 hx]; rfl
