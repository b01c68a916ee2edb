theorem sharesX_s {σ : S0} {H G B T h t : Nat} (hr : Rall σ H G B T) (hh : h < H) (ht : t < T) : ∃ τ, fX6_shareOf σ (nI h) (nI t) = some (gs (σ 99) (σ 101) (rgn (σ 99) (σ 101) t).2.2.1 h t (ln (σ 101) t), τ) ∧ onlyP σ τ := by
  obtain ⟨b1, b2, b3, b4, b5⟩ := hr.1.1
  obtain ⟨τ, p1, p2, p3, p4, p5, p6⟩ := play_s hr ht
  obtain ⟨r1, r2, r3, r4⟩ := RT hr ht
  have hn := r1.1
  refine ⟨τ, ?_, p2⟩
  unfold fX6_shareOf
  rw [p1]
  simp only [obp]
  refine getsX_l (σ 99) (σ 101) _ (by omega) (by omega) r1 _ 0 400 τ rfl (by omega) (by omega) (r2.cg (by omega) p2) (p2 99 (by omega)) (fun b hb hb2 => ?_) p5
  obtain ⟨i, hi, hi2⟩ := hb
  obtain ⟨n, a1, a2, a3, a4, a5, a6, a7⟩ := hr.2.2.2.1 t ht
  have e : ln (σ 101) t = n := by unfold ln; rw [a3]; exact nI_clamp (by omega)
  rw [e] at hi
  obtain ⟨b', c1, c2, c3⟩ := a7 i hi
  have : b' = b := (nI_eq (by omega) (by omega)).mp (c2.symm.trans hi2)
  subst this
  rw [p2 37 (by omega), (hr.2.1.2.1 b' c1).2.2.2.2, Nat.zero_add]
theorem sharesM_s {σ : S0} {H G B T h t : Nat} (hr : Rall σ H G B T) (hh : h < H) (ht : t < T) : ∃ τ, fX11_getsNow σ (nI h) (nI t) = some (gs (σ 99) (σ 101) (rgn (σ 99) (σ 101) t).2.2.1 h t (ln (σ 101) t), τ) ∧ onlyR σ τ := by
  obtain ⟨b1, b2, b3, b4, b5⟩ := hr.1.1
  obtain ⟨r1, r2, r3, r4⟩ := RT hr ht
  obtain ⟨τ, q1, q2, q3, q4, q5, q6, q7⟩ := rings_s (by omega) r1
  have hn := r1.1
  refine ⟨τ, ?_, q2⟩
  unfold fX11_getsNow
  rw [q1]
  simp only [obp]
  exact getsM_l (σ 99) (σ 101) _ (by omega) (by omega) r1 _ 0 400 τ rfl (by omega) (by omega) (q2.c (by omega) (by omega)) (q2.c (by omega) (by omega)) q5
theorem sim_gets (x y : Int32) : Sim (fun σ => fX10_gets σ x y) (fun σ => fX11_gets σ x y) := by
  intro σ hR
  show An (fX10_gets σ x y) (fun r τ => An (fX11_gets τ x y) (fun q ρ => r = q ∧ R ρ))
  obtain ⟨H, G, B, T, h⟩ := id hR
  obtain ⟨⟨b1, b2, b3, b4, b5⟩, ⟨e1, e2, e5, e6⟩, e3, e4, e7⟩ := h.1
  rcases ixc x H (by omega) with ⟨w, hw, rfl⟩ | hx
  · rcases ixc y T (by omega) with ⟨t, ht, rfl⟩ | hy
    · obtain ⟨τ, p1, p2⟩ := sharesX_s h hw ht
      have h2 := h.cg p2.e
      obtain ⟨ρ, q1, q2⟩ := sharesM_s h2 hw ht
      rw [p2 99 (by omega), p2 101 (by omega)] at q1
      refine ⟨gs (σ 99) (σ 101) (rgn (σ 99) (σ 101) t).2.2.1 w t (ln (σ 101) t), τ, ?_, gs (σ 99) (σ 101) (rgn (σ 99) (σ 101) t).2.2.1 w t (ln (σ 101) t), ρ, ?_, rfl, H, G, B, T, h2.cg q2.e⟩
      · unfold fX10_gets
        rw [hh_y e3 (by omega) hw]
        simp only [obp]
        rw [if_neg (by decide), ht_y e7 (by omega) ht]
        simp only [obp]
        rw [if_neg (by decide), p1]
      · unfold fX11_gets
        rw [ih_y h2.1.2.1.1 (by omega) hw]
        simp only [obp]
        rw [if_neg (by decide), it_y h2.1.2.1.2.2.2 (by omega) ht]
        simp only [obp]
        rw [if_neg (by decide), q1]
    · refine Sim.same (fun τ => fX11_gets τ (nI w) y) (a := -1) hR ?_ ?_
      · unfold fX10_gets
        rw [hh_y e3 (by omega) hw]
        simp only [obp]
        rw [if_neg (by decide), ht_n e7 (by omega) hy]
        rfl
      · show fX11_gets σ (nI w) y = _
        unfold fX11_gets
        rw [ih_y e1 (by omega) hw]
        simp only [obp]
        rw [if_neg (by decide), it_n e6 (by omega) hy]
        rfl
  · refine Sim.same (fun τ => fX11_gets τ x y) (a := -1) hR ?_ ?_
    · unfold fX10_gets; rw [hh_n e3 (by omega) hx]; rfl
    · show fX11_gets σ x y = _
      unfold fX11_gets; rw [ih_n e1 (by omega) hx]; rfl
/-- what house h gets of the tune that is taken -/
theorem wageX_s {σ : S0} {H G B T h : Nat} (hr : Rall σ H G B T) (hh : h < H) : ∃ a τ ρ, fX6_wageOf σ (nI h) = some (a, τ) ∧ onlyP σ τ ∧ fX11_wageOf τ (nI h) = some (a, ρ) ∧ onlyR τ ρ := by
  obtain ⟨b1, b2, b3, b4, b5⟩ := hr.1.1
  obtain ⟨τ, p1, p2⟩ := takenX_s hr
  have h2 := hr.cg p2.e
  unfold fX6_wageOf fX11_wageOf
  rw [p1]
  simp only [obp]
  rcases tk_r (σ 99) (σ 101) (nI G) T with c | ⟨t, ht, c⟩
  · obtain ⟨ρ, q1, q2⟩ := takenM_s h2
    rw [p2 99 (by omega), p2 101 (by omega)] at q1
    refine ⟨0, τ, ρ, ?_, p2, ?_, q2⟩
    · rw [if_neg (by simp [c])]
    · rw [q1]
      simp only [obp]
      rw [if_neg (by simp [c])]
  · have cn : ¬ (tk (σ 99) (σ 101) (nI G) T).1 = -4 := by rw [c]; exact nI_m4 (by omega)
    obtain ⟨τ2, s1, s2⟩ := sharesX_s h2 hh ht
    have h3 := h2.cg s2.e
    obtain ⟨ρ, q1, q2⟩ := takenM_s h3
    have h4 := h3.cg q2.e
    obtain ⟨ρ2, u1, u2⟩ := sharesM_s h4 hh ht
    rw [s2 99 (by omega), s2 101 (by omega), p2 99 (by omega), p2 101 (by omega)] at q1
    rw [q2.c (k := 99) (by omega) (by omega), q2.c (k := 101) (by omega) (by omega), s2 99 (by omega), s2 101 (by omega)] at u1
    refine ⟨gs (τ 99) (τ 101) (rgn (τ 99) (τ 101) t).2.2.1 h t (ln (τ 101) t), τ2, ρ2, ?_, p2.tr s2, ?_, q2.tr u2⟩
    · rw [if_pos cn, c, s1]
    · rw [q1]
      simp only [obp]
      rw [if_pos cn, c, u1]
theorem sim_wage (x : Int32) : Sim (fun σ => fX10_wage σ x) (fun σ => fX11_wage σ x) := by
  intro σ hR
  show An (fX10_wage σ x) (fun r τ => An (fX11_wage τ x) (fun q ρ => r = q ∧ R ρ))
  obtain ⟨H, G, B, T, h⟩ := id hR
  obtain ⟨⟨b1, b2, b3, b4, b5⟩, ⟨e1, e2, e5, e6⟩, e3, e4, e7⟩ := h.1
  rcases ixc x H (by omega) with ⟨w, hw, rfl⟩ | hx
  · obtain ⟨a, τ, ρ, p1, p2, q1, q2⟩ := wageX_s h hw
    have h2 := h.cg p2.e
    refine ⟨a, τ, ?_, a, ρ, ?_, rfl, H, G, B, T, h2.cg q2.e⟩
    · unfold fX10_wage
      rw [hh_y e3 (by omega) hw]
      simp only [obp]
      rw [if_neg (by decide), p1]
    · unfold fX11_wage
      rw [ih_y h2.1.2.1.1 (by omega) hw]
      simp only [obp]
      rw [if_neg (by decide), q1]
  · refine Sim.same (fun τ => fX11_wage τ x) (a := -1) hR ?_ ?_
    · unfold fX10_wage; rw [hh_n e3 (by omega) hx]; rfl
    · show fX11_wage σ x = _
      unfold fX11_wage; rw [ih_n e1 (by omega) hx]; rfl
theorem sim_tune (x y : Int32) : Sim (fun σ => fX10_tune σ x y) (fun σ => fX11_tune σ x y) := Sim.ro (fun σ hR => by
  obtain ⟨H, G, B, T, h⟩ := hR
  obtain ⟨⟨b1, b2, b3, b4, b5⟩, ⟨e1, e2, e5, e6⟩, e3, e4, e7⟩ := h.1
  show ∃ a, fX10_tune σ x y = some (a, σ) ∧ fX11_tune σ x y = some (a, σ)
  unfold fX10_tune fX11_tune
  rcases ixc x T (by omega) with ⟨t, ht, rfl⟩ | hx
  · obtain ⟨n, a1, a2, a3, a4, a5, a6, a7⟩ := h.2.2.2.1 t ht
    have hgt := ix_ok (j := t) (n := 6) (by omega) (by omega)
    have hct : (nI t).toNatClampNeg = t := nI_clamp (by omega)
    have hgt2 : ¬ (nI t < 0 ∨ 6 ≤ t) := fun q => hgt (by rw [hct]; exact q)
    rw [ht_y e7 (by omega) ht, it_y e6 (by omega) ht]
    simp only [obp]
    have hone : ¬ (1 : Int32) = 0 := by decide
    rw [if_pos hone, if_pos hone, in_i σ y 0 1 0 1 rfl rfl]
    simp only [obp]
    have z0 : (14 : Int32) * nI t + 0 = nI (14 * t) := by rw [show (14 : Int32) = nI 14 from rfl, pk_mul, Int32.add_zero]
    have z1 : (14 : Int32) * nI t + 1 = nI (14 * t + 1) := by rw [show (14 : Int32) = nI 14 from rfl, pk_mul, nI_1]
    by_cases y0 : y = 0
    · subst y0
      refine ⟨σ 23 t, ?_, ?_⟩
      · rw [if_neg (by simp)]
        simp only [og_t hgt, og_t hgt2, hct, ol]
      · rw [if_neg (by decide)]
        simp only [ol]
        rw [z0, og_t (ix_ok (by omega) (by omega)), nI_clamp (by omega), a5]
    · by_cases y1 : y = 1
      · subst y1
        refine ⟨nI n, ?_, ?_⟩
        · rw [if_pos (by decide), if_neg (by simp)]
          simp only [og_t hgt, og_t hgt2, hct, ol]
          rw [a4]
        · rw [if_neg (by decide)]
          simp only [ol]
          rw [z1, og_t (ix_ok (by omega) (by omega)), nI_clamp (by omega), a3]
      · have i0 : ¬ y.toInt = 0 := fun q => y0 ((i3_eq _ _).mpr q)
        have i1 : ¬ y.toInt = 1 := fun q => y1 ((i3_eq _ _).mpr q)
        have hy : ¬ (0 ≤ y.toInt ∧ y.toInt ≤ 1) := by omega
        rw [if_pos y0, if_pos y1, if_neg hy, if_pos rfl]
        have hs := strokes_s σ (t := t) (by omega) a3
        have e9 : (9 + nI n : Int32) = nI (9 + n) := nI_add 9 n
        have e10 : (10 + nI n : Int32) = nI (10 + n) := nI_add 10 n
        rw [hs]
        simp only [obp]
        rw [in_i σ y 10 _ 10 (9 + n) rfl (by rw [Int32.toInt_toInt64, e9, ir (by omega)]; omega)]
        simp only [obp]
        unfold fX9_asksStroke
        have hlt : y < 10 ↔ y.toInt < 10 := i3_lt _ _
        have hle : nI (10 + n) ≤ y ↔ ((10 + n : Nat) : Int) ≤ y.toInt := by rw [i3_le, ir (by omega)]
        simp only [og_t hgt, og_t hgt2, hct, ol, Nat.reduceAdd, a4, e10]
        by_cases c : 10 ≤ y.toInt ∧ y.toInt ≤ 9 + n
        · obtain ⟨i, hi, hi2⟩ : ∃ i, i < n ∧ y = nI (10 + i) := by
            refine ⟨(y.toInt - 10).toNat, by omega, (i3_eq _ _).mpr ?_⟩
            rw [ir (by omega)]
            omega
          obtain ⟨b, c1, c2, c3⟩ := a7 i hi
          have e : y - 10 = nI i := by
            rw [hi2]
            exact (i3_eq _ _).mpr (by rw [i3_sub] <;> rw [ir (by omega), show (10 : Int32).toInt = 10 from rfl] <;> (try rw [ir (by omega)]) <;> omega)
          have hgi := ix_ok (j := i) (n := 12) (by omega) (by omega)
          have hci : (nI i).toNatClampNeg = i := nI_clamp (by omega)
          refine ⟨nI b, ?_, ?_⟩
          · rw [if_neg (by rw [hlt]; omega), if_neg (by rw [hle]; omega)]
            simp only
            rw [if_neg (by decide), e, og_t hgi, hci, Nat.one_mul, c3]
          · rw [if_pos c, if_neg (by decide), e, stroke_s σ (by omega) (by omega), c2]
        · refine ⟨-1, ?_, ?_⟩
          · by_cases c4 : y.toInt < 10
            · rw [if_pos (hlt.mpr c4)]; rfl
            · rw [if_neg (by rw [hlt]; exact c4), if_pos (hle.mpr (by omega))]; rfl
          · rw [if_neg c, if_pos rfl]
  · refine ⟨-1, ?_, ?_⟩
    · rw [ht_n e7 (by omega) hx]; rfl
    · rw [it_n e6 (by omega) hx]; rfl)
