/-! THE TEXT: a line of a tune, whole -/
theorem DR.t {σ τ ρ μ : S0} (h : DR σ ρ) {T : Nat} (hT : DTs σ ρ T) (hT6 : T < 6) (x : ∀ k, 7 ≤ k → k ≤ 21 → k ≠ 8 + T → τ k = σ k) (x40 : τ 4 0 = σ 4 0) (x41 : τ 4 1 = σ 4 1) (x42 : τ 4 2 = nI (T + 1)) (x5 : ∀ j, j ≠ T → τ 5 j = σ 5 j) (x6 : ∀ j, j ≠ T → τ 6 j = σ 6 j) (x3 : ∀ j, j ≤ 4 → τ 3 j = σ 3 j) (y : ∀ j, 9 ≤ j → j ≤ 15 → j ≠ 12 → j ≠ 14 → μ 98 j = ρ 98 j) (y12 : μ 98 12 = nI (T + 1)) (y2 : μ 102 = ρ 102) (y3 : ∀ j, ¬ (14 * T ≤ j ∧ j < 14 * T + 14) → μ 103 j = ρ 103 j) (dt : DT τ μ T) (hm : Mx 12 (μ 98 14) (sbr μ (T + 1))) : DR τ μ := by
  obtain ⟨h0, h1, h2, h3, ⟨B, hB, hM⟩, -⟩ := h
  refine ⟨h0.c x40 x41 (y 9 (by omega) (by omega) (by omega) (by omega)) (y 10 (by omega) (by omega) (by omega) (by omega)), h1.c (x3 2 (by omega)) (x3 3 (by omega)) (y 15 (by omega) (by omega) (by omega) (by omega)), h2.c (x 20 (by omega) (by omega) (by omega)) (fun j _ _ => by rw [y2]), h3.c (by rw [x 14 (by omega) (by omega) (by omega)]) (by rw [y2]), ⟨B, ⟨hB.1, by rw [x 14 (by omega) (by omega) (by omega)]; exact hB.2.1, by rw [y 11 (by omega) (by omega) (by omega) (by omega)]; exact hB.2.2.1, fun b hb => (hB.2.2.2 b hb).c (fun k k1 k2 => by rw [x k (by omega) (by omega) (by omega)]) (fun j _ _ => by rw [y2])⟩, ?_⟩, T + 1, ⟨by omega, x42, y12, fun t ht => ?_⟩, hm⟩
  · rw [y 13 (by omega) (by omega) (by omega) (by omega)]
    unfold th at hM ⊢
    rw [y2]
    exact hM
  · by_cases q : t = T
    · rw [q]; exact dt
    · exact (hT.2.2.2 t (by omega)).c (x5 t q) (x6 t q) (x (8 + t) (by omega) (by omega) (by omega)) (fun j j1 j2 => y3 j (by omega))
theorem b17_3 {ρ : S0} (g1 : ρ 98 22 = 0) (hl : ¬ (6 : Int32) ≤ ρ 98 12) : fX11_readLine_b17 ρ 3 = fX11_readLine_b117 ρ 3 := by
  unfold fX11_readLine_b17 fX11_readLine_b30 fX11_readLine_b49 fX11_readLine_b63 fX11_readLine_b68
  rw [if_neg (by decide), needs_y _ (by decide)]
  simp only [obp]
  rw [if_pos (by decide), if_neg (by decide), if_neg hl, needs_y _ (by decide)]
  simp only
  rw [if_neg (fun q => q g1), if_pos (by decide)]
theorem b17_3f {ρ : S0} (g1 : ρ 98 22 = 0) (hl : (6 : Int32) ≤ ρ 98 12) : fX11_readLine_b17 ρ 3 = some (0, su (su ρ 98 22 5) 98 23 (ρ 98 19)) := by
  have hbad : bad (su (su ρ 98 22 5) 98 23 (ρ 98 19)) := ⟨5, by omega, by omega, by rw [su_j (by omega), su_s]; rfl⟩
  unfold fX11_readLine_b17 fX11_readLine_b30 fX11_readLine_b49 fX11_readLine_b67 fX11_readLine_b68
  rw [if_neg (by decide), needs_y _ (by decide)]
  simp only [obp]
  rw [if_pos (by decide), if_neg (by decide), if_pos hl, needs_n _ g1]
  simp only
  rw [if_pos hbad.n, hbad.b117]
theorem ln_tune {a : Nat → Nat} {n p : Nat} {σ ρ : S0} (tx : TpX a n σ) (tp : TpM a n ρ) (h : Cur a n p σ ρ) (d : DR σ ρ) (hk : tK a n p = 1) : ∃ r τ μ, fX5_readTune σ = some (r, τ) ∧ fX11_readLine_b17 ρ 3 = some (0, μ) ∧ (r = 0 ∨ r = 1) ∧ LR a n p σ ρ r τ μ := by
  obtain ⟨h1, h2, h3, h4, h5⟩ := h
  have hn := tp.1
  have hone : ¬ (1 : Int32) = 0 := by decide
  have hb := tok_b (a := a) h5
  have hlt := hb.2.2.2 (by omega)
  have hb2 := tok_b (a := a) hb.2.2.1
  obtain ⟨g1, g2, g3⟩ := h2.g h3
  obtain ⟨T, hT, hN⟩ := d.2.2.2.2.2
  have hT6 := hT.1
  have lx : σ 4 2 < 6 ↔ T < 6 := by rw [hT.2.1]; exact nI_ltI (b := 6) (by omega) (by omega)
  have lm' : (6 : Int32) ≤ ρ 98 12 ↔ 6 ≤ T := by rw [hT.2.2.1]; exact nI_leI (a := 6) (by omega) (by omega)
  unfold fX5_readTune
  by_cases cT : T < 6
  · rw [if_pos (lx.mpr cT), b17_3 g1 (fun q => by have := lm'.mp q; omega), ol_g]
    obtain ⟨μ, m1, m2, m3⟩ := b117_s h2 h3 tp h5 3
    have tp1 := tp.k m1.k
    have pe : Pend a n (tE a n p) σ μ := ⟨h1.2.1, m2, h4, hb.2.2.1⟩
    have hgt := ix_ok (j := T) (n := 6) cT (by omega)
    have hct : (nI T).toNatClampNeg = T := nI_clamp (by omega)
    have hgt2 : ¬ (nI T < 0 ∨ 6 ≤ T) := fun q => hgt (by rw [hct]; exact q)
    rcases m3 with ⟨c4, m3⟩ | ⟨c3, m3⟩
    · obtain ⟨τ, t1, t2, t3⟩ := nn_bad (lo := 0) (hi := 99) tx pe (by omega) (by omega) c4
      have t1' : fX5_nextNumber σ 0 99 = some (0, τ) := t1
      rw [t1']
      simp only [obp]
      exact ⟨0, τ, μ, by rw [if_neg (by decide)], m3, Or.inl rfl, t2.k, m1.k, t2 3 4 (by omega), Or.inr ⟨rfl, t3⟩⟩
    · obtain ⟨r1, τ1, v1, μ1, t1, t2, t3, t4, t5⟩ := rn_s (lo := 0) (hi := 99) tx tp1 pe (by omega) (by omega)
      have t1' : fX5_nextNumber σ 0 99 = some (r1, τ1) := t1
      have t2' : fX11_readNumber μ 0 99 = some (v1, μ1) := t2
      have e12 : μ 98 12 = nI T := by rw [m1 98 12 (by omega)]; exact hT.2.2.1
      have i14 : (14 : Int32) * nI T = nI (14 * T) := by rw [show (14 : Int32) = nI 14 from rfl, pk_mul]
      have hM : swM 3 μ = obp (fX11_readTune_h25 400 (su μ1 103 (14 * T) v1) (nI (14 * T)) 0 1) (fun _ σ11 => fX11_readLine_b206 σ11) := by
        rw [sw_3]
        unfold fX11_readTune
        rw [e12, i14, ol_g, t2']
        simp only [obp]
        rw [og_t (ix_ok (by omega) (by omega)), nI_clamp (by omega), ol_g]
      rw [t1', m3, hM]
      simp only [obp]
      have kρ1 := m1.k.tr t4.k
      have kμ1 : kM μ1 (su μ1 103 (14 * T) v1) := (kM.rf μ1).su (by unfold scM; omega) _
      rcases t5 with ⟨q1, o1, x, x1, x2, x3, x4, pe1⟩ | ⟨q0, q1, fl⟩
      · rw [q1, if_pos hone, hT.2.1]
        simp only [og_t hgt, og_t hgt2, hct, ol]
        have e42 : su τ1 5 T (τ1 1 5) 4 2 + 1 = nI (T + 1) := by rw [su_ne (by omega), t3 4 2 (by omega), hT.2.1, nI_1]
        rw [e42]
        have kτ1 : kX τ1 (su (su τ1 5 T (τ1 1 5)) 4 2 (nI (T + 1))) := ((kX.rf τ1).su (by unfold scX; omega) _).su (by unfold scX; omega) _
        have kσ2 := t3.k.tr kτ1
        have kρ2 := kρ1.tr kμ1
        have pe2 : Pend a n (tE a n (tE a n p)) (su (su τ1 5 T (τ1 1 5)) 4 2 (nI (T + 1))) (su μ1 103 (14 * T) v1) := pe1.o (by rw [su_ne (by omega), su_ne (by omega)]) (by rw [su_ne (by omega), su_ne (by omega)]) (fun j _ _ => su_n2 (by omega))
        have l2 : su (su τ1 5 T (τ1 1 5)) 4 2 (nI (T + 1)) 3 4 = σ 3 4 := by rw [su_ne (by omega), su_ne (by omega), t3 3 4 (by omega)]
        obtain ⟨r2, τ2, s1, s2, s3⟩ := adv_s (tx.k kσ2) pe2
        rw [s1]
        simp only
        rcases s3 with ⟨z1, z2, z3⟩ | ⟨z1, z2⟩
        · rw [z1, if_neg hone]
          have hmx : Mx 12 (su μ1 103 (14 * T) v1 98 14) (SP (sbr ρ T) T 0 (su μ1 103 (14 * T) v1)) := by
            rw [su_ne (by omega), t4 98 14 (by omega), m1 98 14 (by omega)]
            refine hN.cg (fun y hy => ⟨fun q => Or.inl q, fun q => q.elim id (fun ⟨k, k1, _⟩ => by omega)⟩)
          obtain ⟨r3, τ3, μ3, u1, u2, u3, u4, u5⟩ := str_l cT (sbr ρ T) 12 0 400 400 _ τ2 (su μ1 103 (14 * T) v1) 1 (by omega) (by omega) (by omega) (by omega) ((tx.k kσ2).k s2.k) (tp.k kρ2) z3 (Or.inl ⟨rfl, rfl⟩) ⟨fun k hk => by omega, fun q => by omega⟩ hmx
          have u1' : fX5_readStrokes τ2 (nI T) = some (r3, τ3) := u1
          have u2' : fX11_readTune_h25 400 (su μ1 103 (14 * T) v1) (nI (14 * T)) 0 1 = some (0, μ3) := u2
          rw [u1', u2']
          simp only
          have kσ3 := (kσ2.tr s2.k).tr (u3.k cT)
          have kρ3 := kρ2.tr u4.k
          have l3 : τ3 3 4 = σ 3 4 := by rw [u3 3 4 (by omega), s2 3 4 (by omega)]; exact l2
          rcases u5 with ⟨y1, k, p', y2, y3, y4, y5, y6, y7, y8, y9⟩ | ⟨y1, y2⟩
          · rw [y1, if_neg hone]
            obtain ⟨r4, τ4, μ4, w1, w2, w3, w4, w5⟩ := end_s (tx.k kσ3) (tp.k kρ3) y5
            have hb5 := tok_b (a := a) y5.2.2.2.2
            rw [w1, w2]
            simp only
            have dr : DR τ3 μ3 := d.t hT cT (fun k k1 k2 k3 => by
                have : τ3 k = τ2 k := funext fun j => u3 k j (by omega)
                rw [this, s2.c (by omega) (by omega), su_ne (by omega), su_ne (by omega), t3.c (by omega) (by omega)])
              (by rw [u3 4 0 (by omega), s2 4 0 (by omega), su_j (by omega), su_ne (by omega), t3 4 0 (by omega)])
              (by rw [u3 4 1 (by omega), s2 4 1 (by omega), su_j (by omega), su_ne (by omega), t3 4 1 (by omega)])
              (by rw [u3 4 2 (by omega), s2 4 2 (by omega), su_s])
              (fun j hj => by rw [u3 5 j (by omega), s2 5 j (by omega), su_ne (by omega), su_j hj, t3 5 j (by omega)])
              (fun j hj => by rw [u3 6 j (by omega), s2 6 j (by omega), su_ne (by omega), su_ne (by omega), t3 6 j (by omega)])
              (fun j hj => by rw [u3 3 j (by omega), s2 3 j (by omega), su_ne (by omega), su_ne (by omega), t3 3 j (by omega)])
              (fun j j1 j2 j3 j4 => by rw [u4 98 j (by omega), su_ne (by omega), t4 98 j (by omega), m1 98 j (by omega)])
              (by rw [y8, su_ne (by omega), t4 98 12 (by omega), e12, nI_1])
              (by
                have : μ3 102 = su μ1 103 (14 * T) v1 102 := funext fun j => u4 102 j (by omega)
                rw [this, su_ne (by omega), t4.c (by omega), m1.c (by omega)])
              (fun j hj => by rw [u4 103 j (by omega), su_j (by omega), t4.c (by omega), m1.c (by omega)])
              ⟨k, y2, y3, y6.2 y2, y7, ⟨x, x2, by rw [u3 5 T (by omega), s2 5 T (by omega), su_ne (by omega), su_s, x4], by rw [u4 103 (14 * T) (by omega), su_s, x3]⟩, y6.1⟩
              (y9.cg (fun y hy => by
                have e103 : ∀ j, ¬ (14 * T ≤ j ∧ j < 14 * T + 14) → μ3 103 j = ρ 103 j := fun j hj => by rw [u4 103 j (by omega), su_j (by omega), t4.c (by omega), m1.c (by omega)]
                unfold SP sbr
                constructor
                · rintro (⟨t, m, i, i1, i2, i3, i4, i5⟩ | ⟨k', k1, k2⟩)
                  · exact ⟨t, m, i, by omega, i2, by rw [e103 _ (by omega)]; exact i3, i4, by rw [e103 _ (by omega)]; exact i5⟩
                  · exact ⟨T, k, k', by omega, y3, y7, k1, k2⟩
                · rintro ⟨t, m, i, i1, i2, i3, i4, i5⟩
                  by_cases q : t = T
                  · subst q
                    have : m = k := (nI_eq (by omega) (by omega)).mp (i3.symm.trans y7)
                    exact Or.inr ⟨i, by omega, i5⟩
                  · rw [e103 _ (by omega)] at i3 i5
                    exact Or.inl ⟨t, m, i, by omega, i2, i3, i4, i5⟩))
            rcases w5 with ⟨e1, e2⟩ | ⟨e1, e2⟩
            · rw [e1, if_neg hone]
              exact ⟨1, τ4, μ4, rfl, rfl, Or.inr rfl, kσ3.tr w3.k, kρ3.tr w4.k, (w3 3 4 (by omega)).trans l3, Or.inl ⟨rfl, dr.a w3 w4, tE a n p', by omega, e2⟩⟩
            · rw [e1, if_pos rfl]
              exact ⟨0, τ4, μ4, rfl, rfl, Or.inl rfl, kσ3.tr w3.k, kρ3.tr w4.k, (w3 3 4 (by omega)).trans l3, Or.inr ⟨rfl, e2⟩⟩
          · rw [y1, if_pos rfl, y2.b.b206]
            exact ⟨0, τ3, μ3, rfl, rfl, Or.inl rfl, kσ3, kρ3, l3, Or.inr ⟨rfl, y2⟩⟩
        · obtain ⟨κ, w1, w2, w3, w4⟩ := z2.b.h25 cT 399 0 1
          have hbad : bad κ := z2.b.o w3
          rw [z1, if_pos rfl, w1]
          simp only
          rw [hbad.b206]
          exact ⟨0, τ2, κ, rfl, rfl, Or.inl rfl, kσ2.tr s2.k, kρ2.tr w2.k, (s2 3 4 (by omega)).trans l2, Or.inr ⟨rfl, z2.m w3 w4⟩⟩
      · have hbad1 : bad (su μ1 103 (14 * T) v1) := fl.b.o (su_n2 (by omega))
        obtain ⟨κ, w1, w2, w3, w4⟩ := hbad1.h25 cT 399 0 1
        have hbad : bad κ := hbad1.o w3
        rw [q0, if_neg (fun q => q rfl), w1]
        simp only
        rw [hbad.b206]
        exact ⟨0, τ1, κ, rfl, rfl, Or.inl rfl, t3.k, (kρ1.tr kμ1).tr w2.k, t3 3 4 (by omega), Or.inr ⟨rfl, fl.m (w3.trans (su_n2 (by omega))) (w4.trans (su_n2 (by omega)))⟩⟩
  · rw [if_neg (fun q => cT (lx.mp q)), b17_3f g1 (lm'.mpr (by omega)), refuse_og]
    exact ⟨0, _, _, rfl, rfl, Or.inl rfl, (refuse_o σ 5).k, ((kM.rf ρ).su (by unfold scM; omega) _).su (by unfold scM; omega) _, refuse_o σ 5 3 4 (by omega), Or.inr ⟨rfl, flt_r (f := 5) (g := 5) (pl := tS a n p) (by omega) (by omega) (by omega) h1.1 (by rw [su_j (by omega), su_s]; rfl) (by rw [su_s]; exact h2.1)⟩⟩
