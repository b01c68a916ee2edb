/-! THE TEXT: a line of a feud -/
theorem DR.f {σ τ ρ μ : S0} (h : DR σ ρ) (x : ∀ k, 4 ≤ k → k ≤ 21 → k ≠ 20 → τ k = σ k) (x3 : ∀ j, j ≤ 4 → τ 3 j = σ 3 j) (y : ∀ j, 9 ≤ j → j ≤ 15 → j ≠ 13 → μ 98 j = ρ 98 j) (y2 : ∀ j, ¬ (60 ≤ j ∧ j < 66) → μ 102 j = ρ 102 j) (y3 : μ 103 = ρ 103) (df : DF τ μ) (hm : ∀ B, B ≤ 12 → Mx 6 (ρ 98 13) (th ρ B) → Mx 6 (μ 98 13) (th μ B)) : DR τ μ := by
  obtain ⟨h0, h1, -, h3, ⟨B, hB, hM⟩, T, hT, hN⟩ := h
  refine ⟨h0.c (by rw [x 4 (by omega) (by omega) (by omega)]) (by rw [x 4 (by omega) (by omega) (by omega)]) (y 9 (by omega) (by omega) (by omega)) (y 10 (by omega) (by omega) (by omega)), h1.c (x3 2 (by omega)) (x3 3 (by omega)) (y 15 (by omega) (by omega) (by omega)), df, h3.c (by rw [x 14 (by omega) (by omega) (by omega)]) (y2 66 (by omega)), ⟨B, ⟨hB.1, by rw [x 14 (by omega) (by omega) (by omega)]; exact hB.2.1, by rw [y 11 (by omega) (by omega) (by omega)]; exact hB.2.2.1, fun b hb => (hB.2.2.2 b hb).c (fun k k1 k2 => by rw [x k (by omega) (by omega) (by omega)]) (fun j _ _ => y2 j (by have := hB.1; omega))⟩, hm B hB.1 hM⟩, T, ⟨hT.1, by rw [x 4 (by omega) (by omega) (by omega)]; exact hT.2.1, by rw [y 12 (by omega) (by omega) (by omega)]; exact hT.2.2.1, fun t ht => (hT.2.2.2 t ht).c (by rw [x 5 (by omega) (by omega) (by omega)]) (by rw [x 6 (by omega) (by omega) (by omega)]) (x (8 + t) (by omega) (by have := hT.1; omega) (by have := hT.1; omega)) (fun j _ _ => by rw [y3])⟩, ?_⟩
  rw [y 14 (by omega) (by omega) (by omega)]
  unfold sbr at hN ⊢
  rw [y3]
  exact hN
theorem wb_ne {m b : Nat} (hm : m < 64) (hb : b < 6) : ¬ nI (wb 1 m b) = 0 := by
  have h1 : (wb 1 m b).testBit b = true := by
    rw [wb_t 1 hm hb hb, if_pos rfl]
    decide
  have h2 : wb 1 m b < 2 ^ 6 := wb_l 1 (H := 6) hm hb
  refine nI_ne0 (Nat.pos_of_ne_zero (fun q => ?_)) (by omega)
  rw [q] at h1
  simp at h1
/-- a feud written on both sides -/
theorem feud_w {σ ρ : S0} (df : DF σ ρ) {x y : Nat} (hx : x < 6) (hy : y < 6) (hxy : x ≠ y) : ∃ τ μ, fX1_setFoes σ 14 (nI x) (nI y) 1 = some (0, τ) ∧ (∀ k, k ≠ 20 → τ k = σ k) ∧ (∀ v : Int32, ol (60 + nI x) (fun v8 => og (¬ (v8 < 0 ∨ 80 ≤ v8.toNatClampNeg)) (ol (ρ 102 v8.toNatClampNeg) (fun v10 => ol (v10 ||| ((1 : Int32) <<< (nI y &&& 31))) (fun v11 => og (¬ (v8 < 0 ∨ 80 ≤ v8.toNatClampNeg)) (ol (su ρ 102 v8.toNatClampNeg v11) (fun σ13 => ol (60 + nI y) (fun v14 => og (¬ (v14 < 0 ∨ 80 ≤ v14.toNatClampNeg)) (ol (σ13 102 v14.toNatClampNeg) (fun v16 => ol (v16 ||| ((1 : Int32) <<< (nI x &&& 31))) (fun v17 => og (¬ (v14 < 0 ∨ 80 ≤ v14.toNatClampNeg)) (ol (su σ13 102 v14.toNatClampNeg v17) (fun σ19 => some (v, σ19)))))))))))) ) = some (v, μ)) ∧ (∀ k, k ≠ 102 → μ k = ρ k) ∧ (∀ j, ¬ (60 ≤ j ∧ j < 66) → μ 102 j = ρ 102 j) ∧ DF τ μ ∧ (∀ h, h < 6 → (¬ μ 102 (60 + h) = 0 ↔ (¬ ρ 102 (60 + h) = 0 ∨ h = x) ∨ h = y)) := by
  obtain ⟨fo, f1, f2, f3⟩ := df
  obtain ⟨lx, ex, rx⟩ := f1 x hx
  obtain ⟨ly, ey, ry⟩ := f1 y hy
  have o1 := wb_o ⟨fo x, lx⟩ ⟨y, hy⟩
  have o2 := wb_o ⟨fo y, ly⟩ ⟨x, hx⟩
  simp only at o1 o2
  have w1 : wb 1 (fo x) y = fo x ||| 2 ^ y := by unfold wb; rw [if_neg (by decide)]
  have w2 : wb 1 (fo y) x = fo y ||| 2 ^ x := by unfold wb; rw [if_neg (by decide)]
  have hgx := ix_ok (j := 60 + x) (n := 80) (by omega) (by omega)
  have hcx : (nI (60 + x)).toNatClampNeg = 60 + x := nI_clamp (by omega)
  have hgx2 : ¬ (nI (60 + x) < 0 ∨ 80 ≤ 60 + x) := fun q => hgx (by rw [hcx]; exact q)
  have hgy := ix_ok (j := 60 + y) (n := 80) (by omega) (by omega)
  have hcy : (nI (60 + y)).toNatClampNeg = 60 + y := nI_clamp (by omega)
  have hgy2 : ¬ (nI (60 + y) < 0 ∨ 80 ≤ 60 + y) := fun q => hgy (by rw [hcy]; exact q)
  have e60 : ∀ z : Nat, (60 : Int32) + nI z = nI (60 + z) := fun z => nI_add 60 z
  have sx := setFoes_s (k := 14) 1 hx hy hxy lx ly ex ey
  refine ⟨_, su (su ρ 102 (60 + x) (nI (wb 1 (fo x) y))) 102 (60 + y) (nI (wb 1 (fo y) x)), sx, fun k hk => by rw [su_ne (by omega), su_ne (by omega)], fun v => ?_, fun k hk => by rw [su_ne hk, su_ne hk], fun j hj => by rw [su_j (by omega), su_j (by omega)], ⟨fun z => if z = y then wb 1 (fo y) x else if z = x then wb 1 (fo x) y else fo z, fun z hz => ?_, fun z u hz hu => ?_, fun z hz => ?_⟩, fun z hz => ?_⟩
  · simp only [ol, e60, og_t hgx, og_t hgx2, hcx, og_t hgy, og_t hgy2, hcy]
    rw [rx, o1, su_j (by omega), ry, o2, w1, w2]
  · by_cases c1 : z = y
    · subst c1
      simp only [if_true]
      exact ⟨wb_l 1 (H := 6) ly hx, su_s, su_s⟩
    · by_cases c2 : z = x
      · subst c2
        simp only [if_neg c1, if_true]
        exact ⟨wb_l 1 (H := 6) lx hy, by rw [su_j c1, su_s], by rw [su_j (by omega), su_s]⟩
      · simp only [if_neg c1, if_neg c2]
        exact ⟨(f1 z hz).1, by rw [su_j c1, su_j c2]; exact (f1 z hz).2.1, by rw [su_j (by omega), su_j (by omega)]; exact (f1 z hz).2.2⟩
  · have key : ∀ z u, z < 6 → u < 6 → (if z = y then wb 1 (fo y) x else if z = x then wb 1 (fo x) y else fo z).testBit u = if (z = y ∧ u = x) ∨ (z = x ∧ u = y) then decide ((1 : Int32) ≠ 0) else (fo z).testBit u := fun z u hz hu => by
      by_cases c1 : z = y
      · subst c1
        rw [if_pos rfl, wb_t 1 (by omega) (by omega) hu]
        by_cases c3 : x = u
        · rw [if_pos c3, if_pos (by omega)]
        · rw [if_neg c3, if_neg (by omega)]
      · rw [if_neg c1]
        by_cases c2 : z = x
        · subst c2
          rw [if_pos rfl, wb_t 1 (by omega) (by omega) hu]
          by_cases c3 : y = u
          · rw [if_pos c3, if_pos (by omega)]
          · rw [if_neg c3, if_neg (by omega)]
        · rw [if_neg c2, if_neg (by omega)]
    show (if z = y then wb 1 (fo y) x else if z = x then wb 1 (fo x) y else fo z).testBit u = (if u = y then wb 1 (fo y) x else if u = x then wb 1 (fo x) y else fo u).testBit z
    rw [key z u hz hu, key u z hu hz]
    by_cases c : (z = y ∧ u = x) ∨ (z = x ∧ u = y)
    · rw [if_pos c, if_pos (by omega)]
    · rw [if_neg c, if_neg (by omega)]; exact f2 z u hz hu
  · by_cases c1 : z = y
    · subst c1
      simp only [if_true]
      rw [wb_t 1 (by omega) (by omega) hz, if_neg hxy]; exact f3 z hz
    · by_cases c2 : z = x
      · subst c2
        simp only [if_neg c1, if_true]
        rw [wb_t 1 (by omega) (by omega) hz, if_neg (fun q => hxy q.symm)]; exact f3 z hz
      · simp only [if_neg c1, if_neg c2]; exact f3 z hz
  · by_cases c1 : z = y
    · subst c1
      rw [su_s]
      exact ⟨fun _ => Or.inr rfl, fun _ => wb_ne ly hx⟩
    · by_cases c2 : z = x
      · subst c2
        rw [su_j (by omega), su_s]
        exact ⟨fun _ => Or.inl (Or.inr rfl), fun _ => wb_ne lx hy⟩
      · rw [su_j (by omega), su_j (by omega)]
        exact ⟨fun q => Or.inl (Or.inl q), fun q => q.elim (fun q => q.elim id (fun q => absurd q c2)) (fun q => absurd q c1)⟩
theorem b17_4 {ρ : S0} (g1 : ρ 98 22 = 0) : fX11_readLine_b17 ρ 4 = fX11_readLine_b117 ρ 4 := by
  unfold fX11_readLine_b17 fX11_readLine_b30 fX11_readLine_b49 fX11_readLine_b63 fX11_readLine_b68
  rw [if_neg (by decide), needs_y _ (by decide)]
  simp only [obp]
  rw [if_pos (by decide), if_pos (by decide), needs_y _ (by decide)]
  simp only
  rw [if_neg (fun q => q g1), if_pos (by decide)]
theorem ln_feud {a : Nat → Nat} {n p : Nat} {σ ρ : S0} (tx : TpX a n σ) (tp : TpM a n ρ) (h : Cur a n p σ ρ) (d : DR σ ρ) (hk : tK a n p = 1) : ∃ r τ μ, fX5_readFeud σ = some (r, τ) ∧ fX11_readLine_b17 ρ 4 = some (0, μ) ∧ (r = 0 ∨ r = 1) ∧ LR a n p σ ρ r τ μ := by
  obtain ⟨h1, h2, h3, h4, h5⟩ := h
  have hn := tp.1
  have hone : ¬ (1 : Int32) = 0 := by decide
  have hb := tok_b (a := a) h5
  have hlt := hb.2.2.2 (by omega)
  have hb2 := tok_b (a := a) hb.2.2.1
  have hb3 := tok_b (a := a) hb2.2.2.1
  have hb4 := tok_b (a := a) hb3.2.2.1
  obtain ⟨g1, g2, g3⟩ := h2.g h3
  rw [b17_4 g1]
  obtain ⟨μ, m1, m2, m3⟩ := b117_s h2 h3 tp h5 4
  have tp1 := tp.k m1.k
  have pe : Pend a n (tE a n p) σ μ := ⟨h1.2.1, m2, h4, hb.2.2.1⟩
  unfold fX5_readFeud
  rcases m3 with ⟨c4, m3⟩ | ⟨c3, m3⟩
  · obtain ⟨τ, t1, t2, t3⟩ := nn_bad (lo := 0) (hi := 5) tx pe (by omega) (by omega) c4
    have t1' : fX5_nextNumber σ 0 5 = some (0, τ) := t1
    rw [t1']
    simp only [obp]
    exact ⟨0, τ, μ, by rw [if_neg (by decide)], m3, Or.inl rfl, t2.k, m1.k, t2 3 4 (by omega), Or.inr ⟨rfl, t3⟩⟩
  · rw [m3, sw_4]
    obtain ⟨r1, τ1, v1, μ1, t1, t2, t3, t4, t5⟩ := rh_s tx tp1 pe (-4)
    have t1' : fX5_nextNumber σ 0 5 = some (r1, τ1) := t1
    have tx1 := tx.k t3.k
    have tp2 := tp1.k t4.k
    have kρ1 := m1.k.tr t4.k
    unfold fX11_readFeud
    rw [t1', t2]
    simp only [obp]
    rcases t5 with ⟨q1, o1, x, x1, x2, x3, x4, x5, pe1⟩ | ⟨q1, o1, x, x1, x2, x3, -⟩ | ⟨q0, q1, fl⟩
    · rw [q1, if_pos hone, ol_g, x3]
      obtain ⟨r2, τ2, v2, μ2, s1, s2, s3, s4, s5⟩ := rh_s tx1 tp2 pe1 (nI x)
      have s1' : fX5_nextNumber τ1 0 5 = some (r2, τ2) := s1
      have tx2 := tx1.k s3.k
      have tp3 := tp2.k s4.k
      have kσ2 := t3.k.tr s3.k
      have kρ2 := kρ1.tr s4.k
      have l2 : τ2 3 4 = σ 3 4 := by rw [s3 3 4 (by omega), t3 3 4 (by omega)]
      rw [s1', s2]
      simp only
      rcases s5 with ⟨z1, p1, y, y1, y2, y3, y4, y5, pe2⟩ | ⟨z1, p1, y, y1, y2, y3, y4, y5, y6, y7⟩ | ⟨z0, z1, fl⟩
      · have hxy : x ≠ y := fun q => y4 (by rw [q])
        have hne : ¬ τ2 1 5 = τ1 1 5 := by rw [y2, x2]; exact y4
        have oo := t3.tr s3
        have df2 : DF τ2 μ2 := d.2.2.1.c (oo.c (by omega) (by omega)) (fun j _ _ => by rw [s4.c (by omega), t4.c (by omega), m1.c (by omega)])
        obtain ⟨τ3, μ3, w1, w2, w3, w4, w5, w6, w7⟩ := feud_w df2 x1 y1 hxy
        rw [z1, if_pos hone, if_pos hne, y2, x2, w1]
        simp only
        have kτ3 : kX τ2 τ3 := fun k j q => by
          by_cases c : k = 20
          · exact absurd (show scX k j by unfold scX; omega) q
          · rw [w2 k c]
        have kσ3 := kσ2.tr kτ3
        by_cases cp : tK a n (tE a n (tE a n (tE a n p))) = 4
        · -- the next token is none: the reference leaves the feud out
          have hbad : bad μ2 := ⟨1, by omega, by omega, (pe2.2.1.f cp).1⟩
          rw [if_pos hbad.n]
          simp only
          obtain ⟨r', τ', μ', u1, u2, u3, u4, u5⟩ := tail_s (tx2.k kτ3) tp3 (pe2.o (τ := τ3) (μ := μ2) (by rw [w2 1 (by omega)]) (by rw [w2 3 (by omega)]) (fun _ _ _ => rfl))
          have u1' := u1
          unfold tailX at u1'
          refine ⟨r', τ', μ', u1', u2, u5.elim (fun q => Or.inr q.1) (fun q => Or.inl q.1), kσ3.tr u3.k, kρ2.tr u4.k, by rw [u3 3 4 (by omega), w2 3 (by omega)]; exact l2, ?_⟩
          rcases u5 with ⟨e1, e2, e3⟩ | e
          · omega
          · exact Or.inr e
        · have hk4 := tK_4 a n (tE a n (tE a n (tE a n p)))
          have g22 := (pe2.2.1.g (by omega)).1
          rw [if_neg (fun q => q g22), y3, w3 0]
          simp only
          have kμ3 : kM μ2 μ3 := fun k j q => by
            by_cases c : k = 102
            · exact absurd (show scM k j by unfold scM; omega) q
            · rw [w4 k c]
          have kρ3 := kρ2.tr kμ3
          obtain ⟨r', τ', μ', u1, u2, u3, u4, u5⟩ := tail_s (tx2.k kτ3) (tp3.k kμ3) (pe2.o (τ := τ3) (μ := μ3) (by rw [w2 1 (by omega)]) (by rw [w2 3 (by omega)]) (fun j _ _ => by rw [w4 98 (by omega)]))
          have u1' := u1
          unfold tailX at u1'
          have dr : DR τ3 μ3 := d.f (fun k k1 k2 k3 => by rw [w2 k k3, oo.c (by omega) (by omega)]) (fun j hj => by rw [w2 3 (by omega), oo 3 j (by omega)]) (fun j j1 j2 j3 => by rw [w4 98 (by omega), s4 98 j (by omega), t4 98 j (by omega), m1 98 j (by omega)]) (fun j hj => by rw [w5 j hj, s4.c (by omega), t4.c (by omega), m1.c (by omega)]) (by rw [w4 103 (by omega), s4.c (by omega), t4.c (by omega), m1.c (by omega)]) w6 (fun B hB hM => by
            rw [w4 98 (by omega), y5, x5, m1 98 13 (by omega)]
            refine ((hM.add x1 (by omega)).add y1 (by omega)).cg (fun z hz => ?_)
            have e102 : ∀ j, ¬ (60 ≤ j ∧ j < 66) → μ3 102 j = ρ 102 j := fun j hj => by rw [w5 j hj, s4.c (by omega), t4.c (by omega), m1.c (by omega)]
            have e102' : μ2 102 = ρ 102 := by rw [s4.c (by omega), t4.c (by omega), m1.c (by omega)]
            have w7' := w7 z hz
            rw [e102'] at w7'
            unfold th
            constructor
            · rintro (((⟨b, b1, b2⟩ | q) | q) | q)
              · exact Or.inl ⟨b, b1, by rw [e102 _ (by omega), e102 _ (by omega)]; exact b2⟩
              · exact Or.inr (w7'.mpr (Or.inl (Or.inl q)))
              · exact Or.inr (w7'.mpr (Or.inl (Or.inr q)))
              · exact Or.inr (w7'.mpr (Or.inr q))
            · rintro (⟨b, b1, b2⟩ | q)
              · rw [e102 _ (by omega), e102 _ (by omega)] at b2
                exact Or.inl (Or.inl (Or.inl ⟨b, b1, b2⟩))
              · rcases w7'.mp q with (q | q) | q
                · exact Or.inl (Or.inl (Or.inr q))
                · exact Or.inl (Or.inr q)
                · exact Or.inr q)
          refine ⟨r', τ', μ', u1', u2, u5.elim (fun q => Or.inr q.1) (fun q => Or.inl q.1), kσ3.tr u3.k, kρ3.tr u4.k, by rw [u3 3 4 (by omega), w2 3 (by omega)]; exact l2, ?_⟩
          rcases u5 with ⟨e1, e2, e3⟩ | e
          · exact Or.inl ⟨e1, dr.a u3 u4, tE a n (tE a n (tE a n (tE a n p))), by omega, e3⟩
          · exact Or.inr e
      · have heq : ¬ ¬ τ2 1 5 = τ1 1 5 := fun q => q (by rw [y2, x2]; exact y3)
        have hbad : bad μ2 := ⟨4, by omega, by omega, y6⟩
        rw [z1, if_pos hone, if_neg heq, refuse_s, if_pos hbad.n]
        simp only
        rw [og_t (by decide), hbad.b206]
        exact ⟨0, _, μ2, rfl, rfl, Or.inl rfl, kσ2.tr (refuse_o τ2 4).k, kρ2, (refuse_o τ2 4 3 4 (by omega)).trans l2, Or.inr ⟨rfl, flt_r (f := 4) (g := 4) (pl := tS a n (tE a n (tE a n p))) (by omega) (by omega) (by omega) y4 y6 y7⟩⟩
      · rw [z0, if_neg (fun q => q rfl), if_pos fl.b.n]
        simp only
        rw [fl.b.b206]
        exact ⟨0, τ2, μ2, rfl, rfl, Or.inl rfl, kσ2, kρ2, l2, Or.inr ⟨rfl, fl⟩⟩
    · exact absurd x3 (nI_m4 (by omega))
    · obtain ⟨w, hw⟩ := fl.b.house v1
      have hbad : bad (su μ1 98 13 w) := fl.b.o (su_j (by omega))
      rw [q0, if_neg (fun q => q rfl), hw]
      simp only
      rw [if_pos hbad.n]
      simp only
      rw [hbad.b206]
      exact ⟨0, τ1, su μ1 98 13 w, rfl, rfl, Or.inl rfl, t3.k, kρ1.tr ((kM.rf μ1).su (by unfold scM; omega) _), t3 3 4 (by omega), Or.inr ⟨rfl, fl.m (su_j (by omega)) (su_j (by omega))⟩⟩
