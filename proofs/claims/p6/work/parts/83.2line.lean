/-! THE TEXT: lines of houses, of a gap, of a feud -/
theorem DR.h {σ τ ρ μ : S0} (h : DR σ ρ) (x : ∀ k, 5 ≤ k → k ≤ 21 → τ k = σ k) (x2 : τ 4 2 = σ 4 2) (y : ∀ j, 11 ≤ j → j ≤ 14 → μ 98 j = ρ 98 j) (y2 : μ 102 = ρ 102) (y3 : μ 103 = ρ 103) (d0 : D0 τ μ) (d1 : D1 τ μ) : DR τ μ := by
  obtain ⟨-, -, h2, h3, ⟨B, hB, hM⟩, T, hT, hN⟩ := h
  refine ⟨d0, d1, h2.c (x 20 (by omega) (by omega)) (fun j _ _ => by rw [y2]), h3.c (by rw [x 14 (by omega) (by omega)]) (by rw [y2]), ⟨B, ⟨hB.1, by rw [x 14 (by omega) (by omega)]; exact hB.2.1, by rw [y 11 (by omega) (by omega)]; exact hB.2.2.1, fun b hb => (hB.2.2.2 b hb).c (fun k k1 k2 => by rw [x k (by omega) (by omega)]) (fun j _ _ => by rw [y2])⟩, ?_⟩, T, ⟨hT.1, x2.trans hT.2.1, by rw [y 12 (by omega) (by omega)]; exact hT.2.2.1, fun t ht => (hT.2.2.2 t ht).c (by rw [x 5 (by omega) (by omega)]) (by rw [x 6 (by omega) (by omega)]) (x (8 + t) (by omega) (by have := hT.1; omega)) (fun j _ _ => by rw [y3])⟩, ?_⟩
  · rw [y 13 (by omega) (by omega)]
    unfold th at hM ⊢
    rw [y2]
    exact hM
  · rw [y 14 (by omega) (by omega)]
    unfold sbr at hN ⊢
    rw [y3]
    exact hN
theorem Pend.o {a : Nat → Nat} {n p : Nat} {σ τ ρ μ : S0} (h : Pend a n p σ ρ) (x2 : τ 1 2 = σ 1 2) (x5 : τ 3 5 = σ 3 5) (y : ∀ j, 18 ≤ j → j ≤ 23 → μ 98 j = ρ 98 j) : Pend a n p τ μ := ⟨x2.trans h.1, h.2.1.o y, x5.trans h.2.2.1, h.2.2.2⟩
/-- the reference behind the name of a line -/
def swM (x1 : Int32) (σ2 : S0) : Option (Int32 × S0) := if x1.toInt < 0 ∨ 3 < x1.toInt then (obp (fX11_readFeud σ2) (fun _ σ7 => fX11_readLine_b206 σ7)) else if x1 = 0 then (obp (fX11_readNumber σ2 ((1 : Int32)) ((6 : Int32))) (fun r10 σ11 => ol (su σ11 98 9 r10) (fun σ13 => fX11_readLine_b206 σ13))) else if x1 = 1 then (obp (fX11_readNumber σ2 ((0 : Int32)) ((9 : Int32))) (fun r15 σ16 => ol (su σ16 98 10 r15) (fun σ18 => fX11_readLine_b206 σ18))) else if x1 = 2 then (obp (fX11_readBell σ2) (fun _ σ21 => fX11_readLine_b206 σ21)) else if x1 = 3 then (obp (fX11_readTune σ2) (fun _ σ25 => fX11_readLine_b206 σ25)) else none
theorem su_n2 {σ : S0} {k j x y : Nat} {v : Int32} (h : x ≠ k) : su σ k j v x y = σ x y := by rw [su_ne h]
theorem sw_0 (μ : S0) : swM 0 μ = obp (fX11_readNumber μ 1 6) (fun r10 σ11 => fX11_readLine_b206 (su σ11 98 9 r10)) := by
  unfold swM
  rw [if_neg (by decide), if_pos rfl]
  rfl
theorem sw_1 (μ : S0) : swM 1 μ = obp (fX11_readNumber μ 0 9) (fun r10 σ11 => fX11_readLine_b206 (su σ11 98 10 r10)) := by
  unfold swM
  rw [if_neg (by decide), if_neg (by decide), if_pos rfl]
  rfl
theorem sw_2 (μ : S0) : swM 2 μ = obp (fX11_readBell μ) (fun _ σ11 => fX11_readLine_b206 σ11) := by
  unfold swM
  rw [if_neg (by decide), if_neg (by decide), if_neg (by decide), if_pos rfl]
theorem sw_3 (μ : S0) : swM 3 μ = obp (fX11_readTune μ) (fun _ σ11 => fX11_readLine_b206 σ11) := by
  unfold swM
  rw [if_neg (by decide), if_neg (by decide), if_neg (by decide), if_neg (by decide), if_pos rfl]
theorem sw_4 (μ : S0) : swM 4 μ = obp (fX11_readFeud μ) (fun _ σ11 => fX11_readLine_b206 σ11) := by
  unfold swM
  rw [if_pos (by decide)]
theorem refuse_og (σ : S0) (x : Int32) : obp (fX5_refuse σ x) (fun r s => og (r = 0 ∨ r = 1) (some (r, s))) = some (0, su (su σ 3 5 x) 3 6 (σ 1 4)) := by
  rw [refuse_s]
  rfl
theorem b117_e (ρ : S0) (x1 : Int32) : fX11_readLine_b117 ρ x1 = obp (fX11_next ρ) (fun _ σ2 => if (σ2 98 22) ≤ 0 then swM x1 σ2 else some (0, σ2)) := rfl
theorem bad.b117 {ρ : S0} (h : bad ρ) (x1 : Int32) : fX11_readLine_b117 ρ x1 = some (0, ρ) := by
  rw [b117_e, h.next]
  simp only [obp]
  rw [if_neg h.le]
/-- the name has been taken: the reference has read on -/
theorem b117_s {a : Nat → Nat} {n p : Nat} {ρ : S0} (tm : tkM a n p ρ) (hk : tK a n p ≤ 3) (tp : TpM a n ρ) (hp : p ≤ n) (x1 : Int32) : ∃ μ, on8 ρ μ ∧ tkM a n (tE a n p) μ ∧ ((tK a n (tE a n p) = 4 ∧ fX11_readLine_b117 ρ x1 = some (0, μ)) ∨ (tK a n (tE a n p) ≤ 3 ∧ fX11_readLine_b117 ρ x1 = swM x1 μ)) := by
  obtain ⟨μ, v1, v2, v3⟩ := nx_s tm hk tp hp
  have hk4 := tK_4 a n (tE a n p)
  refine ⟨μ, v2, v3, ?_⟩
  rw [b117_e, v1]
  simp only [obp]
  by_cases c : tK a n (tE a n p) = 4
  · refine Or.inl ⟨c, ?_⟩
    rw [if_neg (show ¬ μ 98 22 ≤ 0 from by rw [(v3.f c).1]; exact nI_nle (by omega) (by omega))]
  · refine Or.inr ⟨by omega, ?_⟩
    rw [if_pos (show μ 98 22 ≤ 0 from by rw [(v3.g (by omega)).1]; decide)]
theorem told_t : ∀ p : Fin 2, ∀ q : Fin 2, ((nI (p.1 + 2 * q.1) >>> ((0 : Int32) &&& 31)) &&& 1 = 0 ↔ p.1 = 0) ∧ ((nI (p.1 + 2 * q.1) >>> ((1 : Int32) &&& 31)) &&& 1 = 0 ↔ q.1 = 0) ∧ (p.1 = 0 → nI (p.1 + 2 * q.1) ||| ((1 : Int32) <<< ((0 : Int32) &&& 31)) = nI (1 + 2 * q.1)) ∧ (q.1 = 0 → nI (p.1 + 2 * q.1) ||| ((1 : Int32) <<< ((1 : Int32) &&& 31)) = nI (p.1 + 2)) := by decide
theorem ln_houses {a : Nat → Nat} {n p : Nat} {σ ρ : S0} (tx : TpX a n σ) (tp : TpM a n ρ) (h : Cur a n p σ ρ) (d : DR σ ρ) (hk : tK a n p = 1) : ∃ r τ μ, fX5_readHouses σ = some (r, τ) ∧ fX11_readLine_b17 ρ 0 = some (0, μ) ∧ (r = 0 ∨ r = 1) ∧ LR a n p σ ρ r τ μ := by
  obtain ⟨h1, h2, h3, h4, h5⟩ := h
  have hn := tp.1
  have hb := tok_b (a := a) h5
  have hlt := hb.2.2.2 (by omega)
  have hb2 := tok_b (a := a) hb.2.2.1
  have hb3 := tok_b (a := a) hb2.2.2.1
  obtain ⟨g1, g2, g3⟩ := h2.g h3
  have n0 : ¬ ¬ ρ 98 22 = 0 := fun q => q g1
  obtain ⟨p', q', p1, q1, e1, e2, e3⟩ := d.2.1
  obtain ⟨u1, u2, u3, u4⟩ := told_t ⟨p', by omega⟩ ⟨q', by omega⟩
  simp only at u1 u2 u3 u4
  have pre : ∀ t0 : Int32, fX11_readLine_b68 ρ 0 1 = (if ¬ (((ρ 98 15) >>> ((0 : Int32) &&& 31)) &&& 1) = 0 then (fX11_readLine_b101 ρ 0 0) else (fX11_readLine_b101 ρ 0 1)) := fun _ => by
    unfold fX11_readLine_b68
    rw [needs_y _ (by decide)]
    simp only [obp]
    rw [if_neg n0, if_neg (by decide)]
  have pre2 : fX11_readLine_b17 ρ 0 = fX11_readLine_b68 ρ 0 1 := by
    unfold fX11_readLine_b17 fX11_readLine_b30 fX11_readLine_b49 fX11_readLine_b63
    rw [if_neg (by decide), needs_y _ (by decide)]
    simp only [obp]
    rw [if_pos (by decide), if_pos (by decide)]
  rw [pre2, pre 0, e3]
  unfold fX5_readHouses
  by_cases c : p' = 0
  · have cx : σ 3 2 = 0 := by rw [e1, c]; rfl
    rw [if_pos cx, if_neg (fun q => q (u1.mpr c))]
    have eor := u3 c
    unfold fX11_readLine_b101
    rw [needs_y _ (by decide)]
    simp only [obp, ol]
    rw [e3, eor]
    have kσ : kX σ (su σ 3 2 1) := (kX.rf σ).su (by unfold scX; omega) _
    have kρ : kM ρ (su ρ 98 15 (nI (1 + 2 * q'))) := (kM.rf ρ).su (by unfold scM; omega) _
    have tm1 : tkM a n p (su ρ 98 15 (nI (1 + 2 * q'))) := h2.o (fun j j1 j2 => su_j (by omega))
    obtain ⟨μ, m1, m2, m3⟩ := b117_s tm1 h3 (tp.k kρ) h5 0
    have tx1 := tx.k kσ
    have tp1 := (tp.k kρ).k m1.k
    have pe : Pend a n (tE a n p) (su σ 3 2 1) μ := ⟨by rw [su_ne (by omega)]; exact h1.2.1, m2, by rw [su_j (by omega)]; exact h4, hb.2.2.1⟩
    rcases m3 with ⟨c4, m3⟩ | ⟨c3, m3⟩
    · obtain ⟨τ, t1, t2, t3⟩ := nn_bad (lo := 1) (hi := 6) tx1 pe (by omega) (by omega) c4
      have t1' : fX5_nextNumber (su σ 3 2 1) 1 6 = some (0, τ) := t1
      rw [t1']
      simp only
      refine ⟨0, τ, μ, by rw [if_neg (by decide)], m3, Or.inl rfl, kσ.tr t2.k, kρ.tr m1.k, by rw [t2 3 4 (by omega), su_j (by omega)], Or.inr ⟨rfl, t3⟩⟩
    · obtain ⟨r, τ, v, ν, t1, t2, t3, t4, t5⟩ := rn_s (lo := 1) (hi := 6) tx1 tp1 pe (by omega) (by omega)
      have t1' : fX5_nextNumber (su σ 3 2 1) 1 6 = some (r, τ) := t1
      have t2' : fX11_readNumber μ 1 6 = some (v, ν) := t2
      rw [t1', m3, sw_0, t2']
      simp only [obp]
      rcases t5 with ⟨r1, o1, x, x1, x2, x3, x4, x5⟩ | ⟨r0, v0, t5⟩
      · rw [r1, if_pos (by decide)]
        have kτ : kX τ (su τ 4 0 (τ 1 5)) := (kX.rf τ).su (by unfold scX; omega) _
        have kν : kM ν (su ν 98 9 v) := (kM.rf ν).su (by unfold scM; omega) _
        have kσ3 := (kσ.tr t3.k).tr kτ
        have kρ3 := ((kρ.tr m1.k).tr t4.k).tr kν
        obtain ⟨r', τ', μ', w1, w2, w3, w4, w5⟩ := tail_s (tx.k kσ3) (tp.k kρ3) (x5.o (τ := su τ 4 0 (τ 1 5)) (μ := su ν 98 9 v) (su_n2 (by omega)) (su_n2 (by omega)) (fun j j1 j2 => su_j (by omega)))
        have w1' := w1
        unfold tailX at w1'
        have dr : DR (su τ 4 0 (τ 1 5)) (su ν 98 9 v) := d.h (fun k k1 k2 => by rw [su_ne (by omega), t3.c (by omega) (by omega), su_ne (by omega)]) (by rw [su_j (by omega), t3 4 2 (by omega), su_ne (by omega)]) (fun j j1 j2 => by rw [su_j (by omega), t4 98 j (by omega), m1 98 j (by omega), su_j (by omega)]) (by rw [su_ne (by omega), t4.c (by omega), m1.c (by omega), su_ne (by omega)]) (by rw [su_ne (by omega), t4.c (by omega), m1.c (by omega), su_ne (by omega)]) ?_ ?_
        · refine ⟨r', τ', μ', w1', w2, w5.elim (fun q => Or.inr q.1) (fun q => Or.inl q.1), kσ3.tr w3.k, kρ3.tr w4.k, by rw [w3 3 4 (by omega), su_ne (by omega), t3 3 4 (by omega), su_j (by omega)], ?_⟩
          rcases w5 with ⟨z1, z2, z3⟩ | z
          · exact Or.inl ⟨z1, dr.a w3 w4, tE a n (tE a n (tE a n p)), by omega, z3⟩
          · exact Or.inr z
        · exact ⟨⟨x, x1, x2, by rw [su_s, x4], by rw [su_s, x3]⟩, by
            obtain ⟨g, y1, y2, y3⟩ := d.1.2
            exact ⟨g, y1, by rw [su_j (by omega), t3 4 1 (by omega), su_ne (by omega)]; exact y2, by rw [su_j (by omega), t4 98 10 (by omega), m1 98 10 (by omega), su_j (by omega)]; exact y3⟩⟩
        · exact ⟨1, q', by omega, q1, by rw [su_ne (by omega), t3 3 2 (by omega), su_s]; rfl, by rw [su_ne (by omega), t3 3 3 (by omega), su_j (by omega)]; exact e2, by rw [su_j (by omega), t4 98 15 (by omega), m1 98 15 (by omega), su_s]⟩
      · have hbad : bad (su ν 98 9 v) := t5.b.o (su_j (by omega))
        rw [r0, if_neg (by decide)]
        refine ⟨0, τ, su ν 98 9 v, rfl, hbad.b206, Or.inl rfl, kσ.tr t3.k, ((kρ.tr m1.k).tr t4.k).tr ((kM.rf ν).su (by unfold scM; omega) _), by rw [t3 3 4 (by omega), su_j (by omega)], Or.inr ⟨rfl, t5.m (su_j (by omega)) (su_j (by omega))⟩⟩
  · have cx : ¬ σ 3 2 = 0 := by rw [e1]; exact nI_ne0 (by omega) (by omega)
    rw [if_neg cx, if_pos (fun q => c (u1.mp q)), refuse_og]
    unfold fX11_readLine_b101
    rw [needs_n _ g1]
    simp only [obp, ol]
    have hbad : bad (su (su (su ρ 98 22 4) 98 23 (ρ 98 19)) 98 15 (su (su ρ 98 22 4) 98 23 (ρ 98 19) 98 15 ||| ((1 : Int32) <<< ((0 : Int32) &&& 31)))) := ⟨4, by omega, by omega, by rw [su_j (by omega), su_j (by omega), su_s]; rfl⟩
    rw [hbad.b117]
    refine ⟨0, _, _, rfl, rfl, Or.inl rfl, (refuse_o σ 4).k, (((kM.rf ρ).su (by unfold scM; omega) _).su (by unfold scM; omega) _).su (by unfold scM; omega) _, refuse_o σ 4 3 4 (by omega), Or.inr ⟨rfl, ?_⟩⟩
    exact flt_r (f := 4) (g := 4) (pl := tS a n p) (by omega) (by omega) (by omega) h1.1 (by rw [su_j (by omega), su_j (by omega), su_s]; rfl) (by rw [su_j (by omega), su_s]; exact h2.1)
theorem ln_gap {a : Nat → Nat} {n p : Nat} {σ ρ : S0} (tx : TpX a n σ) (tp : TpM a n ρ) (h : Cur a n p σ ρ) (d : DR σ ρ) (hk : tK a n p = 1) : ∃ r τ μ, fX5_readGap σ = some (r, τ) ∧ fX11_readLine_b17 ρ 1 = some (0, μ) ∧ (r = 0 ∨ r = 1) ∧ LR a n p σ ρ r τ μ := by
  obtain ⟨h1, h2, h3, h4, h5⟩ := h
  have hn := tp.1
  have hb := tok_b (a := a) h5
  have hlt := hb.2.2.2 (by omega)
  have hb2 := tok_b (a := a) hb.2.2.1
  have hb3 := tok_b (a := a) hb2.2.2.1
  obtain ⟨g1, g2, g3⟩ := h2.g h3
  have n0 : ¬ ¬ ρ 98 22 = 0 := fun q => q g1
  obtain ⟨p', q', p1, q1, e1, e2, e3⟩ := d.2.1
  obtain ⟨u1, u2, u3, u4⟩ := told_t ⟨p', by omega⟩ ⟨q', by omega⟩
  simp only at u1 u2 u3 u4
  have pre : ∀ t0 : Int32, fX11_readLine_b68 ρ 1 1 = (if ¬ (((ρ 98 15) >>> ((1 : Int32) &&& 31)) &&& 1) = 0 then (fX11_readLine_b101 ρ 1 0) else (fX11_readLine_b101 ρ 1 1)) := fun _ => by
    unfold fX11_readLine_b68
    rw [needs_y _ (by decide)]
    simp only [obp]
    rw [if_neg n0, if_neg (by decide)]
  have pre2 : fX11_readLine_b17 ρ 1 = fX11_readLine_b68 ρ 1 1 := by
    unfold fX11_readLine_b17 fX11_readLine_b30 fX11_readLine_b49 fX11_readLine_b63
    rw [if_neg (by decide), needs_y _ (by decide)]
    simp only [obp]
    rw [if_pos (by decide), if_pos (by decide)]
  rw [pre2, pre 0, e3]
  unfold fX5_readGap
  by_cases c : q' = 0
  · have cx : σ 3 3 = 0 := by rw [e2, c]; rfl
    rw [if_pos cx, if_neg (fun q => q (u2.mpr c))]
    have eor := u4 c
    unfold fX11_readLine_b101
    rw [needs_y _ (by decide)]
    simp only [obp, ol]
    rw [e3, eor]
    have kσ : kX σ (su σ 3 3 1) := (kX.rf σ).su (by unfold scX; omega) _
    have kρ : kM ρ (su ρ 98 15 (nI (p' + 2))) := (kM.rf ρ).su (by unfold scM; omega) _
    have tm1 : tkM a n p (su ρ 98 15 (nI (p' + 2))) := h2.o (fun j j1 j2 => su_j (by omega))
    obtain ⟨μ, m1, m2, m3⟩ := b117_s tm1 h3 (tp.k kρ) h5 1
    have tx1 := tx.k kσ
    have tp1 := (tp.k kρ).k m1.k
    have pe : Pend a n (tE a n p) (su σ 3 3 1) μ := ⟨by rw [su_ne (by omega)]; exact h1.2.1, m2, by rw [su_j (by omega)]; exact h4, hb.2.2.1⟩
    rcases m3 with ⟨c4, m3⟩ | ⟨c3, m3⟩
    · obtain ⟨τ, t1, t2, t3⟩ := nn_bad (lo := 0) (hi := 9) tx1 pe (by omega) (by omega) c4
      have t1' : fX5_nextNumber (su σ 3 3 1) 0 9 = some (0, τ) := t1
      rw [t1']
      simp only
      refine ⟨0, τ, μ, by rw [if_neg (by decide)], m3, Or.inl rfl, kσ.tr t2.k, kρ.tr m1.k, by rw [t2 3 4 (by omega), su_j (by omega)], Or.inr ⟨rfl, t3⟩⟩
    · obtain ⟨r, τ, v, ν, t1, t2, t3, t4, t5⟩ := rn_s (lo := 0) (hi := 9) tx1 tp1 pe (by omega) (by omega)
      have t1' : fX5_nextNumber (su σ 3 3 1) 0 9 = some (r, τ) := t1
      have t2' : fX11_readNumber μ 0 9 = some (v, ν) := t2
      rw [t1', m3, sw_1, t2']
      simp only [obp]
      rcases t5 with ⟨r1, o1, x, x1, x2, x3, x4, x5⟩ | ⟨r0, v0, t5⟩
      · rw [r1, if_pos (by decide)]
        have kτ : kX τ (su τ 4 1 (τ 1 5)) := (kX.rf τ).su (by unfold scX; omega) _
        have kν : kM ν (su ν 98 10 v) := (kM.rf ν).su (by unfold scM; omega) _
        have kσ3 := (kσ.tr t3.k).tr kτ
        have kρ3 := ((kρ.tr m1.k).tr t4.k).tr kν
        obtain ⟨r', τ', μ', w1, w2, w3, w4, w5⟩ := tail_s (tx.k kσ3) (tp.k kρ3) (x5.o (τ := su τ 4 1 (τ 1 5)) (μ := su ν 98 10 v) (su_n2 (by omega)) (su_n2 (by omega)) (fun j j1 j2 => su_j (by omega)))
        have w1' := w1
        unfold tailX at w1'
        have dr : DR (su τ 4 1 (τ 1 5)) (su ν 98 10 v) := d.h (fun k k1 k2 => by rw [su_ne (by omega), t3.c (by omega) (by omega), su_ne (by omega)]) (by rw [su_j (by omega), t3 4 2 (by omega), su_ne (by omega)]) (fun j j1 j2 => by rw [su_j (by omega), t4 98 j (by omega), m1 98 j (by omega), su_j (by omega)]) (by rw [su_ne (by omega), t4.c (by omega), m1.c (by omega), su_ne (by omega)]) (by rw [su_ne (by omega), t4.c (by omega), m1.c (by omega), su_ne (by omega)]) ?_ ?_
        · refine ⟨r', τ', μ', w1', w2, w5.elim (fun q => Or.inr q.1) (fun q => Or.inl q.1), kσ3.tr w3.k, kρ3.tr w4.k, by rw [w3 3 4 (by omega), su_ne (by omega), t3 3 4 (by omega), su_j (by omega)], ?_⟩
          rcases w5 with ⟨z1, z2, z3⟩ | z
          · exact Or.inl ⟨z1, dr.a w3 w4, tE a n (tE a n (tE a n p)), by omega, z3⟩
          · exact Or.inr z
        · exact ⟨by
            obtain ⟨g, y0, y1, y2, y3⟩ := d.1.1
            exact ⟨g, y0, y1, by rw [su_j (by omega), t3 4 0 (by omega), su_ne (by omega)]; exact y2, by rw [su_j (by omega), t4 98 9 (by omega), m1 98 9 (by omega), su_j (by omega)]; exact y3⟩, ⟨x, x2, by rw [su_s, x4], by rw [su_s, x3]⟩⟩
        · exact ⟨p', 1, p1, by omega, by rw [su_ne (by omega), t3 3 2 (by omega), su_j (by omega)]; exact e1, by rw [su_ne (by omega), t3 3 3 (by omega), su_s]; rfl, by rw [su_j (by omega), t4 98 15 (by omega), m1 98 15 (by omega), su_s]⟩
      · have hbad : bad (su ν 98 10 v) := t5.b.o (su_j (by omega))
        rw [r0, if_neg (by decide)]
        refine ⟨0, τ, su ν 98 10 v, rfl, hbad.b206, Or.inl rfl, kσ.tr t3.k, ((kρ.tr m1.k).tr t4.k).tr ((kM.rf ν).su (by unfold scM; omega) _), by rw [t3 3 4 (by omega), su_j (by omega)], Or.inr ⟨rfl, t5.m (su_j (by omega)) (su_j (by omega))⟩⟩
  · have cx : ¬ σ 3 3 = 0 := by rw [e2]; exact nI_ne0 (by omega) (by omega)
    rw [if_neg cx, if_pos (fun q => c (u2.mp q)), refuse_og]
    unfold fX11_readLine_b101
    rw [needs_n _ g1]
    simp only [obp, ol]
    have hbad : bad (su (su (su ρ 98 22 4) 98 23 (ρ 98 19)) 98 15 (su (su ρ 98 22 4) 98 23 (ρ 98 19) 98 15 ||| ((1 : Int32) <<< ((1 : Int32) &&& 31)))) := ⟨4, by omega, by omega, by rw [su_j (by omega), su_j (by omega), su_s]; rfl⟩
    rw [hbad.b117]
    refine ⟨0, _, _, rfl, rfl, Or.inl rfl, (refuse_o σ 4).k, (((kM.rf ρ).su (by unfold scM; omega) _).su (by unfold scM; omega) _).su (by unfold scM; omega) _, refuse_o σ 4 3 4 (by omega), Or.inr ⟨rfl, ?_⟩⟩
    exact flt_r (f := 4) (g := 4) (pl := tS a n p) (by omega) (by omega) (by omega) h1.1 (by rw [su_j (by omega), su_j (by omega), su_s]; rfl) (by rw [su_j (by omega), su_s]; exact h2.1)
