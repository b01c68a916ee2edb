section
/-! THE TEXT: what stands behind a bell -/
def wX (b : Nat) (σ τ : S0) : Prop := ∀ k j, ¬ ((k = 1 ∧ 2 ≤ j ∧ j ≤ 5) ∨ (k = 3 ∧ (j = 5 ∨ j = 6)) ∨ ((k = 18 ∨ k = 19) ∧ j = b)) → τ k j = σ k j
theorem wX.tr {b : Nat} {x y z : S0} (h1 : wX b x y) (h2 : wX b y z) : wX b x z := fun k j h => (h2 k j h).trans (h1 k j h)
theorem wX.k {b : Nat} {x y : S0} (h : wX b x y) : kX x y := fun k j q => h k j (fun z => q (by unfold scX; omega))
theorem onA.w {x y : S0} (h : onA x y) (b : Nat) : wX b x y := fun k j q => h k j (by omega)
theorem wX.rf (b : Nat) (x : S0) : wX b x x := fun _ _ _ => rfl
theorem wX_su {b k : Nat} {σ : S0} (h : k = 18 ∨ k = 19) (v : Int32) : wX b σ (su σ k b v) := fun x y q => by
  by_cases hx : x = k
  · subst hx; exact su_j (fun z => q (by omega))
  · rw [su_ne hx]
def wM (b : Nat) (σ τ : S0) : Prop := ∀ k j, ¬ ((k = 98 ∧ (j = 11 ∨ j = 13 ∨ 18 ≤ j ∧ j ≤ 23)) ∨ (k = 102 ∧ (j = 5 * b + 3 ∨ j = 5 * b + 4))) → τ k j = σ k j
theorem wM.tr {b : Nat} {x y z : S0} (h1 : wM b x y) (h2 : wM b y z) : wM b x z := fun k j h => (h2 k j h).trans (h1 k j h)
theorem wM.k {b : Nat} {x y : S0} (h : wM b x y) : kM x y := fun k j q => h k j (fun z => q (by unfold scM; omega))
theorem on9.w {x y : S0} (h : on9 x y) (b : Nat) : wM b x y := fun k j q => h k j (by omega)
theorem on8.w {x y : S0} (h : on8 x y) (b : Nat) : wM b x y := fun k j q => h k j (by omega)
theorem wM.rf (b : Nat) (x : S0) : wM b x x := fun _ _ _ => rfl
theorem wM_su {b k j : Nat} {σ : S0} (h : (k = 98 ∧ (j = 11 ∨ j = 13 ∨ 18 ≤ j ∧ j ≤ 23)) ∨ (k = 102 ∧ (j = 5 * b + 3 ∨ j = 5 * b + 4))) (v : Int32) : wM b σ (su σ k j v) := fun x y q => by
  by_cases hx : x = k
  · subst hx; exact su_j (fun z => q (by omega))
  · rw [su_ne hx]
theorem bad.h72 {ρ : S0} (h : bad ρ) (m : Nat) (x1 x2 : Int32) : fX11_readBell_h72 (m + 1) ρ x1 x2 = some (0, su ρ 98 11 (ρ 98 11 + 1)) := by
  show fX11_readBell_b72 _ _ _ _ = _
  unfold fX11_readBell_b72 fX11_readBell_b207
  rw [if_pos h.n]
  rfl
def WB (Q : Nat → Prop) (b o hs ss : Nat) (σ ρ : S0) : Prop := o < 6 ∧ σ 15 b = nI o ∧ ρ 102 (5 * b) = nI o ∧ σ 18 b = nI ss ∧ ρ 102 (5 * b + 3) = nI ss ∧ ((hs = 0 ∧ σ 19 b = -4 ∧ ρ 102 (5 * b + 4) = -4 ∧ Mx 6 (ρ 98 13) Q) ∨ (hs = 1 ∧ ∃ h, h < 6 ∧ σ 19 b = nI h ∧ ρ 102 (5 * b + 4) = nI h ∧ Mx 6 (ρ 98 13) (fun y => Q y ∨ y = h)))
def WC (a : Nat → Nat) (n : Nat) (Q : Nat → Prop) (b o p : Nat) (σ ρ : S0) (ox om : Option (Int32 × S0)) : Prop := ∃ r τ μ, ox = some (r, τ) ∧ om = some (0, μ) ∧ wX b σ τ ∧ wM b ρ μ ∧ ((r = 1 ∧ ∃ hs ss p', hs ≤ 1 ∧ ss ≤ 1 ∧ p ≤ p' ∧ Cur a n p' τ μ ∧ WB Q b o hs ss τ μ ∧ μ 98 11 = ρ 98 11 + 1) ∨ (r = 1 ∧ ∃ p', p' ≤ n ∧ tkX a n p' τ ∧ tK a n p' = 1 ∧ τ 3 5 = 0 ∧ μ 98 22 = nI 2 ∧ μ 98 23 = nI (tS a n p')) ∨ (r = 0 ∧ Flt τ μ))
theorem had_t : ∀ h : Fin 2, ∀ s : Fin 2, ((nI (1024 * h.1 + 2048 * s.1) >>> ((10 : Int32) &&& 31)) &&& 1 = 0 ↔ h.1 = 0) ∧ ((nI (1024 * h.1 + 2048 * s.1) >>> ((11 : Int32) &&& 31)) &&& 1 = 0 ↔ s.1 = 0) ∧ (h.1 = 0 → nI (1024 * h.1 + 2048 * s.1) ||| ((1 : Int32) <<< ((10 : Int32) &&& 31)) = nI (1024 * 1 + 2048 * s.1)) ∧ (s.1 = 0 → nI (1024 * h.1 + 2048 * s.1) ||| ((1 : Int32) <<< ((11 : Int32) &&& 31)) = nI (1024 * h.1 + 2048 * 1)) := by decide
theorem wth_st {a : Nat → Nat} {n : Nat} (Q : Nat → Prop) {b o : Nat} (hb12 : b < 12) {hs ss : Nat} (hh : hs ≤ 1) (hss : ss ≤ 1) {m m' p : Nat} {σ ρ : S0} (tx : TpX a n σ) (tp : TpM a n ρ) (cu : Cur a n p σ ρ) (wb : WB Q b o hs ss σ ρ)
    (ih : ∀ (hs' ss' p' : Nat) (σ' ρ' : S0), hs' + ss' = hs + ss + 1 → hs' ≤ 1 → ss' ≤ 1 → TpX a n σ' → TpM a n ρ' → Cur a n p' σ' ρ' → WB Q b o hs' ss' σ' ρ' → WC a n Q b o p' σ' ρ' (fX5_readWiths_h2 m σ' 14 (nI b) (nI (hs' + ss'))) (fX11_readBell_h72 (m' + 1) ρ' (nI (5 * b)) (nI (1024 * hs' + 2048 * ss')))) :
    WC a n Q b o p σ ρ (fX5_readWiths_h2 (m + 1) σ 14 (nI b) (nI (hs + ss))) (fX11_readBell_h72 (m' + 2) ρ (nI (5 * b)) (nI (1024 * hs + 2048 * ss))) := by
  obtain ⟨c1, c2, c3, c4, c5⟩ := cu
  have hn := tp.1
  have hone : ¬ (1 : Int32) = 0 := by decide
  have hzo : ¬ (0 : Int32) = 1 := by decide
  have hb := tok_b (a := a) c5
  obtain ⟨g1, g2, g3⟩ := c2.g c3
  have n0 : ¬ ¬ ρ 98 22 = 0 := fun q => q g1
  have e20 : ρ 98 20 = 1 ↔ tK a n p = 1 := by rw [g2]; exact nI_eq (b := 1) (by omega) (by omega)
  have hgb := ix_ok (j := b) (n := 12) hb12 (by omega)
  have hcb : (nI b).toNatClampNeg = b := nI_clamp (by omega)
  have hgb2 : ¬ (nI b < 0 ∨ 12 ≤ b) := fun q => hgb (by rw [hcb]; exact q)
  obtain ⟨ho, w15, w102, w18, w1023, w19⟩ := wb
  obtain ⟨u1, u2, u3, u4⟩ := had_t ⟨hs, by omega⟩ ⟨ss, by omega⟩
  simp only at u1 u2 u3 u4
  have h3 : ¬ (3 : Int32) ≤ nI (hs + ss) := nI_ge (b := 3) (by omega) (by omega)
  obtain ⟨r5, p5, o5, m5⟩ := isName_s okW_5 tx c1.1 c1.2.1 c1.2.2.1 (by omega) hb.2.1 hb.2.2.1
  obtain ⟨r6, p6, o6, m6⟩ := isName_s okW_6 tx c1.1 c1.2.1 c1.2.2.1 (by omega) hb.2.1 hb.2.2.1
  have hX : fX5_readWiths_h2 (m + 1) σ 14 (nI b) (nI (hs + ss)) = if ¬ r5 = 0 then fX5_readWiths_b37 (fX5_readWiths_h2 m) σ 14 (nI b) (nI (hs + ss)) r5 else if ¬ r6 = 0 then fX5_readWiths_b37 (fX5_readWiths_h2 m) σ 14 (nI b) (nI (hs + ss)) r5 else some (1, σ) := by
    show fX5_readWiths_b2 _ _ _ _ _ = _
    unfold fX5_readWiths_b2
    rw [if_neg h3, p5]
    simp only [obp]
    rw [p6]
  have hM0 : fX11_readBell_h72 (m' + 2) ρ (nI (5 * b)) (nI (1024 * hs + 2048 * ss)) = fX11_readBell_b72 (fX11_readBell_h72 (m' + 1)) ρ (nI (5 * b)) (nI (1024 * hs + 2048 * ss)) := rfl
  by_cases k1 : tK a n p = 1
  · obtain ⟨r, q1, q2⟩ := withNow_s tp c2.1 c2.2.1 hb.2.1 hb.2.2.1
    have hM : fX11_readBell_h72 (m' + 2) ρ (nI (5 * b)) (nI (1024 * hs + 2048 * ss)) = if r = -4 then fX11_readBell_b104 (fX11_readBell_h72 (m' + 1)) ρ (nI (5 * b)) (nI (1024 * hs + 2048 * ss)) r 0 else fX11_readBell_b104 (fX11_readBell_h72 (m' + 1)) ρ (nI (5 * b)) (nI (1024 * hs + 2048 * ss)) r 1 := by
      rw [hM0]
      unfold fX11_readBell_b72
      rw [if_neg n0, if_neg (fun q => q (e20.mpr k1)), q1]
      rfl
    -- once more: both find it
    have again : ∀ (x3 : Int32), (x3 = 10 ∨ x3 = 11) → ¬ ((nI (1024 * hs + 2048 * ss) >>> (x3 &&& 31)) &&& 1) = 0 → fX11_readBell_b104 (fX11_readBell_h72 (m' + 1)) ρ (nI (5 * b)) (nI (1024 * hs + 2048 * ss)) x3 1 = some (0, su (su (su ρ 98 22 4) 98 23 (ρ 98 19)) 98 11 (su (su ρ 98 22 4) 98 23 (ρ 98 19) 98 11 + 1)) := fun x3 hx hbit => by
      have hbad : bad (su (su ρ 98 22 4) 98 23 (ρ 98 19)) := ⟨4, by omega, by omega, by rw [su_j (by omega), su_s]; rfl⟩
      have hx4 : ¬ x3 = -4 := by rcases hx with rfl | rfl <;> decide
      unfold fX11_readBell_b104 fX11_readBell_b128 fX11_readBell_b146 fX11_readBell_b177 fX11_readBell_b204
      rw [needs_y _ (by decide)]
      simp only [obp]
      rw [if_neg hx4, if_pos hbit, needs_n _ g1]
      simp only
      rw [if_pos hx4, ol_g, hbad.next]
      simp only
      rw [if_pos hbad.n, if_pos hbad.n, hbad.h72]
    have againR : WC a n Q b o p σ ρ (some (0, su (su σ 3 5 4) 3 6 (σ 1 4))) (some (0, su (su (su ρ 98 22 4) 98 23 (ρ 98 19)) 98 11 (su (su ρ 98 22 4) 98 23 (ρ 98 19) 98 11 + 1))) := by
      refine ⟨0, _, _, rfl, rfl, (refuse_o σ 4).w b, ((wM_su (Or.inl ⟨rfl, by omega⟩) _).tr (wM_su (Or.inl ⟨rfl, by omega⟩) _)).tr (wM_su (Or.inl ⟨rfl, by omega⟩) _), Or.inr (Or.inr ⟨rfl, ?_⟩)⟩
      exact flt_r (f := 4) (g := 4) (pl := tS a n p) (by omega) (by omega) (by omega) c1.1 (by rw [su_j (by omega), su_j (by omega), su_s]; rfl) (by rw [su_j (by omega), su_s]; exact c2.1)
    -- for the first time
    have first : ∀ (x3 : Int32) (v : Nat), (x3 = 10 ∨ x3 = 11) → ((nI (1024 * hs + 2048 * ss) >>> (x3 &&& 31)) &&& 1) = 0 → nI (1024 * hs + 2048 * ss) ||| ((1 : Int32) <<< (x3 &&& 31)) = nI v → fX11_readBell_b104 (fX11_readBell_h72 (m' + 1)) ρ (nI (5 * b)) (nI (1024 * hs + 2048 * ss)) x3 1 = obp (fX11_next ρ) (fun r2 σ3 => if ¬ (σ3 98 22) = 0 then (fX11_readBell_b177 (fX11_readBell_h72 (m' + 1)) σ3 (nI (5 * b)) (nI v)) else (if ¬ x3 = 11 then (fX11_readBell_b177 (fX11_readBell_h72 (m' + 1)) σ3 (nI (5 * b)) (nI v)) else (ol (nI (5 * b) + 3) (fun v7 => og (¬ (v7 < 0 ∨ 80 ≤ v7.toNatClampNeg)) (ol (su σ3 102 v7.toNatClampNeg 1) (fun σ9 => fX11_readBell_b204 (fX11_readBell_h72 (m' + 1)) σ9 (nI (5 * b)) (nI v))))))) := fun x3 v hx hbit hor => by
      have hx4 : ¬ x3 = -4 := by rcases hx with rfl | rfl <;> decide
      unfold fX11_readBell_b104 fX11_readBell_b123 fX11_readBell_b128 fX11_readBell_b146
      rw [needs_y _ (by decide)]
      simp only [obp]
      rw [if_neg hx4, if_neg (fun q => q hbit), needs_y _ (by decide)]
      simp only
      rw [if_pos hx4, ol_g, hor]
    have badT : ∀ (ν : S0) (v : Int32), bad ν → fX11_readBell_b177 (fX11_readBell_h72 (m' + 1)) ν (nI (5 * b)) v = some (0, su ν 98 11 (ν 98 11 + 1)) := fun ν v hbad => by
      unfold fX11_readBell_b177 fX11_readBell_b204
      rw [if_pos hbad.n, hbad.h72]
    obtain ⟨μ, v1, v2, v3⟩ := nx_s c2 c3 tp c5
    have hk4 := tK_4 a n (tE a n p)
    rcases q2 with ⟨rfl, n5⟩ | ⟨rfl, nn5, n6⟩ | ⟨rfl, nn5, nn6⟩
    · -- half
      have e5 : r5 = 1 := m5.mpr ⟨k1, n5⟩
      rw [hX, hM, e5, if_pos hone, if_neg (by decide)]
      unfold fX5_readWiths_b37
      rw [if_neg hone, og_t hgb, hcb, ol_g]
      rcases w19 with ⟨q0, q19, q1024, qm⟩ | ⟨q1', h, q19, q19', -⟩
      · rw [if_pos q19, first 10 (1024 * 1 + 2048 * ss) (Or.inl rfl) (u1.mpr q0) (u3 q0), v1]
        simp only [obp]
        unfold fX5_readWiths_b71
        rw [if_pos hone]
        have pe : Pend a n (tE a n p) σ μ := ⟨c1.2.1, v3, c4, hb.2.2.1⟩
        by_cases cp : tK a n (tE a n p) = 4
        · have hbad : bad μ := ⟨1, by omega, by omega, (v3.f cp).1⟩
          obtain ⟨τ, t1, t2, t3⟩ := nn_bad (lo := 0) (hi := 5) tx pe (by omega) (by omega) cp
          have t1' : fX5_nextNumber σ 0 5 = some (0, τ) := t1
          rw [if_pos hbad.n, badT μ _ hbad, t1']
          simp only [obp]
          rw [if_neg (by decide)]
          exact ⟨0, τ, _, rfl, rfl, t2.w b, (v2.w b).tr (wM_su (Or.inl ⟨rfl, by omega⟩) _), Or.inr (Or.inr ⟨rfl, t3.m (su_j (by omega)) (su_j (by omega))⟩)⟩
        · have g4 := (v3.g (by omega)).1
          have tp1 := tp.k v2.k
          rw [if_neg (fun q => q g4), if_pos (by decide)]
          obtain ⟨r1, τ1, w1, μ1, t1, t2, t3, t4, t5⟩ := rh_s tx tp1 pe (nI o)
          have t1' : fX5_nextNumber σ 0 5 = some (r1, τ1) := t1
          have e102 : ∀ j, μ 102 j = ρ 102 j := fun j => v2 102 j (by omega)
          have hgv := ix_ok (j := 5 * b + 4) (n := 80) (by omega) (by omega)
          have hcv : (nI (5 * b + 4)).toNatClampNeg = 5 * b + 4 := nI_clamp (by omega)
          have hMM : fX11_readBell_b177 (fX11_readBell_h72 (m' + 1)) μ (nI (5 * b)) (nI (1024 * 1 + 2048 * ss)) = fX11_readBell_h72 (m' + 1) (su μ1 102 (5 * b + 4) w1) (nI (5 * b)) (nI (1024 * 1 + 2048 * ss)) := by
            unfold fX11_readBell_b177 fX11_readBell_b204
            rw [if_neg (fun q => q g4), Int32.add_zero, ol_g, og_t (ix_ok (by omega) (by omega)), nI_clamp (by omega), ol_g, e102, w102, t2]
            simp only [obp]
            rw [show (4 : Int32) = nI 4 from rfl, nI_add, ol_g, og_t hgv, hcv, ol_g]
          rw [hMM, t1']
          simp only [obp]
          have wσ := t3.w b
          have wρ := (v2.w b).tr (t4.w b)
          have wρ2 : wM b μ1 (su μ1 102 (5 * b + 4) w1) := wM_su (Or.inr ⟨rfl, by omega⟩) _
          rcases t5 with ⟨z1, o1, x, x1, x2, x3, x4, x5, pe1⟩ | ⟨z1, o1, x, x1, x2, x3, x4, x5, x6, x7⟩ | ⟨z0, z1, fl⟩
          · -- a half of another house
            rw [z1, if_pos hone, og_t hgb, hcb, ol_g]
            have e15 : τ1 (14 + 1) b = nI o := by rw [t3.c (by omega) (by omega)]; exact w15
            rw [e15, if_pos (by rw [x2]; exact x4), ol_g, og_t hgb2, x2, ol_g]
            unfold fX5_readWiths_b132
            have s1 : wX b τ1 (su τ1 (14 + 5) b (nI x)) := wX_su (Or.inr rfl) _
            have pe2 : Pend a n (tE a n (tE a n p)) (su τ1 (14 + 5) b (nI x)) (su μ1 102 (5 * b + 4) w1) := pe1.o (su_n2 (by omega)) (su_n2 (by omega)) (fun j _ _ => su_n2 (by omega))
            have hb2 := tok_b (a := a) hb.2.2.1
            obtain ⟨r2, τ2, y1, y2, y3⟩ := adv_s (tx.k (wσ.tr s1).k) pe2
            rw [y1]
            simp only [obp]
            rcases y3 with ⟨e1, e2, e3⟩ | ⟨e1, e2⟩
            · rw [e1, if_pos hone, nI_1, ol_g]
              have wX3 := (wσ.tr s1).tr (y2.w b)
              have wM3 := wρ.tr wρ2
              obtain ⟨r', τ', μ', i1, i2, i3, i4, i5⟩ := ih 1 ss (tE a n (tE a n p)) τ2 (su μ1 102 (5 * b + 4) w1) (by omega) (by omega) hss (tx.k wX3.k) (tp.k wM3.k) e3 ⟨ho, by rw [wX3 15 b (by omega)]; exact w15, by rw [wM3 102 _ (by omega)]; exact w102, by rw [y2 18 b (by omega), su_ne (by omega), t3 18 b (by omega)]; exact w18, by rw [su_j (by omega), t4.c (by omega), e102]; exact w1023, Or.inr ⟨rfl, x, x1, by rw [y2 19 b (by omega), su_s], by rw [su_s, x3], by
                  rw [su_ne (by omega), x5, v2 98 13 (by omega)]
                  exact qm.add x1 (by omega)⟩⟩
              rw [q0, Nat.zero_add, Nat.add_comm ss 1]
              refine ⟨r', τ', μ', i1, i2, wX3.tr i3, wM3.tr i4, ?_⟩
              rcases i5 with ⟨a1, hs', ss', p', a2, a3, a4, a5, a6, a7⟩ | a' | a'
              · refine Or.inl ⟨a1, hs', ss', p', a2, a3, by omega, a5, a6, ?_⟩
                rw [a7, su_ne (by omega), t4 98 11 (by omega), v2 98 11 (by omega)]
              · exact Or.inr (Or.inl a')
              · exact Or.inr (Or.inr a')
            · rw [e1, if_neg (fun q => q rfl), e2.b.h72]
              exact ⟨0, τ2, _, rfl, rfl, (wσ.tr s1).tr (y2.w b), (wρ.tr wρ2).tr (wM_su (Or.inl ⟨rfl, by omega⟩) _), Or.inr (Or.inr ⟨rfl, e2.m (su_j (by omega)) (su_j (by omega))⟩)⟩
          · -- a half of the owner's
            have hbad : bad (su μ1 102 (5 * b + 4) w1) := ⟨4, by omega, by omega, by rw [su_ne (by omega)]; exact x6⟩
            rw [z1, if_pos hone, og_t hgb, hcb, ol_g]
            have e15 : τ1 (14 + 1) b = nI o := by rw [t3.c (by omega) (by omega)]; exact w15
            rw [e15, if_neg (fun q => q (by rw [x2]; exact x3)), refuse_s, hbad.h72]
            have hb2 := tok_b (a := a) hb.2.2.1
            exact ⟨0, _, _, rfl, rfl, wσ.tr ((refuse_o τ1 4).w b), (wρ.tr wρ2).tr (wM_su (Or.inl ⟨rfl, by omega⟩) _), Or.inr (Or.inr ⟨rfl, flt_r (f := 4) (g := 4) (pl := tS a n (tE a n p)) (by omega) (by omega) (by omega) x4 (by rw [su_j (by omega), su_ne (by omega)]; exact x6) (by rw [su_j (by omega), su_ne (by omega)]; exact x7)⟩)⟩
          · have hbad : bad (su μ1 102 (5 * b + 4) w1) := fl.b.o (su_n2 (by omega))
            rw [z0, if_neg (fun q => q rfl), hbad.h72]
            exact ⟨0, τ1, _, rfl, rfl, wσ, (wρ.tr wρ2).tr (wM_su (Or.inl ⟨rfl, by omega⟩) _), Or.inr (Or.inr ⟨rfl, fl.m (by rw [su_j (by omega), su_ne (by omega)]) (by rw [su_j (by omega), su_ne (by omega)])⟩)⟩
      · rw [if_neg (by rw [q19']; exact nI_m4 (by omega)), again 10 (Or.inl rfl) (fun q => by have := u1.mp q; omega)]
        unfold fX5_readWiths_b65
        rw [refuse_og]
        exact againR
    · -- shut
      have e5 : r5 = 0 := o5.resolve_right (fun q => nn5 (m5.mp q).2)
      have e6 : r6 = 1 := m6.mpr ⟨k1, n6⟩
      rw [hX, hM, e5, e6, if_neg (fun q => q rfl), if_pos hone, if_neg (by decide)]
      unfold fX5_readWiths_b37
      rw [if_pos rfl, og_t hgb, hcb, ol_g]
      by_cases cs : ss = 0
      · have w18' : σ (14 + 4) b = 0 := by rw [show σ (14 + 4) b = σ 18 b from rfl, w18, cs]; rfl
        rw [if_pos w18', first 11 (1024 * hs + 2048 * 1) (Or.inr rfl) (u2.mpr cs) (u4 cs), v1]
        simp only [obp]
        unfold fX5_readWiths_b71 fX5_readWiths_b132
        rw [if_neg (fun q => q rfl), og_t hgb, hcb, ol_g]
        have s1 : wX b σ (su σ (14 + 4) b 1) := wX_su (Or.inl rfl) _
        by_cases cp : tK a n (tE a n p) = 4
        · have hbad : bad μ := ⟨1, by omega, by omega, (v3.f cp).1⟩
          have pe2 : Pend a n (tE a n p) (su σ (14 + 4) b 1) μ := ⟨by rw [su_ne (by omega)]; exact c1.2.1, v3, by rw [su_ne (by omega)]; exact c4, hb.2.2.1⟩
          obtain ⟨r2, τ2, y1, y2, y3⟩ := adv_s (tx.k s1.k) pe2
          rw [if_pos hbad.n, badT μ _ hbad, y1]
          simp only [obp]
          rcases y3 with ⟨e1, e2, e3⟩ | ⟨e1, e2⟩
          · have := e3.2.2.1
            omega
          · rw [e1, if_neg (fun q => q rfl)]
            exact ⟨0, τ2, _, rfl, rfl, s1.tr (y2.w b), (v2.w b).tr (wM_su (Or.inl ⟨rfl, by omega⟩) _), Or.inr (Or.inr ⟨rfl, e2.m (su_j (by omega)) (su_j (by omega))⟩)⟩
        · have g4 := (v3.g (by omega)).1
          have hgv := ix_ok (j := 5 * b + 3) (n := 80) (by omega) (by omega)
          have hcv : (nI (5 * b + 3)).toNatClampNeg = 5 * b + 3 := nI_clamp (by omega)
          rw [if_neg (fun q => q g4), if_neg (by decide), show (3 : Int32) = nI 3 from rfl, nI_add, ol_g, og_t hgv, hcv, ol_g]
          unfold fX11_readBell_b204
          have s2 : wM b μ (su μ 102 (5 * b + 3) 1) := wM_su (Or.inr ⟨rfl, by omega⟩) _
          have pe2 : Pend a n (tE a n p) (su σ (14 + 4) b 1) (su μ 102 (5 * b + 3) 1) := ⟨by rw [su_ne (by omega)]; exact c1.2.1, v3.o (fun j _ _ => su_n2 (by omega)), by rw [su_ne (by omega)]; exact c4, hb.2.2.1⟩
          obtain ⟨r2, τ2, y1, y2, y3⟩ := adv_s (tx.k s1.k) pe2
          rw [y1]
          simp only [obp]
          rcases y3 with ⟨e1, e2, e3⟩ | ⟨e1, e2⟩
          · rw [e1, if_pos hone, nI_1, ol_g]
            have wX3 := s1.tr (y2.w b)
            have wM3 := (v2.w b).tr s2
            obtain ⟨r', τ', μ', i1, i2, i3, i4, i5⟩ := ih hs 1 (tE a n p) τ2 (su μ 102 (5 * b + 3) 1) (by omega) hh (by omega) (tx.k wX3.k) (tp.k wM3.k) e3 ⟨ho, by rw [wX3 15 b (by omega)]; exact w15, by rw [wM3 102 _ (by omega)]; exact w102, by rw [y2 18 b (by omega), su_s]; rfl, by rw [su_s]; rfl, by
                have x19 : τ2 19 b = σ 19 b := by rw [y2 19 b (by omega), su_ne (by omega)]
                have x4 : su μ 102 (5 * b + 3) 1 102 (5 * b + 4) = ρ 102 (5 * b + 4) := by rw [su_j (by omega), v2 102 _ (by omega)]
                have x13 : su μ 102 (5 * b + 3) 1 98 13 = ρ 98 13 := by rw [su_ne (by omega), v2 98 13 (by omega)]
                rw [x19, x4, x13]
                exact w19⟩
            rw [cs, Nat.add_zero]
            refine ⟨r', τ', μ', i1, i2, wX3.tr i3, wM3.tr i4, ?_⟩
            rcases i5 with ⟨a1, hs', ss', p', a2, a3, a4, a5, a6, a7⟩ | a' | a'
            · refine Or.inl ⟨a1, hs', ss', p', a2, a3, by omega, a5, a6, ?_⟩
              rw [a7, su_ne (by omega), v2 98 11 (by omega)]
            · exact Or.inr (Or.inl a')
            · exact Or.inr (Or.inr a')
          · exfalso
            have := e2.b.n
            rw [su_ne (by omega)] at this
            exact this g4
      · have w18' : ¬ σ (14 + 4) b = 0 := by rw [show σ (14 + 4) b = σ 18 b from rfl, w18]; exact nI_ne0 (by omega) (by omega)
        rw [if_neg w18', again 11 (Or.inr rfl) (fun q => by have := u2.mp q; omega)]
        unfold fX5_readWiths_b65
        rw [refuse_og]
        exact againR
    · -- no with: the class leaves it to the end of the line
      have e5 : r5 = 0 := o5.resolve_right (fun q => nn5 (m5.mp q).2)
      have e6 : r6 = 0 := o6.resolve_right (fun q => nn6 (m6.mp q).2)
      rw [hX, hM, e5, e6, if_neg (fun q => q rfl), if_neg (fun q => q rfl), if_pos rfl]
      have hbad : bad (su (su ρ 98 22 2) 98 23 (ρ 98 19)) := ⟨2, by omega, by omega, by rw [su_j (by omega), su_s]; rfl⟩
      have hMM : fX11_readBell_b104 (fX11_readBell_h72 (m' + 1)) ρ (nI (5 * b)) (nI (1024 * hs + 2048 * ss)) (-4) 0 = some (0, su (su (su ρ 98 22 2) 98 23 (ρ 98 19)) 98 11 (su (su ρ 98 22 2) 98 23 (ρ 98 19) 98 11 + 1)) := by
        unfold fX11_readBell_b104 fX11_readBell_b123 fX11_readBell_b128 fX11_readBell_b146
        rw [needs_n _ g1]
        simp only [obp]
        rw [if_pos trivial, hbad.needs]
        simp only
        rw [if_neg (fun q => q trivial), ol_g, hbad.next]
        simp only
        rw [if_pos hbad.n, badT _ _ hbad]
      rw [hMM]
      refine ⟨1, σ, _, rfl, rfl, wX.rf b σ, ((wM_su (Or.inl ⟨rfl, by omega⟩) _).tr (wM_su (Or.inl ⟨rfl, by omega⟩) _)).tr (wM_su (Or.inl ⟨rfl, by omega⟩) _), Or.inr (Or.inl ⟨rfl, p, c5, c1, k1, c4, ?_, ?_⟩)⟩
      · rw [su_j (by omega), su_j (by omega), su_s]; rfl
      · rw [su_j (by omega), su_s]; exact c2.1
  · -- no name
    have e5 : r5 = 0 := o5.resolve_right (fun q => k1 (m5.mp q).1)
    have e6 : r6 = 0 := o6.resolve_right (fun q => k1 (m6.mp q).1)
    have hM : fX11_readBell_h72 (m' + 2) ρ (nI (5 * b)) (nI (1024 * hs + 2048 * ss)) = some (0, su ρ 98 11 (ρ 98 11 + 1)) := by
      rw [hM0]
      unfold fX11_readBell_b72 fX11_readBell_b207
      rw [if_neg n0, if_pos (fun q => k1 (e20.mp q))]
      rfl
    rw [hX, hM, e5, e6, if_neg (fun q => q rfl), if_neg (fun q => q rfl)]
    refine ⟨1, σ, _, rfl, rfl, wX.rf b σ, wM_su (Or.inl ⟨rfl, by omega⟩) _, Or.inl ⟨rfl, hs, ss, p, hh, hss, Nat.le_refl _, ⟨c1, c2.o (fun j _ _ => su_j (by omega)), c3, c4, c5⟩, ⟨ho, w15, by rw [su_ne (by omega)]; exact w102, w18, by rw [su_ne (by omega)]; exact w1023, by rw [su_ne (by omega), su_j (by omega)]; exact w19⟩, su_s⟩⟩
theorem wth_l {a : Nat → Nat} {n : Nat} (Q : Nat → Prop) {b o : Nat} (hb12 : b < 12) : ∀ (d hs ss m m' p : Nat) (σ ρ : S0), hs + ss + d = 2 → hs ≤ 1 → ss ≤ 1 → d < m → d + 1 < m' → TpX a n σ → TpM a n ρ → Cur a n p σ ρ → WB Q b o hs ss σ ρ → WC a n Q b o p σ ρ (fX5_readWiths_h2 m σ 14 (nI b) (nI (hs + ss))) (fX11_readBell_h72 m' ρ (nI (5 * b)) (nI (1024 * hs + 2048 * ss))) := by
  intro d
  induction d with
  | zero =>
    intro hs ss m m' p σ ρ h1 h2 h3 h4 h5 tx tp cu wb
    obtain ⟨m, rfl⟩ : ∃ q, m = q + 1 := ⟨m - 1, by omega⟩
    obtain ⟨m', rfl⟩ : ∃ q, m' = q + 2 := ⟨m' - 2, by omega⟩
    exact wth_st Q hb12 h2 h3 tx tp cu wb (fun hs' ss' p' σ' ρ' q1 q2 q3 => by omega)
  | succ d ih =>
    intro hs ss m m' p σ ρ h1 h2 h3 h4 h5 tx tp cu wb
    obtain ⟨m, rfl⟩ : ∃ q, m = q + 1 := ⟨m - 1, by omega⟩
    obtain ⟨m', rfl⟩ : ∃ q, m' = q + 2 := ⟨m' - 2, by omega⟩
    exact wth_st Q hb12 h2 h3 tx tp cu wb (fun hs' ss' p' σ' ρ' q1 q2 q3 tx' tp' cu' wb' => ih hs' ss' m (m' + 1) p' σ' ρ' (by omega) q2 q3 (by omega) (by omega) tx' tp' cu' wb')
end
section
/-! THE TEXT: a line of a bell -/
def rb3 (σ : S0) (v1 r14 : Int32) : Option (Int32 × S0) := ol (v1 + 2) (fun v17 => og (¬ (v17 < 0 ∨ 80 ≤ v17.toNatClampNeg)) (ol (su σ 102 v17.toNatClampNeg r14) (fun σ19 => ol (v1 + 3) (fun v20 => og (¬ (v20 < 0 ∨ 80 ≤ v20.toNatClampNeg)) (ol (su σ19 102 v20.toNatClampNeg 0) (fun σ22 => ol (v1 + 4) (fun v23 => og (¬ (v23 < 0 ∨ 80 ≤ v23.toNatClampNeg)) (ol (su σ22 102 v23.toNatClampNeg ((-4))) (fun σ25 => fX11_readBell_h72 400 σ25 v1 0)))))))))
def rb2 (σ : S0) (v1 r8 : Int32) : Option (Int32 × S0) := ol (v1 + 1) (fun v11 => og (¬ (v11 < 0 ∨ 80 ≤ v11.toNatClampNeg)) (ol (su σ 102 v11.toNatClampNeg r8) (fun σ13 => obp (fX11_readNumber σ13 ((0 : Int32)) ((9 : Int32))) (fun r14 σ15 => rb3 σ15 v1 r14))))
def rb1 (σ : S0) (v1 r2 : Int32) : Option (Int32 × S0) := ol (v1 + 0) (fun v5 => og (¬ (v5 < 0 ∨ 80 ≤ v5.toNatClampNeg)) (ol (su σ 102 v5.toNatClampNeg r2) (fun σ7 => obp (fX11_readNumber σ7 ((0 : Int32)) ((20 : Int32))) (fun r8 σ9 => rb2 σ9 v1 r8))))
theorem rb_e (σ : S0) : fX11_readBell σ = ol (5 * (σ 98 11)) (fun v1 => obp (fX11_readHouse σ (((-4) : Int32))) (fun r2 σ3 => rb1 σ3 v1 r2)) := rfl
theorem rb1_e (σ : S0) {B : Nat} (hB : B < 12) (r : Int32) : rb1 σ (nI (5 * B)) r = obp (fX11_readNumber (su σ 102 (5 * B) r) 0 20) (fun r8 σ9 => rb2 σ9 (nI (5 * B)) r8) := by
  unfold rb1
  rw [Int32.add_zero, ol_g, og_t (ix_ok (by omega) (by omega)), nI_clamp (by omega), ol_g]
theorem rb2_e (σ : S0) {B : Nat} (hB : B < 12) (r : Int32) : rb2 σ (nI (5 * B)) r = obp (fX11_readNumber (su σ 102 (5 * B + 1) r) 0 9) (fun r8 σ9 => rb3 σ9 (nI (5 * B)) r8) := by
  unfold rb2
  rw [nI_1, ol_g, og_t (ix_ok (by omega) (by omega)), nI_clamp (by omega), ol_g]
theorem rb3_e (σ : S0) {B : Nat} (hB : B < 12) (r : Int32) : rb3 σ (nI (5 * B)) r = fX11_readBell_h72 400 (su (su (su σ 102 (5 * B + 2) r) 102 (5 * B + 3) 0) 102 (5 * B + 4) (-4)) (nI (5 * B)) 0 := by
  unfold rb3
  rw [show (2 : Int32) = nI 2 from rfl, show (3 : Int32) = nI 3 from rfl, show (4 : Int32) = nI 4 from rfl, nI_add, nI_add, nI_add, ol_g, og_t (ix_ok (by omega) (by omega)), nI_clamp (by omega), ol_g, ol_g, og_t (ix_ok (by omega) (by omega)), nI_clamp (by omega), ol_g, ol_g, og_t (ix_ok (by omega) (by omega)), nI_clamp (by omega), ol_g]
/-- what a line of a bell changes in the reference -/
def bM (b : Nat) (σ τ : S0) : Prop := ∀ k j, ¬ ((k = 98 ∧ (j = 11 ∨ j = 13 ∨ 18 ≤ j ∧ j ≤ 23)) ∨ (k = 102 ∧ 5 * b ≤ j ∧ j < 5 * b + 5)) → τ k j = σ k j
theorem bM.tr {b : Nat} {x y z : S0} (h1 : bM b x y) (h2 : bM b y z) : bM b x z := fun k j h => (h2 k j h).trans (h1 k j h)
theorem bM.k {b : Nat} {x y : S0} (h : bM b x y) : kM x y := fun k j q => h k j (fun z => q (by unfold scM; omega))
theorem on9.b {x y : S0} (h : on9 x y) (b : Nat) : bM b x y := fun k j q => h k j (by omega)
theorem on8.b {x y : S0} (h : on8 x y) (b : Nat) : bM b x y := fun k j q => h k j (by omega)
theorem wM.b {x y : S0} {b : Nat} (h : wM b x y) : bM b x y := fun k j q => h k j (by omega)
theorem bM_su {b j : Nat} {σ : S0} (h : 5 * b ≤ j ∧ j < 5 * b + 5) (v : Int32) : bM b σ (su σ 102 j v) := fun x y q => by
  by_cases hx : x = 102
  · subst hx; exact su_j (fun z => q (by omega))
  · rw [su_ne hx]
theorem bad.rb3 {σ : S0} (h : bad σ) {B : Nat} (hB : B < 12) (r : Int32) : ∃ μ, rb3 σ (nI (5 * B)) r = some (0, μ) ∧ bM B σ μ ∧ μ 98 22 = σ 98 22 ∧ μ 98 23 = σ 98 23 := by
  have hbad : bad (su (su (su σ 102 (5 * B + 2) r) 102 (5 * B + 3) 0) 102 (5 * B + 4) (-4)) := h.o (by rw [su_ne (by omega), su_ne (by omega), su_ne (by omega)])
  refine ⟨_, (rb3_e σ hB r).trans (hbad.h72 399 _ _), ((bM_su (by omega) _).tr (bM_su (by omega) _)).tr ((bM_su (by omega) _).tr (wM.b (wM_su (Or.inl ⟨rfl, by omega⟩) _))), ?_, ?_⟩
  · rw [su_j (by omega), su_ne (by omega), su_ne (by omega), su_ne (by omega)]
  · rw [su_j (by omega), su_ne (by omega), su_ne (by omega), su_ne (by omega)]
theorem bad.rb2 {σ : S0} (h : bad σ) {B : Nat} (hB : B < 12) (r : Int32) : ∃ μ, rb2 σ (nI (5 * B)) r = some (0, μ) ∧ bM B σ μ ∧ μ 98 22 = σ 98 22 ∧ μ 98 23 = σ 98 23 := by
  have hbad : bad (su σ 102 (5 * B + 1) r) := h.o (su_n2 (by omega))
  obtain ⟨μ, h1, h2, h3, h4⟩ := hbad.rb3 hB 0
  refine ⟨μ, ?_, (bM_su (by omega) _).tr h2, h3.trans (su_n2 (by omega)), h4.trans (su_n2 (by omega))⟩
  rw [rb2_e σ hB, hbad.num]
  exact h1
theorem bad.rb1 {σ : S0} (h : bad σ) {B : Nat} (hB : B < 12) (r : Int32) : ∃ μ, rb1 σ (nI (5 * B)) r = some (0, μ) ∧ bM B σ μ ∧ μ 98 22 = σ 98 22 ∧ μ 98 23 = σ 98 23 := by
  have hbad : bad (su σ 102 (5 * B) r) := h.o (su_n2 (by omega))
  obtain ⟨μ, h1, h2, h3, h4⟩ := hbad.rb2 hB 0
  refine ⟨μ, ?_, (bM_su (by omega) _).tr h2, h3.trans (su_n2 (by omega)), h4.trans (su_n2 (by omega))⟩
  rw [rb1_e σ hB, hbad.num]
  exact h1
theorem DR.b {σ τ ρ μ : S0} (h : DR σ ρ) {B : Nat} (hB : DBs σ ρ B) (hB12 : B < 12) (x : ∀ k, 4 ≤ k → k ≤ 21 → (k < 14 ∨ 19 < k) → τ k = σ k) (x0 : τ 14 0 = nI (B + 1)) (x7 : τ 14 7 = σ 14 7) (x15 : ∀ k j, 15 ≤ k → k ≤ 19 → j ≠ B → τ k j = σ k j) (x3 : ∀ j, j ≤ 4 → τ 3 j = σ 3 j) (y : ∀ j, 9 ≤ j → j ≤ 15 → j ≠ 11 → j ≠ 13 → μ 98 j = ρ 98 j) (y11 : μ 98 11 = nI (B + 1)) (y2 : ∀ j, ¬ (5 * B ≤ j ∧ j < 5 * B + 5) → μ 102 j = ρ 102 j) (y3 : μ 103 = ρ 103) (db : DB τ μ B) (hm : Mx 6 (μ 98 13) (th μ (B + 1))) : DR τ μ := by
  obtain ⟨h0, h1, h2, h3, -, T, hT, hN⟩ := h
  refine ⟨h0.c (by rw [x 4 (by omega) (by omega) (by omega)]) (by rw [x 4 (by omega) (by omega) (by omega)]) (y 9 (by omega) (by omega) (by omega) (by omega)) (y 10 (by omega) (by omega) (by omega) (by omega)), h1.c (x3 2 (by omega)) (x3 3 (by omega)) (y 15 (by omega) (by omega) (by omega) (by omega)), h2.c (x 20 (by omega) (by omega) (by omega)) (fun j _ _ => y2 j (by omega)), h3.c x7 (y2 66 (by omega)), ⟨B + 1, ⟨by omega, x0, y11, fun b hb => ?_⟩, hm⟩, T, ⟨hT.1, by rw [x 4 (by omega) (by omega) (by omega)]; exact hT.2.1, by rw [y 12 (by omega) (by omega) (by omega) (by omega)]; exact hT.2.2.1, fun t ht => (hT.2.2.2 t ht).c (by rw [x 5 (by omega) (by omega) (by omega)]) (by rw [x 6 (by omega) (by omega) (by omega)]) (x (8 + t) (by omega) (by have := hT.1; omega) (by have := hT.1; omega)) (fun j _ _ => by rw [y3])⟩, ?_⟩
  · by_cases q : b = B
    · rw [q]; exact db
    · exact (hB.2.2.2 b (by omega)).c (fun k k1 k2 => x15 k b k1 k2 q) (fun j j1 j2 => y2 j (by omega))
  · rw [y 14 (by omega) (by omega) (by omega) (by omega)]
    unfold sbr at hN ⊢
    rw [y3]
    exact hN
theorem b17_2 {ρ : S0} (g1 : ρ 98 22 = 0) (hl : ¬ (12 : Int32) ≤ ρ 98 11) : fX11_readLine_b17 ρ 2 = fX11_readLine_b117 ρ 2 := by
  unfold fX11_readLine_b17 fX11_readLine_b30 fX11_readLine_b49 fX11_readLine_b63 fX11_readLine_b68
  rw [if_neg (by decide), needs_y _ (by decide)]
  simp only [obp]
  rw [if_neg (by decide), if_neg hl, if_pos (by decide), needs_y _ (by decide)]
  simp only
  rw [if_neg (fun q => q g1), if_pos (by decide)]
theorem b17_2f {ρ : S0} (g1 : ρ 98 22 = 0) (hl : (12 : Int32) ≤ ρ 98 11) : fX11_readLine_b17 ρ 2 = some (0, su (su ρ 98 22 5) 98 23 (ρ 98 19)) := by
  have hbad : bad (su (su ρ 98 22 5) 98 23 (ρ 98 19)) := ⟨5, by omega, by omega, by rw [su_j (by omega), su_s]; rfl⟩
  unfold fX11_readLine_b17 fX11_readLine_b30 fX11_readLine_b67 fX11_readLine_b68
  rw [if_neg (by decide), needs_y _ (by decide)]
  simp only [obp]
  rw [if_neg (by decide), if_pos hl, needs_n _ g1]
  simp only
  rw [if_pos hbad.n, hbad.b117]
/-- what a line of a bell changes in the class -/
def bX (b : Nat) (σ τ : S0) : Prop := ∀ k j, ¬ ((k = 1 ∧ 2 ≤ j ∧ j ≤ 5) ∨ (k = 3 ∧ (j = 5 ∨ j = 6)) ∨ (k = 14 ∧ j = 0) ∨ (15 ≤ k ∧ k ≤ 19 ∧ j = b)) → τ k j = σ k j
theorem bX.tr {b : Nat} {x y z : S0} (h1 : bX b x y) (h2 : bX b y z) : bX b x z := fun k j h => (h2 k j h).trans (h1 k j h)
theorem bX.k {b : Nat} {x y : S0} (h : bX b x y) : kX x y := fun k j q => h k j (fun z => q (by unfold scX; omega))
theorem onA.b {x y : S0} (h : onA x y) (b : Nat) : bX b x y := fun k j q => h k j (by omega)
theorem wX.b {x y : S0} {b : Nat} (h : wX b x y) : bX b x y := fun k j q => h k j (by omega)
theorem bX_su {b k j : Nat} {σ : S0} (h : (k = 14 ∧ j = 0) ∨ (15 ≤ k ∧ k ≤ 19 ∧ j = b)) (v : Int32) : bX b σ (su σ k j v) := fun x y q => by
  by_cases hx : x = k
  · subst hx; exact su_j (fun z => q (by omega))
  · rw [su_ne hx]
theorem ln_bell {a : Nat → Nat} {n p : Nat} {σ ρ : S0} (tx : TpX a n σ) (tp : TpM a n ρ) (h : Cur a n p σ ρ) (d : DR σ ρ) (hk : tK a n p = 1) : ∃ r τ μ, fX5_readBell σ = some (r, τ) ∧ fX11_readLine_b17 ρ 2 = some (0, μ) ∧ (r = 0 ∨ r = 1) ∧ LR a n p σ ρ r τ μ := by
  obtain ⟨h1, h2, h3, h4, h5⟩ := h
  have hn := tp.1
  have hone : ¬ (1 : Int32) = 0 := by decide
  have hb := tok_b (a := a) h5
  have hlt := hb.2.2.2 (by omega)
  have hb2 := tok_b (a := a) hb.2.2.1
  have hb3 := tok_b (a := a) hb2.2.2.1
  have hb4 := tok_b (a := a) hb3.2.2.1
  obtain ⟨g1, g2, g3⟩ := h2.g h3
  obtain ⟨B, hB, hM⟩ := d.2.2.2.2.1
  have hB12 := hB.1
  have lx : σ 14 0 < 12 ↔ B < 12 := by rw [hB.2.1]; exact nI_ltI (b := 12) (by omega) (by omega)
  have lm' : (12 : Int32) ≤ ρ 98 11 ↔ 12 ≤ B := by rw [hB.2.2.1]; exact nI_leI (a := 12) (by omega) (by omega)
  unfold fX5_readBell
  by_cases cB : B < 12
  · have hgb := ix_ok (j := B) (n := 12) cB (by omega)
    have hcb : (nI B).toNatClampNeg = B := nI_clamp (by omega)
    have hgb2 : ¬ (nI B < 0 ∨ 12 ≤ B) := fun q => hgb (by rw [hcb]; exact q)
    rw [if_pos (lx.mpr cB), b17_2 g1 (fun q => by have := lm'.mp q; omega), ol_g, hB.2.1]
    simp only [og_t hgb, og_t hgb2, hcb, ol_g]
    have bs0 : bX B σ (su (su σ 19 B (-4)) 18 B 0) := (bX_su (Or.inr (by omega)) _).tr (bX_su (Or.inr (by omega)) _)
    have e19 : su (su σ 19 B (-4)) 18 B 0 19 B = -4 := by rw [su_ne (by omega), su_s]
    have e18 : su (su σ 19 B (-4)) 18 B 0 18 B = 0 := su_s
    have f12 : su (su σ 19 B (-4)) 18 B 0 1 2 = σ 1 2 := by rw [su_ne (by omega), su_ne (by omega)]
    have f35 : su (su σ 19 B (-4)) 18 B 0 3 5 = σ 3 5 := by rw [su_ne (by omega), su_ne (by omega)]
    have c140 : su (su σ 19 B (-4)) 18 B 0 14 0 = nI B := by rw [su_ne (by omega), su_ne (by omega)]; exact hB.2.1
    generalize su (su σ 19 B (-4)) 18 B 0 = σ1 at bs0 e19 e18 f12 f35 c140
    have l1 : σ1 3 4 = σ 3 4 := bs0 3 4 (by omega)
    have tx1 := tx.k bs0.k
    obtain ⟨μ, m1, m2, m3⟩ := b117_s h2 h3 tp h5 2
    have tp1 := tp.k m1.k
    have pe : Pend a n (tE a n p) σ1 μ := ⟨f12.trans h1.2.1, m2, f35.trans h4, hb.2.2.1⟩
    rcases m3 with ⟨c4, m3⟩ | ⟨c3, m3⟩
    · obtain ⟨τ, t1, t2, t3⟩ := nn_bad (lo := 0) (hi := 5) tx1 pe (by omega) (by omega) c4
      have t1' : fX5_nextNumber σ1 0 5 = some (0, τ) := t1
      rw [t1']
      simp only [obp]
      exact ⟨0, τ, μ, by rw [if_neg (by decide)], m3, Or.inl rfl, bs0.k.tr t2.k, m1.k, (t2 3 4 (by omega)).trans l1, Or.inr ⟨rfl, t3⟩⟩
    · obtain ⟨r1, τ1, w1, μ1, t1, t2, t3, t4, t5⟩ := rh_s tx1 tp1 pe (-4)
      have t1' : fX5_nextNumber σ1 0 5 = some (r1, τ1) := t1
      have e11 : μ 98 11 = nI B := by rw [m1 98 11 (by omega)]; exact hB.2.2.1
      have i5 : (5 : Int32) * nI B = nI (5 * B) := by rw [show (5 : Int32) = nI 5 from rfl, pk_mul]
      have hMM : swM 2 μ = obp (rb1 μ1 (nI (5 * B)) w1) (fun _ σ11 => fX11_readLine_b206 σ11) := by
        rw [sw_2, rb_e, e11, i5, ol_g, t2]
        rfl
      rw [t1', m3, hMM]
      simp only [obp]
      have bσ1 := bs0.tr (t3.b B)
      have bρ1 := (m1.b B).tr (t4.b B)
      have l2 : τ1 3 4 = σ 3 4 := (t3 3 4 (by omega)).trans l1
      rcases t5 with ⟨q1, o1, x, x1, x2, x3, x4, x5, pe1⟩ | ⟨q1, o1, x, x1, x2, x3, -⟩ | ⟨q0, q1, fl⟩
      · rw [q1, if_pos hone, x2, x3, rb1_e μ1 cB]
        have bs1 : bX B τ1 (su τ1 15 B (nI x)) := bX_su (Or.inr (by omega)) _
        have bm1 : bM B μ1 (su μ1 102 (5 * B) (nI x)) := bM_su (by omega) _
        have pe1' : Pend a n (tE a n (tE a n p)) (su τ1 15 B (nI x)) (su μ1 102 (5 * B) (nI x)) := pe1.o (su_n2 (by omega)) (su_n2 (by omega)) (fun j _ _ => su_n2 (by omega))
        have bσ2 := bσ1.tr bs1
        have bρ2 := bρ1.tr bm1
        have f15 : su τ1 15 B (nI x) 15 B = nI x := su_s
        have f19 : su τ1 15 B (nI x) 19 B = -4 := by rw [su_ne (by omega), t3 19 B (by omega)]; exact e19
        have f18 : su τ1 15 B (nI x) 18 B = 0 := by rw [su_ne (by omega), t3 18 B (by omega)]; exact e18
        have l3 : su τ1 15 B (nI x) 3 4 = σ 3 4 := (su_n2 (by omega)).trans l2
        have y0 : su μ1 102 (5 * B) (nI x) 102 (5 * B) = nI x := su_s
        have y13 : su μ1 102 (5 * B) (nI x) 98 13 = mxI (ρ 98 13) x := by rw [su_ne (by omega), x5, m1 98 13 (by omega)]
        have y11 : su μ1 102 (5 * B) (nI x) 98 11 = nI B := by rw [su_ne (by omega), t4 98 11 (by omega)]; exact e11
        have d140 : su τ1 15 B (nI x) 14 0 = nI B := by rw [su_ne (by omega), t3 14 0 (by omega)]; exact c140
        generalize su τ1 15 B (nI x) = σ2 at pe1' bσ2 f15 f19 f18 l3 d140
        generalize su μ1 102 (5 * B) (nI x) = ρ2 at pe1' bρ2 y0 y13 y11
        obtain ⟨r2, τ2, v2, μ2, s1, s2, s3, s4, s5⟩ := rn_s (lo := 0) (hi := 20) (tx.k bσ2.k) (tp.k bρ2.k) pe1' (by omega) (by omega)
        have s1' : fX5_nextNumber σ2 0 20 = some (r2, τ2) := s1
        have s2' : fX11_readNumber ρ2 0 20 = some (v2, μ2) := s2
        rw [s1', s2']
        simp only [obp]
        have bσ3 := bσ2.tr (s3.b B)
        have bρ3 := bρ2.tr (s4.b B)
        rcases s5 with ⟨q2, o2, f, z1, z2, z3, z4, pe2⟩ | ⟨q0, q1', fl⟩
        · rw [q2, if_pos hone, z4, z3, rb2_e μ2 cB]
          have bs2 : bX B τ2 (su τ2 16 B (nI f)) := bX_su (Or.inr (by omega)) _
          have bm2 : bM B μ2 (su μ2 102 (5 * B + 1) (nI f)) := bM_su (by omega) _
          have pe2' : Pend a n (tE a n (tE a n (tE a n p))) (su τ2 16 B (nI f)) (su μ2 102 (5 * B + 1) (nI f)) := pe2.o (su_n2 (by omega)) (su_n2 (by omega)) (fun j _ _ => su_n2 (by omega))
          have bσ4 := bσ3.tr bs2
          have bρ4 := bρ3.tr bm2
          have f16 : su τ2 16 B (nI f) 16 B = nI f := su_s
          have f15 : su τ2 16 B (nI f) 15 B = nI x := by rw [su_ne (by omega), s3 15 B (by omega)]; exact f15
          have f19 : su τ2 16 B (nI f) 19 B = -4 := by rw [su_ne (by omega), s3 19 B (by omega)]; exact f19
          have f18 : su τ2 16 B (nI f) 18 B = 0 := by rw [su_ne (by omega), s3 18 B (by omega)]; exact f18
          have l4 : su τ2 16 B (nI f) 3 4 = σ 3 4 := by rw [su_ne (by omega), s3 3 4 (by omega)]; exact l3
          have y1 : su μ2 102 (5 * B + 1) (nI f) 102 (5 * B + 1) = nI f := su_s
          have y0 : su μ2 102 (5 * B + 1) (nI f) 102 (5 * B) = nI x := by rw [su_j (by omega), s4.c (by omega)]; exact y0
          have y13 : su μ2 102 (5 * B + 1) (nI f) 98 13 = mxI (ρ 98 13) x := by rw [su_ne (by omega), s4 98 13 (by omega)]; exact y13
          have y11 : su μ2 102 (5 * B + 1) (nI f) 98 11 = nI B := by rw [su_ne (by omega), s4 98 11 (by omega)]; exact y11
          have h140 : su τ2 16 B (nI f) 14 0 = nI B := by rw [su_ne (by omega), s3 14 0 (by omega)]; exact d140
          generalize su τ2 16 B (nI f) = σ3 at pe2' bσ4 f16 f15 f19 f18 l4 h140
          generalize su μ2 102 (5 * B + 1) (nI f) = ρ3 at pe2' bρ4 y1 y0 y13 y11
          obtain ⟨r3, τ3, v3, μ3, k1, k2, k3, k4, k5⟩ := rn_s (lo := 0) (hi := 9) (tx.k bσ4.k) (tp.k bρ4.k) pe2' (by omega) (by omega)
          have k1' : fX5_nextNumber σ3 0 9 = some (r3, τ3) := k1
          have k2' : fX11_readNumber ρ3 0 9 = some (v3, μ3) := k2
          rw [k1', k2']
          simp only [obp]
          have bσ5 := bσ4.tr (k3.b B)
          have bρ5 := bρ4.tr (k4.b B)
          rcases k5 with ⟨q3, o3, g, j1, j2, j3, j4, pe3⟩ | ⟨q0, q1'', fl⟩
          · have e140 : su τ3 17 B (nI g) 14 0 + 1 = nI (B + 1) := by rw [su_ne (by omega), k3 14 0 (by omega), h140, nI_1]
            rw [q3, if_pos hone, j4, j3, rb3_e μ3 cB, e140]
            have bs3 : bX B τ3 (su (su τ3 17 B (nI g)) 14 0 (nI (B + 1))) := (bX_su (Or.inr (by omega)) _).tr (bX_su (Or.inl ⟨rfl, rfl⟩) _)
            have bm3 : bM B μ3 (su (su (su μ3 102 (5 * B + 2) (nI g)) 102 (5 * B + 3) 0) 102 (5 * B + 4) (-4)) := ((bM_su (by omega) _).tr (bM_su (by omega) _)).tr (bM_su (by omega) _)
            have pe3' : Pend a n (tE a n (tE a n (tE a n (tE a n p)))) (su (su τ3 17 B (nI g)) 14 0 (nI (B + 1))) (su (su (su μ3 102 (5 * B + 2) (nI g)) 102 (5 * B + 3) 0) 102 (5 * B + 4) (-4)) := pe3.o (by rw [su_ne (by omega), su_ne (by omega)]) (by rw [su_ne (by omega), su_ne (by omega)]) (fun j _ _ => by rw [su_ne (by omega), su_ne (by omega), su_ne (by omega)])
            have bσ6 := bσ5.tr bs3
            have bρ6 := bρ5.tr bm3
            have f17 : su (su τ3 17 B (nI g)) 14 0 (nI (B + 1)) 17 B = nI g := by rw [su_ne (by omega), su_s]
            have f16 : su (su τ3 17 B (nI g)) 14 0 (nI (B + 1)) 16 B = nI f := by rw [su_ne (by omega), su_ne (by omega), k3 16 B (by omega)]; exact f16
            have f15 : su (su τ3 17 B (nI g)) 14 0 (nI (B + 1)) 15 B = nI x := by rw [su_ne (by omega), su_ne (by omega), k3 15 B (by omega)]; exact f15
            have f19 : su (su τ3 17 B (nI g)) 14 0 (nI (B + 1)) 19 B = -4 := by rw [su_ne (by omega), su_ne (by omega), k3 19 B (by omega)]; exact f19
            have f18 : su (su τ3 17 B (nI g)) 14 0 (nI (B + 1)) 18 B = 0 := by rw [su_ne (by omega), su_ne (by omega), k3 18 B (by omega)]; exact f18
            have l5 : su (su τ3 17 B (nI g)) 14 0 (nI (B + 1)) 3 4 = σ 3 4 := by rw [su_ne (by omega), su_ne (by omega), k3 3 4 (by omega)]; exact l4
            have h140 : su (su τ3 17 B (nI g)) 14 0 (nI (B + 1)) 14 0 = nI (B + 1) := su_s
            have y4 : su (su (su μ3 102 (5 * B + 2) (nI g)) 102 (5 * B + 3) 0) 102 (5 * B + 4) (-4) 102 (5 * B + 4) = -4 := su_s
            have y3 : su (su (su μ3 102 (5 * B + 2) (nI g)) 102 (5 * B + 3) 0) 102 (5 * B + 4) (-4) 102 (5 * B + 3) = 0 := by rw [su_j (by omega), su_s]
            have y2 : su (su (su μ3 102 (5 * B + 2) (nI g)) 102 (5 * B + 3) 0) 102 (5 * B + 4) (-4) 102 (5 * B + 2) = nI g := by rw [su_j (by omega), su_j (by omega), su_s]
            have y1 : su (su (su μ3 102 (5 * B + 2) (nI g)) 102 (5 * B + 3) 0) 102 (5 * B + 4) (-4) 102 (5 * B + 1) = nI f := by rw [su_j (by omega), su_j (by omega), su_j (by omega), k4.c (by omega)]; exact y1
            have y0 : su (su (su μ3 102 (5 * B + 2) (nI g)) 102 (5 * B + 3) 0) 102 (5 * B + 4) (-4) 102 (5 * B) = nI x := by rw [su_j (by omega), su_j (by omega), su_j (by omega), k4.c (by omega)]; exact y0
            have y13 : su (su (su μ3 102 (5 * B + 2) (nI g)) 102 (5 * B + 3) 0) 102 (5 * B + 4) (-4) 98 13 = mxI (ρ 98 13) x := by rw [su_ne (by omega), su_ne (by omega), su_ne (by omega), k4 98 13 (by omega)]; exact y13
            have y11 : su (su (su μ3 102 (5 * B + 2) (nI g)) 102 (5 * B + 3) 0) 102 (5 * B + 4) (-4) 98 11 = nI B := by rw [su_ne (by omega), su_ne (by omega), su_ne (by omega), k4 98 11 (by omega)]; exact y11
            generalize su (su τ3 17 B (nI g)) 14 0 (nI (B + 1)) = σ4 at pe3' bσ6 f17 f16 f15 f19 f18 l5 h140
            generalize su (su (su μ3 102 (5 * B + 2) (nI g)) 102 (5 * B + 3) 0) 102 (5 * B + 4) (-4) = ρ4 at pe3' bρ6 y4 y3 y2 y1 y0 y13 y11
            obtain ⟨r5, τ5, n1, n2, n3⟩ := adv_s (tx.k bσ6.k) pe3'
            rw [n1]
            simp only
            rcases n3 with ⟨e1, e2, e3⟩ | ⟨e1, e2⟩
            · rw [e1, if_neg hone]
              obtain ⟨r6, τ6, μ6, i1, i2, i3, i4, i5'⟩ := wth_l (o := x) (fun y => th ρ B y ∨ y = x) cB 2 0 0 400 400 _ τ5 ρ4 (by omega) (by omega) (by omega) (by omega) (by omega) (tx.k (bσ6.k.tr n2.k)) (tp.k bρ6.k) e3 ⟨x1, by rw [n2 15 B (by omega)]; exact f15, y0, by rw [n2 18 B (by omega)]; exact f18, y3, Or.inl ⟨rfl, by rw [n2 19 B (by omega)]; exact f19, y4, by rw [y13]; exact hM.add x1 (by omega)⟩⟩
              have i1' : fX5_readWiths τ5 14 (nI B) = some (r6, τ6) := i1
              have i2' : fX11_readBell_h72 400 ρ4 (nI (5 * B)) 0 = some (0, μ6) := i2
              rw [i1', i2']
              simp only
              have bσ7 := (bσ6.tr (n2.b B)).tr i3.b
              have bρ7 := bρ6.tr i4.b
              have l7 : τ6 3 4 = σ 3 4 := by rw [i3 3 4 (by omega), n2 3 4 (by omega)]; exact l5
              rcases i5' with ⟨a1, hs, ss, p', a2, a3, a4, a5, a6, a7⟩ | ⟨a1, p', a2, a3, a4, a5, a6, a7⟩ | ⟨a1, a2⟩
              · rw [a1, if_neg hone]
                obtain ⟨r7, τ7, μ7, w1, w2, w3, w4, w5⟩ := end_s (tx.k bσ7.k) (tp.k bρ7.k) a5
                have hb5 := tok_b (a := a) a5.2.2.2.2
                rw [w1, w2]
                simp only
                obtain ⟨b1, b2, b3, b4, b5, b6⟩ := a6
                have dr : DR τ6 μ6 := d.b hB cB (fun k u1 u2 u3 => funext fun j => bσ7 k j (by omega)) (by rw [i3 14 0 (by omega), n2 14 0 (by omega)]; exact h140) (bσ7 14 7 (by omega)) (fun k j u1 u2 u3 => bσ7 k j (by omega)) (fun j hj => bσ7 3 j (by omega)) (fun j u1 u2 u3 u4 => bρ7 98 j (by omega)) (by rw [a7, y11, nI_1]) (fun j hj => bρ7 102 j (by omega)) (funext fun j => bρ7 103 j (by omega))
                  ⟨⟨x, x1, b2, b3⟩, ⟨f, z2, by rw [i3 16 B (by omega), n2 16 B (by omega)]; exact f16, by rw [i4 102 _ (by omega)]; exact y1⟩, ⟨g, j2, by rw [i3 17 B (by omega), n2 17 B (by omega)]; exact f17, by rw [i4 102 _ (by omega)]; exact y2⟩, by
                    rw [b4, b5]
                    rcases (show ss = 0 ∨ ss = 1 by omega) with rfl | rfl
                    · exact Or.inl ⟨rfl, rfl⟩
                    · exact Or.inr ⟨rfl, rfl⟩, by
                    rcases b6 with ⟨-, c1, c2, -⟩ | ⟨-, hh, c0, c1, c2, -⟩
                    · exact Or.inl ⟨c1, c2⟩
                    · exact Or.inr ⟨hh, c0, c1, c2⟩⟩
                  (by
                    have old : ∀ b, b < B → μ6 102 (5 * b) = ρ 102 (5 * b) ∧ μ6 102 (5 * b + 4) = ρ 102 (5 * b + 4) := fun b hb' => ⟨bρ7 102 _ (by omega), bρ7 102 _ (by omega)⟩
                    have old2 : ∀ y, μ6 102 (60 + y) = ρ 102 (60 + y) := fun y => bρ7 102 _ (by omega)
                    rcases b6 with ⟨-, c1, c2, c3⟩ | ⟨-, hh, c0, c1, c2, c3⟩
                    · refine c3.cg (fun y hy => ?_)
                      unfold th
                      rw [old2]
                      constructor
                      · rintro ((⟨b, u1, u2⟩ | u) | u)
                        · exact Or.inl ⟨b, by omega, by rw [(old b u1).1, (old b u1).2]; exact u2⟩
                        · exact Or.inr u
                        · exact Or.inl ⟨B, by omega, Or.inl (by rw [b3, u])⟩
                      · rintro (⟨b, u1, u2⟩ | u)
                        · by_cases c : b = B
                          · subst c
                            rcases u2 with u2 | u2
                            · exact Or.inr ((nI_eq (by omega) (by omega)).mp (b3.symm.trans u2)).symm
                            · exact absurd (c2.symm.trans u2).symm (nI_m4 (by omega))
                          · rw [(old b (by omega)).1, (old b (by omega)).2] at u2
                            exact Or.inl (Or.inl ⟨b, by omega, u2⟩)
                        · exact Or.inl (Or.inr u)
                    · refine c3.cg (fun y hy => ?_)
                      unfold th
                      rw [old2]
                      constructor
                      · rintro (((⟨b, u1, u2⟩ | u) | u) | u)
                        · exact Or.inl ⟨b, by omega, by rw [(old b u1).1, (old b u1).2]; exact u2⟩
                        · exact Or.inr u
                        · exact Or.inl ⟨B, by omega, Or.inl (by rw [b3, u])⟩
                        · exact Or.inl ⟨B, by omega, Or.inr (by rw [c2, u])⟩
                      · rintro (⟨b, u1, u2⟩ | u)
                        · by_cases c : b = B
                          · subst c
                            rcases u2 with u2 | u2
                            · exact Or.inl (Or.inr ((nI_eq (by omega) (by omega)).mp (b3.symm.trans u2)).symm)
                            · exact Or.inr ((nI_eq (by omega) (by omega)).mp (c2.symm.trans u2)).symm
                          · rw [(old b (by omega)).1, (old b (by omega)).2] at u2
                            exact Or.inl (Or.inl (Or.inl ⟨b, by omega, u2⟩))
                        · exact Or.inl (Or.inl (Or.inr u)))
                rcases w5 with ⟨e1, e2⟩ | ⟨e1, e2⟩
                · rw [e1, if_neg hone]
                  exact ⟨1, τ7, μ7, rfl, rfl, Or.inr rfl, bσ7.k.tr w3.k, bρ7.k.tr w4.k, (w3 3 4 (by omega)).trans l7, Or.inl ⟨rfl, dr.a w3 w4, tE a n p', by omega, e2⟩⟩
                · rw [e1, if_pos rfl]
                  exact ⟨0, τ7, μ7, rfl, rfl, Or.inl rfl, bσ7.k.tr w3.k, bρ7.k.tr w4.k, (w3 3 4 (by omega)).trans l7, Or.inr ⟨rfl, e2⟩⟩
              · -- a name that is no with
                have hb5 := tok_b (a := a) a2
                have hbad : bad μ6 := ⟨2, by omega, by omega, a6⟩
                have e13 : ¬ τ6 1 3 = 3 := by rw [a3.2.2.1, a4]; decide
                have hE : fX5_endLine τ6 = some (0, su (su τ6 3 5 2) 3 6 (τ6 1 4)) := by
                  unfold fX5_endLine
                  rw [if_pos e13, refuse_og]
                rw [a1, if_neg hone, hE, hbad.b206]
                simp only
                rw [if_pos trivial]
                exact ⟨0, _, μ6, rfl, rfl, Or.inl rfl, bσ7.k.tr (refuse_o τ6 2).k, bρ7.k, (refuse_o τ6 2 3 4 (by omega)).trans l7, Or.inr ⟨rfl, flt_r (f := 2) (g := 2) (pl := tS a n p') (by omega) (by omega) (by omega) a3.1 a6 a7⟩⟩
              · rw [a1, if_pos rfl, a2.b.b206]
                exact ⟨0, τ6, μ6, rfl, rfl, Or.inl rfl, bσ7.k, bρ7.k, l7, Or.inr ⟨rfl, a2⟩⟩
            · have hbad : bad (su ρ4 98 11 (ρ4 98 11 + 1)) := e2.b.o (su_j (by omega))
              rw [e1, if_pos rfl, e2.b.h72]
              simp only
              rw [hbad.b206]
              exact ⟨0, τ5, _, rfl, rfl, Or.inl rfl, (bσ6.tr (n2.b B)).k, (bρ6.tr (wM.b (wM_su (Or.inl ⟨rfl, by omega⟩) _))).k, (n2 3 4 (by omega)).trans l5, Or.inr ⟨rfl, e2.m (su_j (by omega)) (su_j (by omega))⟩⟩
          · obtain ⟨κ, w1, w2, w3, w4⟩ := fl.b.rb3 cB v3
            have hbad : bad κ := fl.b.o w3
            rw [q0, if_neg (fun q => q rfl), w1]
            simp only
            rw [hbad.b206]
            exact ⟨0, τ3, κ, rfl, rfl, Or.inl rfl, bσ5.k, (bρ5.tr w2).k, (k3 3 4 (by omega)).trans l4, Or.inr ⟨rfl, fl.m w3 w4⟩⟩
        · obtain ⟨κ, w1, w2, w3, w4⟩ := fl.b.rb2 cB v2
          have hbad : bad κ := fl.b.o w3
          rw [q0, if_neg (fun q => q rfl), w1]
          simp only
          rw [hbad.b206]
          exact ⟨0, τ2, κ, rfl, rfl, Or.inl rfl, bσ3.k, (bρ3.tr w2).k, (s3 3 4 (by omega)).trans l3, Or.inr ⟨rfl, fl.m w3 w4⟩⟩
      · exact absurd x3 (nI_m4 (by omega))
      · obtain ⟨κ, w1', w2, w3, w4⟩ := fl.b.rb1 cB w1
        have hbad : bad κ := fl.b.o w3
        rw [q0, if_neg (fun q => q rfl), w1']
        simp only
        rw [hbad.b206]
        exact ⟨0, τ1, κ, rfl, rfl, Or.inl rfl, bσ1.k, (bρ1.tr w2).k, l2, Or.inr ⟨rfl, fl.m w3 w4⟩⟩
  · rw [if_neg (fun q => cB (lx.mp q)), b17_2f g1 (lm'.mpr (by omega)), refuse_og]
    exact ⟨0, _, _, rfl, rfl, Or.inl rfl, (refuse_o σ 5).k, ((kM.rf ρ).su (by unfold scM; omega) _).su (by unfold scM; omega) _, refuse_o σ 5 3 4 (by omega), Or.inr ⟨rfl, flt_r (f := 5) (g := 5) (pl := tS a n p) (by omega) (by omega) (by omega) h1.1 (by rw [su_j (by omega), su_s]; rfl) (by rw [su_s]; exact h2.1)⟩⟩
end
section
/-! THE TEXT: a line; all told houses and bells are there -/
theorem b17_n {ρ : S0} (g1 : ρ 98 22 = 0) : fX11_readLine_b17 ρ (-4) = some (0, su (su ρ 98 22 2) 98 23 (ρ 98 19)) := by
  have hbad : bad (su (su ρ 98 22 2) 98 23 (ρ 98 19)) := ⟨2, by omega, by omega, by rw [su_j (by omega), su_s]; rfl⟩
  unfold fX11_readLine_b17 fX11_readLine_b30 fX11_readLine_b49 fX11_readLine_b63 fX11_readLine_b68
  rw [if_pos rfl, needs_n _ g1]
  simp only [obp]
  rw [if_pos (by decide), if_pos (by decide), hbad.needs]
  simp only
  rw [if_pos hbad.n, hbad.b117]
theorem og_r {o : Option (Int32 × S0)} {r : Int32} {τ : S0} (h : o = some (r, τ)) (hr : r = 0 ∨ r = 1) : obp o (fun r s => og (r = 0 ∨ r = 1) (some (r, s))) = some (r, τ) := by
  rw [h]
  show og _ _ = _
  rw [og_t hr]
theorem ln_s {a : Nat → Nat} {n p : Nat} {σ ρ : S0} (tx : TpX a n σ) (tp : TpM a n ρ) (h : Cur a n p σ ρ) (d : DR σ ρ) : ∃ r τ μ, fX5_readLine σ = some (r, τ) ∧ fX11_readLine ρ = some (0, μ) ∧ (r = 0 ∨ r = 1) ∧ LR a n p σ ρ r τ μ := by
  have hcu := h
  obtain ⟨h1, h2, h3, h4, h5⟩ := h
  have hn := tp.1
  have hone : ¬ (1 : Int32) = 0 := by decide
  have hb := tok_b (a := a) h5
  obtain ⟨g1, g2, g3⟩ := h2.g h3
  have e20 : ρ 98 20 = 1 ↔ tK a n p = 1 := by rw [g2]; exact nI_eq (b := 1) (by omega) (by omega)
  obtain ⟨r0, p0, o0, m0⟩ := isName_s okW_0 tx h1.1 h1.2.1 h1.2.2.1 (by omega) hb.2.1 hb.2.2.1
  obtain ⟨r1, p1, o1, m1⟩ := isName_s okW_1 tx h1.1 h1.2.1 h1.2.2.1 (by omega) hb.2.1 hb.2.2.1
  obtain ⟨r2, p2, o2, m2⟩ := isName_s okW_2 tx h1.1 h1.2.1 h1.2.2.1 (by omega) hb.2.1 hb.2.2.1
  obtain ⟨r3, p3, o3, m3⟩ := isName_s okW_3 tx h1.1 h1.2.1 h1.2.2.1 (by omega) hb.2.1 hb.2.2.1
  obtain ⟨r4, p4, o4, m4⟩ := isName_s okW_4 tx h1.1 h1.2.1 h1.2.2.1 (by omega) hb.2.1 hb.2.2.1
  -- no line begins so
  have none : r0 = 0 → r1 = 0 → r2 = 0 → r3 = 0 → r4 = 0 → fX11_readLine ρ = fX11_readLine_b17 ρ (-4) → ∃ r τ μ, fX5_readLine σ = some (r, τ) ∧ fX11_readLine ρ = some (0, μ) ∧ (r = 0 ∨ r = 1) ∧ LR a n p σ ρ r τ μ := fun z0 z1 z2 z3 z4 hM => by
    rw [hM, b17_n g1]
    refine ⟨0, su (su σ 3 5 2) 3 6 (σ 1 4), _, ?_, rfl, Or.inl rfl, (refuse_o σ 2).k, ((kM.rf ρ).su (by unfold scM; omega) _).su (by unfold scM; omega) _, refuse_o σ 2 3 4 (by omega), Or.inr ⟨rfl, flt_r (f := 2) (g := 2) (pl := tS a n p) (by omega) (by omega) (by omega) h1.1 (by rw [su_j (by omega), su_s]; rfl) (by rw [su_s]; exact h2.1)⟩⟩
    unfold fX5_readLine
    rw [p0]
    simp only [obp]
    rw [if_pos z0, p1]
    simp only
    rw [if_pos z1, p2]
    simp only
    rw [if_pos z2, p3]
    simp only
    rw [if_pos z3, p4]
    simp only
    rw [if_pos z4]
    exact refuse_og σ 2
  by_cases k1 : tK a n p = 1
  · obtain ⟨r, q1, q2⟩ := nameNow_s tp h2.1 h2.2.1 hb.2.1 hb.2.2.1
    have hM : fX11_readLine ρ = fX11_readLine_b17 ρ r := by
      unfold fX11_readLine
      rw [if_neg (fun q => q (e20.mpr k1)), q1]
      rfl
    have zr : ∀ {r' : Int32} {i : Nat}, (r' = 0 ∨ r' = 1) → (r' = 1 ↔ tK a n p = 1 ∧ mw a (tS a n p) (tE a n p) i) → ¬ mw a (tS a n p) (tE a n p) i → r' = 0 := fun ho hm hq => ho.resolve_right (fun z => hq (hm.mp z).2)
    rcases q2 with ⟨rfl, nm⟩ | ⟨i, i1, rfl, i2, i3⟩
    · exact none (zr o0 m0 (nm 0 (by omega))) (zr o1 m1 (nm 1 (by omega))) (zr o2 m2 (nm 2 (by omega))) (zr o3 m3 (nm 3 (by omega))) (zr o4 m4 (nm 4 (by omega))) hM
    · rw [hM]
      rcases (show i = 0 ∨ i = 1 ∨ i = 2 ∨ i = 3 ∨ i = 4 by omega) with rfl | rfl | rfl | rfl | rfl
      · obtain ⟨r', τ, μ, w1, w2, w3, w4⟩ := ln_houses tx tp hcu d k1
        refine ⟨r', τ, μ, ?_, w2, w3, w4⟩
        unfold fX5_readLine
        rw [p0]
        simp only [obp]
        rw [if_neg (by rw [m0.mpr ⟨k1, i2⟩]; exact hone)]
        exact og_r w1 w3
      · obtain ⟨r', τ, μ, w1, w2, w3, w4⟩ := ln_gap tx tp hcu d k1
        refine ⟨r', τ, μ, ?_, w2, w3, w4⟩
        unfold fX5_readLine
        rw [p0]
        simp only [obp]
        rw [if_pos (zr o0 m0 (i3 0 (by omega))), p1]
        simp only
        rw [if_neg (by rw [m1.mpr ⟨k1, i2⟩]; exact hone)]
        exact og_r w1 w3
      · obtain ⟨r', τ, μ, w1, w2, w3, w4⟩ := ln_bell tx tp hcu d k1
        refine ⟨r', τ, μ, ?_, w2, w3, w4⟩
        unfold fX5_readLine
        rw [p0]
        simp only [obp]
        rw [if_pos (zr o0 m0 (i3 0 (by omega))), p1]
        simp only
        rw [if_pos (zr o1 m1 (i3 1 (by omega))), p2]
        simp only
        rw [if_neg (by rw [m2.mpr ⟨k1, i2⟩]; exact hone)]
        exact og_r w1 w3
      · obtain ⟨r', τ, μ, w1, w2, w3, w4⟩ := ln_tune tx tp hcu d k1
        refine ⟨r', τ, μ, ?_, w2, w3, w4⟩
        unfold fX5_readLine
        rw [p0]
        simp only [obp]
        rw [if_pos (zr o0 m0 (i3 0 (by omega))), p1]
        simp only
        rw [if_pos (zr o1 m1 (i3 1 (by omega))), p2]
        simp only
        rw [if_pos (zr o2 m2 (i3 2 (by omega))), p3]
        simp only
        rw [if_neg (by rw [m3.mpr ⟨k1, i2⟩]; exact hone)]
        exact og_r w1 w3
      · obtain ⟨r', τ, μ, w1, w2, w3, w4⟩ := ln_feud tx tp hcu d k1
        refine ⟨r', τ, μ, ?_, w2, w3, w4⟩
        unfold fX5_readLine
        rw [p0]
        simp only [obp]
        rw [if_pos (zr o0 m0 (i3 0 (by omega))), p1]
        simp only
        rw [if_pos (zr o1 m1 (i3 1 (by omega))), p2]
        simp only
        rw [if_pos (zr o2 m2 (i3 2 (by omega))), p3]
        simp only
        rw [if_pos (zr o3 m3 (i3 3 (by omega))), p4]
        simp only
        rw [if_neg (by rw [m4.mpr ⟨k1, i2⟩]; exact hone)]
        exact og_r w1 w3
  · have hM : fX11_readLine ρ = fX11_readLine_b17 ρ (-4) := by
      unfold fX11_readLine
      rw [if_pos (fun q => k1 (e20.mp q))]
    have zr : ∀ {r' : Int32} {i : Nat}, (r' = 0 ∨ r' = 1) → (r' = 1 ↔ tK a n p = 1 ∧ mw a (tS a n p) (tE a n p) i) → r' = 0 := fun ho hm => ho.resolve_right (fun z => k1 (hm.mp z).1)
    exact none (zr o0 m0) (zr o1 m1) (zr o2 m2) (zr o3 m3) (zr o4 m4) hM
/-! whether all is there: the class -/
theorem hb_x {σ : S0} {k B : Nat} (e : σ k 0 = nI B) (hB : B ≤ 12) {x : Nat} (hx : x < 2 ^ 31) : ∃ r, fX1_hasBell σ k (nI x) = some (r, σ) ∧ (r = 0 ∨ r = 1) ∧ (r = 1 ↔ x < B) := by
  by_cases c : x < B
  · exact ⟨1, hb_y e hB c, Or.inr rfl, ⟨fun _ => c, fun _ => rfl⟩⟩
  · exact ⟨0, hb_n e hB (Or.inr (by rw [ir hx]; omega)), Or.inl rfl, ⟨fun q => absurd q (by decide), fun q => absurd q c⟩⟩
theorem hh_x {σ : S0} {k B : Nat} (e : σ k 0 = nI B) (hB : B ≤ 12) {x : Nat} (hx : x < 2 ^ 31) : ∃ r, fX9_hasHouse σ k (nI x) = some (r, σ) ∧ (r = 0 ∨ r = 1) ∧ (r = 1 ↔ x < B) := hb_x e hB hx
/-- strokes that are there -/
theorem whI_l {σ : S0} {B t m0 : Nat} (hB : B ≤ 12) (ht : t < 6) (eB : σ 14 0 = nI B) (em : σ 6 t = nI m0) (hm : m0 ≤ 12) (s : Nat → Nat) (hs : ∀ i, i < m0 → s i < 12 ∧ σ (8 + t) i = nI (s i)) (sf : S0 → Nat → Int32 → Option (Int32 × S0)) (X : Prop) (hX : ∃ r, sf σ 4 (nI (t + 1)) = some (r, σ) ∧ (r = 0 ∨ r = 1) ∧ (r = 1 ↔ X)) : ∀ (d i m : Nat), m0 - i = d → i ≤ m0 → d < m → ∃ r, fX9_isWhole_h110 sf m σ 4 (nI t) (nI i) = some (r, σ) ∧ (r = 0 ∨ r = 1) ∧ (r = 1 ↔ (∀ j, i ≤ j → j < m0 → s j < B) ∧ X) := by
  have hgt := ix_ok (j := t) (n := 6) ht (by omega)
  have hct : (nI t).toNatClampNeg = t := nI_clamp (by omega)
  have hgt2 : ¬ (nI t < 0 ∨ 6 ≤ t) := fun q => hgt (by rw [hct]; exact q)
  intro d
  induction d with
  | zero =>
    intro i m h1 h2 h3
    obtain ⟨m, rfl⟩ : ∃ q, m = q + 1 := ⟨m - 1, by omega⟩
    have : i = m0 := by omega
    subst this
    obtain ⟨r, x1, x2, x3⟩ := hX
    refine ⟨r, ?_, x2, x3.trans ⟨fun q => ⟨fun j a b => by omega, q⟩, fun q => q.2⟩⟩
    show fX9_isWhole_b110 _ _ _ _ _ _ = _
    unfold fX9_isWhole_b110
    simp only [og_t hgt, og_t hgt2, hct, ol, Nat.reduceAdd, em, nI_1]
    rw [if_pos (nI_le (Nat.le_refl _) (by omega))]
    exact x1
  | succ d ih =>
    intro i m h1 h2 h3
    obtain ⟨m, rfl⟩ : ∃ q, m = q + 1 := ⟨m - 1, by omega⟩
    obtain ⟨r, r1, r2, r3⟩ := ih (i + 1) m (by omega) (by omega) (by omega)
    obtain ⟨s1, s2⟩ := hs i (by omega)
    have hgi := ix_ok (j := i) (n := 12) (by omega) (by omega)
    have hci : (nI i).toNatClampNeg = i := nI_clamp (by omega)
    have hgi2 : ¬ (nI i < 0 ∨ 12 ≤ i) := fun q => hgi (by rw [hci]; exact q)
    obtain ⟨v, v1, v2, v3⟩ := hb_x (k := 14) eB hB (x := s i) (by omega)
    have e1 : fX9_isWhole_h110 sf (m + 1) σ 4 (nI t) (nI i) = if ¬ v = 0 then fX9_isWhole_h110 sf m σ 4 (nI t) (nI (i + 1)) else some (0, σ) := by
      show fX9_isWhole_b110 _ _ _ _ _ _ = _
      unfold fX9_isWhole_b110
      simp only [og_t hgt, og_t hgt2, hct, ol, Nat.reduceAdd, em, nI_1, Nat.one_mul, og_t hgi, og_t hgi2, hci, s2]
      rw [if_neg (nI_ge (by omega) (by omega)), v1]
      rfl
    rw [e1]
    by_cases c : s i < B
    · rw [if_pos (by rw [v3.mpr c]; decide)]
      refine ⟨r, r1, r2, r3.trans ⟨fun q => ⟨fun j a b => ?_, q.2⟩, fun q => ⟨fun j a b => q.1 j (by omega) b, q.2⟩⟩⟩
      by_cases z : j = i
      · subst z; exact c
      · exact q.1 j (by omega) b
    · have v0 : v = 0 := v2.resolve_right (fun q => c (v3.mp q))
      rw [if_neg (fun q => q v0)]
      exact ⟨0, rfl, Or.inl rfl, ⟨fun q => absurd q (by decide), fun q => absurd (q.1 i (Nat.le_refl _) (by omega)) c⟩⟩
theorem whT_l {σ : S0} {B T : Nat} (hB : B ≤ 12) (hT : T ≤ 6) (eB : σ 14 0 = nI B) (eT : σ 4 2 = nI T) (L : Nat → Nat) (s : Nat → Nat → Nat) (hs : ∀ t, t < T → L t ≤ 12 ∧ σ 6 t = nI (L t) ∧ ∀ i, i < L t → s t i < 12 ∧ σ (8 + t) i = nI (s t i)) : ∀ (d t m : Nat), T - t = d → t ≤ T → d < m → ∃ r, fX9_isWhole_h100 m σ 4 (nI t) = some (r, σ) ∧ (r = 0 ∨ r = 1) ∧ (r = 1 ↔ ∀ u, t ≤ u → u < T → ∀ i, i < L u → s u i < B) := by
  intro d
  induction d with
  | zero =>
    intro t m h1 h2 h3
    obtain ⟨m, rfl⟩ : ∃ q, m = q + 1 := ⟨m - 1, by omega⟩
    have : t = T := by omega
    subst this
    refine ⟨1, ?_, Or.inr rfl, ⟨fun _ u a b => by omega, fun _ => rfl⟩⟩
    show fX9_isWhole_b100 _ _ _ _ = _
    unfold fX9_isWhole_b100
    rw [if_pos (show σ 4 2 ≤ nI t from by rw [eT]; exact nI_le (Nat.le_refl _) (by omega))]
  | succ d ih =>
    intro t m h1 h2 h3
    obtain ⟨m, rfl⟩ : ∃ q, m = q + 1 := ⟨m - 1, by omega⟩
    obtain ⟨s1, s2, s3⟩ := hs t (by omega)
    obtain ⟨r, r1, r2, r3⟩ := whI_l hB (show t < 6 by omega) eB s2 s1 (s t) s3 (fX9_isWhole_h100 m) _ (ih (t + 1) m (by omega) (by omega) (by omega)) (L t) 0 400 (by omega) (by omega) (by omega)
    refine ⟨r, ?_, r2, r3.trans ⟨fun q u a b i hi => ?_, fun q => ⟨fun j a b => q t (Nat.le_refl _) (by omega) j b, fun u a b => q u (by omega) b⟩⟩⟩
    · show fX9_isWhole_b100 _ _ _ _ = _
      unfold fX9_isWhole_b100
      rw [if_neg (show ¬ (σ 4 2 ≤ nI t) from by rw [eT]; exact nI_ge (by omega) (by omega))]
      exact r1
    · by_cases z : u = t
      · subst z; exact q.1 i (by omega) hi
      · exact q.2 u (by omega) b i hi
theorem whF_l {σ : S0} (F : Nat → Nat) (hF : ∀ h, h < 6 → F h < 64 ∧ σ 20 h = nI (F h)) (X : Prop) (hX : ∃ r, fX9_isWhole_h100 400 σ 4 0 = some (r, σ) ∧ (r = 0 ∨ r = 1) ∧ (r = 1 ↔ X)) : ∀ (d h m : Nat), 6 - h = d → h ≤ 6 → d < m → ∃ r, fX9_isWhole_h72 m σ 4 (nI h) = some (r, σ) ∧ (r = 0 ∨ r = 1) ∧ (r = 1 ↔ (∀ u, h ≤ u → u < 6 → F u = 0) ∧ X) := by
  intro d
  induction d with
  | zero =>
    intro h m h1 h2 h3
    obtain ⟨m, rfl⟩ : ∃ q, m = q + 1 := ⟨m - 1, by omega⟩
    have : h = 6 := by omega
    subst this
    obtain ⟨r, x1, x2, x3⟩ := hX
    refine ⟨r, ?_, x2, x3.trans ⟨fun q => ⟨fun u a b => by omega, q⟩, fun q => q.2⟩⟩
    show fX9_isWhole_b72 _ _ _ _ = _
    unfold fX9_isWhole_b72
    rw [if_pos (show (6 : Int32) ≤ nI 6 by decide)]
    exact x1
  | succ d ih =>
    intro h m h1 h2 h3
    obtain ⟨m, rfl⟩ : ∃ q, m = q + 1 := ⟨m - 1, by omega⟩
    obtain ⟨r, r1, r2, r3⟩ := ih (h + 1) m (by omega) (by omega) (by omega)
    obtain ⟨f1, f2⟩ := hF h (by omega)
    have f0 : nI (F h) = 0 ↔ F h = 0 := nI_eq (b := 0) (by omega) (by omega)
    have e1 : fX9_isWhole_h72 (m + 1) σ 4 (nI h) = if nI (F h) = 0 then fX9_isWhole_h72 m σ 4 (nI (h + 1)) else some (0, σ) := by
      show fX9_isWhole_b72 _ _ _ _ = _
      unfold fX9_isWhole_b72
      rw [if_neg (show ¬ (6 : Int32) ≤ nI h from nI_ge (b := 6) (by omega) (by omega)), og_t (ix_ok (by omega) (by omega)), nI_clamp (by omega)]
      simp only [ol, Nat.reduceAdd, f2, nI_1]
    rw [e1]
    by_cases c : F h = 0
    · rw [if_pos (f0.mpr c)]
      refine ⟨r, r1, r2, r3.trans ⟨fun q => ⟨fun u a b => ?_, q.2⟩, fun q => ⟨fun u a b => q.1 u (by omega) b, q.2⟩⟩⟩
      by_cases z : u = h
      · subst z; exact c
      · exact q.1 u (by omega) b
    · rw [if_neg (fun q => c (f0.mp q))]
      exact ⟨0, rfl, Or.inl rfl, ⟨fun q => absurd q (by decide), fun q => absurd (q.1 h (Nat.le_refl _) (by omega)) c⟩⟩
theorem whB_l {σ : S0} {H B : Nat} (hH : H ≤ 6) (hB : B ≤ 12) (eH : σ 4 0 = nI H) (eB : σ 14 0 = nI B) (o : Nat → Nat) (hf : Nat → Int32) (ho : ∀ b, b < B → o b < 6 ∧ σ 15 b = nI (o b) ∧ σ 19 b = hf b ∧ (hf b = -4 ∨ ∃ x, x < 6 ∧ hf b = nI x)) (X : Prop) (hX : ∃ r, fX9_isWhole_h72 400 σ 4 (nI H) = some (r, σ) ∧ (r = 0 ∨ r = 1) ∧ (r = 1 ↔ X)) : ∀ (d b m : Nat), B - b = d → b ≤ B → d < m → ∃ r, fX9_isWhole_h2 m σ 4 (nI b) = some (r, σ) ∧ (r = 0 ∨ r = 1) ∧ (r = 1 ↔ (∀ u, b ≤ u → u < B → o u < H ∧ ∀ x, x < 6 → hf u = nI x → x < H) ∧ X) := by
  intro d
  induction d with
  | zero =>
    intro b m h1 h2 h3
    obtain ⟨m, rfl⟩ : ∃ q, m = q + 1 := ⟨m - 1, by omega⟩
    have : b = B := by omega
    subst this
    obtain ⟨r, x1, x2, x3⟩ := hX
    refine ⟨r, ?_, x2, x3.trans ⟨fun q => ⟨fun u a b => by omega, q⟩, fun q => q.2⟩⟩
    show fX9_isWhole_b2 _ _ _ _ = _
    unfold fX9_isWhole_b2
    rw [if_pos (show σ (4 + 10) 0 ≤ nI b from by rw [show σ (4 + 10) 0 = σ 14 0 from rfl, eB]; exact nI_le (Nat.le_refl _) (by omega)), eH]
    exact x1
  | succ d ih =>
    intro b m h1 h2 h3
    obtain ⟨m, rfl⟩ : ∃ q, m = q + 1 := ⟨m - 1, by omega⟩
    obtain ⟨r, r1, r2, r3⟩ := ih (b + 1) m (by omega) (by omega) (by omega)
    obtain ⟨o1, o2, o3, o4⟩ := ho b (by omega)
    have hgb := ix_ok (j := b) (n := 12) (by omega) (by omega)
    have hcb : (nI b).toNatClampNeg = b := nI_clamp (by omega)
    have hgb2 : ¬ (nI b < 0 ∨ 12 ≤ b) := fun q => hgb (by rw [hcb]; exact q)
    obtain ⟨v, v1, v2, v3⟩ := hh_x (k := 4) eH (by omega) (x := o b) (by omega)
    have ge : ¬ σ (4 + 10) 0 ≤ nI b := by rw [show σ (4 + 10) 0 = σ 14 0 from rfl, eB]; exact nI_ge (by omega) (by omega)
    have no : ¬ (o b < H ∧ ∀ x, x < 6 → hf b = nI x → x < H) → ∃ r, some ((0 : Int32), σ) = some (r, σ) ∧ (r = 0 ∨ r = 1) ∧ (r = 1 ↔ (∀ u, b ≤ u → u < B → o u < H ∧ ∀ x, x < 6 → hf u = nI x → x < H) ∧ X) := fun c => ⟨0, rfl, Or.inl rfl, ⟨fun q => absurd q (by decide), fun q => absurd (q.1 b (Nat.le_refl _) (by omega)) c⟩⟩
    have yes : (o b < H ∧ ∀ x, x < 6 → hf b = nI x → x < H) → ∃ r, fX9_isWhole_h2 m σ 4 (nI (b + 1)) = some (r, σ) ∧ (r = 0 ∨ r = 1) ∧ (r = 1 ↔ (∀ u, b ≤ u → u < B → o u < H ∧ ∀ x, x < 6 → hf u = nI x → x < H) ∧ X) := fun c => by
      refine ⟨r, r1, r2, r3.trans ⟨fun q => ⟨fun u x y => ?_, q.2⟩, fun q => ⟨fun u x y => q.1 u (by omega) y, q.2⟩⟩⟩
      by_cases z : u = b
      · subst z; exact c
      · exact q.1 u (by omega) y
    have e0 : fX9_isWhole_h2 (m + 1) σ 4 (nI b) = fX9_isWhole_b2 (fX9_isWhole_h2 m) σ 4 (nI b) := rfl
    rw [e0]
    unfold fX9_isWhole_b2 fX9_isWhole_b61
    rw [if_neg ge]
    simp only [og_t hgb, og_t hgb2, hcb, ol, Nat.reduceAdd, o2, o3, nI_1, v1, obp]
    by_cases c : o b < H
    · rw [if_neg (by rw [v3.mpr c]; decide)]
      rcases o4 with q | ⟨x, x1, x2⟩
      · rw [if_pos q]
        exact yes ⟨c, fun x _ z => absurd (q.symm.trans z).symm (nI_m4 (by omega))⟩
      · rw [if_neg (by rw [x2]; exact nI_m4 (by omega)), x2]
        obtain ⟨w, w1, w2, w3⟩ := hh_x (k := 4) eH (by omega) (x := x) (by omega)
        rw [w1]
        simp only
        by_cases c2 : x < H
        · rw [if_pos (by rw [w3.mpr c2]; decide)]
          exact yes ⟨c, fun y y1 y2 => by
            have := (nI_eq (by omega) (by omega)).mp (x2.symm.trans y2)
            omega⟩
        · rw [if_neg (fun q => q (w2.resolve_right (fun z => c2 (w3.mp z))))]
          exact no (fun z => c2 (z.2 x x1 x2))
    · rw [if_pos (v2.resolve_right (fun q => c (v3.mp q)))]
      exact no (fun z => c z.1)
end
section
/-! THE TEXT: all lines; the draft is taken, or not -/
theorem DR.l {σ ρ : S0} (h : DR σ ρ) (v : Int32) : DR (su σ 3 4 v) ρ := h.h (fun k k1 k2 => su_ne (by omega)) (su_n2 (by omega)) (fun _ _ _ => rfl) rfl rfl (h.1.c (su_n2 (by omega)) (su_n2 (by omega)) rfl rfl) (h.2.1.c (su_j (by omega)) (su_j (by omega)) rfl)
theorem whole_j {σ ρ : S0} (d : DR σ ρ) : ∃ r, fX9_isWhole σ 4 = some (r, σ) ∧ (r = 0 ∨ r = 1) ∧ (r = 1 ↔ (¬ ρ 98 9 ≤ ρ 98 13) ∧ ¬ ρ 98 11 ≤ ρ 98 14) := by
  obtain ⟨⟨⟨H, h1, h2, h3, h4⟩, -⟩, -, ⟨fo, f1, f2, f3⟩, -, ⟨B, hB, hM⟩, T, hT, hN⟩ := d
  have eM := hM.lt (by omega) (m := H) (by omega)
  have eN := hN.lt (by omega) (m := B) (by have := hB.1; omega)
  have hBl := hB.1
  have hTl := hT.1
  -- the class's rows, as numbers
  have hF : ∀ h, h < 6 → (σ 20 h).toNatClampNeg < 64 ∧ σ 20 h = nI (σ 20 h).toNatClampNeg := fun h hh => by
    obtain ⟨q1, q2, -⟩ := f1 h hh
    rw [q2, nI_clamp (by omega)]
    exact ⟨q1, rfl⟩
  have hs : ∀ t, t < T → (σ 6 t).toNatClampNeg ≤ 12 ∧ σ 6 t = nI (σ 6 t).toNatClampNeg ∧ ∀ i, i < (σ 6 t).toNatClampNeg → (σ (8 + t) i).toNatClampNeg < 12 ∧ σ (8 + t) i = nI (σ (8 + t) i).toNatClampNeg := fun t ht => by
    obtain ⟨m, a1, a2, a3, a4, a5, a6⟩ := hT.2.2.2 t ht
    have e : (σ 6 t).toNatClampNeg = m := by rw [a3]; exact nI_clamp (by omega)
    rw [e]
    refine ⟨a2, a3, fun i hi => ?_⟩
    obtain ⟨b, b1, b2, b3⟩ := a6 i hi
    rw [b2, nI_clamp (by omega)]
    exact ⟨b1, rfl⟩
  have ho : ∀ b, b < B → (σ 15 b).toNatClampNeg < 6 ∧ σ 15 b = nI (σ 15 b).toNatClampNeg ∧ σ 19 b = σ 19 b ∧ (σ 19 b = -4 ∨ ∃ x, x < 6 ∧ σ 19 b = nI x) := fun b hb => by
    obtain ⟨⟨w, w1, w2, w3⟩, -, -, -, q⟩ := hB.2.2.2 b hb
    rw [w2, nI_clamp (by omega)]
    refine ⟨w1, rfl, rfl, ?_⟩
    rcases q with q | ⟨x, x1, x2, -⟩
    · exact Or.inl q.1
    · exact Or.inr ⟨x, x1, x2⟩
  have wT := whT_l hBl hTl hB.2.1 hT.2.1 (fun t => (σ 6 t).toNatClampNeg) (fun t i => (σ (8 + t) i).toNatClampNeg) hs T 0 400 (by omega) (by omega) (by omega)
  have wF := whF_l (fun h => (σ 20 h).toNatClampNeg) hF _ wT (6 - H) H 400 rfl h2 (by omega)
  obtain ⟨r, r1, r2, r3⟩ := whB_l h2 hBl h3 hB.2.1 (fun b => (σ 15 b).toNatClampNeg) (fun b => σ 19 b) ho _ wF B 0 400 (by omega) (by omega) (by omega)
  refine ⟨r, r1, r2, r3.trans ?_⟩
  rw [h4, hB.2.2.1, eM, eN]
  constructor
  · rintro ⟨q1, q2, q3⟩
    refine ⟨?_, ?_⟩
    · rintro ⟨y, y1, y2, y3⟩
      rcases y2 with ⟨b, b1, b2⟩ | y2
      · obtain ⟨⟨w, w1, w2, w3⟩, -, -, -, q⟩ := hB.2.2.2 b b1
        obtain ⟨u1, u2⟩ := q1 b (by omega) b1
        rcases b2 with b2 | b2
        · have : w = y := (nI_eq (by omega) (by omega)).mp (w3.symm.trans b2)
          simp only [w2, nI_clamp (show w < 2 ^ 31 by omega)] at u1
          omega
        · rcases q with q | ⟨x, x1, x2, x3⟩
          · exact absurd (q.2.symm.trans b2).symm (nI_m4 (by omega))
          · have : x = y := (nI_eq (by omega) (by omega)).mp (x3.symm.trans b2)
            have := u2 x x1 x2
            omega
      · obtain ⟨p1, p2, p3⟩ := f1 y y1
        have := q2 y y3 y1
        simp only [p2, nI_clamp (show fo y < 2 ^ 31 by omega)] at this
        exact y2 (by rw [p3, this]; rfl)
    · rintro ⟨y, y1, ⟨t, m, i, t1, t2, t3, t4, t5⟩, y3⟩
      obtain ⟨m', a1, a2, a3, a4, a5, a6⟩ := hT.2.2.2 t t1
      have hmm : m' = m := (nI_eq (by omega) (by omega)).mp (a4.symm.trans t3)
      obtain ⟨b, b1, b2, b3⟩ := a6 i (by omega)
      have hby : b = y := (nI_eq (by omega) (by omega)).mp (b3.symm.trans t5)
      have := q3 t (by omega) t1 i (by simp only [a3, nI_clamp (show m' < 2 ^ 31 by omega)]; omega)
      simp only [b2, nI_clamp (show b < 2 ^ 31 by omega)] at this
      omega
  · rintro ⟨q1, q2⟩
    refine ⟨fun b _ b1 => ⟨?_, fun x x1 x2 => ?_⟩, fun u u1 u2 => ?_, fun t _ t1 i hi => ?_⟩
    · obtain ⟨⟨w, w1, w2, w3⟩, -, -, -, -⟩ := hB.2.2.2 b b1
      show (σ 15 b).toNatClampNeg < H
      rw [w2, nI_clamp (by omega)]
      exact Classical.byContradiction fun c => q1 ⟨w, w1, Or.inl ⟨b, b1, Or.inl w3⟩, by omega⟩
    · obtain ⟨-, -, -, -, q⟩ := hB.2.2.2 b b1
      have x2' : σ 19 b = nI x := x2
      rcases q with q | ⟨z, z1, z2, z3⟩
      · exact absurd (q.1.symm.trans x2').symm (nI_m4 (by omega))
      · have : z = x := (nI_eq (by omega) (by omega)).mp (z2.symm.trans x2')
        exact Classical.byContradiction fun c => q1 ⟨x, x1, Or.inl ⟨b, b1, Or.inr (by rw [z3, this])⟩, by omega⟩
    · obtain ⟨p1, p2, p3⟩ := f1 u u2
      show (σ 20 u).toNatClampNeg = 0
      rw [p2, nI_clamp (by omega)]
      exact Classical.byContradiction fun c => q1 ⟨u, u2, Or.inr (by rw [p3]; exact nI_ne0 (by omega) (by omega)), u1⟩
    · obtain ⟨m', a1, a2, a3, a4, a5, a6⟩ := hT.2.2.2 t t1
      have hi' : i < (σ 6 t).toNatClampNeg := hi
      rw [a3, nI_clamp (by omega)] at hi'
      obtain ⟨b, b1, b2, b3⟩ := a6 i hi'
      show (σ (8 + t) i).toNatClampNeg < B
      rw [b2, nI_clamp (by omega)]
      exact Classical.byContradiction fun c => q2 ⟨b, b1, ⟨t, m', i, t1, a2, a4, hi', b3⟩, by omega⟩
/-- what comes of all lines -/
def AR (σ ρ : S0) (r : Int32) (τ : S0) (c : Nat) (μ : S0) : Prop := kX σ τ ∧ kM ρ μ ∧ ((r = 1 ∧ DR τ μ ∧ (¬ μ 98 9 ≤ μ 98 13) ∧ (¬ μ 98 11 ≤ μ 98 14) ∧ τ 3 4 = nI c ∧ τ 3 5 = 0 ∧ μ 98 22 = 0) ∨ (r = 0 ∧ Flt τ μ))
theorem fl_X (m : Nat) (σ : S0) : fX5_readAll_h39 (m + 1) σ 0 = some (0, σ) := by
  show fX5_readAll_b39 _ _ _ = _
  unfold fX5_readAll_b39 fX5_readAll_b81
  rw [if_pos rfl, if_pos rfl]
theorem bad.h20 {ρ : S0} (h : bad ρ) (m : Nat) (x : Int32) : fX11_text_h20 (m + 1) ρ x = fX11_text_b84 ρ x := by
  show fX11_text_b20 _ _ _ = _
  unfold fX11_text_b20 fX11_text_b44
  rw [if_pos h.n, if_pos h.n]
theorem all_l {a : Nat → Nat} {n : Nat} : ∀ (d c m m' p : Nat) (σ ρ : S0), 321 - c = d → c ≤ tS a n p → d < m → d < m' → TpX a n σ → TpM a n ρ → Cur a n p σ ρ → DR σ ρ → σ 3 4 = nI c → ∃ r τ c' μ, fX5_readAll_h39 m σ 1 = some (r, τ) ∧ fX11_text_h20 m' ρ (nI c) = fX11_text_b84 μ (nI c') ∧ AR σ ρ r τ c' μ := by
  have hone : ¬ (1 : Int32) = 0 := by decide
  intro d
  induction d with
  | zero =>
    intro c m m' p σ ρ h1 h2 h3 h3' tx tp cu dr h34
    have hn := tp.1
    have hb := tok_b (a := a) cu.2.2.2.2
    omega
  | succ d ih =>
    intro c m m' p σ ρ h1 h2 h3 h3' tx tp cu dr h34
    obtain ⟨m, rfl⟩ : ∃ q, m = q + 2 := ⟨m - 2, by omega⟩
    obtain ⟨m', rfl⟩ : ∃ q, m' = q + 2 := ⟨m' - 2, by omega⟩
    have hcu := cu
    obtain ⟨c1, c2, c3, c4, c5⟩ := cu
    have hn := tp.1
    have hb := tok_b (a := a) c5
    obtain ⟨g1, g2, g3⟩ := c2.g c3
    have n0 : ¬ ¬ ρ 98 22 = 0 := fun q => q g1
    have x0 : σ 1 3 = 0 ↔ tK a n p = 0 := by rw [c1.2.2.1]; exact nI_eq (b := 0) (by omega) (by omega)
    have m0 : ρ 98 20 = 0 ↔ tK a n p = 0 := by rw [g2]; exact nI_eq (b := 0) (by omega) (by omega)
    have hX : fX5_readAll_h39 (m + 2) σ 1 = fX5_readAll_b39 (fX5_readAll_h39 (m + 1)) σ 1 := rfl
    have hM : fX11_text_h20 (m' + 2) ρ (nI c) = fX11_text_b20 (fX11_text_h20 (m' + 1)) ρ (nI c) := rfl
    rw [hX, hM]
    unfold fX5_readAll_b39 fX11_text_b20
    rw [if_neg hone, if_neg n0]
    by_cases k0 : tK a n p = 0
    · rw [if_pos (x0.mpr k0), if_pos (m0.mpr k0)]
      unfold fX5_readAll_b81 fX5_readAll_b104 fX11_text_b44 fX11_text_b78 fX11_text_b79
      rw [if_neg hone, if_neg n0]
      obtain ⟨r, r1, r2, r3⟩ := whole_j dr
      rw [r1]
      simp only [obp]
      by_cases w : (¬ ρ 98 9 ≤ ρ 98 13) ∧ ¬ ρ 98 11 ≤ ρ 98 14
      · rw [if_pos (by rw [r3.mpr w]; exact hone), if_neg w.1, if_neg w.2, needs_y _ (by decide)]
        exact ⟨1, σ, c, ρ, rfl, rfl, kX.rf σ, kM.rf ρ, Or.inl ⟨rfl, dr, w.1, w.2, h34, c4, g1⟩⟩
      · have hr0 : r = 0 := r2.resolve_right (fun q => w (r3.mp q))
        have fin : AR σ ρ 0 (su (su σ 3 5 6) 3 6 (σ 1 4)) c (su (su ρ 98 22 6) 98 23 (ρ 98 19)) := ⟨(refuse_o σ 6).k, ((kM.rf ρ).su (by unfold scM; omega) _).su (by unfold scM; omega) _, Or.inr ⟨rfl, flt_r (f := 6) (g := 6) (pl := tS a n p) (by omega) (by omega) (by omega) c1.1 (by rw [su_j (by omega), su_s]; rfl) (by rw [su_s]; exact c2.1)⟩⟩
        rw [if_neg (fun q => q hr0), refuse_s, needs_n _ g1]
        simp only
        rw [if_pos trivial]
        by_cases w1 : ρ 98 9 ≤ ρ 98 13
        · rw [if_pos w1]
          exact ⟨0, _, c, _, rfl, rfl, fin⟩
        · rw [if_neg w1]
          by_cases w2 : ρ 98 11 ≤ ρ 98 14
          · rw [if_pos w2]
            exact ⟨0, _, c, _, rfl, rfl, fin⟩
          · exact absurd ⟨w1, w2⟩ w
    · have hlt := hb.2.2.2 k0
      rw [if_neg (fun q => k0 (x0.mp q)), if_neg (fun q => k0 (m0.mp q)), if_neg (show ¬ (320 : Int32) ≤ σ 3 4 from by rw [h34]; exact nI_ge (b := 320) (by omega) (by omega))]
      obtain ⟨r, τ, μ, w1, w2, w3, w4, w5, w6, w7⟩ := ln_s tx tp hcu dr
      rw [w1, w2]
      simp only [obp, ol]
      rw [w6, h34, nI_1]
      have kτ : kX τ (su τ 3 4 (nI (c + 1))) := (kX.rf τ).su (by unfold scX; omega) _
      rcases w7 with ⟨q1, q2, p', q3, q4⟩ | ⟨q1, q2⟩
      · rw [q1]
        have hb' := tok_b (a := a) q4.2.2.2.2
        obtain ⟨r', τ', c', μ', u1, u2, u3, u4, u5⟩ := ih (c + 1) (m + 1) (m' + 1) p' (su τ 3 4 (nI (c + 1))) μ (by omega) (by omega) (by omega) (by omega) (tx.k (w4.tr kτ)) (tp.k w5) ⟨q4.1.o (fun j _ _ => su_n2 (by omega)), q4.2.1, q4.2.2.1, by rw [su_j (by omega)]; exact q4.2.2.2.1, q4.2.2.2.2⟩ (q2.l _) su_s
        exact ⟨r', τ', c', μ', u1, u2, (w4.tr kτ).tr u3, w5.tr u4, u5⟩
      · rw [q1, fl_X, q2.b.h20]
        refine ⟨0, _, c + 1, μ, rfl, rfl, w4.tr kτ, w5, Or.inr ⟨rfl, ?_⟩⟩
        obtain ⟨f, g, pl, e1, e2, e3, e4, e5, e6, e7⟩ := q2
        exact ⟨f, g, pl, e1, e2, e3, by rw [su_j (by omega)]; exact e4, e5, by rw [su_j (by omega)]; exact e6, e7⟩
/-- the readers from the first byte on -/
theorem all_s {a : Nat → Nat} {n : Nat} {σ : S0} (tx : TpX a n σ) (tp : TpM a n σ) : ∃ r τ c μ, fX5_readAll σ = some (r, τ) ∧ fX11_text σ = fX11_text_b84 μ (nI c) ∧ AR σ σ r τ c μ := by
  have hn := tp.1
  -- the class
  let s1 : S0 := su (su (su σ 4 0 3) 4 1 3) 4 2 0
  let s2 : S0 := flld (su (su s1 14 0 0) 14 7 0) 20 0 6 0
  let s3 : S0 := su (su (su (su (su s2 3 2 0) 3 3 0) 3 4 0) 3 5 0) 1 2 0
  have eX : fX5_readAll σ = obp (fX5_advance s3) (fun r11 σ12 => fX5_readAll_h39 400 σ12 r11) := by
    unfold fX5_readAll fX9_empty fX1_empty fX8_rewind
    simp only [ol]
    rw [fill_all _ _ _ _ (by omega)]
    rfl
  have s2e : ∀ k, k ≠ 4 → k ≠ 14 → k ≠ 20 → s2 k = σ k := fun k h1 h2 h3 => by
    show flld (su (su s1 14 0 0) 14 7 0) 20 0 6 0 k = _
    rw [flld_ne h3, su_ne h2, su_ne h2]
    show su (su (su σ 4 0 3) 4 1 3) 4 2 0 k = _
    rw [su_ne h1, su_ne h1, su_ne h1]
  have s3e : ∀ k, k ≠ 1 → k ≠ 3 → s3 k = s2 k := fun k h1 h3 => by
    show su (su (su (su (su s2 3 2 0) 3 3 0) 3 4 0) 3 5 0) 1 2 0 k = _
    rw [su_ne h1, su_ne h3, su_ne h3, su_ne h3, su_ne h3]
  have k3 : kX σ s3 := fun k j q => by
    unfold scX at q
    show su (su (su (su (su s2 3 2 0) 3 3 0) 3 4 0) 3 5 0) 1 2 0 k j = _
    by_cases h1 : k = 1
    · subst h1
      rw [su_j (by omega), su_ne (by omega), su_ne (by omega), su_ne (by omega), su_ne (by omega), s2e 1 (by omega) (by omega) (by omega)]
    · rw [su_ne h1, su_ne (by omega), su_ne (by omega), su_ne (by omega), su_ne (by omega), s2e k (by omega) (by omega) (by omega)]
  have s32 : s3 3 2 = nI 0 := by
    show su (su (su (su (su s2 3 2 0) 3 3 0) 3 4 0) 3 5 0) 1 2 0 3 2 = _
    rw [su_ne (by omega), su_j (by omega), su_j (by omega), su_j (by omega), su_s]; rfl
  have s33 : s3 3 3 = nI 0 := by
    show su (su (su (su (su s2 3 2 0) 3 3 0) 3 4 0) 3 5 0) 1 2 0 3 3 = _
    rw [su_ne (by omega), su_j (by omega), su_j (by omega), su_s]; rfl
  have s34 : s3 3 4 = nI 0 := by
    show su (su (su (su (su s2 3 2 0) 3 3 0) 3 4 0) 3 5 0) 1 2 0 3 4 = _
    rw [su_ne (by omega), su_j (by omega), su_s]; rfl
  have s35 : s3 3 5 = 0 := by
    show su (su (su (su (su s2 3 2 0) 3 3 0) 3 4 0) 3 5 0) 1 2 0 3 5 = _
    rw [su_ne (by omega), su_s]
  have s12 : s3 1 2 = nI 0 := by
    show su (su (su (su (su s2 3 2 0) 3 3 0) 3 4 0) 3 5 0) 1 2 0 1 2 = _
    rw [su_s]; rfl
  have t4 : ∀ j, s3 4 j = s1 4 j := fun j => by
    rw [s3e 4 (by omega) (by omega)]
    show flld (su (su s1 14 0 0) 14 7 0) 20 0 6 0 4 j = _
    rw [flld_ne (by omega), su_ne (by omega), su_ne (by omega)]
  have s40 : s3 4 0 = nI 3 := by
    rw [t4]
    show su (su (su σ 4 0 3) 4 1 3) 4 2 0 4 0 = _
    rw [su_j (by omega), su_j (by omega), su_s]; rfl
  have s41 : s3 4 1 = nI 3 := by
    rw [t4]
    show su (su (su σ 4 0 3) 4 1 3) 4 2 0 4 1 = _
    rw [su_j (by omega), su_s]; rfl
  have s42 : s3 4 2 = nI 0 := by
    rw [t4]
    show su (su (su σ 4 0 3) 4 1 3) 4 2 0 4 2 = _
    rw [su_s]; rfl
  have s140 : s3 14 0 = nI 0 := by
    rw [s3e 14 (by omega) (by omega)]
    show flld (su (su s1 14 0 0) 14 7 0) 20 0 6 0 14 0 = _
    rw [flld_ne (by omega), su_j (by omega), su_s]; rfl
  have s147 : s3 14 7 = 0 := by
    rw [s3e 14 (by omega) (by omega)]
    show flld (su (su s1 14 0 0) 14 7 0) 20 0 6 0 14 7 = _
    rw [flld_ne (by omega), su_s]
  have s20 : ∀ h, h < 6 → s3 20 h = 0 := fun h hh => by
    rw [s3e 20 (by omega) (by omega)]
    show flld (su (su s1 14 0 0) 14 7 0) 20 0 6 0 20 h = _
    rw [flld_in (by omega) hh]
  -- the reference
  let r2 : S0 := su (su σ 98 22 0) 98 18 0
  obtain ⟨f1, f2, f3, f9, f10, f11, f12, f13, f14, f15⟩ := fd_facts r2
  have eM : fX11_text σ = obp (fX11_next (fdS (z80 r2 0))) (fun r6 σ7 => fX11_text_h20 400 σ7 0) := by
    unfold fX11_text
    simp only [ol]
    rw [firstDraft_s]
    rfl
  have km : kM σ (fdS (z80 r2 0)) := fun k j q => by
    unfold scM at q
    have er2 : r2 k j = σ k j ∨ (k = 98 ∧ (j = 22 ∨ j = 18)) := by
      by_cases c : k = 98 ∧ (j = 22 ∨ j = 18)
      · exact Or.inr c
      · refine Or.inl ?_
        show su (su σ 98 22 0) 98 18 0 k j = _
        by_cases hk : k = 98
        · subst hk; rw [su_j (by omega), su_j (by omega)]
        · rw [su_ne hk, su_ne hk]
    by_cases hk : k = 98
    · subst hk
      rw [f3 j (by omega)]
      exact er2.resolve_right (by omega)
    · rw [f1 k hk (by omega)]
      exact er2.resolve_right (by omega)
  have e18 : fdS (z80 r2 0) 98 18 = nI 0 := by
    rw [f3 18 (by omega)]
    show su (su σ 98 22 0) 98 18 0 98 18 = _
    rw [su_s]; rfl
  have e22 : fdS (z80 r2 0) 98 22 = 0 := by
    rw [f3 22 (by omega)]
    show su (su σ 98 22 0) 98 18 0 98 22 = _
    rw [su_j (by omega), su_s]
  generalize fdS (z80 r2 0) = ρ1 at f1 f2 f3 f9 f10 f11 f12 f13 f14 f15 eM km e18 e22
  clear_value s3
  obtain ⟨μ, v1, v2, v3⟩ := next_s (p := 0) (tp.k km) (by omega) e18 e22
  have pe : Pend a n 0 s3 μ := ⟨s12, v3, s35, by omega⟩
  obtain ⟨r, τ, t1, t2, t3⟩ := adv_s (tx.k k3) pe
  have dr0 : DR s3 ρ1 := ⟨⟨⟨3, by omega, by omega, s40, f9⟩, 3, by omega, s41, f10⟩, ⟨0, 0, by omega, by omega, s32, s33, f15⟩, ⟨fun _ => 0, fun h hh => ⟨show (0 : Nat) < 64 by omega, s20 h hh, f2 _ (by omega)⟩, fun x y _ _ => (Nat.zero_testBit y).trans (Nat.zero_testBit x).symm, fun x _ => Nat.zero_testBit x⟩, ⟨s147, f2 66 (by omega)⟩, ⟨0, ⟨by omega, s140, f11, fun b hb => by omega⟩, Or.inl ⟨f13, fun h hh q => by
    rcases q with ⟨b, b1, -⟩ | q
    · omega
    · exact q (f2 _ (by omega))⟩⟩, 0, ⟨by omega, s42, f12, fun t ht => by omega⟩, Or.inl ⟨f14, fun j hj q => by
    obtain ⟨t, m, i, t1, -⟩ := q
    omega⟩⟩
  rw [eX, eM, t1, v1]
  simp only [obp]
  rcases t3 with ⟨q1, q2, q3⟩ | ⟨q1, q2⟩
  · obtain ⟨r', τ', c', μ', u1, u2, u3, u4, u5⟩ := all_l 321 0 400 400 0 τ μ (by omega) (by omega) (by omega) (by omega) ((tx.k k3).k t2.k) ((tp.k km).k v2.k) q3 (dr0.a t2 v2) (by rw [t2 3 4 (by omega)]; exact s34)
    rw [q1]
    exact ⟨r', τ', c', μ', u1, u2, (k3.tr t2.k).tr u3, (km.tr v2.k).tr u4, u5⟩
  · rw [q1, fl_X 399]
    exact ⟨0, τ, 0, μ, rfl, q2.b.h20 399 0, k3.tr t2.k, km.tr v2.k, Or.inr ⟨rfl, q2⟩⟩
end
section
/-! TEXT -/
theorem cpT_l : ∀ (d t m : Nat) (σ : S0), 6 - t = d → t ≤ 6 → d < m → ∃ τ, fX9_copyFrom_h56 m σ 22 4 (nI t) = some (0, c7s τ 32 14) ∧ (∀ x, (x < 26 + t ∨ 31 < x) → τ x = σ x) ∧ ∀ u, t ≤ u → u < 6 → ∀ i, i < 12 → τ (26 + u) i = σ (8 + u) i := by
  intro d
  induction d with
  | zero =>
    intro t m σ h1 h2 h3
    obtain ⟨m, rfl⟩ : ∃ q, m = q + 1 := ⟨m - 1, by omega⟩
    have : t = 6 := by omega
    subst this
    refine ⟨σ, ?_, fun _ _ => rfl, fun u a b => by omega⟩
    show fX9_copyFrom_b56 _ _ _ _ _ = _
    unfold fX9_copyFrom_b56
    rw [if_pos (show (6 : Int32) ≤ nI 6 by decide), copyFrom_e]
    rfl
  | succ d ih =>
    intro t m σ h1 h2 h3
    obtain ⟨m, rfl⟩ : ∃ q, m = q + 1 := ⟨m - 1, by omega⟩
    have hgt := ix_ok (j := t) (n := 6) (by omega) (by omega)
    have hct : (nI t).toNatClampNeg = t := nI_clamp (by omega)
    have hgt2 : ¬ (nI t < 0 ∨ 6 ≤ t) := fun q => hgt (by rw [hct]; exact q)
    obtain ⟨τ, t1, t2, t3⟩ := ih (t + 1) m (cpa σ (26 + t) (8 + t) 12) (by omega) (by omega) (by omega)
    refine ⟨τ, ?_, fun x hx => ?_, fun u a b i hi => ?_⟩
    · show fX9_copyFrom_b56 _ _ _ _ _ = _
      unfold fX9_copyFrom_b56
      rw [if_neg (show ¬ (6 : Int32) ≤ nI t from nI_ge (b := 6) (by omega) (by omega))]
      simp only [og_t hgt, og_t hgt2, hct, ol, Nat.one_mul, Nat.reduceAdd, nI_1, n12]
      exact t1
    · rw [t2 x (by omega), cpa_ne (by omega)]
    · by_cases q : u = t
      · subst q
        rw [t2 _ (by omega), cpa_in hi]
      · rw [t3 u (by omega) b i hi, cpa_ne (by omega)]
theorem cpF (σ : S0) : ∃ s, fX9_copyFrom σ 22 4 = fX9_copyFrom_h56 400 s 22 4 (nI 0) ∧ s = cpa (cpa (su (su (su σ 22 0 (σ 4 0)) 22 1 (σ 4 1)) 22 2 (σ 4 2)) 23 5 6) 24 6 6 := by
  refine ⟨_, by unfold fX9_copyFrom; rw [ol_g, ol_g, ol_g, ol_g, ol_g, ol_g, ol_g, ol_g, ← nI_0], ?_⟩
  unfold cpa
  rw [n6, su_ne (show 4 ≠ 22 by omega), su_ne (show 4 ≠ 22 by omega), su_ne (show 4 ≠ 22 by omega)]
theorem cpTown (σ : S0) : ∃ τ, fX9_copyFrom σ 22 4 = some (0, τ) ∧ (∀ x, (x < 22 ∨ 39 < x) → τ x = σ x) ∧ τ 22 0 = σ 4 0 ∧ τ 22 1 = σ 4 1 ∧ τ 22 2 = σ 4 2 ∧ (∀ t, t < 6 → τ 23 t = σ 5 t ∧ τ 24 t = σ 6 t ∧ ∀ i, i < 12 → τ (26 + t) i = σ (8 + t) i) ∧ τ 32 0 = σ 14 0 ∧ τ 32 7 = σ 14 7 ∧ (∀ d j, 1 ≤ d → d ≤ 5 → j < 12 → τ (32 + d) j = σ (14 + d) j) ∧ ∀ j, j < 6 → τ 38 j = σ 20 j := by
  obtain ⟨τ, t1, t2, t3⟩ := cpT_l 6 0 400 (cpa (cpa (su (su (su σ 22 0 (σ 4 0)) 22 1 (σ 4 1)) 22 2 (σ 4 2)) 23 5 6) 24 6 6) (by omega) (by omega) (by omega)
  have lo : ∀ x, x ≠ 22 → x ≠ 23 → x ≠ 24 → cpa (cpa (su (su (su σ 22 0 (σ 4 0)) 22 1 (σ 4 1)) 22 2 (σ 4 2)) 23 5 6) 24 6 6 x = σ x := fun x h1 h2 h3 => by rw [cpa_ne h3, cpa_ne h2, su_ne h1, su_ne h1, su_ne h1]
  refine ⟨c7s τ 32 14, ?_, fun x hx => ?_, ?_, ?_, ?_, fun t ht => ⟨?_, ?_, fun i hi => ?_⟩, ?_, ?_, fun d j h1 h2 hj => ?_, fun j hj => ?_⟩
  · obtain ⟨s, s1, s2⟩ := cpF σ
    rw [s1, s2]
    exact t1
  · rw [c7s_o (by omega), t2 x (by omega), lo x (by omega) (by omega) (by omega)]
  · rw [c7s_o (by omega), t2 22 (by omega), cpa_ne (by omega), cpa_ne (by omega), su_j (by omega), su_j (by omega), su_s]
  · rw [c7s_o (by omega), t2 22 (by omega), cpa_ne (by omega), cpa_ne (by omega), su_j (by omega), su_s]
  · rw [c7s_o (by omega), t2 22 (by omega), cpa_ne (by omega), cpa_ne (by omega), su_s]
  · rw [c7s_o (by omega), t2 23 (by omega), cpa_ne (by omega), cpa_in ht, su_ne (by omega), su_ne (by omega), su_ne (by omega)]
  · rw [c7s_o (by omega), t2 24 (by omega), cpa_in ht, cpa_ne (by omega), su_ne (by omega), su_ne (by omega), su_ne (by omega)]
  · rw [c7s_o (by omega), t3 t (by omega) ht i hi, lo _ (by omega) (by omega) (by omega)]
  · rw [c7s_0 (by omega), t2 14 (by omega), lo 14 (by omega) (by omega) (by omega)]
  · rw [c7s_7 (by omega), t2 14 (by omega), lo 14 (by omega) (by omega) (by omega)]
  · rw [c7s_d (by omega) h1 (by omega) (by omega) hj, t2 _ (by omega), lo _ (by omega) (by omega) (by omega)]
  · rw [show (38 : Nat) = 32 + 6 from rfl, c7s_6 (by omega) hj, t2 _ (by omega), lo _ (by omega) (by omega) (by omega)]
theorem h47_s (σ : S0) : fX10_text_h47 400 σ 0 = some (σ 3 4, su (su σ 72 0 0) 72 1 0) := by
  have c0 : (nI 0).toNatClampNeg = 0 := nI_clamp (by omega)
  have c1 : (nI 1).toNatClampNeg = 1 := nI_clamp (by omega)
  have e0 : fX10_text_h47 400 σ (nI 0) = fX10_text_h47 399 (su σ 72 0 0) (nI 1) := by
    show fX10_text_b47 _ _ _ = _
    unfold fX10_text_b47
    rw [if_neg (show ¬ (2 : Int32) ≤ nI 0 by decide), og_t (ix_ok (by omega) (by omega)), c0, ol_g, ol_g, nI_1]
    rfl
  have e1 : fX10_text_h47 399 (su σ 72 0 0) (nI 1) = fX10_text_h47 398 (su (su σ 72 0 0) 72 1 0) (nI 2) := by
    show fX10_text_b47 _ _ _ = _
    unfold fX10_text_b47
    rw [if_neg (show ¬ (2 : Int32) ≤ nI 1 by decide), og_t (ix_ok (by omega) (by omega)), c1, ol_g, ol_g, nI_1]
    rfl
  have e2 : fX10_text_h47 398 (su (su σ 72 0 0) 72 1 0) (nI 2) = some (σ 3 4, su (su σ 72 0 0) 72 1 0) := by
    show fX10_text_b47 _ _ _ = _
    unfold fX10_text_b47
    rw [if_pos (show (2 : Int32) ≤ nI 2 by decide), su_ne (by omega), su_ne (by omega)]
  rw [show (0 : Int32) = nI 0 from nI_0.symm, e0, e1, e2, nI_0]
/-- bits of feuds: below H, if none from H on has a feud -/
theorem fo_lt {H : Nat} {fo : Nat → Nat} (hH : H ≤ 6) (f1 : ∀ h, h < 6 → fo h < 64) (f2 : ∀ a b, a < 6 → b < 6 → (fo a).testBit b = (fo b).testBit a) (f4 : ∀ a, H ≤ a → a < 6 → fo a = 0) {x : Nat} (hx : x < 6) : fo x < 2 ^ H := by
  refine Nat.lt_pow_two_of_testBit _ (fun i hi => ?_)
  by_cases c : i < 6
  · rw [f2 x i hx c, f4 i hi c]
    exact Nat.zero_testBit _
  · exact Nat.testBit_lt_two_pow (Nat.lt_of_lt_of_le (f1 x hx) (Nat.pow_le_pow_right (n := 2) (by omega) (show 6 ≤ i by omega)))
theorem sim_text : Sim fX10_text fX11_text := by
  refine Sim.of2 (fun σ ρ => rx_fX10_text ρ σ) (fun σ ρ => rm_fX11_text σ ρ) (fun σ hR => ?_)
  obtain ⟨H0, G0, B0, T0, h⟩ := hR
  obtain ⟨hn0, hk0, hm0, ht0, hi0, ⟨n, n1, p1, p2, p3⟩, hs0, hf0, hq0⟩ := h
  have hB0 := hn0.1.2.2.2.1
  have hT0 := hn0.1.2.2.2.2
  -- the bytes
  have ea : ∀ j, j < n → (σ 104 j).toNatClampNeg < 256 ∧ σ 104 j = nI (σ 104 j).toNatClampNeg ∧ σ 2 j = sbt (σ 104 j).toNatClampNeg := fun j hj => by
    obtain ⟨x, x1, x2, x3⟩ := p3 j hj
    rw [x2, nI_clamp (by omega)]
    exact ⟨x1, rfl, x3⟩
  have tx : TpX (fun j => (σ 104 j).toNatClampNeg) n σ := ⟨n1, p1, fun j hj => ⟨(ea j hj).1, (ea j hj).2.2⟩⟩
  have tp : TpM (fun j => (σ 104 j).toNatClampNeg) n σ := ⟨n1, p2, fun j hj => ⟨(ea j hj).1, (ea j hj).2.1⟩⟩
  obtain ⟨r, τ, c, μ, a1, a2, k1, k2, a3⟩ := all_s tx tp
  unfold fX10_text
  rw [a1, a2]
  simp only [obp, ol]
  unfold fX11_text_b84
  simp only [ol]
  rcases a3 with ⟨r1, d, w1, w2, e34, e35, e22⟩ | ⟨r0, fl⟩
  · -- the text is taken
    have g22 : su μ 98 17 0 98 22 ≤ 0 := by rw [su_j (by omega), e22]; decide
    rw [r1, if_pos (by decide), if_pos g22, keepDraft_s]
    try simp only
    obtain ⟨τ2, c1, c2, c3, c4, c5, c6, c7, c8, c9, c10⟩ := cpTown (su τ 1 1 0)
    rw [c1]
    try simp only
    rw [h47_s]
    obtain ⟨b1, b2, b3, b4, b5, b6, b7, b8, b9, b10, b11⟩ := kd_facts (su μ 98 17 0)
    have e34' : τ2 3 4 = nI c := by rw [c2 3 (by omega), su_ne (by omega)]; exact e34
    rw [e34']
    refine ⟨nI c, _, nI c, _, rfl, rfl, rfl, ?_⟩
    -- the relation
    obtain ⟨⟨⟨H, h1, h2, h3, h4⟩, G, g1, g2, g3⟩, -, ⟨fo, f1, f2, f3⟩, ⟨d1, d2⟩, ⟨B, hB, hM⟩, T, hT, hN⟩ := d
    have hB12 := hB.1
    have hT6 := hT.1
    rw [h4, (hM.lt (by omega) (m := H) (by omega))] at w1
    rw [hB.2.2.1, (hN.lt (by omega) (m := B) (by omega))] at w2
    have wth : ∀ y, y < 6 → th μ B y → y < H := fun y y1 y2 => Classical.byContradiction fun q => w1 ⟨y, y1, y2, by omega⟩
    have wsb : ∀ y, y < 12 → sbr μ T y → y < B := fun y y1 y2 => Classical.byContradiction fun q => w2 ⟨y, y1, y2, by omega⟩
    have f4 : ∀ a, H ≤ a → a < 6 → fo a = 0 := fun a a1 a2 => Classical.byContradiction fun q => by
      have := wth a a2 (Or.inr (by rw [(f1 a a2).2.2]; exact nI_ne0 (by omega) (by have := (f1 a a2).1; omega)))
      omega
    generalize kdS (k84 (k80 (su μ 98 17 0) 0) 0) = ρ at b1 b2 b3 b4 b5 b6 b7 b8 b9 b10 b11
    -- the class's cells
    have X : ∀ k, k < 98 → mix (su (su τ2 72 0 0) 72 1 0) ρ k = su (su τ2 72 0 0) 72 1 0 k := fun k hk => mix_lo hk
    have Y : ∀ k, 98 ≤ k → mix (su (su τ2 72 0 0) 72 1 0) ρ k = ρ k := fun k hk => mix_hi hk
    have X2 : ∀ k, k < 98 → k ≠ 72 → mix (su (su τ2 72 0 0) 72 1 0) ρ k = τ2 k := fun k hk h72 => by rw [X k hk, su_ne h72, su_ne h72]
    have X72 : ∀ k, k < 2 → mix (su (su τ2 72 0 0) 72 1 0) ρ 72 k = 0 := fun k hk => by
      rw [X 72 (by omega)]
      rcases (show k = 0 ∨ k = 1 by omega) with rfl | rfl
      · rw [su_j (by omega), su_s]
      · rw [su_s]
    generalize mix (su (su τ2 72 0 0) 72 1 0) ρ = ν at X Y X2 X72
    have T1 : ∀ k j, k ≠ 1 → su τ 1 1 0 k j = τ k j := fun k j hk => by rw [su_ne hk]
    have M1 : ∀ k j, k ≠ 98 → su μ 98 17 0 k j = μ k j := fun k j hk => by rw [su_ne hk]
    have M8 : ∀ j, j ≠ 17 → su μ 98 17 0 98 j = μ 98 j := fun j hj => su_j hj
    have e99 : ∀ j, j < 80 → ν 99 j = μ 102 j := fun j hj => by rw [Y 99 (by omega), b2 j hj, M1 102 j (by omega)]
    have e101 : ∀ j, j < 84 → ν 101 j = μ 103 j := fun j hj => by rw [Y 101 (by omega), b4 j hj, M1 103 j (by omega)]
    have hold : ∀ x, (39 < x ∧ x < 98 ∧ x ≠ 72) ∨ x = 0 ∨ x = 2 → ν x = σ x := fun x hx => by
      rw [X2 x (by omega) (by omega), c2 x (by omega), su_ne (by omega)]
      exact funext fun j => k1 x j (by unfold scX; omega)
    have holdM : ∀ x, 104 ≤ x → ν x = σ x := fun x hx => by
      rw [Y x (by omega), b1 x (by omega) (by omega) (by omega) (by omega), su_ne (by omega)]
      exact funext fun j => k2 x j (by unfold scM; omega)
    refine ⟨H, G, B, T, ⟨⟨h1, h2, g1, hB12, hT6⟩, ⟨?_, ?_, ?_, ?_⟩, ?_, ?_, ?_⟩, ⟨?_, fun b hb => ?_, fun x hx => ?_, ?_, fun j hj hl => ?_⟩, ⟨⟨0, by omega, ?_, fun j hj => by omega⟩, fun b hb => ?_, fo, fun x hx => ⟨fo_lt h2 (fun x hx => (f1 x hx).1) f2 f4 hx, ?_⟩, f2, f3, f4⟩, fun t ht => ?_, fun k hk => Or.inl ⟨?_, X72 k hk⟩, ⟨0, by omega, ?_, ?_, fun j hj => by omega⟩, hs0.c (holdM 108 (by omega)) (holdM 109 (by omega)) (holdM 110 (by omega)) (fun x x1 x2 => hold x (by omega)), ?_, ?_⟩
    · rw [Y 98 (by omega), b6, M8 9 (by omega)]; exact h4
    · rw [Y 98 (by omega), b7, M8 10 (by omega)]; exact g3
    · rw [Y 98 (by omega), b8, M8 11 (by omega)]; exact hB.2.2.1
    · rw [Y 98 (by omega), b9, M8 12 (by omega)]; exact hT.2.2.1
    · rw [X2 22 (by omega) (by omega), c3, T1 4 0 (by omega)]; exact h3
    · rw [X2 22 (by omega) (by omega), c4, T1 4 1 (by omega)]; exact g2
    · rw [X2 22 (by omega) (by omega), c5, T1 4 2 (by omega)]; exact hT.2.1
    · rw [X2 32 (by omega) (by omega), c7, T1 14 0 (by omega)]; exact hB.2.1
    · obtain ⟨⟨w, q1, q2, q3⟩, ⟨f, q4, q5, q6⟩, ⟨f', q7, q8, q9⟩, q10, q11⟩ := hB.2.2.2 b hb
      have z : ∀ d, 1 ≤ d → d ≤ 5 → ν (32 + d) b = τ (14 + d) b := fun d u1 u2 => by rw [X2 _ (by omega) (by omega), c9 d b u1 u2 (by omega), T1 _ _ (by omega)]
      refine ⟨?_, ?_, ?_, ?_, ?_⟩
      · rw [z 1 (by omega) (by omega), e99 _ (by omega), show 0 + 5 * b = 5 * b by omega, q3]; exact q2
      · rw [z 2 (by omega) (by omega), e99 _ (by omega), show 0 + 5 * b + 1 = 5 * b + 1 by omega, q6]; exact q5
      · rw [z 3 (by omega) (by omega), e99 _ (by omega), show 0 + 5 * b + 2 = 5 * b + 2 by omega, q9]; exact q8
      · rw [z 4 (by omega) (by omega), e99 _ (by omega), show 0 + 5 * b + 3 = 5 * b + 3 by omega]
        rcases q10 with q | q
        · rw [q.2]; exact q.1
        · rw [q.2]; exact q.1
      · rw [z 5 (by omega) (by omega), e99 _ (by omega), show 0 + 5 * b + 4 = 5 * b + 4 by omega]
        rcases q11 with q | ⟨x, -, x2, x3⟩
        · rw [q.2]; exact q.1
        · rw [x3]; exact x2
    · rw [X2 (32 + 6) (by omega) (by omega), show (32 + 6 : Nat) = 38 from rfl, c10 x hx, T1 _ _ (by omega), e99 _ (by omega), show 0 + 60 + x = 60 + x by omega, (f1 x hx).2.2]; exact (f1 x hx).2.1
    · rw [X2 32 (by omega) (by omega), c8, T1 14 7 (by omega), d1, e99 _ (by omega), d2]
    · rw [e99 _ (by omega), d2] at hl
      exact absurd hl (nI_pos (by omega))
    · rw [e99 _ (by omega), d2]; rfl
    · obtain ⟨⟨w, q1, q2, q3⟩, ⟨f, q4, q5, q6⟩, ⟨f', q7, q8, q9⟩, q10, q11⟩ := hB.2.2.2 b hb
      refine ⟨⟨w, wth w q1 (Or.inl ⟨b, hb, Or.inl q3⟩), ?_⟩, ⟨f, q4, ?_⟩, ⟨f', q7, ?_⟩, ?_, ?_⟩
      · rw [e99 _ (by omega), show 0 + 5 * b = 5 * b by omega]; exact q3
      · rw [e99 _ (by omega), show 0 + 5 * b + 1 = 5 * b + 1 by omega]; exact q6
      · rw [e99 _ (by omega), show 0 + 5 * b + 2 = 5 * b + 2 by omega]; exact q9
      · rw [e99 _ (by omega), show 0 + 5 * b + 3 = 5 * b + 3 by omega]
        exact q10.elim (fun q => Or.inl q.2) (fun q => Or.inr q.2)
      · rw [e99 _ (by omega), show 0 + 5 * b + 4 = 5 * b + 4 by omega]
        rcases q11 with q | ⟨x, x1, x2, x3⟩
        · exact Or.inl q.2
        · exact Or.inr ⟨x, wth x x1 (Or.inl ⟨b, hb, Or.inr x3⟩), x3⟩
    · rw [e99 _ (by omega), show 0 + 60 + x = 60 + x by omega]; exact (f1 x hx).2.2
    · obtain ⟨m, m1, m2, m3, m4, ⟨w, u1, u2, u3⟩, m6⟩ := hT.2.2.2 t ht
      obtain ⟨v1, v2, v3⟩ := c6 t (by omega)
      refine ⟨m, m1, m2, ?_, ?_, ?_, ⟨w, u1, ?_⟩, fun i hi => ?_⟩
      · rw [e101 _ (by omega)]; exact m4
      · rw [X2 24 (by omega) (by omega), v2, T1 _ _ (by omega)]; exact m3
      · rw [X2 23 (by omega) (by omega), v1, T1 _ _ (by omega), e101 _ (by omega), u3]; exact u2
      · rw [e101 _ (by omega)]; exact u3
      · obtain ⟨b, o1, o2, o3⟩ := m6 i hi
        refine ⟨b, wsb b o1 ⟨t, m, i, ht, m2, m4, hi, o3⟩, ?_, ?_⟩
        · rw [e101 _ (by omega)]; exact o3
        · rw [X2 _ (by omega) (by omega), v3 i (by omega), T1 _ _ (by omega)]; exact o2
    · rw [Y 100 (by omega)]
      rcases (show k = 0 ∨ k = 1 by omega) with rfl | rfl
      · exact b10
      · exact b11
    · rw [X2 1 (by omega) (by omega), c2 1 (by omega), su_s]; rfl
    · rw [Y 98 (by omega), b5 17 (by omega), su_s]; rfl
    · have q1 : ν 3 5 = 0 := by rw [X2 3 (by omega) (by omega), c2 3 (by omega), T1 3 5 (by omega)]; exact e35
      have q2 : ν 98 22 = 0 := by rw [Y 98 (by omega), b5 22 (by omega), M8 22 (by omega)]; exact e22
      exact ⟨fun _ => q2, fun _ => q1⟩
    · rw [hold 0 (by omega), Y 98 (by omega), b5 39 (by omega), M8 39 (by omega), k2 98 39 (by unfold scM; omega)]; exact hq0
  · -- a fault
    obtain ⟨f, g, pl, q1, q2, q3, q4, q5, q6, q7⟩ := fl
    have g22 : ¬ su μ 98 17 0 98 22 ≤ 0 := by rw [su_j (by omega), q5]; exact nI_nle (by omega) (by omega)
    rw [r0, if_neg (fun q => q rfl), if_neg g22, su_ne (show 3 ≠ 1 by omega), q6, su_j (show 23 ≠ 17 by omega), q7]
    refine ⟨_, _, _, _, rfl, rfl, rfl, ?_⟩
    have X : ∀ k, k < 98 → mix (su τ 1 1 0) (su μ 98 17 0) k = su τ 1 1 0 k := fun k hk => mix_lo hk
    have Y : ∀ k, 98 ≤ k → mix (su τ 1 1 0) (su μ 98 17 0) k = su μ 98 17 0 k := fun k hk => mix_hi hk
    generalize mix (su τ 1 1 0) (su μ 98 17 0) = ν at X Y
    have hold : ∀ x, x < 98 → x ≠ 1 → x ≠ 3 → (x < 4 ∨ 21 < x) → ν x = σ x := fun x h1 h2 h3 h4 => by
      rw [X x h1, su_ne h2]
      exact funext fun j => k1 x j (by unfold scX; omega)
    have holdM : ∀ x, 98 < x → x ≠ 102 → x ≠ 103 → ν x = σ x := fun x h1 h2 h3 => by
      rw [Y x (by omega), su_ne (by omega)]
      exact funext fun j => k2 x j (by unfold scM; omega)
    have hold8 : ∀ j, j ≠ 17 → ¬ (9 ≤ j ∧ j ≤ 15) → ¬ (18 ≤ j ∧ j ≤ 23) → ν 98 j = σ 98 j := fun j h1 h2 h3 => by
      rw [Y 98 (by omega), su_j h1]
      exact k2 98 j (by unfold scM; omega)
    refine ⟨H0, G0, B0, T0, hn0.c (hold8 2 (by omega) (by omega) (by omega)) (hold8 3 (by omega) (by omega) (by omega)) (hold8 4 (by omega) (by omega) (by omega)) (hold8 5 (by omega) (by omega) (by omega)) (hold 22 (by omega) (by omega) (by omega) (by omega)), hk0.c (fun d hd => hold _ (by omega) (by omega) (by omega) (by omega)) (fun i _ _ => by rw [holdM 99 (by omega) (by omega) (by omega)]) hB0, hm0.c (fun i _ _ => by rw [holdM 99 (by omega) (by omega) (by omega)]) hB0, ht0.c (holdM 101 (by omega) (by omega) (by omega)) (hold 24 (by omega) (by omega) (by omega) (by omega)) (hold 23 (by omega) (by omega) (by omega) (by omega)) (fun t ht => hold _ (by omega) (by omega) (by omega) (by omega)), hi0.c (holdM 100 (by omega) (by omega) (by omega)) (hold 72 (by omega) (by omega) (by omega) (by omega)) (fun x x1 x2 => hold _ (by omega) (by omega) (by omega) (by omega)) (fun i _ _ => by rw [holdM 99 (by omega) (by omega) (by omega)]) hB0, ⟨0, by omega, ?_, ?_, fun j hj => by omega⟩, hs0.c (holdM 108 (by omega) (by omega) (by omega)) (holdM 109 (by omega) (by omega) (by omega)) (holdM 110 (by omega) (by omega) (by omega)) (fun x x1 x2 => hold _ (by omega) (by omega) (by omega) (by omega)), ?_, ?_⟩
    · rw [X 1 (by omega), su_s]; rfl
    · rw [Y 98 (by omega), su_s]; rfl
    · have e1 : ¬ ν 3 5 = 0 := by rw [X 3 (by omega), su_ne (by omega), q4]; exact nI_ne0 (by omega) (by omega)
      have e2 : ¬ ν 98 22 = 0 := by rw [Y 98 (by omega), su_j (by omega), q5]; exact nI_ne0 (by omega) (by omega)
      exact ⟨fun q => absurd q e1, fun q => absurd q e2⟩
    · rw [hold 0 (by omega) (by omega) (by omega) (by omega), hold8 39 (by omega) (by omega) (by omega)]; exact hq0
end
