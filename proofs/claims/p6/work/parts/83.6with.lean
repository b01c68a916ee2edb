/-! THE TEXT: what stands behind a bell -/
def wX (b : Nat) (σ τ : S0) : Prop := ∀ k j, ¬ ((k = 1 ∧ 2 ≤ j ∧ j ≤ 5) ∨ (k = 3 ∧ (j = 5 ∨ j = 6)) ∨ ((k = 18 ∨ k = 19) ∧ j = b)) → τ k j = σ k j
theorem wX.tr {b : Nat} {x y z : S0} (h1 : wX b x y) (h2 : wX b y z) : wX b x z := fun k j h => (h2 k j h).trans (h1 k j h)
theorem wX.k {b : Nat} {x y : S0} (h : wX b x y) : kX x y := fun k j q => h k j (fun z => q (by unfold scX; omega))
theorem onA.w {x y : S0} (h : onA x y) (b : Nat) : wX b x y := fun k j q => h k j (by omega)
theorem wX.rf (b : Nat) (x : S0) : wX b x x := fun _ _ _ => rfl
theorem wX_su {b k : Nat} {σ : S0} (h : k = 18 ∨ k = 19) (v : Int32) : wX b σ (su σ k b v) := fun x y q => by
  by_cases hx : x = k
  · subst hx; exact su_j (fun z => q (by omega))
  · rw [su_ne hx]
def wM (b : Nat) (σ τ : S0) : Prop := ∀ k j, ¬ ((k = 98 ∧ (j = 11 ∨ j = 13 ∨ 18 ≤ j ∧ j ≤ 23)) ∨ (k = 102 ∧ (j = 5 * b + 3 ∨ j = 5 * b + 4))) → τ k j = σ k j
theorem wM.tr {b : Nat} {x y z : S0} (h1 : wM b x y) (h2 : wM b y z) : wM b x z := fun k j h => (h2 k j h).trans (h1 k j h)
theorem wM.k {b : Nat} {x y : S0} (h : wM b x y) : kM x y := fun k j q => h k j (fun z => q (by unfold scM; omega))
theorem on9.w {x y : S0} (h : on9 x y) (b : Nat) : wM b x y := fun k j q => h k j (by omega)
theorem on8.w {x y : S0} (h : on8 x y) (b : Nat) : wM b x y := fun k j q => h k j (by omega)
theorem wM.rf (b : Nat) (x : S0) : wM b x x := fun _ _ _ => rfl
theorem wM_su {b k j : Nat} {σ : S0} (h : (k = 98 ∧ (j = 11 ∨ j = 13 ∨ 18 ≤ j ∧ j ≤ 23)) ∨ (k = 102 ∧ (j = 5 * b + 3 ∨ j = 5 * b + 4))) (v : Int32) : wM b σ (su σ k j v) := fun x y q => by
  by_cases hx : x = k
  · subst hx; exact su_j (fun z => q (by omega))
  · rw [su_ne hx]
theorem bad.h72 {ρ : S0} (h : bad ρ) (m : Nat) (x1 x2 : Int32) : fX11_readBell_h72 (m + 1) ρ x1 x2 = some (0, su ρ 98 11 (ρ 98 11 + 1)) := by
  show fX11_readBell_b72 _ _ _ _ = _
  unfold fX11_readBell_b72 fX11_readBell_b207
  rw [if_pos h.n]
  rfl
def WB (Q : Nat → Prop) (b o hs ss : Nat) (σ ρ : S0) : Prop := o < 6 ∧ σ 15 b = nI o ∧ ρ 102 (5 * b) = nI o ∧ σ 18 b = nI ss ∧ ρ 102 (5 * b + 3) = nI ss ∧ ((hs = 0 ∧ σ 19 b = -4 ∧ ρ 102 (5 * b + 4) = -4 ∧ Mx 6 (ρ 98 13) Q) ∨ (hs = 1 ∧ ∃ h, h < 6 ∧ σ 19 b = nI h ∧ ρ 102 (5 * b + 4) = nI h ∧ Mx 6 (ρ 98 13) (fun y => Q y ∨ y = h)))
def WC (a : Nat → Nat) (n : Nat) (Q : Nat → Prop) (b o p : Nat) (σ ρ : S0) (ox om : Option (Int32 × S0)) : Prop := ∃ r τ μ, ox = some (r, τ) ∧ om = some (0, μ) ∧ wX b σ τ ∧ wM b ρ μ ∧ ((r = 1 ∧ ∃ hs ss p', hs ≤ 1 ∧ ss ≤ 1 ∧ p ≤ p' ∧ Cur a n p' τ μ ∧ WB Q b o hs ss τ μ ∧ μ 98 11 = ρ 98 11 + 1) ∨ (r = 1 ∧ ∃ p', p' ≤ n ∧ tkX a n p' τ ∧ tK a n p' = 1 ∧ τ 3 5 = 0 ∧ μ 98 22 = nI 2 ∧ μ 98 23 = nI (tS a n p')) ∨ (r = 0 ∧ Flt τ μ))
theorem had_t : ∀ h : Fin 2, ∀ s : Fin 2, ((nI (1024 * h.1 + 2048 * s.1) >>> ((10 : Int32) &&& 31)) &&& 1 = 0 ↔ h.1 = 0) ∧ ((nI (1024 * h.1 + 2048 * s.1) >>> ((11 : Int32) &&& 31)) &&& 1 = 0 ↔ s.1 = 0) ∧ (h.1 = 0 → nI (1024 * h.1 + 2048 * s.1) ||| ((1 : Int32) <<< ((10 : Int32) &&& 31)) = nI (1024 * 1 + 2048 * s.1)) ∧ (s.1 = 0 → nI (1024 * h.1 + 2048 * s.1) ||| ((1 : Int32) <<< ((11 : Int32) &&& 31)) = nI (1024 * h.1 + 2048 * 1)) := by decide
theorem wth_st {a : Nat → Nat} {n : Nat} (Q : Nat → Prop) {b o : Nat} (hb12 : b < 12) {hs ss : Nat} (hh : hs ≤ 1) (hss : ss ≤ 1) {m m' p : Nat} {σ ρ : S0} (tx : TpX a n σ) (tp : TpM a n ρ) (cu : Cur a n p σ ρ) (wb : WB Q b o hs ss σ ρ)
    (ih : ∀ (hs' ss' p' : Nat) (σ' ρ' : S0), hs' + ss' = hs + ss + 1 → hs' ≤ 1 → ss' ≤ 1 → TpX a n σ' → TpM a n ρ' → Cur a n p' σ' ρ' → WB Q b o hs' ss' σ' ρ' → WC a n Q b o p' σ' ρ' (fX5_readWiths_h2 m σ' 14 (nI b) (nI (hs' + ss'))) (fX11_readBell_h72 (m' + 1) ρ' (nI (5 * b)) (nI (1024 * hs' + 2048 * ss')))) :
    WC a n Q b o p σ ρ (fX5_readWiths_h2 (m + 1) σ 14 (nI b) (nI (hs + ss))) (fX11_readBell_h72 (m' + 2) ρ (nI (5 * b)) (nI (1024 * hs + 2048 * ss))) := by
  obtain ⟨c1, c2, c3, c4, c5⟩ := cu
  have hn := tp.1
  have hone : ¬ (1 : Int32) = 0 := by decide
  have hzo : ¬ (0 : Int32) = 1 := by decide
  have hb := tok_b (a := a) c5
  obtain ⟨g1, g2, g3⟩ := c2.g c3
  have n0 : ¬ ¬ ρ 98 22 = 0 := fun q => q g1
  have e20 : ρ 98 20 = 1 ↔ tK a n p = 1 := by rw [g2]; exact nI_eq (b := 1) (by omega) (by omega)
  have hgb := ix_ok (j := b) (n := 12) hb12 (by omega)
  have hcb : (nI b).toNatClampNeg = b := nI_clamp (by omega)
  have hgb2 : ¬ (nI b < 0 ∨ 12 ≤ b) := fun q => hgb (by rw [hcb]; exact q)
  obtain ⟨ho, w15, w102, w18, w1023, w19⟩ := wb
  obtain ⟨u1, u2, u3, u4⟩ := had_t ⟨hs, by omega⟩ ⟨ss, by omega⟩
  simp only at u1 u2 u3 u4
  have h3 : ¬ (3 : Int32) ≤ nI (hs + ss) := nI_ge (b := 3) (by omega) (by omega)
  obtain ⟨r5, p5, o5, m5⟩ := isName_s okW_5 tx c1.1 c1.2.1 c1.2.2.1 (by omega) hb.2.1 hb.2.2.1
  obtain ⟨r6, p6, o6, m6⟩ := isName_s okW_6 tx c1.1 c1.2.1 c1.2.2.1 (by omega) hb.2.1 hb.2.2.1
  have hX : fX5_readWiths_h2 (m + 1) σ 14 (nI b) (nI (hs + ss)) = if ¬ r5 = 0 then fX5_readWiths_b37 (fX5_readWiths_h2 m) σ 14 (nI b) (nI (hs + ss)) r5 else if ¬ r6 = 0 then fX5_readWiths_b37 (fX5_readWiths_h2 m) σ 14 (nI b) (nI (hs + ss)) r5 else some (1, σ) := by
    show fX5_readWiths_b2 _ _ _ _ _ = _
    unfold fX5_readWiths_b2
    rw [if_neg h3, p5]
    simp only [obp]
    rw [p6]
  have hM0 : fX11_readBell_h72 (m' + 2) ρ (nI (5 * b)) (nI (1024 * hs + 2048 * ss)) = fX11_readBell_b72 (fX11_readBell_h72 (m' + 1)) ρ (nI (5 * b)) (nI (1024 * hs + 2048 * ss)) := rfl
  by_cases k1 : tK a n p = 1
  · obtain ⟨r, q1, q2⟩ := withNow_s tp c2.1 c2.2.1 hb.2.1 hb.2.2.1
    have hM : fX11_readBell_h72 (m' + 2) ρ (nI (5 * b)) (nI (1024 * hs + 2048 * ss)) = if r = -4 then fX11_readBell_b104 (fX11_readBell_h72 (m' + 1)) ρ (nI (5 * b)) (nI (1024 * hs + 2048 * ss)) r 0 else fX11_readBell_b104 (fX11_readBell_h72 (m' + 1)) ρ (nI (5 * b)) (nI (1024 * hs + 2048 * ss)) r 1 := by
      rw [hM0]
      unfold fX11_readBell_b72
      rw [if_neg n0, if_neg (fun q => q (e20.mpr k1)), q1]
      rfl
    -- once more: both find it
    have again : ∀ (x3 : Int32), (x3 = 10 ∨ x3 = 11) → ¬ ((nI (1024 * hs + 2048 * ss) >>> (x3 &&& 31)) &&& 1) = 0 → fX11_readBell_b104 (fX11_readBell_h72 (m' + 1)) ρ (nI (5 * b)) (nI (1024 * hs + 2048 * ss)) x3 1 = some (0, su (su (su ρ 98 22 4) 98 23 (ρ 98 19)) 98 11 (su (su ρ 98 22 4) 98 23 (ρ 98 19) 98 11 + 1)) := fun x3 hx hbit => by
      have hbad : bad (su (su ρ 98 22 4) 98 23 (ρ 98 19)) := ⟨4, by omega, by omega, by rw [su_j (by omega), su_s]; rfl⟩
      have hx4 : ¬ x3 = -4 := by rcases hx with rfl | rfl <;> decide
      unfold fX11_readBell_b104 fX11_readBell_b128 fX11_readBell_b146 fX11_readBell_b177 fX11_readBell_b204
      rw [needs_y _ (by decide)]
      simp only [obp]
      rw [if_neg hx4, if_pos hbit, needs_n _ g1]
      simp only
      rw [if_pos hx4, ol_g, hbad.next]
      simp only
      rw [if_pos hbad.n, if_pos hbad.n, hbad.h72]
    have againR : WC a n Q b o p σ ρ (some (0, su (su σ 3 5 4) 3 6 (σ 1 4))) (some (0, su (su (su ρ 98 22 4) 98 23 (ρ 98 19)) 98 11 (su (su ρ 98 22 4) 98 23 (ρ 98 19) 98 11 + 1))) := by
      refine ⟨0, _, _, rfl, rfl, (refuse_o σ 4).w b, ((wM_su (Or.inl ⟨rfl, by omega⟩) _).tr (wM_su (Or.inl ⟨rfl, by omega⟩) _)).tr (wM_su (Or.inl ⟨rfl, by omega⟩) _), Or.inr (Or.inr ⟨rfl, ?_⟩)⟩
      exact flt_r (f := 4) (g := 4) (pl := tS a n p) (by omega) (by omega) (by omega) c1.1 (by rw [su_j (by omega), su_j (by omega), su_s]; rfl) (by rw [su_j (by omega), su_s]; exact c2.1)
    -- for the first time
    have first : ∀ (x3 : Int32) (v : Nat), (x3 = 10 ∨ x3 = 11) → ((nI (1024 * hs + 2048 * ss) >>> (x3 &&& 31)) &&& 1) = 0 → nI (1024 * hs + 2048 * ss) ||| ((1 : Int32) <<< (x3 &&& 31)) = nI v → fX11_readBell_b104 (fX11_readBell_h72 (m' + 1)) ρ (nI (5 * b)) (nI (1024 * hs + 2048 * ss)) x3 1 = obp (fX11_next ρ) (fun r2 σ3 => if ¬ (σ3 98 22) = 0 then (fX11_readBell_b177 (fX11_readBell_h72 (m' + 1)) σ3 (nI (5 * b)) (nI v)) else (if ¬ x3 = 11 then (fX11_readBell_b177 (fX11_readBell_h72 (m' + 1)) σ3 (nI (5 * b)) (nI v)) else (ol (nI (5 * b) + 3) (fun v7 => og (¬ (v7 < 0 ∨ 80 ≤ v7.toNatClampNeg)) (ol (su σ3 102 v7.toNatClampNeg 1) (fun σ9 => fX11_readBell_b204 (fX11_readBell_h72 (m' + 1)) σ9 (nI (5 * b)) (nI v))))))) := fun x3 v hx hbit hor => by
      have hx4 : ¬ x3 = -4 := by rcases hx with rfl | rfl <;> decide
      unfold fX11_readBell_b104 fX11_readBell_b123 fX11_readBell_b128 fX11_readBell_b146
      rw [needs_y _ (by decide)]
      simp only [obp]
      rw [if_neg hx4, if_neg (fun q => q hbit), needs_y _ (by decide)]
      simp only
      rw [if_pos hx4, ol_g, hor]
    have badT : ∀ (ν : S0) (v : Int32), bad ν → fX11_readBell_b177 (fX11_readBell_h72 (m' + 1)) ν (nI (5 * b)) v = some (0, su ν 98 11 (ν 98 11 + 1)) := fun ν v hbad => by
      unfold fX11_readBell_b177 fX11_readBell_b204
      rw [if_pos hbad.n, hbad.h72]
    obtain ⟨μ, v1, v2, v3⟩ := nx_s c2 c3 tp c5
    have hk4 := tK_4 a n (tE a n p)
    rcases q2 with ⟨rfl, n5⟩ | ⟨rfl, nn5, n6⟩ | ⟨rfl, nn5, nn6⟩
    · -- half
      have e5 : r5 = 1 := m5.mpr ⟨k1, n5⟩
      rw [hX, hM, e5, if_pos hone, if_neg (by decide)]
      unfold fX5_readWiths_b37
      rw [if_neg hone, og_t hgb, hcb, ol_g]
      rcases w19 with ⟨q0, q19, q1024, qm⟩ | ⟨q1', h, q19, q19', -⟩
      · rw [if_pos q19, first 10 (1024 * 1 + 2048 * ss) (Or.inl rfl) (u1.mpr q0) (u3 q0), v1]
        simp only [obp]
        unfold fX5_readWiths_b71
        rw [if_pos hone]
        have pe : Pend a n (tE a n p) σ μ := ⟨c1.2.1, v3, c4, hb.2.2.1⟩
        by_cases cp : tK a n (tE a n p) = 4
        · have hbad : bad μ := ⟨1, by omega, by omega, (v3.f cp).1⟩
          obtain ⟨τ, t1, t2, t3⟩ := nn_bad (lo := 0) (hi := 5) tx pe (by omega) (by omega) cp
          have t1' : fX5_nextNumber σ 0 5 = some (0, τ) := t1
          rw [if_pos hbad.n, badT μ _ hbad, t1']
          simp only [obp]
          rw [if_neg (by decide)]
          exact ⟨0, τ, _, rfl, rfl, t2.w b, (v2.w b).tr (wM_su (Or.inl ⟨rfl, by omega⟩) _), Or.inr (Or.inr ⟨rfl, t3.m (su_j (by omega)) (su_j (by omega))⟩)⟩
        · have g4 := (v3.g (by omega)).1
          have tp1 := tp.k v2.k
          rw [if_neg (fun q => q g4), if_pos (by decide)]
          obtain ⟨r1, τ1, w1, μ1, t1, t2, t3, t4, t5⟩ := rh_s tx tp1 pe (nI o)
          have t1' : fX5_nextNumber σ 0 5 = some (r1, τ1) := t1
          have e102 : ∀ j, μ 102 j = ρ 102 j := fun j => v2 102 j (by omega)
          have hgv := ix_ok (j := 5 * b + 4) (n := 80) (by omega) (by omega)
          have hcv : (nI (5 * b + 4)).toNatClampNeg = 5 * b + 4 := nI_clamp (by omega)
          have hMM : fX11_readBell_b177 (fX11_readBell_h72 (m' + 1)) μ (nI (5 * b)) (nI (1024 * 1 + 2048 * ss)) = fX11_readBell_h72 (m' + 1) (su μ1 102 (5 * b + 4) w1) (nI (5 * b)) (nI (1024 * 1 + 2048 * ss)) := by
            unfold fX11_readBell_b177 fX11_readBell_b204
            rw [if_neg (fun q => q g4), Int32.add_zero, ol_g, og_t (ix_ok (by omega) (by omega)), nI_clamp (by omega), ol_g, e102, w102, t2]
            simp only [obp]
            rw [show (4 : Int32) = nI 4 from rfl, nI_add, ol_g, og_t hgv, hcv, ol_g]
          rw [hMM, t1']
          simp only [obp]
          have wσ := t3.w b
          have wρ := (v2.w b).tr (t4.w b)
          have wρ2 : wM b μ1 (su μ1 102 (5 * b + 4) w1) := wM_su (Or.inr ⟨rfl, by omega⟩) _
          rcases t5 with ⟨z1, o1, x, x1, x2, x3, x4, x5, pe1⟩ | ⟨z1, o1, x, x1, x2, x3, x4, x5, x6, x7⟩ | ⟨z0, z1, fl⟩
          · -- a half of another house
            rw [z1, if_pos hone, og_t hgb, hcb, ol_g]
            have e15 : τ1 (14 + 1) b = nI o := by rw [t3.c (by omega) (by omega)]; exact w15
            rw [e15, if_pos (by rw [x2]; exact x4), ol_g, og_t hgb2, x2, ol_g]
            unfold fX5_readWiths_b132
            have s1 : wX b τ1 (su τ1 (14 + 5) b (nI x)) := wX_su (Or.inr rfl) _
            have pe2 : Pend a n (tE a n (tE a n p)) (su τ1 (14 + 5) b (nI x)) (su μ1 102 (5 * b + 4) w1) := pe1.o (su_n2 (by omega)) (su_n2 (by omega)) (fun j _ _ => su_n2 (by omega))
            have hb2 := tok_b (a := a) hb.2.2.1
            obtain ⟨r2, τ2, y1, y2, y3⟩ := adv_s (tx.k (wσ.tr s1).k) pe2
            rw [y1]
            simp only [obp]
            rcases y3 with ⟨e1, e2, e3⟩ | ⟨e1, e2⟩
            · rw [e1, if_pos hone, nI_1, ol_g]
              have wX3 := (wσ.tr s1).tr (y2.w b)
              have wM3 := wρ.tr wρ2
              obtain ⟨r', τ', μ', i1, i2, i3, i4, i5⟩ := ih 1 ss (tE a n (tE a n p)) τ2 (su μ1 102 (5 * b + 4) w1) (by omega) (by omega) hss (tx.k wX3.k) (tp.k wM3.k) e3 ⟨ho, by rw [wX3 15 b (by omega)]; exact w15, by rw [wM3 102 _ (by omega)]; exact w102, by rw [y2 18 b (by omega), su_ne (by omega), t3 18 b (by omega)]; exact w18, by rw [su_j (by omega), t4.c (by omega), e102]; exact w1023, Or.inr ⟨rfl, x, x1, by rw [y2 19 b (by omega), su_s], by rw [su_s, x3], by
                  rw [su_ne (by omega), x5, v2 98 13 (by omega)]
                  exact qm.add x1 (by omega)⟩⟩
              rw [q0, Nat.zero_add, Nat.add_comm ss 1]
              refine ⟨r', τ', μ', i1, i2, wX3.tr i3, wM3.tr i4, ?_⟩
              rcases i5 with ⟨a1, hs', ss', p', a2, a3, a4, a5, a6, a7⟩ | a' | a'
              · refine Or.inl ⟨a1, hs', ss', p', a2, a3, by omega, a5, a6, ?_⟩
                rw [a7, su_ne (by omega), t4 98 11 (by omega), v2 98 11 (by omega)]
              · exact Or.inr (Or.inl a')
              · exact Or.inr (Or.inr a')
            · rw [e1, if_neg (fun q => q rfl), e2.b.h72]
              exact ⟨0, τ2, _, rfl, rfl, (wσ.tr s1).tr (y2.w b), (wρ.tr wρ2).tr (wM_su (Or.inl ⟨rfl, by omega⟩) _), Or.inr (Or.inr ⟨rfl, e2.m (su_j (by omega)) (su_j (by omega))⟩)⟩
          · -- a half of the owner's
            have hbad : bad (su μ1 102 (5 * b + 4) w1) := ⟨4, by omega, by omega, by rw [su_ne (by omega)]; exact x6⟩
            rw [z1, if_pos hone, og_t hgb, hcb, ol_g]
            have e15 : τ1 (14 + 1) b = nI o := by rw [t3.c (by omega) (by omega)]; exact w15
            rw [e15, if_neg (fun q => q (by rw [x2]; exact x3)), refuse_s, hbad.h72]
            have hb2 := tok_b (a := a) hb.2.2.1
            exact ⟨0, _, _, rfl, rfl, wσ.tr ((refuse_o τ1 4).w b), (wρ.tr wρ2).tr (wM_su (Or.inl ⟨rfl, by omega⟩) _), Or.inr (Or.inr ⟨rfl, flt_r (f := 4) (g := 4) (pl := tS a n (tE a n p)) (by omega) (by omega) (by omega) x4 (by rw [su_j (by omega), su_ne (by omega)]; exact x6) (by rw [su_j (by omega), su_ne (by omega)]; exact x7)⟩)⟩
          · have hbad : bad (su μ1 102 (5 * b + 4) w1) := fl.b.o (su_n2 (by omega))
            rw [z0, if_neg (fun q => q rfl), hbad.h72]
            exact ⟨0, τ1, _, rfl, rfl, wσ, (wρ.tr wρ2).tr (wM_su (Or.inl ⟨rfl, by omega⟩) _), Or.inr (Or.inr ⟨rfl, fl.m (by rw [su_j (by omega), su_ne (by omega)]) (by rw [su_j (by omega), su_ne (by omega)])⟩)⟩
      · rw [if_neg (by rw [q19']; exact nI_m4 (by omega)), again 10 (Or.inl rfl) (fun q => by have := u1.mp q; omega)]
        unfold fX5_readWiths_b65
        rw [refuse_og]
        exact againR
    · -- shut
      have e5 : r5 = 0 := o5.resolve_right (fun q => nn5 (m5.mp q).2)
      have e6 : r6 = 1 := m6.mpr ⟨k1, n6⟩
      rw [hX, hM, e5, e6, if_neg (fun q => q rfl), if_pos hone, if_neg (by decide)]
      unfold fX5_readWiths_b37
      rw [if_pos rfl, og_t hgb, hcb, ol_g]
      by_cases cs : ss = 0
      · have w18' : σ (14 + 4) b = 0 := by rw [show σ (14 + 4) b = σ 18 b from rfl, w18, cs]; rfl
        rw [if_pos w18', first 11 (1024 * hs + 2048 * 1) (Or.inr rfl) (u2.mpr cs) (u4 cs), v1]
        simp only [obp]
        unfold fX5_readWiths_b71 fX5_readWiths_b132
        rw [if_neg (fun q => q rfl), og_t hgb, hcb, ol_g]
        have s1 : wX b σ (su σ (14 + 4) b 1) := wX_su (Or.inl rfl) _
        by_cases cp : tK a n (tE a n p) = 4
        · have hbad : bad μ := ⟨1, by omega, by omega, (v3.f cp).1⟩
          have pe2 : Pend a n (tE a n p) (su σ (14 + 4) b 1) μ := ⟨by rw [su_ne (by omega)]; exact c1.2.1, v3, by rw [su_ne (by omega)]; exact c4, hb.2.2.1⟩
          obtain ⟨r2, τ2, y1, y2, y3⟩ := adv_s (tx.k s1.k) pe2
          rw [if_pos hbad.n, badT μ _ hbad, y1]
          simp only [obp]
          rcases y3 with ⟨e1, e2, e3⟩ | ⟨e1, e2⟩
          · have := e3.2.2.1
            omega
          · rw [e1, if_neg (fun q => q rfl)]
            exact ⟨0, τ2, _, rfl, rfl, s1.tr (y2.w b), (v2.w b).tr (wM_su (Or.inl ⟨rfl, by omega⟩) _), Or.inr (Or.inr ⟨rfl, e2.m (su_j (by omega)) (su_j (by omega))⟩)⟩
        · have g4 := (v3.g (by omega)).1
          have hgv := ix_ok (j := 5 * b + 3) (n := 80) (by omega) (by omega)
          have hcv : (nI (5 * b + 3)).toNatClampNeg = 5 * b + 3 := nI_clamp (by omega)
          rw [if_neg (fun q => q g4), if_neg (by decide), show (3 : Int32) = nI 3 from rfl, nI_add, ol_g, og_t hgv, hcv, ol_g]
          unfold fX11_readBell_b204
          have s2 : wM b μ (su μ 102 (5 * b + 3) 1) := wM_su (Or.inr ⟨rfl, by omega⟩) _
          have pe2 : Pend a n (tE a n p) (su σ (14 + 4) b 1) (su μ 102 (5 * b + 3) 1) := ⟨by rw [su_ne (by omega)]; exact c1.2.1, v3.o (fun j _ _ => su_n2 (by omega)), by rw [su_ne (by omega)]; exact c4, hb.2.2.1⟩
          obtain ⟨r2, τ2, y1, y2, y3⟩ := adv_s (tx.k s1.k) pe2
          rw [y1]
          simp only [obp]
          rcases y3 with ⟨e1, e2, e3⟩ | ⟨e1, e2⟩
          · rw [e1, if_pos hone, nI_1, ol_g]
            have wX3 := s1.tr (y2.w b)
            have wM3 := (v2.w b).tr s2
            obtain ⟨r', τ', μ', i1, i2, i3, i4, i5⟩ := ih hs 1 (tE a n p) τ2 (su μ 102 (5 * b + 3) 1) (by omega) hh (by omega) (tx.k wX3.k) (tp.k wM3.k) e3 ⟨ho, by rw [wX3 15 b (by omega)]; exact w15, by rw [wM3 102 _ (by omega)]; exact w102, by rw [y2 18 b (by omega), su_s]; rfl, by rw [su_s]; rfl, by
                have x19 : τ2 19 b = σ 19 b := by rw [y2 19 b (by omega), su_ne (by omega)]
                have x4 : su μ 102 (5 * b + 3) 1 102 (5 * b + 4) = ρ 102 (5 * b + 4) := by rw [su_j (by omega), v2 102 _ (by omega)]
                have x13 : su μ 102 (5 * b + 3) 1 98 13 = ρ 98 13 := by rw [su_ne (by omega), v2 98 13 (by omega)]
                rw [x19, x4, x13]
                exact w19⟩
            rw [cs, Nat.add_zero]
            refine ⟨r', τ', μ', i1, i2, wX3.tr i3, wM3.tr i4, ?_⟩
            rcases i5 with ⟨a1, hs', ss', p', a2, a3, a4, a5, a6, a7⟩ | a' | a'
            · refine Or.inl ⟨a1, hs', ss', p', a2, a3, by omega, a5, a6, ?_⟩
              rw [a7, su_ne (by omega), v2 98 11 (by omega)]
            · exact Or.inr (Or.inl a')
            · exact Or.inr (Or.inr a')
          · exfalso
            have := e2.b.n
            rw [su_ne (by omega)] at this
            exact this g4
      · have w18' : ¬ σ (14 + 4) b = 0 := by rw [show σ (14 + 4) b = σ 18 b from rfl, w18]; exact nI_ne0 (by omega) (by omega)
        rw [if_neg w18', again 11 (Or.inr rfl) (fun q => by have := u2.mp q; omega)]
        unfold fX5_readWiths_b65
        rw [refuse_og]
        exact againR
    · -- no with: the class leaves it to the end of the line
      have e5 : r5 = 0 := o5.resolve_right (fun q => nn5 (m5.mp q).2)
      have e6 : r6 = 0 := o6.resolve_right (fun q => nn6 (m6.mp q).2)
      rw [hX, hM, e5, e6, if_neg (fun q => q rfl), if_neg (fun q => q rfl), if_pos rfl]
      have hbad : bad (su (su ρ 98 22 2) 98 23 (ρ 98 19)) := ⟨2, by omega, by omega, by rw [su_j (by omega), su_s]; rfl⟩
      have hMM : fX11_readBell_b104 (fX11_readBell_h72 (m' + 1)) ρ (nI (5 * b)) (nI (1024 * hs + 2048 * ss)) (-4) 0 = some (0, su (su (su ρ 98 22 2) 98 23 (ρ 98 19)) 98 11 (su (su ρ 98 22 2) 98 23 (ρ 98 19) 98 11 + 1)) := by
        unfold fX11_readBell_b104 fX11_readBell_b123 fX11_readBell_b128 fX11_readBell_b146
        rw [needs_n _ g1]
        simp only [obp]
        rw [if_pos trivial, hbad.needs]
        simp only
        rw [if_neg (fun q => q trivial), ol_g, hbad.next]
        simp only
        rw [if_pos hbad.n, badT _ _ hbad]
      rw [hMM]
      refine ⟨1, σ, _, rfl, rfl, wX.rf b σ, ((wM_su (Or.inl ⟨rfl, by omega⟩) _).tr (wM_su (Or.inl ⟨rfl, by omega⟩) _)).tr (wM_su (Or.inl ⟨rfl, by omega⟩) _), Or.inr (Or.inl ⟨rfl, p, c5, c1, k1, c4, ?_, ?_⟩)⟩
      · rw [su_j (by omega), su_j (by omega), su_s]; rfl
      · rw [su_j (by omega), su_s]; exact c2.1
  · -- no name
    have e5 : r5 = 0 := o5.resolve_right (fun q => k1 (m5.mp q).1)
    have e6 : r6 = 0 := o6.resolve_right (fun q => k1 (m6.mp q).1)
    have hM : fX11_readBell_h72 (m' + 2) ρ (nI (5 * b)) (nI (1024 * hs + 2048 * ss)) = some (0, su ρ 98 11 (ρ 98 11 + 1)) := by
      rw [hM0]
      unfold fX11_readBell_b72 fX11_readBell_b207
      rw [if_neg n0, if_pos (fun q => k1 (e20.mp q))]
      rfl
    rw [hX, hM, e5, e6, if_neg (fun q => q rfl), if_neg (fun q => q rfl)]
    refine ⟨1, σ, _, rfl, rfl, wX.rf b σ, wM_su (Or.inl ⟨rfl, by omega⟩) _, Or.inl ⟨rfl, hs, ss, p, hh, hss, Nat.le_refl _, ⟨c1, c2.o (fun j _ _ => su_j (by omega)), c3, c4, c5⟩, ⟨ho, w15, by rw [su_ne (by omega)]; exact w102, w18, by rw [su_ne (by omega)]; exact w1023, by rw [su_ne (by omega), su_j (by omega)]; exact w19⟩, su_s⟩⟩
theorem wth_l {a : Nat → Nat} {n : Nat} (Q : Nat → Prop) {b o : Nat} (hb12 : b < 12) : ∀ (d hs ss m m' p : Nat) (σ ρ : S0), hs + ss + d = 2 → hs ≤ 1 → ss ≤ 1 → d < m → d + 1 < m' → TpX a n σ → TpM a n ρ → Cur a n p σ ρ → WB Q b o hs ss σ ρ → WC a n Q b o p σ ρ (fX5_readWiths_h2 m σ 14 (nI b) (nI (hs + ss))) (fX11_readBell_h72 m' ρ (nI (5 * b)) (nI (1024 * hs + 2048 * ss))) := by
  intro d
  induction d with
  | zero =>
    intro hs ss m m' p σ ρ h1 h2 h3 h4 h5 tx tp cu wb
    obtain ⟨m, rfl⟩ : ∃ q, m = q + 1 := ⟨m - 1, by omega⟩
    obtain ⟨m', rfl⟩ : ∃ q, m' = q + 2 := ⟨m' - 2, by omega⟩
    exact wth_st Q hb12 h2 h3 tx tp cu wb (fun hs' ss' p' σ' ρ' q1 q2 q3 => by omega)
  | succ d ih =>
    intro hs ss m m' p σ ρ h1 h2 h3 h4 h5 tx tp cu wb
    obtain ⟨m, rfl⟩ : ∃ q, m = q + 1 := ⟨m - 1, by omega⟩
    obtain ⟨m', rfl⟩ : ∃ q, m' = q + 2 := ⟨m' - 2, by omega⟩
    exact wth_st Q hb12 h2 h3 tx tp cu wb (fun hs' ss' p' σ' ρ' q1 q2 q3 tx' tp' cu' wb' => ih hs' ss' m (m' + 1) p' σ' ρ' (by omega) q2 q3 (by omega) (by omega) tx' tp' cu' wb')
