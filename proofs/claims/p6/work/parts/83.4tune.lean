/-! THE TEXT: a line of a tune -/
def sX (t : Nat) (σ τ : S0) : Prop := ∀ k j, ¬ ((k = 1 ∧ 2 ≤ j ∧ j ≤ 5) ∨ (k = 3 ∧ (j = 5 ∨ j = 6)) ∨ (k = 6 ∧ j = t) ∨ k = 8 + t) → τ k j = σ k j
theorem sX.tr {t : Nat} {a b c : S0} (h1 : sX t a b) (h2 : sX t b c) : sX t a c := fun k j h => (h2 k j h).trans (h1 k j h)
theorem sX.k {t : Nat} (ht : t < 6) {a b : S0} (h : sX t a b) : kX a b := fun k j q => h k j (fun z => q (by unfold scX; omega))
theorem onA.s {a b : S0} (h : onA a b) (t : Nat) : sX t a b := fun k j q => h k j (by omega)
def sM (t : Nat) (σ τ : S0) : Prop := ∀ k j, ¬ ((k = 98 ∧ (j = 12 ∨ j = 14 ∨ 18 ≤ j ∧ j ≤ 23)) ∨ (k = 103 ∧ 14 * t + 1 ≤ j ∧ j < 14 * t + 14)) → τ k j = σ k j
theorem sM.tr {t : Nat} {a b c : S0} (h1 : sM t a b) (h2 : sM t b c) : sM t a c := fun k j h => (h2 k j h).trans (h1 k j h)
theorem sM.k {t : Nat} {a b : S0} (h : sM t a b) : kM a b := fun k j q => h k j (fun z => q (by unfold scM; omega))
theorem on8.s {a b : S0} (h : on8 a b) (t : Nat) : sM t a b := fun k j q => h k j (by omega)
theorem sM_su {t k j : Nat} {σ : S0} (h : (k = 98 ∧ (j = 12 ∨ j = 14 ∨ 18 ≤ j ∧ j ≤ 23)) ∨ (k = 103 ∧ 14 * t + 1 ≤ j ∧ j < 14 * t + 14)) (v : Int32) : sM t σ (su σ k j v) := fun x y q => by
  by_cases hx : x = k
  · subst hx; exact su_j (fun z => q (by omega))
  · rw [su_ne hx]
theorem sX_su {t k j : Nat} {σ : S0} (h : (k = 6 ∧ j = t) ∨ k = 8 + t) (v : Int32) : sX t σ (su σ k j v) := fun x y q => by
  by_cases hx : x = k
  · subst hx; exact su_j (fun z => q (by omega))
  · rw [su_ne hx]
theorem fon_s {a : Nat → Nat} {n p : Nat} {σ : S0} (tx : TpX a n σ) (h : tkX a n p σ) (hk : tK a n p ≤ 3) : (tK a n p = 2 ∧ tV a n p ≤ 11 → fX5_faultOfNumber σ 0 11 = some (0, σ)) ∧ (¬ (tK a n p = 2 ∧ tV a n p ≤ 11) → ∃ f, (1 ≤ f ∧ f ≤ 6) ∧ fX5_faultOfNumber σ 0 11 = some (nI f, σ)) := by
  have e4 : ¬ σ 1 3 = 4 := by rw [h.2.2.1]; exact fun q => by have := (nI_eq (b := 4) (by omega) (by omega)).mp q; omega
  have e2 : σ 1 3 = 2 ↔ tK a n p = 2 := by rw [h.2.2.1]; exact nI_eq (b := 2) (by omega) (by omega)
  unfold fX5_faultOfNumber fX5_faultOfNumber_b48
  rw [if_pos e4]
  by_cases c2 : tK a n p = 2
  · have hv := tV_b (fun j hj => (tx.2.2 j hj).1) c2
    have e5 := h.2.2.2 c2
    have l1 : ¬ σ 1 5 < 0 := by rw [e5]; exact nI_pos (by omega)
    have l2 : σ 1 5 ≤ 11 ↔ tV a n p ≤ 11 := by rw [e5]; exact nI_leI (b := 11) (by omega) (by omega)
    rw [if_pos (e2.mpr c2), if_neg l1]
    by_cases c : tV a n p ≤ 11
    · rw [if_pos (l2.mpr c)]
      exact ⟨fun _ => rfl, fun q => absurd ⟨c2, c⟩ q⟩
    · rw [if_neg (fun q => c (l2.mp q))]
      exact ⟨fun q => absurd q.2 c, fun _ => ⟨3, by omega, rfl⟩⟩
  · rw [if_neg (fun q => c2 (e2.mp q))]
    exact ⟨fun q => absurd q.1 c2, fun _ => ⟨2, by omega, rfl⟩⟩
/-- behind a fault the reference's tune ends -/
theorem bad.h25 {ρ : S0} (h : bad ρ) {t : Nat} (ht : t < 6) (m : Nat) (x2 x3 : Int32) : ∃ μ, fX11_readTune_h25 (m + 1) ρ (nI (14 * t)) x2 x3 = some (0, μ) ∧ sM t ρ μ ∧ μ 98 22 = ρ 98 22 ∧ μ 98 23 = ρ 98 23 := by
  refine ⟨su (su ρ 103 (14 * t + 1) x2) 98 12 (ρ 98 12 + 1), ?_, (sM_su (Or.inr ⟨rfl, by omega, by omega⟩) _).tr (sM_su (Or.inl ⟨rfl, Or.inl rfl⟩) _), by rw [su_j (by omega), su_ne (by omega)], by rw [su_j (by omega), su_ne (by omega)]⟩
  show fX11_readTune_b25 _ _ _ _ _ = _
  unfold fX11_readTune_b25 fX11_readTune_b134
  rw [if_pos h.n, nI_1, ol_g, og_t (ix_ok (by omega) (by omega)), nI_clamp (by omega)]
  simp only [ol]
  rw [su_ne (by omega)]
def ST (t i : Nat) (σ ρ : S0) : Prop := (∀ k, k < i → ∃ b, b < 12 ∧ σ (8 + t) k = nI b ∧ ρ 103 (14 * t + 2 + k) = nI b) ∧ (1 ≤ i → σ 6 t = nI i)
def SP (P : Nat → Prop) (t i : Nat) (ρ : S0) : Nat → Prop := fun j => P j ∨ ∃ k, k < i ∧ ρ 103 (14 * t + 2 + k) = nI j
theorem str_l {a : Nat → Nat} {n t : Nat} (ht : t < 6) (P : Nat → Prop) : ∀ (d i m m' p : Nat) (σ ρ : S0) (x3 : Int32), 12 - i = d → i ≤ 12 → d < m → d + 1 < m' → TpX a n σ → TpM a n ρ → Cur a n p σ ρ → ((i = 0 ∧ x3 = 1) ∨ (1 ≤ i ∧ ((tK a n p = 2 ∧ x3 = 1) ∨ (tK a n p ≠ 2 ∧ x3 = 0)))) → ST t i σ ρ → Mx 12 (ρ 98 14) (SP P t i ρ) → ∃ r τ μ, fX5_readStrokes_h2 m σ (nI t) (nI i) = some (r, τ) ∧ fX11_readTune_h25 m' ρ (nI (14 * t)) (nI i) x3 = some (0, μ) ∧ sX t σ τ ∧ sM t ρ μ ∧ ((r = 1 ∧ ∃ k p', 1 ≤ k ∧ k ≤ 12 ∧ p ≤ p' ∧ Cur a n p' τ μ ∧ ST t k τ μ ∧ μ 103 (14 * t + 1) = nI k ∧ μ 98 12 = ρ 98 12 + 1 ∧ Mx 12 (μ 98 14) (SP P t k μ)) ∨ (r = 0 ∧ Flt τ μ)) := by
  have hgt := ix_ok (j := t) (n := 6) ht (by omega)
  have hct : (nI t).toNatClampNeg = t := nI_clamp (by omega)
  have hgt2 : ¬ (nI t < 0 ∨ 6 ≤ t) := fun q => hgt (by rw [hct]; exact q)
  have hone : ¬ (1 : Int32) = 0 := by decide
  intro d
  induction d with
  | zero =>
    intro i m m' p σ ρ x3 h1 h2 h3 h3' tx tp cu hx st hm
    obtain ⟨m, rfl⟩ : ∃ q, m = q + 1 := ⟨m - 1, by omega⟩
    obtain ⟨m', rfl⟩ : ∃ q, m' = q + 2 := ⟨m' - 2, by omega⟩
    have : i = 12 := by omega
    subst this
    obtain ⟨c1, c2, c3, c4, c5⟩ := cu
    have hn := tp.1
    have hb := tok_b (a := a) c5
    obtain ⟨g1, g2, g3⟩ := c2.g c3
    have n0 : ¬ ¬ ρ 98 22 = 0 := fun q => q g1
    have ex2 : σ 1 3 = 2 ↔ tK a n p = 2 := by rw [c1.2.2.1]; exact nI_eq (b := 2) (by omega) (by omega)
    have em2 : ρ 98 20 = 2 ↔ tK a n p = 2 := by rw [g2]; exact nI_eq (b := 2) (by omega) (by omega)
    have hX : fX5_readStrokes_h2 (m + 1) σ (nI t) (nI 12) = fX5_readStrokes_b2 (fX5_readStrokes_h2 m) σ (nI t) (nI 12) := rfl
    have hM : fX11_readTune_h25 (m' + 2) ρ (nI (14 * t)) (nI 12) x3 = fX11_readTune_b25 (fX11_readTune_h25 (m' + 1)) ρ (nI (14 * t)) (nI 12) x3 := rfl
    rw [hX, hM]
    unfold fX5_readStrokes_b2 fX11_readTune_b25
    rw [if_neg (show ¬ (12 : Int32) < nI 12 by decide), if_neg (show ¬ nI 12 ≤ 0 by decide), if_neg n0]
    rcases hx with ⟨q, -⟩ | ⟨-, ⟨k2, rfl⟩ | ⟨k2, rfl⟩⟩
    · omega
    · rw [if_pos (ex2.mpr k2), if_neg hone, if_neg (fun q => q (em2.mpr k2)), if_pos (show (12 : Int32) ≤ nI 12 by decide)]
      have hbad : bad (su (su ρ 98 22 5) 98 23 (ρ 98 19)) := ⟨5, by omega, by omega, by rw [su_j (by omega), su_s]; rfl⟩
      obtain ⟨μ, w1, w2, w3, w4⟩ := hbad.h25 ht m' (nI 12) (if ¬ (su (su ρ 98 22 5) 98 23 (ρ 98 19)) 98 20 = 2 then 0 else 1)
      have hMM : fX11_readTune_b56 (fX11_readTune_h25 (m' + 1)) ρ (nI (14 * t)) (nI 12) 0 = some (0, μ) := by
        unfold fX11_readTune_b56 fX11_readTune_b117 fX11_readTune_b130
        rw [needs_n _ g1]
        simp only [obp]
        rw [hbad.looked]
        simp only
        rw [hbad.next]
        simp only
        rw [if_pos hbad.n, ← w1]
        by_cases q : su (su ρ 98 22 5) 98 23 (ρ 98 19) 98 20 = 2
        · rw [if_neg (fun z => z q), if_neg (fun z => z q)]
        · rw [if_pos q, if_pos q]
      have so : sM t ρ (su (su ρ 98 22 5) 98 23 (ρ 98 19)) := (sM_su (Or.inl ⟨rfl, by omega⟩) _).tr (sM_su (Or.inl ⟨rfl, by omega⟩) _)
      have fin : ∀ f : Nat, 1 ≤ f → f ≤ 6 → Flt (su (su σ 3 5 (nI f)) 3 6 (σ 1 4)) μ := fun f f1 f2 => flt_r (f := f) (g := 5) (pl := tS a n p) ⟨f1, f2⟩ (by omega) (by omega) c1.1 (by rw [w3, su_j (by omega), su_s]; rfl) (by rw [w4, su_s]; exact c2.1)
      unfold fX5_readStrokes_b25
      obtain ⟨f1, f2⟩ := fon_s tx c1 c3
      by_cases c : tK a n p = 2 ∧ tV a n p ≤ 11
      · rw [f1 c]
        simp only [obp]
        rw [if_pos trivial, if_neg (show ¬ nI 12 < 12 by decide), refuse_s]
        exact ⟨0, _, μ, rfl, hMM, (refuse_o σ 5).s t, so.tr w2, Or.inr ⟨rfl, fin 5 (by omega) (by omega)⟩⟩
      · obtain ⟨f, f3, f4⟩ := f2 c
        rw [f4]
        simp only [obp]
        rw [if_neg (nI_ne0 (by omega) (by omega)), refuse_s]
        exact ⟨0, _, μ, rfl, hMM, (refuse_o σ _).s t, so.tr w2, Or.inr ⟨rfl, fin f f3.1 f3.2⟩⟩
    · have hM3 : (if (0 : Int32) = 0 then fX11_readTune_b134 ρ (nI (14 * t)) (nI 12) else if ¬ ρ 98 20 = 2 then fX11_readTune_b51 (fX11_readTune_h25 (m' + 1)) ρ (nI (14 * t)) (nI 12) else if (12 : Int32) ≤ nI 12 then fX11_readTune_b56 (fX11_readTune_h25 (m' + 1)) ρ (nI (14 * t)) (nI 12) 0 else fX11_readTune_b51 (fX11_readTune_h25 (m' + 1)) ρ (nI (14 * t)) (nI 12)) = some (0, su (su ρ 103 (14 * t + 1) (nI 12)) 98 12 (ρ 98 12 + 1)) := by
        rw [if_pos rfl]
        unfold fX11_readTune_b134
        rw [nI_1, ol_g, og_t (ix_ok (by omega) (by omega)), nI_clamp (by omega)]
        simp only [ol]
        rw [su_ne (by omega)]
      rw [if_neg (fun q => k2 (ex2.mp q)), hM3]
      have so : sM t ρ (su (su ρ 103 (14 * t + 1) (nI 12)) 98 12 (ρ 98 12 + 1)) := (sM_su (Or.inr ⟨rfl, by omega, by omega⟩) _).tr (sM_su (Or.inl ⟨rfl, Or.inl rfl⟩) _)
      have e103 : ∀ j, j ≠ 14 * t + 1 → su (su ρ 103 (14 * t + 1) (nI 12)) 98 12 (ρ 98 12 + 1) 103 j = ρ 103 j := fun j hj => by rw [su_ne (by omega), su_j hj]
      refine ⟨1, σ, _, rfl, rfl, fun _ _ _ => rfl, so, Or.inl ⟨rfl, 12, p, by omega, by omega, Nat.le_refl _, ⟨c1, c2.o (fun j j1 j2 => by rw [su_j (by omega), su_ne (by omega)]), c3, c4, c5⟩, ⟨fun k hk => ?_, st.2⟩, by rw [su_ne (by omega), su_s], by rw [su_s], ?_⟩⟩
      · rw [e103 _ (by omega)]; exact st.1 k hk
      · rw [su_j (by omega), su_ne (by omega)]
        refine hm.cg (fun y hy => ?_)
        have ek := fun k => e103 (14 * t + 2 + k) (by omega)
        unfold SP
        simp only [ek]
  | succ d ih =>
    intro i m m' p σ ρ x3 h1 h2 h3 h3' tx tp cu hx st hm
    obtain ⟨m, rfl⟩ : ∃ q, m = q + 1 := ⟨m - 1, by omega⟩
    obtain ⟨m', rfl⟩ : ∃ q, m' = q + 2 := ⟨m' - 2, by omega⟩
    have a1 : 12 - (i + 1) = d := by omega
    have a2 : i + 1 ≤ 12 := by omega
    have a3 : d < m := by omega
    have a4 : d + 1 < m' + 1 := by omega
    have a5 : 1 ≤ i + 1 := by omega
    obtain ⟨c1, c2, c3, c4, c5⟩ := cu
    have hn := tp.1
    have hb := tok_b (a := a) c5
    obtain ⟨g1, g2, g3⟩ := c2.g c3
    have n0 : ¬ ¬ ρ 98 22 = 0 := fun q => q g1
    have hgi := ix_ok (j := i) (n := 12) (by omega) (by omega)
    have hci : (nI i).toNatClampNeg = i := nI_clamp (by omega)
    have hgi2 : ¬ (nI i < 0 ∨ 12 ≤ i) := fun q => hgi (by rw [hci]; exact q)
    have ex2 : σ 1 3 = 2 ↔ tK a n p = 2 := by rw [c1.2.2.1]; exact nI_eq (b := 2) (by omega) (by omega)
    have em2 : ρ 98 20 = 2 ↔ tK a n p = 2 := by rw [g2]; exact nI_eq (b := 2) (by omega) (by omega)
    by_cases stop : 1 ≤ i ∧ tK a n p ≠ 2
    · -- the row of strokes ends
      have x0 : x3 = 0 := by
        rcases hx with ⟨q, -⟩ | ⟨-, ⟨k2, -⟩ | ⟨-, q⟩⟩
        · omega
        · exact absurd k2 stop.2
        · exact q
      have hX : fX5_readStrokes_h2 (m + 1) σ (nI t) (nI i) = some (1, σ) := by
        show fX5_readStrokes_b2 _ _ _ _ = _
        unfold fX5_readStrokes_b2
        rw [if_neg (show ¬ (12 : Int32) < nI i from nI_nlt (a := 12) (by omega) (by omega)), if_neg (show ¬ nI i ≤ 0 from nI_nle (by omega) (by omega)), if_neg (fun q => stop.2 (ex2.mp q))]
      have hM : fX11_readTune_h25 (m' + 2) ρ (nI (14 * t)) (nI i) x3 = some (0, su (su ρ 103 (14 * t + 1) (nI i)) 98 12 (ρ 98 12 + 1)) := by
        show fX11_readTune_b25 _ _ _ _ _ = _
        unfold fX11_readTune_b25 fX11_readTune_b134
        rw [if_neg n0, if_pos x0, nI_1, ol_g, og_t (ix_ok (by omega) (by omega)), nI_clamp (by omega)]
        simp only [ol]
        rw [su_ne (by omega)]
      have so : sM t ρ (su (su ρ 103 (14 * t + 1) (nI i)) 98 12 (ρ 98 12 + 1)) := (sM_su (Or.inr ⟨rfl, by omega, by omega⟩) _).tr (sM_su (Or.inl ⟨rfl, Or.inl rfl⟩) _)
      have e103 : ∀ j, j ≠ 14 * t + 1 → su (su ρ 103 (14 * t + 1) (nI i)) 98 12 (ρ 98 12 + 1) 103 j = ρ 103 j := fun j hj => by rw [su_ne (by omega), su_j hj]
      refine ⟨1, σ, _, hX, hM, fun _ _ _ => rfl, so, Or.inl ⟨rfl, i, p, by omega, by omega, Nat.le_refl _, ⟨c1, c2.o (fun j j1 j2 => by rw [su_j (by omega), su_ne (by omega)]), c3, c4, c5⟩, ⟨fun k hk => ?_, st.2⟩, by rw [su_ne (by omega), su_s], by rw [su_s], ?_⟩⟩
      · rw [e103 _ (by omega)]; exact st.1 k hk
      · rw [su_j (by omega), su_ne (by omega)]
        refine hm.cg (fun y hy => ?_)
        have ek := fun k => e103 (14 * t + 2 + k) (by omega)
        unfold SP
        simp only [ek]
    · -- one stroke more
      have x1 : x3 = 1 := by
        rcases hx with ⟨-, q⟩ | ⟨q1, ⟨-, q⟩ | ⟨q, -⟩⟩
        · exact q
        · exact q
        · exact absurd ⟨q1, q⟩ stop
      have hX : fX5_readStrokes_h2 (m + 1) σ (nI t) (nI i) = fX5_readStrokes_b25 (fX5_readStrokes_h2 m) σ (nI t) (nI i) := by
        show fX5_readStrokes_b2 _ _ _ _ = _
        unfold fX5_readStrokes_b2
        rw [if_neg (show ¬ (12 : Int32) < nI i from nI_nlt (a := 12) (by omega) (by omega))]
        by_cases ci : i = 0
        · rw [if_pos (show nI i ≤ 0 from by rw [ci]; decide)]
        · rw [if_neg (show ¬ nI i ≤ 0 from nI_nle (by omega) (by omega)), if_pos (ex2.mpr (Classical.byContradiction fun q => stop ⟨by omega, q⟩))]
      have hM : fX11_readTune_h25 (m' + 2) ρ (nI (14 * t)) (nI i) x3 = fX11_readTune_b56 (fX11_readTune_h25 (m' + 1)) ρ (nI (14 * t)) (nI i) 1 := by
        show fX11_readTune_b25 _ _ _ _ _ = _
        unfold fX11_readTune_b25 fX11_readTune_b51
        rw [if_neg n0, if_neg (by rw [x1]; decide), if_neg (show ¬ (12 : Int32) ≤ nI i from nI_ge (b := 12) (by omega) (by omega))]
        by_cases q : ρ 98 20 = 2
        · rw [if_neg (fun z => z q)]
        · rw [if_pos q]
      rw [hX, hM]
      unfold fX5_readStrokes_b25
      obtain ⟨v, μ, m1, m2, m3⟩ := lk_s (lo := 0) (hi := 11) c2 tp (by omega) (by omega)
      have m1' : fX11_looked ρ 0 11 = some (v, μ) := m1
      obtain ⟨f1, f2⟩ := fon_s tx c1 c3
      -- the reference behind a fault
      have tailM : ∀ ν : S0, fX11_next μ = some (0, ν) → bad ν → ∃ κ, fX11_readTune_b56 (fX11_readTune_h25 (m' + 1)) ρ (nI (14 * t)) (nI i) 1 = some (0, κ) ∧ sM t ν κ ∧ κ 98 22 = ν 98 22 ∧ κ 98 23 = ν 98 23 := fun ν hν hbad => by
        obtain ⟨κ, w1, w2, w3, w4⟩ := hbad.h25 ht m' (nI i) (if ¬ ν 98 20 = 2 then 0 else 1)
        refine ⟨κ, ?_, w2, w3, w4⟩
        unfold fX11_readTune_b56 fX11_readTune_b117 fX11_readTune_b130
        rw [needs_y _ (by decide)]
        simp only [obp]
        rw [m1']
        simp only
        rw [hν]
        simp only
        rw [if_pos hbad.n, ← w1]
        by_cases q : ν 98 20 = 2
        · rw [if_neg (fun z => z q), if_neg (fun z => z q)]
        · rw [if_pos q, if_pos q]
      rcases m3 with ⟨z1, z2, z3, z4, z5⟩ | ⟨z1, z2, ⟨g, gg1, gg2⟩, z4⟩
      · subst z5
        rw [f1 ⟨z1, z3⟩]
        simp only [obp]
        rw [if_pos trivial, if_pos (show nI i < 12 from nI_lt (b := 12) (by omega) (by omega))]
        simp only [og_t hgt, og_t hgt2, hct, ol, Nat.one_mul, og_t hgi, og_t hgi2, hci, c1.2.2.2 z1, nI_1]
        obtain ⟨ν, v1, v2, v3⟩ := nx_s c2 c3 tp c5
        have s1 : sX t σ (su (su σ (8 + t) i (nI (tV a n p))) 6 t (nI (i + 1))) := (sX_su (Or.inr rfl) _).tr (sX_su (Or.inl ⟨rfl, rfl⟩) _)
        have pe : Pend a n (tE a n p) (su (su σ (8 + t) i (nI (tV a n p))) 6 t (nI (i + 1))) ν := ⟨by rw [su_ne (by omega), su_ne (by omega)]; exact c1.2.1, v3, by rw [su_ne (by omega), su_ne (by omega)]; exact c4, hb.2.2.1⟩
        have tx1 := tx.k (s1.k ht)
        obtain ⟨r, τ, t1, t2, t3⟩ := adv_s tx1 pe
        rw [t1]
        simp only
        by_cases cp : tK a n (tE a n p) = 4
        · have hbad : bad ν := ⟨1, by omega, by omega, (v3.f cp).1⟩
          obtain ⟨κ, w1, w2, w3, w4⟩ := tailM ν v1 hbad
          rcases t3 with ⟨e1, e2, e3⟩ | ⟨e1, e2⟩
          · have := e3.2.2.1
            omega
          · rw [e1, if_neg (fun q => q rfl)]
            exact ⟨0, τ, κ, rfl, w1, s1.tr (t2.s t), (v2.s t).tr w2, Or.inr ⟨rfl, e2.m w3 w4⟩⟩
        · have hk4 := tK_4 a n (tE a n p)
          have g4 := (v3.g (by omega))
          rcases t3 with ⟨e1, e2, e3⟩ | ⟨e1, e2⟩
          · rw [e1, if_pos hone]
            have idx : nI (14 * t) + 2 + nI i = nI (14 * t + 2 + i) := by rw [show (2 : Int32) = nI 2 from rfl, nI_add, nI_add]
            have hgv := ix_ok (j := 14 * t + 2 + i) (n := 84) (by omega) (by omega)
            have hcv : (nI (14 * t + 2 + i)).toNatClampNeg = 14 * t + 2 + i := nI_clamp (by omega)
            have ρ2e : ∀ x, x = mxI (ν 98 14) (tV a n p) → True := fun _ _ => trivial
            have emx : (if v ≤ ν 98 14 then ν 98 14 else v) = mxI (ν 98 14) (tV a n p) := by rw [z4]; rfl
            have hbx : fX11_readTune_b56 (fX11_readTune_h25 (m' + 1)) μ (nI (14 * t)) (nI i) 1 = fX11_readTune_h25 (m' + 1) (su (su ν 103 (14 * t + 2 + i) v) 98 14 (mxI (ν 98 14) (tV a n p))) (nI (14 * t)) (nI (i + 1)) (if tK a n (tE a n p) = 2 then 1 else 0) := by
              unfold fX11_readTune_b56 fX11_readTune_b111 fX11_readTune_b117 fX11_readTune_b130
              rw [needs_y _ (by decide)]
              simp only [obp]
              rw [m1']
              simp only
              rw [v1]
              simp only
              rw [if_neg (fun q => q g4.1), idx, ol_g, og_t hgv, hcv]
              simp only [ol, nI_1]
              have e20 : ∀ w : Int32, su (su ν 103 (14 * t + 2 + i) v) 98 14 w 98 20 = nI (tK a n (tE a n p)) := fun w => by rw [su_j (by omega), su_ne (by omega)]; exact g4.2.1
              have e2i : nI (tK a n (tE a n p)) = 2 ↔ tK a n (tE a n p) = 2 := nI_eq (b := 2) (by omega) (by omega)
              have e14 : su ν 103 (14 * t + 2 + i) v 98 14 = ν 98 14 := su_n2 (by omega)
              rw [← emx]
              by_cases q1 : v ≤ ν 98 14
              · rw [if_pos (by rw [e14]; exact q1), e14, if_pos q1, e20]
                by_cases q2 : tK a n (tE a n p) = 2
                · rw [if_neg (fun z => z (e2i.mpr q2)), if_pos q2]
                · rw [if_pos (fun z => q2 (e2i.mp z)), if_neg q2]
              · rw [if_neg (by rw [e14]; exact q1), if_neg q1, e20]
                by_cases q2 : tK a n (tE a n p) = 2
                · rw [if_neg (fun z => z (e2i.mpr q2)), if_pos q2]
                · rw [if_pos (fun z => q2 (e2i.mp z)), if_neg q2]
            rw [hbx]
            have s2 : sM t μ (su (su ν 103 (14 * t + 2 + i) v) 98 14 (mxI (ν 98 14) (tV a n p))) := ((v2.s t).tr (sM_su (Or.inr ⟨rfl, by omega, by omega⟩) _)).tr (sM_su (Or.inl ⟨rfl, Or.inr (Or.inl rfl)⟩) _)
            obtain ⟨r', τ', μ', u1, u2, u3, u4, u5⟩ := ih (i + 1) m (m' + 1) (tE a n p) τ (su (su ν 103 (14 * t + 2 + i) v) 98 14 (mxI (ν 98 14) (tV a n p))) (if tK a n (tE a n p) = 2 then 1 else 0) a1 a2 a3 a4 (tx1.k t2.k) (tp.k s2.k) ⟨e3.1, e3.2.1.o (fun j j1 j2 => by rw [su_j (by omega), su_ne (by omega)]), e3.2.2⟩ (Or.inr ⟨a5, by
                by_cases q2 : tK a n (tE a n p) = 2
                · exact Or.inl ⟨q2, if_pos q2⟩
                · exact Or.inr ⟨q2, if_neg q2⟩⟩) ⟨fun k hk => by
                by_cases q : k = i
                · subst q
                  exact ⟨tV a n p, by omega, by rw [t2.c (by omega) (by omega), su_ne (by omega), su_s], by rw [su_ne (by omega), su_s, z4]⟩
                · obtain ⟨b, b1, b2, b3⟩ := st.1 k (by omega)
                  exact ⟨b, b1, by rw [t2.c (by omega) (by omega), su_ne (by omega), su_j q]; exact b2, by rw [su_ne (by omega), su_j (by omega), v2.c (by omega)]; exact b3⟩, fun _ => by rw [t2.c (by omega) (by omega), su_s]⟩ (by
                rw [su_s, v2 98 14 (by omega)]
                refine (hm.add (x := tV a n p) (by omega) (by omega)).cg (fun y hy => ?_)
                unfold SP
                constructor
                · rintro ((q | ⟨k, k1, k2⟩) | q)
                  · exact Or.inl q
                  · exact Or.inr ⟨k, by omega, by rw [su_ne (by omega), su_j (by omega), v2.c (by omega)]; exact k2⟩
                  · exact Or.inr ⟨i, by omega, by rw [su_ne (by omega), su_s, z4, q]⟩
                · rintro (q | ⟨k, k1, k2⟩)
                  · exact Or.inl (Or.inl q)
                  · by_cases q : k = i
                    · subst q
                      rw [su_ne (by omega), su_s, z4] at k2
                      exact Or.inr ((nI_eq (by omega) (by omega)).mp k2).symm
                    · rw [su_ne (by omega), su_j (by omega), v2.c (by omega)] at k2
                      exact Or.inl (Or.inr ⟨k, by omega, k2⟩))
            refine ⟨r', τ', μ', u1, u2, (s1.tr (t2.s t)).tr u3, s2.tr u4, ?_⟩
            rcases u5 with ⟨y1, k, p', y2, y3, y4, y5, y6, y7, y8, y9⟩ | y
            · refine Or.inl ⟨y1, k, p', y2, y3, by omega, y5, y6, y7, ?_, y9⟩
              rw [y8, su_j (by omega), su_ne (by omega), v2 98 12 (by omega)]
            · exact Or.inr y
          · exfalso
            have := e2.b.n
            exact this g4.1
      · -- the reference finds a fault; so does the class
        obtain ⟨f, f3, f4⟩ := f2 (fun q => z1 ⟨q.1, Nat.zero_le _, q.2⟩)
        have hbad : bad μ := ⟨g, gg1.1, gg1.2, gg2⟩
        obtain ⟨κ, w1, w2, w3, w4⟩ := tailM μ hbad.next hbad
        rw [f4]
        simp only [obp]
        rw [if_neg (nI_ne0 (by omega) (by omega)), refuse_s]
        exact ⟨0, _, κ, rfl, w1, (refuse_o σ _).s t, (m2.s t).tr w2, Or.inr ⟨rfl, flt_r (f := f) (g := g) (pl := tS a n p) f3 gg1 (by omega) c1.1 (by rw [w3]; exact gg2) (by rw [w4]; exact z4)⟩⟩
