def nar (l : Nat) (v : Int32) : Int32 := if l = 0 then v.toInt8.toInt32 else if l = 1 then v.toInt16.toInt32 else v
theorem put_s {σ : S0} {k l j : Nat} (v : Int32) (e : σ k 0 = nI l) (hl : l < 3) (hj : j < 40) : fX7_put σ k (nI j) v = some (0, su σ (k + 1) j (nar l v)) := by
  have hg := ix_ok (j := j) (n := 40) hj (by omega)
  have hc : (nI j).toNatClampNeg = j := nI_clamp (by omega)
  have hg2 : ¬ (nI j < 0 ∨ 40 ≤ j) := fun q => hg (by rw [hc]; exact q)
  unfold fX7_put nar
  rw [e]
  simp only [og_t hg, og_t hg2, hc, ol]
  rcases (show l = 0 ∨ l = 1 ∨ l = 2 by omega) with rfl | rfl | rfl
  · rw [if_neg (by decide), if_pos rfl]
  · rw [if_pos (by decide), if_neg (by decide), if_neg (by decide), if_pos rfl]
  · rw [if_pos (by decide), if_pos (by decide), if_neg (by decide), if_neg (by decide)]
theorem sim_lay (x y v : Int32) : Sim (fun σ => fX10_lay σ x y v) (fun σ => fX11_lay σ x y v) := by
  intro σ hR
  show An (fX10_lay σ x y v) (fun r τ => An (fX11_lay τ x y v) (fun q ρ => r = q ∧ R ρ))
  obtain ⟨H, G, B, T, h⟩ := id hR
  have hone : ¬ (1 : Int32) = 0 := by decide
  rcases ixc x 4 (by omega) with ⟨k, hk, rfl⟩ | hx
  · have hv : 0 ≤ (nI k).toInt ∧ (nI k).toInt < 4 := by rw [ir (by omega)]; omega
    have hv2 : (0 ≤ (nI k).toInt ∧ (nI k).toInt < 4) ∧ (0 ≤ (0 : Int32).toInt ∧ (0 : Int32).toInt < 3) := ⟨hv, by decide⟩
    have hg := ix_ok (j := k) (n := 4) (by omega) (by omega)
    have hc : (nI k).toNatClampNeg = k := nI_clamp (by omega)
    have hg2 : ¬ (nI k < 0 ∨ 4 ≤ k) := fun q => hg (by rw [hc]; exact q)
    obtain ⟨hs, hs2⟩ := h.2.2.2.2.2.2.1 k hk
    rcases hs with ⟨s1, s2⟩ | ⟨l, n, hl, hn, s1, s2, s3, s4⟩
    · refine Sim.same (fun τ => fX11_lay τ (nI k) y v) (a := -11) hR ?_ ?_
      · unfold fX10_lay fX7_faultAt fX7_isNothing
        rw [xs_s, if_pos hv]
        simp only [obp, ol, og_t hg, og_t hg2, hc]
        rw [if_pos hone, s2, if_neg (by decide)]
        simp only
        rw [if_neg hone]
        simp only
        rw [if_neg hone]
        rfl
      · show fX11_lay _ _ _ _ = _
        unfold fX11_lay
        rw [ms_s, if_pos hv2]
        simp only [obp, ol, og_t hg, og_t hg2, hc]
        rw [if_pos hone, s1, if_neg (by decide)]
    · have nl1 : ¬ nI l = -1 := fun q => by
        have := (i3_eq _ _).mp q
        rw [ir (by omega), show (-1 : Int32).toInt = -1 from rfl] at this
        omega
      have nl4 : ¬ nI l = -4 := nI_m4 (by omega)
      have hX : fX10_lay σ (nI k) y v = if y < 0 then some (-12, σ) else if y < nI n then obp (fX7_put σ (90 + 2 * k) y v) (fun _ σ12 => some (1, σ12)) else some (-12, σ) := by
        unfold fX10_lay fX7_faultAt fX7_faultAt_b31 fX7_isNothing
        rw [xs_s, if_pos hv]
        simp only [obp, ol, og_t hg, og_t hg2, hc]
        rw [if_pos hone, s2, if_pos nl1]
        simp only [obp]
        rw [if_pos trivial, if_pos s2.symm, s4]
        by_cases c1 : y < 0
        · rw [if_pos c1, if_pos c1]; simp only; rw [if_neg (by decide)]; rfl
        · rw [if_neg c1, if_neg c1]
          by_cases c2 : y < nI n
          · rw [if_pos c2, if_pos c2]; rfl
          · rw [if_neg c2, if_neg c2]; simp only; rw [if_neg (by decide)]; rfl
      have hM : ∀ τ : S0, τ 108 k = nI l → τ 109 k = nI n → fX11_lay τ (nI k) y v = if 0 ≤ y.toInt ∧ y.toInt ≤ (n : Int) - 1 then fX11_lay_b85 τ (nar l v) (40 * nI k + y) else some (-12, τ) := fun τ t1 t2 => by
        unfold fX11_lay nar
        rw [ms_s, if_pos hv2]
        simp only [obp, ol, og_t hg, og_t hg2, hc]
        rw [if_pos hone, t1, if_pos nl4, t2]
        have en : (nI n - 1).toInt = (n : Int) - 1 := by
          rw [i3_sub] <;> rw [ir (by omega), show (1 : Int32).toInt = 1 from rfl] <;> omega
        rw [in_i τ y 0 _ 0 ((n : Int) - 1) rfl (by rw [Int32.toInt_toInt64, en])]
        by_cases c : 0 ≤ y.toInt ∧ y.toInt ≤ (n : Int) - 1
        · rw [if_pos c, if_pos c]
          simp only
          rw [if_pos hone, t1]
          rcases (show l = 0 ∨ l = 1 ∨ l = 2 by omega) with rfl | rfl | rfl
          · rw [if_neg (by decide), if_pos rfl]
          · rw [if_pos (by decide), if_neg (by decide), if_neg (by decide), if_pos rfl]
          · rw [if_pos (by decide), if_pos (by decide), if_neg (by decide), if_neg (by decide)]
        · rw [if_neg c, if_neg c]; rfl
      rcases ixc y n (by omega) with ⟨j, hj, rfl⟩ | hy
      · refine ⟨1, su σ (91 + 2 * k) j (nar l v), ?_, 1, su (su σ (91 + 2 * k) j (nar l v)) 110 (40 * k + j) (nar l v), ?_, rfl, H, G, B, T, R_sh h ?_ (fun z hz => by rw [su_ne (by omega), su_ne (by omega)])⟩
        · rw [hX, if_neg (nI_pos (by omega)), if_pos (by rw [i3_lt, ir (by omega), ir (by omega)]; omega), put_s v s2 hl (by omega), show 90 + 2 * k + 1 = 91 + 2 * k by omega]
          rfl
        · rw [hM _ (by rw [su_ne (by omega)]; exact s1) (by rw [su_ne (by omega)]; exact s3), ir (by omega), if_pos (by omega)]
          unfold fX11_lay_b85
          have e : (40 : Int32) * nI k + nI j = nI (40 * k + j) := by rw [show (40 : Int32) = nI 40 from rfl, pk_mul, nI_add]
          simp only [ol]
          rw [e, og_t (ix_ok (by omega) (by omega)), nI_clamp (by omega)]
        · intro i hi
          have hsi := h.2.2.2.2.2.2.1 i hi
          rw [su_ne (x := 108) (by omega), su_ne (x := 108) (by omega), su_ne (x := 109) (by omega), su_ne (x := 109) (by omega), su_ne (x := 90 + 2 * i) (by omega), su_ne (x := 90 + 2 * i) (by omega)]
          refine ⟨hsi.1, fun b hb => ?_⟩
          rw [su_ne (x := 91 + 2 * i) (by omega)]
          by_cases hik : i = k
          · subst hik
            by_cases hbj : b = j
            · subst hbj
              rw [su_s, su_s]
            · rw [su_j (by omega), su_j (by omega), su_ne (by omega)]
              exact hsi.2 b hb
          · rw [su_ne (by omega), su_j (by omega), su_ne (by omega)]
            exact hsi.2 b hb
      · refine Sim.same (fun τ => fX11_lay τ (nI k) y v) (a := -12) hR ?_ ?_
        · rw [hX]
          by_cases c1 : y < 0
          · rw [if_pos c1]
          · rw [if_neg c1, if_neg (by rw [i3_lt] at c1 ⊢; rw [ir (by omega)]; rw [show (0 : Int32).toInt = 0 from rfl] at c1; omega)]
        · show fX11_lay _ _ _ _ = _
          rw [hM σ s1 s3, if_neg (by omega)]
  · refine Sim.same (fun τ => fX11_lay τ x y v) (a := -1) hR ?_ ?_
    · unfold fX10_lay
      rw [xs_s, if_neg (by omega)]
      rfl
    · show fX11_lay _ _ _ _ = _
      unfold fX11_lay
      rw [ms_s, if_neg (by omega)]
      rfl
