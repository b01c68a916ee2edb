/-! BITS; a tune's sums and its value on both sides -/
theorem bit_a : ∀ i : Fin 31, ((1 : Int32) <<< (nI i.1 &&& 31)).toBitVec = BitVec.twoPow 32 i.1 := by decide
theorem bit_b : ∀ i : Fin 31, ((nI i.1 &&& 31).toBitVec.smod 32).toNat = i.1 := by decide
theorem bit_g {i : Nat} (hi : i < 31) (x : Int32) : (x &&& ((1 : Int32) <<< (nI i &&& 31)) = 0) ↔ ¬ ((x >>> (nI i &&& 31)) &&& 1 = 1) := by
  rw [← Int32.toBitVec_inj, ← Int32.toBitVec_inj, Int32.toBitVec_and, Int32.toBitVec_and, bit_a ⟨i, hi⟩, Int32.toBitVec_shiftRight, show ∀ (v w : BitVec 32), v.sshiftRight' w = v.sshiftRight w.toNat from fun _ _ => rfl, bit_b ⟨i, hi⟩]
  show _ = 0#32 ↔ ¬ (_ &&& 1#32 = 1#32)
  rw [BitVec.and_twoPow, show (1#32 : BitVec 32) = BitVec.twoPow 32 0 from rfl, BitVec.and_twoPow, BitVec.getLsbD_sshiftRight]
  have : i + 0 < 32 := by omega
  have hz : ¬ (BitVec.twoPow 32 i = 0#32) := by
    intro q
    have := congrArg (fun v => v.getLsbD i) q
    simp [BitVec.getLsbD_twoPow] at this
    omega
  simp only [this, if_true, Nat.add_zero]
  by_cases c : x.toBitVec.getLsbD i = true
  · have h32 : ¬ 32 ≤ i := by omega
    simp [c, hz, h32]
  · have h32 : ¬ 32 ≤ i := by omega
    have h0 : ¬ 0#32 = BitVec.twoPow 32 0 := by decide
    simp [c, h0, h32]
abbrev ln (g : Nat → Int32) (t : Nat) : Nat := (g (14 * t + 1)).toNatClampNeg
abbrev rgn (f g : Nat → Int32) (t : Nat) := rg f g t (ln g t)
def vl (f g : Nat → Int32) (G : Int32) (t : Nat) : Int32 := g (14 * t) - (rgn f g t).1 - (rgn f g t).2.1 - G * (rgn f g t).2.2.2.1
theorem RT {σ : S0} {H G B T t : Nat} (h : Rall σ H G B T) (ht : t < T) : okT (σ 99) (σ 101) t (ln (σ 101) t) ∧ okP (σ 99) (σ 101) t (ln (σ 101) t) σ ∧ 1 ≤ ln (σ 101) t ∧ σ 23 t = σ 101 (14 * t) := by
  obtain ⟨n, a1, a2, a3, a4, a5, a6, a7⟩ := h.2.2.2.1 t ht
  obtain ⟨b1, b2, b3, b4, b5⟩ := h.1.1
  have e : ln (σ 101) t = n := by unfold ln; rw [a3]; exact nI_clamp (by omega)
  obtain ⟨m1, m2, fo, m3, m4, m5, m6⟩ := h.2.2.1
  obtain ⟨k1, k2, k3, k4, k5⟩ := h.2.1
  simp only [Nat.zero_add] at m1 m2 m3 k2 k3
  rw [e]
  refine ⟨⟨a2, a3, fun i hi => ?_⟩, ⟨a4, fun i hi => ?_, fun x hx => ⟨k3 x hx, fo x, ?_, (m3 x hx).2⟩⟩, a1, a5⟩
  · obtain ⟨b, c1, c2, c3⟩ := a7 i hi
    obtain ⟨⟨w, d1, d2⟩, d3⟩ := m2 b c1
    exact ⟨b, w, by omega, by omega, c2, d2⟩
  · obtain ⟨b, c1, c2, c3⟩ := a7 i hi
    obtain ⟨d1, d2, d3, d4, d5⟩ := m2 b c1
    obtain ⟨f1, f2, f3, f4, f5⟩ := k2 b c1
    exact ⟨b, by omega, c2, c3, f1, f2, f3, f4, d4⟩
  · have := (m3 x hx).1
    have : 2 ^ H ≤ 2 ^ 6 := Nat.pow_le_pow_right (by omega) b2
    omega
theorem play_s {σ : S0} {H G B T t : Nat} (h : Rall σ H G B T) (ht : t < T) : ∃ τ, fX6_play σ (nI t) = some (0, τ) ∧ onlyP σ τ ∧ τ 40 2 = (rgn (σ 99) (σ 101) t).1 ∧ τ 40 3 = (rgn (σ 99) (σ 101) t).2.1 ∧ τ 40 4 = (rgn (σ 99) (σ 101) t).2.2.1 ∧ τ 40 5 = vl (σ 99) (σ 101) (nI G) t := by
  obtain ⟨r1, r2, r3, r4⟩ := RT h ht
  obtain ⟨b1, b2, b3, b4, b5⟩ := h.1.1
  have o : onlyP σ (su (su (su σ 40 2 0) 40 3 0) 40 4 0) := onlyP.su (onlyP.su (onlyP.su (onlyP.rf _) _ _) _ _) _ _
  have hn := r1.1
  obtain ⟨τ, q1, q2, q3, q4, q5, q6⟩ := play_l (σ 99) (σ 101) (nI G) (by omega) r1 _ 0 400 _ 0 0 rfl (by omega) (by omega) (r2.cg (by omega) o) (by rw [o 22 (by omega)]; exact h.1.2.2.2.1) (by rw [su_j (by omega), su_j (by omega), su_s]; rfl) (by rw [su_j (by omega), su_s]; rfl) (by rw [su_s]; rfl) (by show (0 : Int32) = _ * 0; rw [Int32.mul_zero]) (Or.inl ⟨rfl, rfl⟩)
  refine ⟨τ, ?_, o.tr q2, q3, q4, q5, ?_⟩
  · unfold fX6_play; simp only [ol]; exact q1
  · rw [q6, o 23 (by omega), r4]; rfl
theorem rings_s {σ : S0} {t n : Nat} (ht : t < 6) (ok : okT (σ 99) (σ 101) t n) : ∃ τ, fX11_rings σ (nI t) = some (0, τ) ∧ onlyR σ τ ∧ τ 98 24 = (rg (σ 99) (σ 101) t n).1 ∧ τ 98 25 = (rg (σ 99) (σ 101) t n).2.1 ∧ τ 98 26 = (rg (σ 99) (σ 101) t n).2.2.1 ∧ τ 98 27 = (rg (σ 99) (σ 101) t n).2.2.2.1 ∧ ∀ h, h < 6 → τ 105 h = σ 105 h + rc (σ 99) (σ 101) t h n := by
  have hn := ok.1
  obtain ⟨τ, q1, q2, q3, q4, q5, q6, q7⟩ := rings_l (σ 99) (σ 101) ht ok _ 0 400 (su (su (su (su σ 98 24 0) 98 25 0) 98 26 0) 98 27 0) rfl (by omega) (by omega) (by rw [su_ne (by omega), su_ne (by omega), su_ne (by omega), su_ne (by omega)]) (by rw [su_ne (by omega), su_ne (by omega), su_ne (by omega), su_ne (by omega)]) (by rw [su_j (by omega), su_j (by omega), su_j (by omega), su_s]; rfl) (by rw [su_j (by omega), su_j (by omega), su_s]; rfl) (by rw [su_j (by omega), su_s]; rfl) (by rw [su_s]; rfl)
  refine ⟨τ, ?_, onlyR.tr (fun k j x y => ?_) q2, q3, q4, q5, q6, fun h hh => ?_⟩
  · unfold fX11_rings; simp only [ol]; exact q1
  · by_cases hk : k = 98
    · subst hk
      rw [su_j (by omega), su_j (by omega), su_j (by omega), su_j (by omega)]
    · rw [su_ne hk, su_ne hk, su_ne hk, su_ne hk]
  · have := q7 h hh
    rw [su_ne (by omega), su_ne (by omega), su_ne (by omega), su_ne (by omega)] at this
    rw [← this]
    exact (Int32.add_zero _).symm
theorem val_s {σ : S0} {H G B T t : Nat} (h : Rall σ H G B T) (ht : t < T) : ∃ τ, fX11_valueOf σ (nI t) = some (vl (σ 99) (σ 101) (nI G) t, τ) ∧ onlyR σ τ ∧ τ 98 24 = (rgn (σ 99) (σ 101) t).1 ∧ τ 98 25 = (rgn (σ 99) (σ 101) t).2.1 ∧ τ 98 26 = (rgn (σ 99) (σ 101) t).2.2.1 := by
  obtain ⟨r1, r2, r3, r4⟩ := RT h ht
  obtain ⟨b1, b2, b3, b4, b5⟩ := h.1.1
  obtain ⟨τ, q1, q2, q3, q4, q5, q6, q7⟩ := rings_s (by omega) r1
  refine ⟨τ, ?_, q2, q3, q4, q5⟩
  unfold fX11_valueOf
  rw [q1]
  have e : (14 : Int32) * nI t = nI (14 * t) := by rw [show (14 : Int32) = nI 14 from rfl, pk_mul]
  simp only [obp, ol]
  rw [e, og_t (ix_ok (by omega) (by omega)), nI_clamp (by omega), q3, q4, q6, q2.c (k := 101) (by omega) (by omega), q2 98 3 (by omega) (by omega), h.1.2.1.2.1]
  rfl
theorem sim_ring (x y : Int32) : Sim (fun σ => fX10_ring σ x y) (fun σ => fX11_ring σ x y) := by
  intro σ hR
  show An (fX10_ring σ x y) (fun r τ => An (fX11_ring τ x y) (fun q ρ => r = q ∧ R ρ))
  obtain ⟨H, G, B, T, h⟩ := id hR
  obtain ⟨⟨b1, b2, b3, b4, b5⟩, ⟨e1, e2, e5, e6⟩, e3, e4, e7⟩ := h.1
  rcases ixc x T (by omega) with ⟨t, ht, rfl⟩ | hx
  · obtain ⟨τ, p1, p2, p3, p4, p5, p6⟩ := play_s h ht
    have h2 := h.cg p2.e
    obtain ⟨ρ, v1, v2, v3, v4, v5⟩ := val_s h2 ht
    rw [p2 99 (by omega), p2 101 (by omega)] at v1 v3 v4 v5
    have hρ : R ρ := ⟨H, G, B, T, h2.cg v2.e⟩
    have c1 : fX10_ring σ (nI t) y = if y.toInt < 0 ∨ 3 < y.toInt then (some ((-1), τ)) else if y = 0 then (some (τ 40 2, τ)) else if y = 1 then (some (τ 40 4, τ)) else if y = 2 then (some (τ 40 3, τ)) else if y = 3 then (some ((τ 40 5) + 1000, τ)) else none := by
      unfold fX10_ring
      rw [ht_y e7 (by omega) ht]
      simp only [obp]
      rw [if_pos (by decide), p1]
    have c2 : fX11_ring τ (nI t) y = if y.toInt < 0 ∨ 3 < y.toInt then (some ((-1), ρ)) else if y = 0 then (some (ρ 98 24, ρ)) else if y = 1 then (some (ρ 98 26, ρ)) else if y = 2 then (some (ρ 98 25, ρ)) else if y = 3 then (some (vl (σ 99) (σ 101) (nI G) t + 1000, ρ)) else none := by
      unfold fX11_ring
      rw [it_y h2.1.2.1.2.2.2 (by omega) ht]
      simp only [obp]
      rw [if_pos (by decide), v1]
    rcases ixc y 4 (by omega) with ⟨w, hw, rfl⟩ | hy
    · have hw2 : ¬ ((nI w).toInt < 0 ∨ 3 < (nI w).toInt) := by rw [ir (by omega)]; omega
      rw [if_neg hw2] at c1 c2
      rcases (show w = 0 ∨ w = 1 ∨ w = 2 ∨ w = 3 by omega) with rfl | rfl | rfl | rfl
      · exact ⟨_, τ, c1.trans (if_pos rfl), _, ρ, c2.trans (if_pos rfl), p3.trans v3.symm, hρ⟩
      · exact ⟨_, τ, c1.trans rfl, _, ρ, c2.trans rfl, p5.trans v5.symm, hρ⟩
      · exact ⟨_, τ, c1.trans rfl, _, ρ, c2.trans rfl, p4.trans v4.symm, hρ⟩
      · exact ⟨_, τ, c1.trans rfl, _, ρ, c2.trans rfl, congrArg (· + (1000 : Int32)) p6, hρ⟩
    · have hy2 : y.toInt < 0 ∨ 3 < y.toInt := by omega
      rw [if_pos hy2] at c1 c2
      exact ⟨_, τ, c1, _, ρ, c2, rfl, hρ⟩
  · refine Sim.same (fun τ => fX11_ring τ x y) (a := -1) hR ?_ ?_
    · unfold fX10_ring; rw [ht_n e7 (by omega) hx]; rfl
    · show fX11_ring σ x y = _
      unfold fX11_ring; rw [it_n e6 (by omega) hx]; rfl
