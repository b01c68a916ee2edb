/-! FEUDING: both run side by side -/
theorem sh16_b (w : BitVec 32) : (w >>> 16) &&& 32767#32 = (w.sshiftRight 16) &&& 32767#32 := by
  apply BitVec.eq_of_getLsbD_eq
  intro i hi
  rw [BitVec.getLsbD_and, BitVec.getLsbD_and, BitVec.getLsbD_ushiftRight, BitVec.getLsbD_sshiftRight]
  by_cases h : i < 15
  · have h1 : 16 + i < 32 := by omega
    have h2 : ¬ 32 ≤ i := by omega
    simp [h1, h2]
  · have : (32767#32).getLsbD i = false := (by decide : ∀ i : Fin 32, 15 ≤ i.1 → (32767#32).getLsbD i.1 = false) ⟨i, hi⟩ (by show 15 ≤ i; omega)
    rw [this, Bool.and_false, Bool.and_false]
theorem sh16 (v : Int32) : ((v.toUInt32 >>> ((16 : Int32).toUInt32 &&& Int32.toUInt32 31)).toInt32) &&& 32767 = (v >>> ((16 : Int32) &&& 31)) &&& 32767 := by
  rw [← Int32.toBitVec_inj, Int32.toBitVec_and, Int32.toBitVec_and, Int32.toBitVec_shiftRight]
  have e1 : (v.toUInt32 >>> ((16 : Int32).toUInt32 &&& Int32.toUInt32 31)).toInt32.toBitVec = v.toBitVec >>> 16 := by
    show (v.toUInt32 >>> ((16 : Int32).toUInt32 &&& Int32.toUInt32 31)).toBitVec = _
    rw [UInt32.toBitVec_shiftRight, show (((16 : Int32).toUInt32 &&& Int32.toUInt32 31).toBitVec % 32) = 16#32 from by decide]
    rfl
  have e2 : ∀ w : BitVec 32, w.sshiftRight' (((16 : Int32) &&& 31).toBitVec.smod 32) = w.sshiftRight 16 := fun w => by
    rw [show (((16 : Int32) &&& 31).toBitVec.smod 32) = 16#32 from by decide]
    rfl
  rw [e1, e2]
  exact sh16_b v.toBitVec
theorem su_cj {σ : S0} {k a b : Nat} {v w : Int32} (h : a ≠ b) : su (su σ k a v) k b w = su (su σ k b w) k a v := by
  funext x y
  by_cases hx : x = k
  · subst hx
    by_cases ha : y = a
    · subst ha
      rw [su_j h, su_s, su_s]
    · by_cases hb : y = b
      · subst hb
        rw [su_s, su_j ha, su_s]
      · rw [su_j hb, su_j ha, su_j ha, su_j hb]
  · rw [su_ne hx, su_ne hx, su_ne hx, su_ne hx]
theorem pair2 {σ : S0} {H G B T a b : Nat} (v : Int32) (h : Rall σ H G B T) (ha : a < H) (hb : b < H) (hab : a ≠ b) : Two (fX1_setFoes σ 32 (nI a) (nI b) v) (fX11_setsFeud σ (nI b) (nI a) v) (fun _ _ ν => Rall ν H G B T) := by
  obtain ⟨τ, ρ, h1, h2, h3, h4, h5⟩ := R_pair v h ha hb hab
  obtain ⟨b1, b2, b3, b4, b5⟩ := h.1.1
  obtain ⟨m1, m2, fo, f1, f2, f3, f4⟩ := id h.2.2.1
  simp only [Nat.zero_add] at f1
  have h64 : 2 ^ H ≤ 64 := Nat.pow_le_pow_right (n := 2) (by omega) b2
  have la := (f1 a (by omega)).1
  have lb := (f1 b (by omega)).1
  have ea : σ 99 (60 + a) = nI (fo a) := (f1 a (by omega)).2
  have eb : σ 99 (60 + b) = nI (fo b) := (f1 b (by omega)).2
  have e1 := setsFeud_s v (σ := σ) (a := b) (b := a) (by omega) (by omega) (fun q => hab q.symm) (ma := fo b) (mb := fo a) (by omega) (by omega) eb ea
  have e2 := setsFeud_s v (σ := σ) (a := a) (b := b) (by omega) (by omega) hab (ma := fo a) (mb := fo b) (by omega) (by omega) ea eb
  have e3 : fX11_setsFeud σ (nI b) (nI a) v = fX11_setsFeud σ (nI a) (nI b) v := by
    rw [e1, e2, su_cj (by omega)]
  have hx := rx_fX1_setFoes σ σ 32 (nI a) (nI b) v (by omega)
  rw [mix_self, h1] at hx
  obtain ⟨τ', q1, q2⟩ := mo_inv hx.symm
  cases q1
  rw [q2, rm_fX11_setsFeud] at h2
  obtain ⟨ρ', r1, r2⟩ := mp_inv h2
  refine ⟨0, τ, 0, ρ', h1, e3.trans r1, ?_⟩
  rw [r2] at h3
  exact h3
theorem feudI {H G B T a : Nat} (hH : H ≤ 6) (ha : a < H) {sx sm : S0 → Int32 → Int32 → Int32 → Option (Int32 × S0)} (fx : ∀ ρ (σ : S0) a0 a1 a2, sx (mix σ ρ) a0 a1 a2 = mo ρ (sx σ a0 a1 a2)) (fm : ∀ σ (ρ : S0) a0 a1 a2, sm (mix σ ρ) a0 a1 a2 = mp σ (sm ρ a0 a1 a2))
    (hs : ∀ σ x2 x3, Rall σ H G B T → Two (sx σ x2 x3 (nI (a + 1))) (sm σ x2 x3 (nI (a + 1))) (fun r s ν => r = s ∧ Rall ν H G B T)) : ∀ (d b m : Nat) (σ : S0) (x2 x3 : Int32), a - b = d → b ≤ a → d < m → Rall σ H G B T → Two (fX10_feuding_h22 sx m σ x2 x3 (nI a) (nI b)) (fX11_feuding_h19 sm m σ x2 x3 (nI a) (nI b)) (fun r s ν => r = s ∧ Rall ν H G B T) := by
  intro d
  induction d with
  | zero =>
    intro b m σ x2 x3 h1 h2 h3 h
    obtain ⟨m, rfl⟩ : ∃ q, m = q + 1 := ⟨m - 1, by omega⟩
    have : b = a := by omega
    subst this
    show Two (fX10_feuding_b22 _ _ _ _ _ _ _) (fX11_feuding_b19 _ _ _ _ _ _ _) _
    unfold fX10_feuding_b22 fX11_feuding_b19
    rw [if_pos (nI_le (Nat.le_refl _) (by omega)), if_pos (nI_le (Nat.le_refl _) (by omega))]
    simp only [ol]
    rw [nI_1]
    exact hs σ x2 x3 h
  | succ d ih =>
    intro b m σ x2 x3 h1 h2 h3 h
    obtain ⟨m, rfl⟩ : ∃ q, m = q + 1 := ⟨m - 1, by omega⟩
    have hone : ¬ (1 : Int32) = 0 := by decide
    have h4 : ¬ (4 : Int32) = 0 := by decide
    have key : ∀ (v t : Int32), (t = 0 ∨ t = 1) → Two (fX10_feuding_b56 sx (fX10_feuding_h22 sx m) σ v x3 (nI a) (nI b) t) (fX11_feuding_b53 sm (fX11_feuding_h19 sm m) σ v x3 (nI a) (nI b) t) (fun r s ν => r = s ∧ Rall ν H G B T) := fun v t ht => by
      have hX : fX10_feuding_b56 sx (fX10_feuding_h22 sx m) σ v x3 (nI a) (nI b) t = obp (fX1_setFoes σ 32 (nI a) (nI b) t) (fun _ σ2 => fX10_feuding_h22 sx m σ2 v (x3 + t) (nI a) (nI (b + 1))) := by
        unfold fX10_feuding_b56 fX10_feuding_b82
        simp only [ol, nI_1]
        rcases ht with rfl | rfl
        · simp only [if_true]
        · simp only [if_neg hone]
      have hM : fX11_feuding_b53 sm (fX11_feuding_h19 sm m) σ v x3 (nI a) (nI b) t = obp (fX11_setsFeud σ (nI b) (nI a) t) (fun _ σ2 => fX11_feuding_h19 sm m σ2 v (x3 + t) (nI a) (nI (b + 1))) := by
        unfold fX11_feuding_b53 fX11_flag
        simp only [ol, nI_1]
        rcases ht with rfl | rfl
        · simp only [if_true, obp]
        · simp only [if_neg hone, obp]
      rw [hX, hM]
      exact (pair2 t h ha (by omega) (by omega)).bind (fun _ σ ρ => rx_fX10_feuding_h22 ρ sx (fx ρ) m σ _ _ _ _) (fun _ σ ρ => rm_fX11_feuding_h19 σ sm (fm σ) m ρ _ _ _ _) (fun _ _ ν hν => ih (b + 1) m ν v (x3 + t) (by omega) (by omega) (by omega) hν)
    show Two (fX10_feuding_b22 _ _ _ _ _ _ _) (fX11_feuding_b19 _ _ _ _ _ _ _) _
    unfold fX10_feuding_b22 fX11_feuding_b19
    rw [if_neg (nI_ge (by omega) (by omega)), if_neg (nI_ge (by omega) (by omega)), ol_i, og_t h4, ol_i, ol_i, og_t h4, ol_i]
    generalize x2 * 1103515245 + 12345 = v
    have e := sh16 v
    generalize ((v.toUInt32 >>> ((16 : Int32).toUInt32 &&& Int32.toUInt32 31)).toInt32) &&& 32767 = u1 at e ⊢
    subst e
    generalize (v >>> ((16 : Int32) &&& 31)) &&& 32767 = u
    by_cases c : u - u / 4 * 4 = 0
    · rw [if_neg (fun q => q c), if_neg (fun q => q c)]
      exact key _ 1 (Or.inr rfl)
    · rw [if_pos c, if_pos c]
      exact key _ 0 (Or.inl rfl)
theorem feudO {H G B T : Nat} : ∀ (d a m : Nat) (σ : S0) (x2 x3 : Int32), H - a = d → a ≤ H → d < m → Rall σ H G B T → Two (fX10_feuding_h7 m σ x2 x3 (nI a)) (fX11_feuding_h7 m σ x2 x3 (nI a)) (fun r s ν => r = s ∧ Rall ν H G B T) := by
  intro d
  induction d with
  | zero =>
    intro a m σ x2 x3 h1 h2 h3 h
    obtain ⟨m, rfl⟩ : ∃ q, m = q + 1 := ⟨m - 1, by omega⟩
    have hH := h.1.1.2.1
    obtain ⟨-, ⟨e1, -, -, -⟩, e3, -, -⟩ := h.1
    have : a = H := by omega
    subst this
    show Two (fX10_feuding_b7 _ _ _ _ _) (fX11_feuding_b7 _ _ _ _ _) _
    unfold fX10_feuding_b7 fX11_feuding_b7
    rw [if_pos (show σ 22 0 ≤ nI a from by rw [e3]; exact nI_le (Nat.le_refl _) (by omega)), if_pos (show σ 98 2 ≤ nI a from by rw [e1]; exact nI_le (Nat.le_refl _) (by omega))]
    exact Two.mk ⟨rfl, h⟩
  | succ d ih =>
    intro a m σ x2 x3 h1 h2 h3 h
    obtain ⟨m, rfl⟩ : ∃ q, m = q + 1 := ⟨m - 1, by omega⟩
    have hH := h.1.1.2.1
    obtain ⟨-, ⟨e1, -, -, -⟩, e3, -, -⟩ := h.1
    show Two (fX10_feuding_b7 _ _ _ _ _) (fX11_feuding_b7 _ _ _ _ _) _
    unfold fX10_feuding_b7 fX11_feuding_b7
    rw [if_neg (show ¬ (σ 22 0 ≤ nI a) from by rw [e3]; exact nI_ge (by omega) (by omega)), if_neg (show ¬ (σ 98 2 ≤ nI a) from by rw [e1]; exact nI_ge (by omega) (by omega))]
    exact feudI hH (by omega) (fun ρ σ a0 a1 a2 => rx_fX10_feuding_h7 ρ m σ a0 a1 a2) (fun σ ρ a0 a1 a2 => rm_fX11_feuding_h7 σ m ρ a0 a1 a2) (fun σ x2 x3 h => ih (a + 1) m σ x2 x3 (by omega) (by omega) (by omega) h) a 0 400 σ x2 x3 (by omega) (by omega) (by omega) h
theorem sim_feuding (x : Int32) : Sim (fun σ => fX10_feuding σ x) (fun σ => fX11_feuding σ x) := by
  refine Sim.of2 (fun σ ρ => rx_fX10_feuding ρ σ x) (fun σ ρ => rm_fX11_feuding σ ρ x) (fun σ hR => ?_)
  obtain ⟨H, G, B, T, h⟩ := id hR
  have := feudO (H - 1) 1 400 σ x 0 rfl (by have := h.1.1.1; omega) (by have := h.1.1.2.1; omega) h
  exact this.mono (fun a b ν q => ⟨q.1, H, G, B, T, q.2⟩)
