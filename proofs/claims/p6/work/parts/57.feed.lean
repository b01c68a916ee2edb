def ca (i : Nat) : Int32 := 7 - nI i
def ra (i : Nat) : Int32 := 56 - 8 * nI i
theorem ca_t : ∀ i : Fin 8, ¬ ca i.1 < 0 ∧ ¬ ra i.1 < 0 ∧ ca i.1 + (-1) = ca (i.1 + 1) ∧ ra i.1 + (-8) = ra (i.1 + 1) ∧ 8 * ca i.1 = ra i.1 := by decide
theorem ca_8 : ca 8 < 0 ∧ ra 8 < 0 := by decide
/-- byte i of a long, from the left -/
def by8 (z : Int64) (i : Nat) : Int64 := z >>> ((ra i).toInt64 &&& 63)
def rb (z : Int64) (i : Nat) : Int32 := (by8 z i &&& 255).toInt32
def cb (z : Int64) (i : Nat) : Int32 := (by8 z i).toInt32.toInt8.toInt32
theorem rb_x (z : Int64) (i : Nat) : ∃ x, x < 256 ∧ rb z i = nI x := by
  refine ⟨(by8 z i &&& 255).toBitVec.toNat, ?_, ?_⟩
  · rw [Int64.toBitVec_and, BitVec.toNat_and]
    have : (255 : Int64).toBitVec.toNat = 255 := by decide
    rw [this]
    exact Nat.lt_of_le_of_lt Nat.and_le_right (by omega)
  · unfold rb nI
    apply Int32.toBitVec_inj.mp
    apply BitVec.eq_of_toNat_eq
    rw [Int64.toBitVec_toInt32, BitVec.signExtend_eq_setWidth_of_le _ (by omega), BitVec.toNat_setWidth]
    show _ = (BitVec.ofNat 32 _).toNat
    rw [BitVec.toNat_ofNat]
theorem rb_c (z : Int64) (i : Nat) : (rb z i).toInt8.toInt32 = cb z i := by
  unfold rb cb
  rw [Int64.toInt8_toInt32, Int64.toInt8_toInt32, Int64.toInt8_and, show (255 : Int64).toInt8 = -1 from by decide, Int8.and_neg_one]
theorem nar_c (z : Int64) (i : Nat) : vp_nar .byte (cb z i) = cb z i := by
  unfold cb
  show Int8.toInt32 _ = _
  rw [Int8.toInt8_toInt32]
theorem app_l (z : Int64) : ∀ (d i m n : Nat) (σ : S0), 8 - i = d → i ≤ 8 → d < m → n + d ≤ 320 → σ 1 1 = nI n → ∃ τ, fX8_append_h3 m σ z (ca i) = some (0, τ) ∧ τ 1 1 = nI (n + d) ∧ (∀ x, x ≠ 1 → x ≠ 2 → τ x = σ x) ∧ (∀ j, j < n → τ 2 j = σ 2 j) ∧ ∀ j, j < d → τ 2 (n + j) = cb z (i + j) := by
  intro d
  induction d with
  | zero =>
    intro i m n σ h1 h2 h3 h4 e
    obtain ⟨m, rfl⟩ : ∃ q, m = q + 1 := ⟨m - 1, by omega⟩
    have : i = 8 := by omega
    subst this
    refine ⟨σ, ?_, e, fun _ _ _ => rfl, fun _ _ => rfl, fun j hj => absurd hj (by omega)⟩
    show fX8_append_b3 _ _ _ _ = _
    unfold fX8_append_b3
    rw [if_pos ca_8.1]
  | succ d ih =>
    intro i m n σ h1 h2 h3 h4 e
    obtain ⟨m, rfl⟩ : ∃ q, m = q + 1 := ⟨m - 1, by omega⟩
    obtain ⟨c1, c2, c3, c4, c5⟩ := ca_t ⟨i, by omega⟩
    simp only at c1 c2 c3 c4 c5
    obtain ⟨τ, q1, q2, q3, q4, q5⟩ := ih (i + 1) m (n + 1) (su (su σ 2 n (cb z i)) 1 1 (nI (n + 1))) (by omega) (by omega) (by omega) (by omega) su_s
    refine ⟨τ, ?_, by rw [q2]; congr 1; omega, fun x x1 x2 => by rw [q3 x x1 x2, su_ne x1, su_ne x2], fun j hj => by rw [q4 j (by omega), su_ne (by omega), su_j (by omega)], fun j hj => ?_⟩
    · show fX8_append_b3 _ _ _ _ = _
      unfold fX8_append_b3
      rw [if_neg c1, e, if_neg (show ¬ ((320 : Int32) ≤ nI n) from nI_ge (b := 320) (by omega) (by omega)), c5]
      simp only [ol]
      rw [og_t (ix_ok (by omega) (by omega)), nI_clamp (by omega), c3]
      have ez : vp_nar .byte (((z >>> ((ra i).toInt64 &&& 63)).toInt32).toInt8.toInt32) = cb z i := nar_c z i
      rw [ez, su_ne (by omega), e, nI_1]
      exact q1
    · by_cases hj0 : j = 0
      · subst hj0
        rw [Nat.add_zero, Nat.add_zero, q4 n (by omega), su_ne (by omega), su_s]
      · have := q5 (j - 1) (by omega)
        rw [show n + 1 + (j - 1) = n + j by omega, show i + 1 + (j - 1) = i + j by omega] at this
        exact this
theorem feedM_l (z : Int64) : ∀ (d i m n : Nat) (σ : S0), 8 - i = d → i ≤ 8 → d < m → n + d ≤ 320 → σ 98 17 = nI n → ∃ τ, fX11_feed_h19 m σ z (ra i) = some (nI (n + d), τ) ∧ τ 98 17 = nI (n + d) ∧ (∀ x, x ≠ 98 → x ≠ 104 → τ x = σ x) ∧ (∀ j, j ≠ 17 → τ 98 j = σ 98 j) ∧ (∀ j, j < n → τ 104 j = σ 104 j) ∧ ∀ j, j < d → τ 104 (n + j) = rb z (i + j) := by
  intro d
  induction d with
  | zero =>
    intro i m n σ h1 h2 h3 h4 e
    obtain ⟨m, rfl⟩ : ∃ q, m = q + 1 := ⟨m - 1, by omega⟩
    have : i = 8 := by omega
    subst this
    refine ⟨σ, ?_, e, fun _ _ _ => rfl, fun _ _ => rfl, fun _ _ => rfl, fun j hj => absurd hj (by omega)⟩
    show fX11_feed_b19 _ _ _ _ = _
    unfold fX11_feed_b19
    rw [if_pos ca_8.2, e]
    rfl
  | succ d ih =>
    intro i m n σ h1 h2 h3 h4 e
    obtain ⟨m, rfl⟩ : ∃ q, m = q + 1 := ⟨m - 1, by omega⟩
    obtain ⟨c1, c2, c3, c4, c5⟩ := ca_t ⟨i, by omega⟩
    simp only at c1 c2 c3 c4 c5
    obtain ⟨τ, q1, q2, q3, q6, q4, q5⟩ := ih (i + 1) m (n + 1) (su (su σ 104 n (rb z i)) 98 17 (nI (n + 1))) (by omega) (by omega) (by omega) (by omega) su_s
    have en : n + 1 + d = n + (d + 1) := by omega
    rw [en] at q1 q2
    refine ⟨τ, ?_, q2, fun x x1 x2 => by rw [q3 x x1 x2, su_ne x1, su_ne x2], fun j hj => by rw [q6 j hj, su_j hj, su_ne (by omega)], fun j hj => by rw [q4 j (by omega), su_ne (by omega), su_j (by omega)], fun j hj => ?_⟩
    · show fX11_feed_b19 _ _ _ _ = _
      unfold fX11_feed_b19
      rw [if_neg c2]
      simp only [ol]
      rw [e, og_t (ix_ok (by omega) (by omega)), nI_clamp (by omega), c4]
      have ez : ((z >>> ((ra i).toInt64 &&& 63)) &&& 255).toInt32 = rb z i := rfl
      rw [ez, su_ne (by omega), e, nI_1]
      exact q1
    · by_cases hj0 : j = 0
      · subst hj0
        rw [Nat.add_zero, Nat.add_zero, q4 n (by omega), su_ne (by omega), su_s]
      · have := q5 (j - 1) (by omega)
        rw [show n + 1 + (j - 1) = n + j by omega, show i + 1 + (j - 1) = i + j by omega] at this
        exact this
theorem sim_feed (z : Int64) : Sim (fun σ => fX10_feed σ z) (fun σ => fX11_feed σ z) := by
  intro σ hR
  show An (fX10_feed σ z) (fun r τ => An (fX11_feed τ z) (fun q ρ => r = q ∧ R ρ))
  obtain ⟨H, G, B, T, h⟩ := id hR
  obtain ⟨n, n1, p1, p2, p3⟩ := h.2.2.2.2.2.1
  have e8 : nI n + 8 = nI (n + 8) := nI_add n 8
  by_cases c : n + 8 ≤ 320
  · have hle : nI (n + 8) ≤ 320 := nI_le (b := 320) c (by omega)
    obtain ⟨τ, q1, q2, q3, q4, q5⟩ := app_l z 8 0 400 n σ rfl (by omega) (by omega) c p1
    obtain ⟨ρ, r1, r2, r3, r6, r4, r5⟩ := feedM_l z 8 0 400 n τ rfl (by omega) (by omega) c (by rw [q3 98 (by omega) (by omega)]; exact p2)
    refine ⟨nI (n + 8), τ, ?_, nI (n + 8), ρ, ?_, rfl, H, G, B, T, R_tp h ⟨n + 8, c, by rw [r3 1 (by omega) (by omega)]; exact q2, r2, fun j hj => ?_⟩ (fun x x1 x2 x3 x4 => by rw [r3 x x3 x4, q3 x x1 x2]) (fun i hi => by rw [r6 i hi, q3 98 (by omega) (by omega)])⟩
    · unfold fX10_feed fX8_append
      rw [p1, e8, if_pos hle, show (7 : Int32) = ca 0 from by decide, q1]
      simp only [obp]
      rw [q2]
    · unfold fX11_feed
      rw [q3 98 (by omega) (by omega), p2, e8, if_pos hle, show (56 : Int32) = ra 0 from by decide, r1]
    · rw [r3 2 (by omega) (by omega)]
      by_cases hj2 : j < n
      · rw [r4 j hj2, q4 j hj2, q3 104 (by omega) (by omega)]
        exact p3 j hj2
      · obtain ⟨x, hx, hx2⟩ := rb_x z (j - n)
        have a1 := q5 (j - n) (by omega)
        have a2 := r5 (j - n) (by omega)
        rw [show n + (j - n) = j by omega, Nat.zero_add] at a1 a2
        exact ⟨x, hx, a2.trans hx2, by rw [a1, ← hx2, rb_c]⟩
  · have hle : ¬ nI (n + 8) ≤ 320 := nI_ge (a := 320) (by omega) (by omega)
    refine Sim.same (fun τ => fX11_feed τ z) (a := -3) hR ?_ ?_
    · unfold fX10_feed; rw [p1, e8, if_neg hle]
    · show fX11_feed _ _ = _
      unfold fX11_feed; rw [p2, e8, if_neg hle]
