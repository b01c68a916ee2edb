/-! COUNT -/
def pb (x : Int32) : Nat → Int32
  | 0 => 0
  | i + 1 => pb x i + ((x >>> (nI i &&& 31)) &&& 1)
theorem bitsOf_l (σ : S0) (x : Int32) : ∀ (d i m : Nat), 12 - i = d → i ≤ 12 → d < m → fX11_bitsOf_h4 m σ x (pb x i) (nI i) = some (pb x 12, σ) := by
  intro d
  induction d with
  | zero =>
    intro i m h1 h2 h3
    obtain ⟨m, rfl⟩ : ∃ q, m = q + 1 := ⟨m - 1, by omega⟩
    have : i = 12 := by omega
    subst this
    show fX11_bitsOf_b4 _ _ _ _ _ = _
    unfold fX11_bitsOf_b4
    rw [if_pos (show (12 : Int32) ≤ nI 12 from by decide)]
  | succ d ih =>
    intro i m h1 h2 h3
    obtain ⟨m, rfl⟩ : ∃ q, m = q + 1 := ⟨m - 1, by omega⟩
    show fX11_bitsOf_b4 _ _ _ _ _ = _
    unfold fX11_bitsOf_b4
    rw [if_neg (show ¬ ((12 : Int32) ≤ nI i) from nI_ge (b := 12) (by omega) (by omega))]
    simp only [ol]
    rw [nI_1]
    exact ih (i + 1) m (by omega) (by omega) (by omega)
theorem bitsOf_s (σ : S0) (x : Int32) : fX11_bitsOf σ x = some (pb x 12, σ) := bitsOf_l σ x 12 0 400 (by omega) (by omega) (by omega)
def bcf (x0 : Int32) : Int32 :=
  let v1 := x0 - (((x0.toUInt32 >>> ((1 : Int32).toUInt32 &&& Int32.toUInt32 31)).toInt32) &&& 1431655765)
  let v2 := (v1 &&& 858993459) + (((v1.toUInt32 >>> ((2 : Int32).toUInt32 &&& Int32.toUInt32 31)).toInt32) &&& 858993459)
  let v3 := (v2 + ((v2.toUInt32 >>> ((4 : Int32).toUInt32 &&& Int32.toUInt32 31)).toInt32)) &&& 252645135
  let v4 := v3 + ((v3.toUInt32 >>> ((8 : Int32).toUInt32 &&& Int32.toUInt32 31)).toInt32)
  let v5 := v4 + ((v4.toUInt32 >>> ((16 : Int32).toUInt32 &&& Int32.toUInt32 31)).toInt32)
  v5 &&& 63
theorem bcf_s (σ : S0) (x : Int32) : fJ6_bitCount_0f7a4 σ x = some (bcf x, σ) := rfl
theorem bcf_t : ∀ v : Fin 64, bcf (nI v.1) = pb (nI v.1) 12 := by decide +kernel
def sc (f : Nat → Int32) : Nat → Int32
  | 0 => 0
  | i + 1 => sc f i + pb (f (60 + i)) 12
theorem feudPairs_l {σ : S0} (hv : ∀ i, i < 6 → ∃ v, v < 64 ∧ σ 38 i = nI v ∧ σ 99 (60 + i) = nI v) : ∀ (d i m : Nat), 6 - i = d → i ≤ 6 → d < m → fX1_feudPairs_h4 m σ 32 (sc (σ 99) i) (nI i) = some (sc (σ 99) 6 / 2, σ) := by
  intro d
  induction d with
  | zero =>
    intro i m h1 h2 h3
    obtain ⟨m, rfl⟩ : ∃ q, m = q + 1 := ⟨m - 1, by omega⟩
    have : i = 6 := by omega
    subst this
    show fX1_feudPairs_b4 _ _ _ _ _ = _
    unfold fX1_feudPairs_b4
    rw [if_pos (show (6 : Int32) ≤ nI 6 from by decide), og_t (by decide)]
    rfl
  | succ d ih =>
    intro i m h1 h2 h3
    obtain ⟨m, rfl⟩ : ∃ q, m = q + 1 := ⟨m - 1, by omega⟩
    obtain ⟨v, v1, v2, v3⟩ := hv i (by omega)
    show fX1_feudPairs_b4 _ _ _ _ _ = _
    unfold fX1_feudPairs_b4
    rw [if_neg (show ¬ ((6 : Int32) ≤ nI i) from nI_ge (b := 6) (by omega) (by omega)), og_t (ix_ok (by omega) (by omega)), nI_clamp (by omega)]
    simp only [ol, Nat.reduceAdd, bcf_s, obp]
    have e : bcf (σ 38 i) = pb (σ 99 (60 + i)) 12 := by rw [v2, v3]; exact bcf_t ⟨v, v1⟩
    rw [e, nI_1]
    exact ih (i + 1) m (by omega) (by omega) (by omega)
theorem countM_l {σ : S0} {H : Nat} (e1 : σ 98 2 = nI H) (hH : H ≤ 6) (x : Int32) : ∀ (d i m : Nat), H - i = d → i ≤ H → d < m → ∃ sf, fX11_count_h4 m σ x (sc (σ 99) i) (nI i) = fX11_count_b4 sf σ x (sc (σ 99) H) (nI H) := by
  intro d
  induction d with
  | zero =>
    intro i m h1 h2 h3
    obtain ⟨m, rfl⟩ : ∃ q, m = q + 1 := ⟨m - 1, by omega⟩
    have : i = H := by omega
    subst this
    exact ⟨_, rfl⟩
  | succ d ih =>
    intro i m h1 h2 h3
    obtain ⟨m, rfl⟩ : ∃ q, m = q + 1 := ⟨m - 1, by omega⟩
    obtain ⟨sf, ih⟩ := ih (i + 1) m (by omega) (by omega) (by omega)
    refine ⟨sf, ?_⟩
    rw [← ih]
    show fX11_count_b4 _ _ _ _ _ = _
    unfold fX11_count_b4
    rw [if_neg (show ¬ (σ 98 2 ≤ nI i) from by rw [e1]; exact nI_ge (by omega) (by omega))]
    simp only [ol]
    rw [show (60 : Int32) + nI i = nI (60 + i) from nI_add 60 i, og_t (ix_ok (by omega) (by omega)), nI_clamp (by omega), bitsOf_s]
    simp only [obp]
    rw [nI_1]
    rfl
theorem sc_e {f : Nat → Int32} {H : Nat} (hf : ∀ a, H ≤ a → a < 6 → f (60 + a) = nI 0) : ∀ d, H + d ≤ 6 → sc f (H + d) = sc f H := by
  intro d
  induction d with
  | zero => intro _; rfl
  | succ d ih =>
    intro hd
    show sc f (H + d) + pb (f (60 + (H + d))) 12 = _
    rw [hf (H + d) (by omega) (by omega), ih (by omega), show pb (nI 0) 12 = 0 from by decide]
    exact Int32.add_zero _
theorem sim_count (x : Int32) : Sim (fun σ => fX10_count σ x) (fun σ => fX11_count σ x) := Sim.ro (fun σ hR => by
  obtain ⟨H, G, B, T, h⟩ := hR
  obtain ⟨⟨b1, b2, b3, b4, b5⟩, ⟨e1, e2, e5, e6⟩, e3, e4, e7⟩ := h.1
  show ∃ a, fX10_count σ x = some (a, σ) ∧ fX11_count σ x = some (a, σ)
  obtain ⟨sf, em⟩ := countM_l e1 b2 x H 0 400 (by omega) (by omega) (by omega)
  have em2 : fX11_count σ x = fX11_count_b4 sf σ x (sc (σ 99) H) (nI H) := em
  rw [em2]
  unfold fX10_count fX11_count_b4
  rw [if_pos (show σ 98 2 ≤ nI H from by rw [e1]; exact nI_le (Nat.le_refl _) (by omega))]
  rcases ixc x 7 (by omega) with ⟨j, hj, rfl⟩ | hx
  · have hrg : ¬ ((nI j).toInt < 0 ∨ 6 < (nI j).toInt) := by rw [ir (by omega)]; omega
    simp only [if_neg hrg]
    obtain ⟨⟨n, n1, n2, n3⟩, m2, fo, f1, f2, f3, f4⟩ := id h.2.2.1
    simp only [Nat.zero_add] at f1 n2
    have hi0 := h.2.2.2.2.1 0 (by omega)
    have hi1 := h.2.2.2.2.1 1 (by omega)
    have c0 : ((0 : Int32)).toNatClampNeg = 0 := by decide
    have c1 : ((1 : Int32)).toNatClampNeg = 1 := by decide
    rcases (show j = 0 ∨ j = 1 ∨ j = 2 ∨ j = 3 ∨ j = 4 ∨ j = 5 ∨ j = 6 by omega) with rfl | rfl | rfl | rfl | rfl | rfl | rfl
    · refine ⟨nI B, ?_, ?_⟩
      · rw [if_pos (by decide), h.2.1.1]
      · rw [if_pos (by decide), e5]
    · refine ⟨nI T, ?_, ?_⟩
      · rw [if_neg (by decide), if_pos (by decide), e7]
      · rw [if_neg (by decide), if_pos (by decide), e6]
    · have h64 : 2 ^ H ≤ 64 := Nat.pow_le_pow_right (n := 2) (by omega) b2
      have k3 := h.2.1.2.2.1
      simp only [Nat.zero_add] at k3
      refine ⟨sc (σ 99) 6 / 2, ?_, ?_⟩
      · rw [if_neg (by decide), if_neg (by decide), if_pos (by decide)]
        unfold fX1_feudPairs
        show obp (fX1_feudPairs_h4 400 σ 32 (sc (σ 99) 0) (nI 0)) _ = _
        rw [feudPairs_l (σ := σ) (fun i hi => ⟨fo i, by have := (f1 i hi).1; omega, (k3 i hi).trans (f1 i hi).2, (f1 i hi).2⟩) 6 0 400 (by omega) (by omega) (by omega)]
        rfl
      · rw [if_neg (by decide), if_neg (by decide), if_pos (by decide), og_t (by decide)]
        have := sc_e (f := σ 99) (H := H) (fun a h1 h2 => by rw [(f1 a h2).2, f4 a h1 h2]) (6 - H) (by omega)
        rw [show H + (6 - H) = 6 by omega] at this
        rw [this]
        rfl
    · refine ⟨nI n, ?_, ?_⟩
      · rw [if_neg (by decide), if_neg (by decide), if_neg (by decide), if_pos (by decide), h.2.1.2.2.2.1, Nat.zero_add, n2]
      · rw [if_neg (by decide), if_neg (by decide), if_neg (by decide), if_pos (by decide), og_t c66]
        simp only [ol, v66]
        rw [n2]
    · have key : ∀ (p q : Int32), (p = 0 ∨ p = 1) → (q = 0 ∨ q = 1) → σ 72 0 = p → σ 100 0 = p → σ 72 1 = q → σ 100 1 = q → ∃ a, (og (¬ (((0 : Int32)) < 0 ∨ 2 ≤ ((0 : Int32)).toNatClampNeg)) (ol (σ 72 ((0 : Int32)).toNatClampNeg) (fun v11 => if v11 = 0 then (fX10_count_b90 σ 0) else (fX10_count_b90 σ 1)))) = some (a, σ) ∧ (og (¬ (((0 : Int32)) < 0 ∨ 2 ≤ ((0 : Int32)).toNatClampNeg)) (ol (σ 100 ((0 : Int32)).toNatClampNeg) (fun v13 => obp (fX11_flag σ v13) (fun r14 σ15 => og (¬ (((1 : Int32)) < 0 ∨ 2 ≤ ((1 : Int32)).toNatClampNeg)) (ol (σ15 100 ((1 : Int32)).toNatClampNeg) (fun v18 => obp (fX11_flag σ15 v18) (fun r19 σ20 => some (r14 + r19, σ20)))))))) = some (a, σ) := fun p q hp hq p1 p2 q1 q2 => by
        have g0 : ¬ (((0 : Int32)) < 0 ∨ 2 ≤ ((0 : Int32)).toNatClampNeg) := by decide
        have g1 : ¬ (((1 : Int32)) < 0 ∨ 2 ≤ ((1 : Int32)).toNatClampNeg) := by decide
        unfold fX10_count_b90 fX11_flag
        rw [og_t g0, og_t g0]
        simp only [ol, c0, c1]
        rw [p1, p2]
        have hone : ¬ (1 : Int32) = 0 := by decide
        rcases hp with rfl | rfl <;> rcases hq with rfl | rfl
        · exact ⟨0, by rw [if_pos rfl, og_t (by decide), q1, if_pos rfl]; rfl, by rw [if_pos rfl]; simp only [obp]; rw [og_t (by decide), q2, if_pos rfl]; rfl⟩
        · exact ⟨1, by rw [if_pos rfl, og_t (by decide), q1, if_neg hone]; rfl, by rw [if_pos rfl]; simp only [obp]; rw [og_t (by decide), q2, if_neg hone]; rfl⟩
        · exact ⟨1, by rw [if_neg hone, og_t (by decide), q1, if_pos rfl]; rfl, by rw [if_neg hone]; simp only [obp]; rw [og_t (by decide), q2, if_pos rfl]; rfl⟩
        · exact ⟨2, by rw [if_neg hone, og_t (by decide), q1, if_neg hone]; rfl, by rw [if_neg hone]; simp only [obp]; rw [og_t (by decide), q2, if_neg hone]; rfl⟩
      rw [if_neg (by decide), if_neg (by decide), if_neg (by decide), if_neg (by decide), if_pos (by decide), if_neg (by decide), if_neg (by decide), if_neg (by decide), if_neg (by decide), if_pos (by decide)]
      rcases hi0 with ⟨a1, a2⟩ | ⟨a1, a2, -⟩ <;> rcases hi1 with ⟨a3, a4⟩ | ⟨a3, a4, -⟩
      · exact key 0 0 (Or.inl rfl) (Or.inl rfl) a2 a1 a4 a3
      · exact key 0 1 (Or.inl rfl) (Or.inr rfl) a2 a1 a4 a3
      · exact key 1 0 (Or.inr rfl) (Or.inl rfl) a2 a1 a4 a3
      · exact key 1 1 (Or.inr rfl) (Or.inr rfl) a2 a1 a4 a3
    · obtain ⟨n, p0, p1, p2, -⟩ := h.2.2.2.2.2.1
      refine ⟨nI n, ?_, ?_⟩
      · rw [if_neg (by decide), if_neg (by decide), if_neg (by decide), if_neg (by decide), if_neg (by decide), if_pos (by decide), p1]
      · rw [if_neg (by decide), if_neg (by decide), if_neg (by decide), if_neg (by decide), if_neg (by decide), if_pos (by decide), p2]
    · have hs := (h.2.2.2.2.2.2.1 0 (by omega)).1
      have g0 : ¬ (((0 : Int32)) < 0 ∨ 4 ≤ ((0 : Int32)).toNatClampNeg) := by decide
      rw [if_neg (by decide), if_neg (by decide), if_neg (by decide), if_neg (by decide), if_neg (by decide), if_neg (by decide), if_pos (by decide), if_neg (by decide), if_neg (by decide), if_neg (by decide), if_neg (by decide), if_neg (by decide), if_neg (by decide), if_pos (by decide)]
      rw [og_t g0, og_t g0, og_t g0]
      simp only [ol, c0, Nat.mul_zero, Nat.add_zero] at hs ⊢
      unfold fX7_isNothing
      rcases hs with ⟨a1, a2⟩ | ⟨l, n, l1, l2, l3, l4, l5, l6⟩
      · refine ⟨-4, ?_, ?_⟩
        · rw [a2]; rfl
        · rw [a1]; rfl
      · refine ⟨nI n, ?_, ?_⟩
        · have : ¬ nI l = -1 := by
            rcases (show l = 0 ∨ l = 1 ∨ l = 2 by omega) with rfl | rfl | rfl <;> decide
          rw [l4, if_pos this]
          simp only [obp]
          rw [if_pos trivial, og_t (by decide), l6]
        · rw [l3, if_pos (nI_m4 (by omega)), l5]
  · have hrg : x.toInt < 0 ∨ 6 < x.toInt := by omega
    simp only [if_pos hrg]
    exact ⟨-1, rfl, rfl⟩)
