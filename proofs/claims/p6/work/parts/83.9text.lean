/-! THE TEXT: all lines; the draft is taken, or not -/
theorem DR.l {σ ρ : S0} (h : DR σ ρ) (v : Int32) : DR (su σ 3 4 v) ρ := h.h (fun k k1 k2 => su_ne (by omega)) (su_n2 (by omega)) (fun _ _ _ => rfl) rfl rfl (h.1.c (su_n2 (by omega)) (su_n2 (by omega)) rfl rfl) (h.2.1.c (su_j (by omega)) (su_j (by omega)) rfl)
theorem whole_j {σ ρ : S0} (d : DR σ ρ) : ∃ r, fX9_isWhole σ 4 = some (r, σ) ∧ (r = 0 ∨ r = 1) ∧ (r = 1 ↔ (¬ ρ 98 9 ≤ ρ 98 13) ∧ ¬ ρ 98 11 ≤ ρ 98 14) := by
  obtain ⟨⟨⟨H, h1, h2, h3, h4⟩, -⟩, -, ⟨fo, f1, f2, f3⟩, -, ⟨B, hB, hM⟩, T, hT, hN⟩ := d
  have eM := hM.lt (by omega) (m := H) (by omega)
  have eN := hN.lt (by omega) (m := B) (by have := hB.1; omega)
  have hBl := hB.1
  have hTl := hT.1
  -- the class's rows, as numbers
  have hF : ∀ h, h < 6 → (σ 20 h).toNatClampNeg < 64 ∧ σ 20 h = nI (σ 20 h).toNatClampNeg := fun h hh => by
    obtain ⟨q1, q2, -⟩ := f1 h hh
    rw [q2, nI_clamp (by omega)]
    exact ⟨q1, rfl⟩
  have hs : ∀ t, t < T → (σ 6 t).toNatClampNeg ≤ 12 ∧ σ 6 t = nI (σ 6 t).toNatClampNeg ∧ ∀ i, i < (σ 6 t).toNatClampNeg → (σ (8 + t) i).toNatClampNeg < 12 ∧ σ (8 + t) i = nI (σ (8 + t) i).toNatClampNeg := fun t ht => by
    obtain ⟨m, a1, a2, a3, a4, a5, a6⟩ := hT.2.2.2 t ht
    have e : (σ 6 t).toNatClampNeg = m := by rw [a3]; exact nI_clamp (by omega)
    rw [e]
    refine ⟨a2, a3, fun i hi => ?_⟩
    obtain ⟨b, b1, b2, b3⟩ := a6 i hi
    rw [b2, nI_clamp (by omega)]
    exact ⟨b1, rfl⟩
  have ho : ∀ b, b < B → (σ 15 b).toNatClampNeg < 6 ∧ σ 15 b = nI (σ 15 b).toNatClampNeg ∧ σ 19 b = σ 19 b ∧ (σ 19 b = -4 ∨ ∃ x, x < 6 ∧ σ 19 b = nI x) := fun b hb => by
    obtain ⟨⟨w, w1, w2, w3⟩, -, -, -, q⟩ := hB.2.2.2 b hb
    rw [w2, nI_clamp (by omega)]
    refine ⟨w1, rfl, rfl, ?_⟩
    rcases q with q | ⟨x, x1, x2, -⟩
    · exact Or.inl q.1
    · exact Or.inr ⟨x, x1, x2⟩
  have wT := whT_l hBl hTl hB.2.1 hT.2.1 (fun t => (σ 6 t).toNatClampNeg) (fun t i => (σ (8 + t) i).toNatClampNeg) hs T 0 400 (by omega) (by omega) (by omega)
  have wF := whF_l (fun h => (σ 20 h).toNatClampNeg) hF _ wT (6 - H) H 400 rfl h2 (by omega)
  obtain ⟨r, r1, r2, r3⟩ := whB_l h2 hBl h3 hB.2.1 (fun b => (σ 15 b).toNatClampNeg) (fun b => σ 19 b) ho _ wF B 0 400 (by omega) (by omega) (by omega)
  refine ⟨r, r1, r2, r3.trans ?_⟩
  rw [h4, hB.2.2.1, eM, eN]
  constructor
  · rintro ⟨q1, q2, q3⟩
    refine ⟨?_, ?_⟩
    · rintro ⟨y, y1, y2, y3⟩
      rcases y2 with ⟨b, b1, b2⟩ | y2
      · obtain ⟨⟨w, w1, w2, w3⟩, -, -, -, q⟩ := hB.2.2.2 b b1
        obtain ⟨u1, u2⟩ := q1 b (by omega) b1
        rcases b2 with b2 | b2
        · have : w = y := (nI_eq (by omega) (by omega)).mp (w3.symm.trans b2)
          simp only [w2, nI_clamp (show w < 2 ^ 31 by omega)] at u1
          omega
        · rcases q with q | ⟨x, x1, x2, x3⟩
          · exact absurd (q.2.symm.trans b2).symm (nI_m4 (by omega))
          · have : x = y := (nI_eq (by omega) (by omega)).mp (x3.symm.trans b2)
            have := u2 x x1 x2
            omega
      · obtain ⟨p1, p2, p3⟩ := f1 y y1
        have := q2 y y3 y1
        simp only [p2, nI_clamp (show fo y < 2 ^ 31 by omega)] at this
        exact y2 (by rw [p3, this]; rfl)
    · rintro ⟨y, y1, ⟨t, m, i, t1, t2, t3, t4, t5⟩, y3⟩
      obtain ⟨m', a1, a2, a3, a4, a5, a6⟩ := hT.2.2.2 t t1
      have hmm : m' = m := (nI_eq (by omega) (by omega)).mp (a4.symm.trans t3)
      obtain ⟨b, b1, b2, b3⟩ := a6 i (by omega)
      have hby : b = y := (nI_eq (by omega) (by omega)).mp (b3.symm.trans t5)
      have := q3 t (by omega) t1 i (by simp only [a3, nI_clamp (show m' < 2 ^ 31 by omega)]; omega)
      simp only [b2, nI_clamp (show b < 2 ^ 31 by omega)] at this
      omega
  · rintro ⟨q1, q2⟩
    refine ⟨fun b _ b1 => ⟨?_, fun x x1 x2 => ?_⟩, fun u u1 u2 => ?_, fun t _ t1 i hi => ?_⟩
    · obtain ⟨⟨w, w1, w2, w3⟩, -, -, -, -⟩ := hB.2.2.2 b b1
      show (σ 15 b).toNatClampNeg < H
      rw [w2, nI_clamp (by omega)]
      exact Classical.byContradiction fun c => q1 ⟨w, w1, Or.inl ⟨b, b1, Or.inl w3⟩, by omega⟩
    · obtain ⟨-, -, -, -, q⟩ := hB.2.2.2 b b1
      have x2' : σ 19 b = nI x := x2
      rcases q with q | ⟨z, z1, z2, z3⟩
      · exact absurd (q.1.symm.trans x2').symm (nI_m4 (by omega))
      · have : z = x := (nI_eq (by omega) (by omega)).mp (z2.symm.trans x2')
        exact Classical.byContradiction fun c => q1 ⟨x, x1, Or.inl ⟨b, b1, Or.inr (by rw [z3, this])⟩, by omega⟩
    · obtain ⟨p1, p2, p3⟩ := f1 u u2
      show (σ 20 u).toNatClampNeg = 0
      rw [p2, nI_clamp (by omega)]
      exact Classical.byContradiction fun c => q1 ⟨u, u2, Or.inr (by rw [p3]; exact nI_ne0 (by omega) (by omega)), u1⟩
    · obtain ⟨m', a1, a2, a3, a4, a5, a6⟩ := hT.2.2.2 t t1
      have hi' : i < (σ 6 t).toNatClampNeg := hi
      rw [a3, nI_clamp (by omega)] at hi'
      obtain ⟨b, b1, b2, b3⟩ := a6 i hi'
      show (σ (8 + t) i).toNatClampNeg < B
      rw [b2, nI_clamp (by omega)]
      exact Classical.byContradiction fun c => q2 ⟨b, b1, ⟨t, m', i, t1, a2, a4, hi', b3⟩, by omega⟩
/-- what comes of all lines -/
def AR (σ ρ : S0) (r : Int32) (τ : S0) (c : Nat) (μ : S0) : Prop := kX σ τ ∧ kM ρ μ ∧ ((r = 1 ∧ DR τ μ ∧ (¬ μ 98 9 ≤ μ 98 13) ∧ (¬ μ 98 11 ≤ μ 98 14) ∧ τ 3 4 = nI c ∧ τ 3 5 = 0 ∧ μ 98 22 = 0) ∨ (r = 0 ∧ Flt τ μ))
theorem fl_X (m : Nat) (σ : S0) : fX5_readAll_h39 (m + 1) σ 0 = some (0, σ) := by
  show fX5_readAll_b39 _ _ _ = _
  unfold fX5_readAll_b39 fX5_readAll_b81
  rw [if_pos rfl, if_pos rfl]
theorem bad.h20 {ρ : S0} (h : bad ρ) (m : Nat) (x : Int32) : fX11_text_h20 (m + 1) ρ x = fX11_text_b84 ρ x := by
  show fX11_text_b20 _ _ _ = _
  unfold fX11_text_b20 fX11_text_b44
  rw [if_pos h.n, if_pos h.n]
theorem all_l {a : Nat → Nat} {n : Nat} : ∀ (d c m m' p : Nat) (σ ρ : S0), 321 - c = d → c ≤ tS a n p → d < m → d < m' → TpX a n σ → TpM a n ρ → Cur a n p σ ρ → DR σ ρ → σ 3 4 = nI c → ∃ r τ c' μ, fX5_readAll_h39 m σ 1 = some (r, τ) ∧ fX11_text_h20 m' ρ (nI c) = fX11_text_b84 μ (nI c') ∧ AR σ ρ r τ c' μ := by
  have hone : ¬ (1 : Int32) = 0 := by decide
  intro d
  induction d with
  | zero =>
    intro c m m' p σ ρ h1 h2 h3 h3' tx tp cu dr h34
    have hn := tp.1
    have hb := tok_b (a := a) cu.2.2.2.2
    omega
  | succ d ih =>
    intro c m m' p σ ρ h1 h2 h3 h3' tx tp cu dr h34
    obtain ⟨m, rfl⟩ : ∃ q, m = q + 2 := ⟨m - 2, by omega⟩
    obtain ⟨m', rfl⟩ : ∃ q, m' = q + 2 := ⟨m' - 2, by omega⟩
    have hcu := cu
    obtain ⟨c1, c2, c3, c4, c5⟩ := cu
    have hn := tp.1
    have hb := tok_b (a := a) c5
    obtain ⟨g1, g2, g3⟩ := c2.g c3
    have n0 : ¬ ¬ ρ 98 22 = 0 := fun q => q g1
    have x0 : σ 1 3 = 0 ↔ tK a n p = 0 := by rw [c1.2.2.1]; exact nI_eq (b := 0) (by omega) (by omega)
    have m0 : ρ 98 20 = 0 ↔ tK a n p = 0 := by rw [g2]; exact nI_eq (b := 0) (by omega) (by omega)
    have hX : fX5_readAll_h39 (m + 2) σ 1 = fX5_readAll_b39 (fX5_readAll_h39 (m + 1)) σ 1 := rfl
    have hM : fX11_text_h20 (m' + 2) ρ (nI c) = fX11_text_b20 (fX11_text_h20 (m' + 1)) ρ (nI c) := rfl
    rw [hX, hM]
    unfold fX5_readAll_b39 fX11_text_b20
    rw [if_neg hone, if_neg n0]
    by_cases k0 : tK a n p = 0
    · rw [if_pos (x0.mpr k0), if_pos (m0.mpr k0)]
      unfold fX5_readAll_b81 fX5_readAll_b104 fX11_text_b44 fX11_text_b78 fX11_text_b79
      rw [if_neg hone, if_neg n0]
      obtain ⟨r, r1, r2, r3⟩ := whole_j dr
      rw [r1]
      simp only [obp]
      by_cases w : (¬ ρ 98 9 ≤ ρ 98 13) ∧ ¬ ρ 98 11 ≤ ρ 98 14
      · rw [if_pos (by rw [r3.mpr w]; exact hone), if_neg w.1, if_neg w.2, needs_y _ (by decide)]
        exact ⟨1, σ, c, ρ, rfl, rfl, kX.rf σ, kM.rf ρ, Or.inl ⟨rfl, dr, w.1, w.2, h34, c4, g1⟩⟩
      · have hr0 : r = 0 := r2.resolve_right (fun q => w (r3.mp q))
        have fin : AR σ ρ 0 (su (su σ 3 5 6) 3 6 (σ 1 4)) c (su (su ρ 98 22 6) 98 23 (ρ 98 19)) := ⟨(refuse_o σ 6).k, ((kM.rf ρ).su (by unfold scM; omega) _).su (by unfold scM; omega) _, Or.inr ⟨rfl, flt_r (f := 6) (g := 6) (pl := tS a n p) (by omega) (by omega) (by omega) c1.1 (by rw [su_j (by omega), su_s]; rfl) (by rw [su_s]; exact c2.1)⟩⟩
        rw [if_neg (fun q => q hr0), refuse_s, needs_n _ g1]
        simp only
        rw [if_pos trivial]
        by_cases w1 : ρ 98 9 ≤ ρ 98 13
        · rw [if_pos w1]
          exact ⟨0, _, c, _, rfl, rfl, fin⟩
        · rw [if_neg w1]
          by_cases w2 : ρ 98 11 ≤ ρ 98 14
          · rw [if_pos w2]
            exact ⟨0, _, c, _, rfl, rfl, fin⟩
          · exact absurd ⟨w1, w2⟩ w
    · have hlt := hb.2.2.2 k0
      rw [if_neg (fun q => k0 (x0.mp q)), if_neg (fun q => k0 (m0.mp q)), if_neg (show ¬ (320 : Int32) ≤ σ 3 4 from by rw [h34]; exact nI_ge (b := 320) (by omega) (by omega))]
      obtain ⟨r, τ, μ, w1, w2, w3, w4, w5, w6, w7⟩ := ln_s tx tp hcu dr
      rw [w1, w2]
      simp only [obp, ol]
      rw [w6, h34, nI_1]
      have kτ : kX τ (su τ 3 4 (nI (c + 1))) := (kX.rf τ).su (by unfold scX; omega) _
      rcases w7 with ⟨q1, q2, p', q3, q4⟩ | ⟨q1, q2⟩
      · rw [q1]
        have hb' := tok_b (a := a) q4.2.2.2.2
        obtain ⟨r', τ', c', μ', u1, u2, u3, u4, u5⟩ := ih (c + 1) (m + 1) (m' + 1) p' (su τ 3 4 (nI (c + 1))) μ (by omega) (by omega) (by omega) (by omega) (tx.k (w4.tr kτ)) (tp.k w5) ⟨q4.1.o (fun j _ _ => su_n2 (by omega)), q4.2.1, q4.2.2.1, by rw [su_j (by omega)]; exact q4.2.2.2.1, q4.2.2.2.2⟩ (q2.l _) su_s
        exact ⟨r', τ', c', μ', u1, u2, (w4.tr kτ).tr u3, w5.tr u4, u5⟩
      · rw [q1, fl_X, q2.b.h20]
        refine ⟨0, _, c + 1, μ, rfl, rfl, w4.tr kτ, w5, Or.inr ⟨rfl, ?_⟩⟩
        obtain ⟨f, g, pl, e1, e2, e3, e4, e5, e6, e7⟩ := q2
        exact ⟨f, g, pl, e1, e2, e3, by rw [su_j (by omega)]; exact e4, e5, by rw [su_j (by omega)]; exact e6, e7⟩
/-- the readers from the first byte on -/
theorem all_s {a : Nat → Nat} {n : Nat} {σ : S0} (tx : TpX a n σ) (tp : TpM a n σ) : ∃ r τ c μ, fX5_readAll σ = some (r, τ) ∧ fX11_text σ = fX11_text_b84 μ (nI c) ∧ AR σ σ r τ c μ := by
  have hn := tp.1
  -- the class
  let s1 : S0 := su (su (su σ 4 0 3) 4 1 3) 4 2 0
  let s2 : S0 := flld (su (su s1 14 0 0) 14 7 0) 20 0 6 0
  let s3 : S0 := su (su (su (su (su s2 3 2 0) 3 3 0) 3 4 0) 3 5 0) 1 2 0
  have eX : fX5_readAll σ = obp (fX5_advance s3) (fun r11 σ12 => fX5_readAll_h39 400 σ12 r11) := by
    unfold fX5_readAll fX9_empty fX1_empty fX8_rewind
    simp only [ol]
    rw [fill_all _ _ _ _ (by omega)]
    rfl
  have s2e : ∀ k, k ≠ 4 → k ≠ 14 → k ≠ 20 → s2 k = σ k := fun k h1 h2 h3 => by
    show flld (su (su s1 14 0 0) 14 7 0) 20 0 6 0 k = _
    rw [flld_ne h3, su_ne h2, su_ne h2]
    show su (su (su σ 4 0 3) 4 1 3) 4 2 0 k = _
    rw [su_ne h1, su_ne h1, su_ne h1]
  have s3e : ∀ k, k ≠ 1 → k ≠ 3 → s3 k = s2 k := fun k h1 h3 => by
    show su (su (su (su (su s2 3 2 0) 3 3 0) 3 4 0) 3 5 0) 1 2 0 k = _
    rw [su_ne h1, su_ne h3, su_ne h3, su_ne h3, su_ne h3]
  have k3 : kX σ s3 := fun k j q => by
    unfold scX at q
    show su (su (su (su (su s2 3 2 0) 3 3 0) 3 4 0) 3 5 0) 1 2 0 k j = _
    by_cases h1 : k = 1
    · subst h1
      rw [su_j (by omega), su_ne (by omega), su_ne (by omega), su_ne (by omega), su_ne (by omega), s2e 1 (by omega) (by omega) (by omega)]
    · rw [su_ne h1, su_ne (by omega), su_ne (by omega), su_ne (by omega), su_ne (by omega), s2e k (by omega) (by omega) (by omega)]
  have s32 : s3 3 2 = nI 0 := by
    show su (su (su (su (su s2 3 2 0) 3 3 0) 3 4 0) 3 5 0) 1 2 0 3 2 = _
    rw [su_ne (by omega), su_j (by omega), su_j (by omega), su_j (by omega), su_s]; rfl
  have s33 : s3 3 3 = nI 0 := by
    show su (su (su (su (su s2 3 2 0) 3 3 0) 3 4 0) 3 5 0) 1 2 0 3 3 = _
    rw [su_ne (by omega), su_j (by omega), su_j (by omega), su_s]; rfl
  have s34 : s3 3 4 = nI 0 := by
    show su (su (su (su (su s2 3 2 0) 3 3 0) 3 4 0) 3 5 0) 1 2 0 3 4 = _
    rw [su_ne (by omega), su_j (by omega), su_s]; rfl
  have s35 : s3 3 5 = 0 := by
    show su (su (su (su (su s2 3 2 0) 3 3 0) 3 4 0) 3 5 0) 1 2 0 3 5 = _
    rw [su_ne (by omega), su_s]
  have s12 : s3 1 2 = nI 0 := by
    show su (su (su (su (su s2 3 2 0) 3 3 0) 3 4 0) 3 5 0) 1 2 0 1 2 = _
    rw [su_s]; rfl
  have t4 : ∀ j, s3 4 j = s1 4 j := fun j => by
    rw [s3e 4 (by omega) (by omega)]
    show flld (su (su s1 14 0 0) 14 7 0) 20 0 6 0 4 j = _
    rw [flld_ne (by omega), su_ne (by omega), su_ne (by omega)]
  have s40 : s3 4 0 = nI 3 := by
    rw [t4]
    show su (su (su σ 4 0 3) 4 1 3) 4 2 0 4 0 = _
    rw [su_j (by omega), su_j (by omega), su_s]; rfl
  have s41 : s3 4 1 = nI 3 := by
    rw [t4]
    show su (su (su σ 4 0 3) 4 1 3) 4 2 0 4 1 = _
    rw [su_j (by omega), su_s]; rfl
  have s42 : s3 4 2 = nI 0 := by
    rw [t4]
    show su (su (su σ 4 0 3) 4 1 3) 4 2 0 4 2 = _
    rw [su_s]; rfl
  have s140 : s3 14 0 = nI 0 := by
    rw [s3e 14 (by omega) (by omega)]
    show flld (su (su s1 14 0 0) 14 7 0) 20 0 6 0 14 0 = _
    rw [flld_ne (by omega), su_j (by omega), su_s]; rfl
  have s147 : s3 14 7 = 0 := by
    rw [s3e 14 (by omega) (by omega)]
    show flld (su (su s1 14 0 0) 14 7 0) 20 0 6 0 14 7 = _
    rw [flld_ne (by omega), su_s]
  have s20 : ∀ h, h < 6 → s3 20 h = 0 := fun h hh => by
    rw [s3e 20 (by omega) (by omega)]
    show flld (su (su s1 14 0 0) 14 7 0) 20 0 6 0 20 h = _
    rw [flld_in (by omega) hh]
  -- the reference
  let r2 : S0 := su (su σ 98 22 0) 98 18 0
  obtain ⟨f1, f2, f3, f9, f10, f11, f12, f13, f14, f15⟩ := fd_facts r2
  have eM : fX11_text σ = obp (fX11_next (fdS (z80 r2 0))) (fun r6 σ7 => fX11_text_h20 400 σ7 0) := by
    unfold fX11_text
    simp only [ol]
    rw [firstDraft_s]
    rfl
  have km : kM σ (fdS (z80 r2 0)) := fun k j q => by
    unfold scM at q
    have er2 : r2 k j = σ k j ∨ (k = 98 ∧ (j = 22 ∨ j = 18)) := by
      by_cases c : k = 98 ∧ (j = 22 ∨ j = 18)
      · exact Or.inr c
      · refine Or.inl ?_
        show su (su σ 98 22 0) 98 18 0 k j = _
        by_cases hk : k = 98
        · subst hk; rw [su_j (by omega), su_j (by omega)]
        · rw [su_ne hk, su_ne hk]
    by_cases hk : k = 98
    · subst hk
      rw [f3 j (by omega)]
      exact er2.resolve_right (by omega)
    · rw [f1 k hk (by omega)]
      exact er2.resolve_right (by omega)
  have e18 : fdS (z80 r2 0) 98 18 = nI 0 := by
    rw [f3 18 (by omega)]
    show su (su σ 98 22 0) 98 18 0 98 18 = _
    rw [su_s]; rfl
  have e22 : fdS (z80 r2 0) 98 22 = 0 := by
    rw [f3 22 (by omega)]
    show su (su σ 98 22 0) 98 18 0 98 22 = _
    rw [su_j (by omega), su_s]
  generalize fdS (z80 r2 0) = ρ1 at f1 f2 f3 f9 f10 f11 f12 f13 f14 f15 eM km e18 e22
  clear_value s3
  obtain ⟨μ, v1, v2, v3⟩ := next_s (p := 0) (tp.k km) (by omega) e18 e22
  have pe : Pend a n 0 s3 μ := ⟨s12, v3, s35, by omega⟩
  obtain ⟨r, τ, t1, t2, t3⟩ := adv_s (tx.k k3) pe
  have dr0 : DR s3 ρ1 := ⟨⟨⟨3, by omega, by omega, s40, f9⟩, 3, by omega, s41, f10⟩, ⟨0, 0, by omega, by omega, s32, s33, f15⟩, ⟨fun _ => 0, fun h hh => ⟨show (0 : Nat) < 64 by omega, s20 h hh, f2 _ (by omega)⟩, fun x y _ _ => (Nat.zero_testBit y).trans (Nat.zero_testBit x).symm, fun x _ => Nat.zero_testBit x⟩, ⟨s147, f2 66 (by omega)⟩, ⟨0, ⟨by omega, s140, f11, fun b hb => by omega⟩, Or.inl ⟨f13, fun h hh q => by
    rcases q with ⟨b, b1, -⟩ | q
    · omega
    · exact q (f2 _ (by omega))⟩⟩, 0, ⟨by omega, s42, f12, fun t ht => by omega⟩, Or.inl ⟨f14, fun j hj q => by
    obtain ⟨t, m, i, t1, -⟩ := q
    omega⟩⟩
  rw [eX, eM, t1, v1]
  simp only [obp]
  rcases t3 with ⟨q1, q2, q3⟩ | ⟨q1, q2⟩
  · obtain ⟨r', τ', c', μ', u1, u2, u3, u4, u5⟩ := all_l 321 0 400 400 0 τ μ (by omega) (by omega) (by omega) (by omega) ((tx.k k3).k t2.k) ((tp.k km).k v2.k) q3 (dr0.a t2 v2) (by rw [t2 3 4 (by omega)]; exact s34)
    rw [q1]
    exact ⟨r', τ', c', μ', u1, u2, (k3.tr t2.k).tr u3, (km.tr v2.k).tr u4, u5⟩
  · rw [q1, fl_X 399]
    exact ⟨0, τ, 0, μ, rfl, q2.b.h20 399 0, k3.tr t2.k, km.tr v2.k, Or.inr ⟨rfl, q2⟩⟩
