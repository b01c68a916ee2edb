/-! THE TEXT: a line of a bell -/
def rb3 (σ : S0) (v1 r14 : Int32) : Option (Int32 × S0) := ol (v1 + 2) (fun v17 => og (¬ (v17 < 0 ∨ 80 ≤ v17.toNatClampNeg)) (ol (su σ 102 v17.toNatClampNeg r14) (fun σ19 => ol (v1 + 3) (fun v20 => og (¬ (v20 < 0 ∨ 80 ≤ v20.toNatClampNeg)) (ol (su σ19 102 v20.toNatClampNeg 0) (fun σ22 => ol (v1 + 4) (fun v23 => og (¬ (v23 < 0 ∨ 80 ≤ v23.toNatClampNeg)) (ol (su σ22 102 v23.toNatClampNeg ((-4))) (fun σ25 => fX11_readBell_h72 400 σ25 v1 0)))))))))
def rb2 (σ : S0) (v1 r8 : Int32) : Option (Int32 × S0) := ol (v1 + 1) (fun v11 => og (¬ (v11 < 0 ∨ 80 ≤ v11.toNatClampNeg)) (ol (su σ 102 v11.toNatClampNeg r8) (fun σ13 => obp (fX11_readNumber σ13 ((0 : Int32)) ((9 : Int32))) (fun r14 σ15 => rb3 σ15 v1 r14))))
def rb1 (σ : S0) (v1 r2 : Int32) : Option (Int32 × S0) := ol (v1 + 0) (fun v5 => og (¬ (v5 < 0 ∨ 80 ≤ v5.toNatClampNeg)) (ol (su σ 102 v5.toNatClampNeg r2) (fun σ7 => obp (fX11_readNumber σ7 ((0 : Int32)) ((20 : Int32))) (fun r8 σ9 => rb2 σ9 v1 r8))))
theorem rb_e (σ : S0) : fX11_readBell σ = ol (5 * (σ 98 11)) (fun v1 => obp (fX11_readHouse σ (((-4) : Int32))) (fun r2 σ3 => rb1 σ3 v1 r2)) := rfl
theorem rb1_e (σ : S0) {B : Nat} (hB : B < 12) (r : Int32) : rb1 σ (nI (5 * B)) r = obp (fX11_readNumber (su σ 102 (5 * B) r) 0 20) (fun r8 σ9 => rb2 σ9 (nI (5 * B)) r8) := by
  unfold rb1
  rw [Int32.add_zero, ol_g, og_t (ix_ok (by omega) (by omega)), nI_clamp (by omega), ol_g]
theorem rb2_e (σ : S0) {B : Nat} (hB : B < 12) (r : Int32) : rb2 σ (nI (5 * B)) r = obp (fX11_readNumber (su σ 102 (5 * B + 1) r) 0 9) (fun r8 σ9 => rb3 σ9 (nI (5 * B)) r8) := by
  unfold rb2
  rw [nI_1, ol_g, og_t (ix_ok (by omega) (by omega)), nI_clamp (by omega), ol_g]
theorem rb3_e (σ : S0) {B : Nat} (hB : B < 12) (r : Int32) : rb3 σ (nI (5 * B)) r = fX11_readBell_h72 400 (su (su (su σ 102 (5 * B + 2) r) 102 (5 * B + 3) 0) 102 (5 * B + 4) (-4)) (nI (5 * B)) 0 := by
  unfold rb3
  rw [show (2 : Int32) = nI 2 from rfl, show (3 : Int32) = nI 3 from rfl, show (4 : Int32) = nI 4 from rfl, nI_add, nI_add, nI_add, ol_g, og_t (ix_ok (by omega) (by omega)), nI_clamp (by omega), ol_g, ol_g, og_t (ix_ok (by omega) (by omega)), nI_clamp (by omega), ol_g, ol_g, og_t (ix_ok (by omega) (by omega)), nI_clamp (by omega), ol_g]
/-- what a line of a bell changes in the reference -/
def bM (b : Nat) (σ τ : S0) : Prop := ∀ k j, ¬ ((k = 98 ∧ (j = 11 ∨ j = 13 ∨ 18 ≤ j ∧ j ≤ 23)) ∨ (k = 102 ∧ 5 * b ≤ j ∧ j < 5 * b + 5)) → τ k j = σ k j
theorem bM.tr {b : Nat} {x y z : S0} (h1 : bM b x y) (h2 : bM b y z) : bM b x z := fun k j h => (h2 k j h).trans (h1 k j h)
theorem bM.k {b : Nat} {x y : S0} (h : bM b x y) : kM x y := fun k j q => h k j (fun z => q (by unfold scM; omega))
theorem on9.b {x y : S0} (h : on9 x y) (b : Nat) : bM b x y := fun k j q => h k j (by omega)
theorem on8.b {x y : S0} (h : on8 x y) (b : Nat) : bM b x y := fun k j q => h k j (by omega)
theorem wM.b {x y : S0} {b : Nat} (h : wM b x y) : bM b x y := fun k j q => h k j (by omega)
theorem bM_su {b j : Nat} {σ : S0} (h : 5 * b ≤ j ∧ j < 5 * b + 5) (v : Int32) : bM b σ (su σ 102 j v) := fun x y q => by
  by_cases hx : x = 102
  · subst hx; exact su_j (fun z => q (by omega))
  · rw [su_ne hx]
theorem bad.rb3 {σ : S0} (h : bad σ) {B : Nat} (hB : B < 12) (r : Int32) : ∃ μ, rb3 σ (nI (5 * B)) r = some (0, μ) ∧ bM B σ μ ∧ μ 98 22 = σ 98 22 ∧ μ 98 23 = σ 98 23 := by
  have hbad : bad (su (su (su σ 102 (5 * B + 2) r) 102 (5 * B + 3) 0) 102 (5 * B + 4) (-4)) := h.o (by rw [su_ne (by omega), su_ne (by omega), su_ne (by omega)])
  refine ⟨_, (rb3_e σ hB r).trans (hbad.h72 399 _ _), ((bM_su (by omega) _).tr (bM_su (by omega) _)).tr ((bM_su (by omega) _).tr (wM.b (wM_su (Or.inl ⟨rfl, by omega⟩) _))), ?_, ?_⟩
  · rw [su_j (by omega), su_ne (by omega), su_ne (by omega), su_ne (by omega)]
  · rw [su_j (by omega), su_ne (by omega), su_ne (by omega), su_ne (by omega)]
theorem bad.rb2 {σ : S0} (h : bad σ) {B : Nat} (hB : B < 12) (r : Int32) : ∃ μ, rb2 σ (nI (5 * B)) r = some (0, μ) ∧ bM B σ μ ∧ μ 98 22 = σ 98 22 ∧ μ 98 23 = σ 98 23 := by
  have hbad : bad (su σ 102 (5 * B + 1) r) := h.o (su_n2 (by omega))
  obtain ⟨μ, h1, h2, h3, h4⟩ := hbad.rb3 hB 0
  refine ⟨μ, ?_, (bM_su (by omega) _).tr h2, h3.trans (su_n2 (by omega)), h4.trans (su_n2 (by omega))⟩
  rw [rb2_e σ hB, hbad.num]
  exact h1
theorem bad.rb1 {σ : S0} (h : bad σ) {B : Nat} (hB : B < 12) (r : Int32) : ∃ μ, rb1 σ (nI (5 * B)) r = some (0, μ) ∧ bM B σ μ ∧ μ 98 22 = σ 98 22 ∧ μ 98 23 = σ 98 23 := by
  have hbad : bad (su σ 102 (5 * B) r) := h.o (su_n2 (by omega))
  obtain ⟨μ, h1, h2, h3, h4⟩ := hbad.rb2 hB 0
  refine ⟨μ, ?_, (bM_su (by omega) _).tr h2, h3.trans (su_n2 (by omega)), h4.trans (su_n2 (by omega))⟩
  rw [rb1_e σ hB, hbad.num]
  exact h1
theorem DR.b {σ τ ρ μ : S0} (h : DR σ ρ) {B : Nat} (hB : DBs σ ρ B) (hB12 : B < 12) (x : ∀ k, 4 ≤ k → k ≤ 21 → (k < 14 ∨ 19 < k) → τ k = σ k) (x0 : τ 14 0 = nI (B + 1)) (x7 : τ 14 7 = σ 14 7) (x15 : ∀ k j, 15 ≤ k → k ≤ 19 → j ≠ B → τ k j = σ k j) (x3 : ∀ j, j ≤ 4 → τ 3 j = σ 3 j) (y : ∀ j, 9 ≤ j → j ≤ 15 → j ≠ 11 → j ≠ 13 → μ 98 j = ρ 98 j) (y11 : μ 98 11 = nI (B + 1)) (y2 : ∀ j, ¬ (5 * B ≤ j ∧ j < 5 * B + 5) → μ 102 j = ρ 102 j) (y3 : μ 103 = ρ 103) (db : DB τ μ B) (hm : Mx 6 (μ 98 13) (th μ (B + 1))) : DR τ μ := by
  obtain ⟨h0, h1, h2, h3, -, T, hT, hN⟩ := h
  refine ⟨h0.c (by rw [x 4 (by omega) (by omega) (by omega)]) (by rw [x 4 (by omega) (by omega) (by omega)]) (y 9 (by omega) (by omega) (by omega) (by omega)) (y 10 (by omega) (by omega) (by omega) (by omega)), h1.c (x3 2 (by omega)) (x3 3 (by omega)) (y 15 (by omega) (by omega) (by omega) (by omega)), h2.c (x 20 (by omega) (by omega) (by omega)) (fun j _ _ => y2 j (by omega)), h3.c x7 (y2 66 (by omega)), ⟨B + 1, ⟨by omega, x0, y11, fun b hb => ?_⟩, hm⟩, T, ⟨hT.1, by rw [x 4 (by omega) (by omega) (by omega)]; exact hT.2.1, by rw [y 12 (by omega) (by omega) (by omega) (by omega)]; exact hT.2.2.1, fun t ht => (hT.2.2.2 t ht).c (by rw [x 5 (by omega) (by omega) (by omega)]) (by rw [x 6 (by omega) (by omega) (by omega)]) (x (8 + t) (by omega) (by have := hT.1; omega) (by have := hT.1; omega)) (fun j _ _ => by rw [y3])⟩, ?_⟩
  · by_cases q : b = B
    · rw [q]; exact db
    · exact (hB.2.2.2 b (by omega)).c (fun k k1 k2 => x15 k b k1 k2 q) (fun j j1 j2 => y2 j (by omega))
  · rw [y 14 (by omega) (by omega) (by omega) (by omega)]
    unfold sbr at hN ⊢
    rw [y3]
    exact hN
theorem b17_2 {ρ : S0} (g1 : ρ 98 22 = 0) (hl : ¬ (12 : Int32) ≤ ρ 98 11) : fX11_readLine_b17 ρ 2 = fX11_readLine_b117 ρ 2 := by
  unfold fX11_readLine_b17 fX11_readLine_b30 fX11_readLine_b49 fX11_readLine_b63 fX11_readLine_b68
  rw [if_neg (by decide), needs_y _ (by decide)]
  simp only [obp]
  rw [if_neg (by decide), if_neg hl, if_pos (by decide), needs_y _ (by decide)]
  simp only
  rw [if_neg (fun q => q g1), if_pos (by decide)]
theorem b17_2f {ρ : S0} (g1 : ρ 98 22 = 0) (hl : (12 : Int32) ≤ ρ 98 11) : fX11_readLine_b17 ρ 2 = some (0, su (su ρ 98 22 5) 98 23 (ρ 98 19)) := by
  have hbad : bad (su (su ρ 98 22 5) 98 23 (ρ 98 19)) := ⟨5, by omega, by omega, by rw [su_j (by omega), su_s]; rfl⟩
  unfold fX11_readLine_b17 fX11_readLine_b30 fX11_readLine_b67 fX11_readLine_b68
  rw [if_neg (by decide), needs_y _ (by decide)]
  simp only [obp]
  rw [if_neg (by decide), if_pos hl, needs_n _ g1]
  simp only
  rw [if_pos hbad.n, hbad.b117]
/-- what a line of a bell changes in the class -/
def bX (b : Nat) (σ τ : S0) : Prop := ∀ k j, ¬ ((k = 1 ∧ 2 ≤ j ∧ j ≤ 5) ∨ (k = 3 ∧ (j = 5 ∨ j = 6)) ∨ (k = 14 ∧ j = 0) ∨ (15 ≤ k ∧ k ≤ 19 ∧ j = b)) → τ k j = σ k j
theorem bX.tr {b : Nat} {x y z : S0} (h1 : bX b x y) (h2 : bX b y z) : bX b x z := fun k j h => (h2 k j h).trans (h1 k j h)
theorem bX.k {b : Nat} {x y : S0} (h : bX b x y) : kX x y := fun k j q => h k j (fun z => q (by unfold scX; omega))
theorem onA.b {x y : S0} (h : onA x y) (b : Nat) : bX b x y := fun k j q => h k j (by omega)
theorem wX.b {x y : S0} {b : Nat} (h : wX b x y) : bX b x y := fun k j q => h k j (by omega)
theorem bX_su {b k j : Nat} {σ : S0} (h : (k = 14 ∧ j = 0) ∨ (15 ≤ k ∧ k ≤ 19 ∧ j = b)) (v : Int32) : bX b σ (su σ k j v) := fun x y q => by
  by_cases hx : x = k
  · subst hx; exact su_j (fun z => q (by omega))
  · rw [su_ne hx]
theorem ln_bell {a : Nat → Nat} {n p : Nat} {σ ρ : S0} (tx : TpX a n σ) (tp : TpM a n ρ) (h : Cur a n p σ ρ) (d : DR σ ρ) (hk : tK a n p = 1) : ∃ r τ μ, fX5_readBell σ = some (r, τ) ∧ fX11_readLine_b17 ρ 2 = some (0, μ) ∧ (r = 0 ∨ r = 1) ∧ LR a n p σ ρ r τ μ := by
  obtain ⟨h1, h2, h3, h4, h5⟩ := h
  have hn := tp.1
  have hone : ¬ (1 : Int32) = 0 := by decide
  have hb := tok_b (a := a) h5
  have hlt := hb.2.2.2 (by omega)
  have hb2 := tok_b (a := a) hb.2.2.1
  have hb3 := tok_b (a := a) hb2.2.2.1
  have hb4 := tok_b (a := a) hb3.2.2.1
  obtain ⟨g1, g2, g3⟩ := h2.g h3
  obtain ⟨B, hB, hM⟩ := d.2.2.2.2.1
  have hB12 := hB.1
  have lx : σ 14 0 < 12 ↔ B < 12 := by rw [hB.2.1]; exact nI_ltI (b := 12) (by omega) (by omega)
  have lm' : (12 : Int32) ≤ ρ 98 11 ↔ 12 ≤ B := by rw [hB.2.2.1]; exact nI_leI (a := 12) (by omega) (by omega)
  unfold fX5_readBell
  by_cases cB : B < 12
  · have hgb := ix_ok (j := B) (n := 12) cB (by omega)
    have hcb : (nI B).toNatClampNeg = B := nI_clamp (by omega)
    have hgb2 : ¬ (nI B < 0 ∨ 12 ≤ B) := fun q => hgb (by rw [hcb]; exact q)
    rw [if_pos (lx.mpr cB), b17_2 g1 (fun q => by have := lm'.mp q; omega), ol_g, hB.2.1]
    simp only [og_t hgb, og_t hgb2, hcb, ol_g]
    have bs0 : bX B σ (su (su σ 19 B (-4)) 18 B 0) := (bX_su (Or.inr (by omega)) _).tr (bX_su (Or.inr (by omega)) _)
    have e19 : su (su σ 19 B (-4)) 18 B 0 19 B = -4 := by rw [su_ne (by omega), su_s]
    have e18 : su (su σ 19 B (-4)) 18 B 0 18 B = 0 := su_s
    have f12 : su (su σ 19 B (-4)) 18 B 0 1 2 = σ 1 2 := by rw [su_ne (by omega), su_ne (by omega)]
    have f35 : su (su σ 19 B (-4)) 18 B 0 3 5 = σ 3 5 := by rw [su_ne (by omega), su_ne (by omega)]
    have c140 : su (su σ 19 B (-4)) 18 B 0 14 0 = nI B := by rw [su_ne (by omega), su_ne (by omega)]; exact hB.2.1
    generalize su (su σ 19 B (-4)) 18 B 0 = σ1 at bs0 e19 e18 f12 f35 c140
    have l1 : σ1 3 4 = σ 3 4 := bs0 3 4 (by omega)
    have tx1 := tx.k bs0.k
    obtain ⟨μ, m1, m2, m3⟩ := b117_s h2 h3 tp h5 2
    have tp1 := tp.k m1.k
    have pe : Pend a n (tE a n p) σ1 μ := ⟨f12.trans h1.2.1, m2, f35.trans h4, hb.2.2.1⟩
    rcases m3 with ⟨c4, m3⟩ | ⟨c3, m3⟩
    · obtain ⟨τ, t1, t2, t3⟩ := nn_bad (lo := 0) (hi := 5) tx1 pe (by omega) (by omega) c4
      have t1' : fX5_nextNumber σ1 0 5 = some (0, τ) := t1
      rw [t1']
      simp only [obp]
      exact ⟨0, τ, μ, by rw [if_neg (by decide)], m3, Or.inl rfl, bs0.k.tr t2.k, m1.k, (t2 3 4 (by omega)).trans l1, Or.inr ⟨rfl, t3⟩⟩
    · obtain ⟨r1, τ1, w1, μ1, t1, t2, t3, t4, t5⟩ := rh_s tx1 tp1 pe (-4)
      have t1' : fX5_nextNumber σ1 0 5 = some (r1, τ1) := t1
      have e11 : μ 98 11 = nI B := by rw [m1 98 11 (by omega)]; exact hB.2.2.1
      have i5 : (5 : Int32) * nI B = nI (5 * B) := by rw [show (5 : Int32) = nI 5 from rfl, pk_mul]
      have hMM : swM 2 μ = obp (rb1 μ1 (nI (5 * B)) w1) (fun _ σ11 => fX11_readLine_b206 σ11) := by
        rw [sw_2, rb_e, e11, i5, ol_g, t2]
        rfl
      rw [t1', m3, hMM]
      simp only [obp]
      have bσ1 := bs0.tr (t3.b B)
      have bρ1 := (m1.b B).tr (t4.b B)
      have l2 : τ1 3 4 = σ 3 4 := (t3 3 4 (by omega)).trans l1
      rcases t5 with ⟨q1, o1, x, x1, x2, x3, x4, x5, pe1⟩ | ⟨q1, o1, x, x1, x2, x3, -⟩ | ⟨q0, q1, fl⟩
      · rw [q1, if_pos hone, x2, x3, rb1_e μ1 cB]
        have bs1 : bX B τ1 (su τ1 15 B (nI x)) := bX_su (Or.inr (by omega)) _
        have bm1 : bM B μ1 (su μ1 102 (5 * B) (nI x)) := bM_su (by omega) _
        have pe1' : Pend a n (tE a n (tE a n p)) (su τ1 15 B (nI x)) (su μ1 102 (5 * B) (nI x)) := pe1.o (su_n2 (by omega)) (su_n2 (by omega)) (fun j _ _ => su_n2 (by omega))
        have bσ2 := bσ1.tr bs1
        have bρ2 := bρ1.tr bm1
        have f15 : su τ1 15 B (nI x) 15 B = nI x := su_s
        have f19 : su τ1 15 B (nI x) 19 B = -4 := by rw [su_ne (by omega), t3 19 B (by omega)]; exact e19
        have f18 : su τ1 15 B (nI x) 18 B = 0 := by rw [su_ne (by omega), t3 18 B (by omega)]; exact e18
        have l3 : su τ1 15 B (nI x) 3 4 = σ 3 4 := (su_n2 (by omega)).trans l2
        have y0 : su μ1 102 (5 * B) (nI x) 102 (5 * B) = nI x := su_s
        have y13 : su μ1 102 (5 * B) (nI x) 98 13 = mxI (ρ 98 13) x := by rw [su_ne (by omega), x5, m1 98 13 (by omega)]
        have y11 : su μ1 102 (5 * B) (nI x) 98 11 = nI B := by rw [su_ne (by omega), t4 98 11 (by omega)]; exact e11
        have d140 : su τ1 15 B (nI x) 14 0 = nI B := by rw [su_ne (by omega), t3 14 0 (by omega)]; exact c140
        generalize su τ1 15 B (nI x) = σ2 at pe1' bσ2 f15 f19 f18 l3 d140
        generalize su μ1 102 (5 * B) (nI x) = ρ2 at pe1' bρ2 y0 y13 y11
        obtain ⟨r2, τ2, v2, μ2, s1, s2, s3, s4, s5⟩ := rn_s (lo := 0) (hi := 20) (tx.k bσ2.k) (tp.k bρ2.k) pe1' (by omega) (by omega)
        have s1' : fX5_nextNumber σ2 0 20 = some (r2, τ2) := s1
        have s2' : fX11_readNumber ρ2 0 20 = some (v2, μ2) := s2
        rw [s1', s2']
        simp only [obp]
        have bσ3 := bσ2.tr (s3.b B)
        have bρ3 := bρ2.tr (s4.b B)
        rcases s5 with ⟨q2, o2, f, z1, z2, z3, z4, pe2⟩ | ⟨q0, q1', fl⟩
        · rw [q2, if_pos hone, z4, z3, rb2_e μ2 cB]
          have bs2 : bX B τ2 (su τ2 16 B (nI f)) := bX_su (Or.inr (by omega)) _
          have bm2 : bM B μ2 (su μ2 102 (5 * B + 1) (nI f)) := bM_su (by omega) _
          have pe2' : Pend a n (tE a n (tE a n (tE a n p))) (su τ2 16 B (nI f)) (su μ2 102 (5 * B + 1) (nI f)) := pe2.o (su_n2 (by omega)) (su_n2 (by omega)) (fun j _ _ => su_n2 (by omega))
          have bσ4 := bσ3.tr bs2
          have bρ4 := bρ3.tr bm2
          have f16 : su τ2 16 B (nI f) 16 B = nI f := su_s
          have f15 : su τ2 16 B (nI f) 15 B = nI x := by rw [su_ne (by omega), s3 15 B (by omega)]; exact f15
          have f19 : su τ2 16 B (nI f) 19 B = -4 := by rw [su_ne (by omega), s3 19 B (by omega)]; exact f19
          have f18 : su τ2 16 B (nI f) 18 B = 0 := by rw [su_ne (by omega), s3 18 B (by omega)]; exact f18
          have l4 : su τ2 16 B (nI f) 3 4 = σ 3 4 := by rw [su_ne (by omega), s3 3 4 (by omega)]; exact l3
          have y1 : su μ2 102 (5 * B + 1) (nI f) 102 (5 * B + 1) = nI f := su_s
          have y0 : su μ2 102 (5 * B + 1) (nI f) 102 (5 * B) = nI x := by rw [su_j (by omega), s4.c (by omega)]; exact y0
          have y13 : su μ2 102 (5 * B + 1) (nI f) 98 13 = mxI (ρ 98 13) x := by rw [su_ne (by omega), s4 98 13 (by omega)]; exact y13
          have y11 : su μ2 102 (5 * B + 1) (nI f) 98 11 = nI B := by rw [su_ne (by omega), s4 98 11 (by omega)]; exact y11
          have h140 : su τ2 16 B (nI f) 14 0 = nI B := by rw [su_ne (by omega), s3 14 0 (by omega)]; exact d140
          generalize su τ2 16 B (nI f) = σ3 at pe2' bσ4 f16 f15 f19 f18 l4 h140
          generalize su μ2 102 (5 * B + 1) (nI f) = ρ3 at pe2' bρ4 y1 y0 y13 y11
          obtain ⟨r3, τ3, v3, μ3, k1, k2, k3, k4, k5⟩ := rn_s (lo := 0) (hi := 9) (tx.k bσ4.k) (tp.k bρ4.k) pe2' (by omega) (by omega)
          have k1' : fX5_nextNumber σ3 0 9 = some (r3, τ3) := k1
          have k2' : fX11_readNumber ρ3 0 9 = some (v3, μ3) := k2
          rw [k1', k2']
          simp only [obp]
          have bσ5 := bσ4.tr (k3.b B)
          have bρ5 := bρ4.tr (k4.b B)
          rcases k5 with ⟨q3, o3, g, j1, j2, j3, j4, pe3⟩ | ⟨q0, q1'', fl⟩
          · have e140 : su τ3 17 B (nI g) 14 0 + 1 = nI (B + 1) := by rw [su_ne (by omega), k3 14 0 (by omega), h140, nI_1]
            rw [q3, if_pos hone, j4, j3, rb3_e μ3 cB, e140]
            have bs3 : bX B τ3 (su (su τ3 17 B (nI g)) 14 0 (nI (B + 1))) := (bX_su (Or.inr (by omega)) _).tr (bX_su (Or.inl ⟨rfl, rfl⟩) _)
            have bm3 : bM B μ3 (su (su (su μ3 102 (5 * B + 2) (nI g)) 102 (5 * B + 3) 0) 102 (5 * B + 4) (-4)) := ((bM_su (by omega) _).tr (bM_su (by omega) _)).tr (bM_su (by omega) _)
            have pe3' : Pend a n (tE a n (tE a n (tE a n (tE a n p)))) (su (su τ3 17 B (nI g)) 14 0 (nI (B + 1))) (su (su (su μ3 102 (5 * B + 2) (nI g)) 102 (5 * B + 3) 0) 102 (5 * B + 4) (-4)) := pe3.o (by rw [su_ne (by omega), su_ne (by omega)]) (by rw [su_ne (by omega), su_ne (by omega)]) (fun j _ _ => by rw [su_ne (by omega), su_ne (by omega), su_ne (by omega)])
            have bσ6 := bσ5.tr bs3
            have bρ6 := bρ5.tr bm3
            have f17 : su (su τ3 17 B (nI g)) 14 0 (nI (B + 1)) 17 B = nI g := by rw [su_ne (by omega), su_s]
            have f16 : su (su τ3 17 B (nI g)) 14 0 (nI (B + 1)) 16 B = nI f := by rw [su_ne (by omega), su_ne (by omega), k3 16 B (by omega)]; exact f16
            have f15 : su (su τ3 17 B (nI g)) 14 0 (nI (B + 1)) 15 B = nI x := by rw [su_ne (by omega), su_ne (by omega), k3 15 B (by omega)]; exact f15
            have f19 : su (su τ3 17 B (nI g)) 14 0 (nI (B + 1)) 19 B = -4 := by rw [su_ne (by omega), su_ne (by omega), k3 19 B (by omega)]; exact f19
            have f18 : su (su τ3 17 B (nI g)) 14 0 (nI (B + 1)) 18 B = 0 := by rw [su_ne (by omega), su_ne (by omega), k3 18 B (by omega)]; exact f18
            have l5 : su (su τ3 17 B (nI g)) 14 0 (nI (B + 1)) 3 4 = σ 3 4 := by rw [su_ne (by omega), su_ne (by omega), k3 3 4 (by omega)]; exact l4
            have h140 : su (su τ3 17 B (nI g)) 14 0 (nI (B + 1)) 14 0 = nI (B + 1) := su_s
            have y4 : su (su (su μ3 102 (5 * B + 2) (nI g)) 102 (5 * B + 3) 0) 102 (5 * B + 4) (-4) 102 (5 * B + 4) = -4 := su_s
            have y3 : su (su (su μ3 102 (5 * B + 2) (nI g)) 102 (5 * B + 3) 0) 102 (5 * B + 4) (-4) 102 (5 * B + 3) = 0 := by rw [su_j (by omega), su_s]
            have y2 : su (su (su μ3 102 (5 * B + 2) (nI g)) 102 (5 * B + 3) 0) 102 (5 * B + 4) (-4) 102 (5 * B + 2) = nI g := by rw [su_j (by omega), su_j (by omega), su_s]
            have y1 : su (su (su μ3 102 (5 * B + 2) (nI g)) 102 (5 * B + 3) 0) 102 (5 * B + 4) (-4) 102 (5 * B + 1) = nI f := by rw [su_j (by omega), su_j (by omega), su_j (by omega), k4.c (by omega)]; exact y1
            have y0 : su (su (su μ3 102 (5 * B + 2) (nI g)) 102 (5 * B + 3) 0) 102 (5 * B + 4) (-4) 102 (5 * B) = nI x := by rw [su_j (by omega), su_j (by omega), su_j (by omega), k4.c (by omega)]; exact y0
            have y13 : su (su (su μ3 102 (5 * B + 2) (nI g)) 102 (5 * B + 3) 0) 102 (5 * B + 4) (-4) 98 13 = mxI (ρ 98 13) x := by rw [su_ne (by omega), su_ne (by omega), su_ne (by omega), k4 98 13 (by omega)]; exact y13
            have y11 : su (su (su μ3 102 (5 * B + 2) (nI g)) 102 (5 * B + 3) 0) 102 (5 * B + 4) (-4) 98 11 = nI B := by rw [su_ne (by omega), su_ne (by omega), su_ne (by omega), k4 98 11 (by omega)]; exact y11
            generalize su (su τ3 17 B (nI g)) 14 0 (nI (B + 1)) = σ4 at pe3' bσ6 f17 f16 f15 f19 f18 l5 h140
            generalize su (su (su μ3 102 (5 * B + 2) (nI g)) 102 (5 * B + 3) 0) 102 (5 * B + 4) (-4) = ρ4 at pe3' bρ6 y4 y3 y2 y1 y0 y13 y11
            obtain ⟨r5, τ5, n1, n2, n3⟩ := adv_s (tx.k bσ6.k) pe3'
            rw [n1]
            simp only
            rcases n3 with ⟨e1, e2, e3⟩ | ⟨e1, e2⟩
            · rw [e1, if_neg hone]
              obtain ⟨r6, τ6, μ6, i1, i2, i3, i4, i5'⟩ := wth_l (o := x) (fun y => th ρ B y ∨ y = x) cB 2 0 0 400 400 _ τ5 ρ4 (by omega) (by omega) (by omega) (by omega) (by omega) (tx.k (bσ6.k.tr n2.k)) (tp.k bρ6.k) e3 ⟨x1, by rw [n2 15 B (by omega)]; exact f15, y0, by rw [n2 18 B (by omega)]; exact f18, y3, Or.inl ⟨rfl, by rw [n2 19 B (by omega)]; exact f19, y4, by rw [y13]; exact hM.add x1 (by omega)⟩⟩
              have i1' : fX5_readWiths τ5 14 (nI B) = some (r6, τ6) := i1
              have i2' : fX11_readBell_h72 400 ρ4 (nI (5 * B)) 0 = some (0, μ6) := i2
              rw [i1', i2']
              simp only
              have bσ7 := (bσ6.tr (n2.b B)).tr i3.b
              have bρ7 := bρ6.tr i4.b
              have l7 : τ6 3 4 = σ 3 4 := by rw [i3 3 4 (by omega), n2 3 4 (by omega)]; exact l5
              rcases i5' with ⟨a1, hs, ss, p', a2, a3, a4, a5, a6, a7⟩ | ⟨a1, p', a2, a3, a4, a5, a6, a7⟩ | ⟨a1, a2⟩
              · rw [a1, if_neg hone]
                obtain ⟨r7, τ7, μ7, w1, w2, w3, w4, w5⟩ := end_s (tx.k bσ7.k) (tp.k bρ7.k) a5
                have hb5 := tok_b (a := a) a5.2.2.2.2
                rw [w1, w2]
                simp only
                obtain ⟨b1, b2, b3, b4, b5, b6⟩ := a6
                have dr : DR τ6 μ6 := d.b hB cB (fun k u1 u2 u3 => funext fun j => bσ7 k j (by omega)) (by rw [i3 14 0 (by omega), n2 14 0 (by omega)]; exact h140) (bσ7 14 7 (by omega)) (fun k j u1 u2 u3 => bσ7 k j (by omega)) (fun j hj => bσ7 3 j (by omega)) (fun j u1 u2 u3 u4 => bρ7 98 j (by omega)) (by rw [a7, y11, nI_1]) (fun j hj => bρ7 102 j (by omega)) (funext fun j => bρ7 103 j (by omega))
                  ⟨⟨x, x1, b2, b3⟩, ⟨f, z2, by rw [i3 16 B (by omega), n2 16 B (by omega)]; exact f16, by rw [i4 102 _ (by omega)]; exact y1⟩, ⟨g, j2, by rw [i3 17 B (by omega), n2 17 B (by omega)]; exact f17, by rw [i4 102 _ (by omega)]; exact y2⟩, by
                    rw [b4, b5]
                    rcases (show ss = 0 ∨ ss = 1 by omega) with rfl | rfl
                    · exact Or.inl ⟨rfl, rfl⟩
                    · exact Or.inr ⟨rfl, rfl⟩, by
                    rcases b6 with ⟨-, c1, c2, -⟩ | ⟨-, hh, c0, c1, c2, -⟩
                    · exact Or.inl ⟨c1, c2⟩
                    · exact Or.inr ⟨hh, c0, c1, c2⟩⟩
                  (by
                    have old : ∀ b, b < B → μ6 102 (5 * b) = ρ 102 (5 * b) ∧ μ6 102 (5 * b + 4) = ρ 102 (5 * b + 4) := fun b hb' => ⟨bρ7 102 _ (by omega), bρ7 102 _ (by omega)⟩
                    have old2 : ∀ y, μ6 102 (60 + y) = ρ 102 (60 + y) := fun y => bρ7 102 _ (by omega)
                    rcases b6 with ⟨-, c1, c2, c3⟩ | ⟨-, hh, c0, c1, c2, c3⟩
                    · refine c3.cg (fun y hy => ?_)
                      unfold th
                      rw [old2]
                      constructor
                      · rintro ((⟨b, u1, u2⟩ | u) | u)
                        · exact Or.inl ⟨b, by omega, by rw [(old b u1).1, (old b u1).2]; exact u2⟩
                        · exact Or.inr u
                        · exact Or.inl ⟨B, by omega, Or.inl (by rw [b3, u])⟩
                      · rintro (⟨b, u1, u2⟩ | u)
                        · by_cases c : b = B
                          · subst c
                            rcases u2 with u2 | u2
                            · exact Or.inr ((nI_eq (by omega) (by omega)).mp (b3.symm.trans u2)).symm
                            · exact absurd (c2.symm.trans u2).symm (nI_m4 (by omega))
                          · rw [(old b (by omega)).1, (old b (by omega)).2] at u2
                            exact Or.inl (Or.inl ⟨b, by omega, u2⟩)
                        · exact Or.inl (Or.inr u)
                    · refine c3.cg (fun y hy => ?_)
                      unfold th
                      rw [old2]
                      constructor
                      · rintro (((⟨b, u1, u2⟩ | u) | u) | u)
                        · exact Or.inl ⟨b, by omega, by rw [(old b u1).1, (old b u1).2]; exact u2⟩
                        · exact Or.inr u
                        · exact Or.inl ⟨B, by omega, Or.inl (by rw [b3, u])⟩
                        · exact Or.inl ⟨B, by omega, Or.inr (by rw [c2, u])⟩
                      · rintro (⟨b, u1, u2⟩ | u)
                        · by_cases c : b = B
                          · subst c
                            rcases u2 with u2 | u2
                            · exact Or.inl (Or.inr ((nI_eq (by omega) (by omega)).mp (b3.symm.trans u2)).symm)
                            · exact Or.inr ((nI_eq (by omega) (by omega)).mp (c2.symm.trans u2)).symm
                          · rw [(old b (by omega)).1, (old b (by omega)).2] at u2
                            exact Or.inl (Or.inl (Or.inl ⟨b, by omega, u2⟩))
                        · exact Or.inl (Or.inl (Or.inr u)))
                rcases w5 with ⟨e1, e2⟩ | ⟨e1, e2⟩
                · rw [e1, if_neg hone]
                  exact ⟨1, τ7, μ7, rfl, rfl, Or.inr rfl, bσ7.k.tr w3.k, bρ7.k.tr w4.k, (w3 3 4 (by omega)).trans l7, Or.inl ⟨rfl, dr.a w3 w4, tE a n p', by omega, e2⟩⟩
                · rw [e1, if_pos rfl]
                  exact ⟨0, τ7, μ7, rfl, rfl, Or.inl rfl, bσ7.k.tr w3.k, bρ7.k.tr w4.k, (w3 3 4 (by omega)).trans l7, Or.inr ⟨rfl, e2⟩⟩
              · -- a name that is no with
                have hb5 := tok_b (a := a) a2
                have hbad : bad μ6 := ⟨2, by omega, by omega, a6⟩
                have e13 : ¬ τ6 1 3 = 3 := by rw [a3.2.2.1, a4]; decide
                have hE : fX5_endLine τ6 = some (0, su (su τ6 3 5 2) 3 6 (τ6 1 4)) := by
                  unfold fX5_endLine
                  rw [if_pos e13, refuse_og]
                rw [a1, if_neg hone, hE, hbad.b206]
                simp only
                rw [if_pos trivial]
                exact ⟨0, _, μ6, rfl, rfl, Or.inl rfl, bσ7.k.tr (refuse_o τ6 2).k, bρ7.k, (refuse_o τ6 2 3 4 (by omega)).trans l7, Or.inr ⟨rfl, flt_r (f := 2) (g := 2) (pl := tS a n p') (by omega) (by omega) (by omega) a3.1 a6 a7⟩⟩
              · rw [a1, if_pos rfl, a2.b.b206]
                exact ⟨0, τ6, μ6, rfl, rfl, Or.inl rfl, bσ7.k, bρ7.k, l7, Or.inr ⟨rfl, a2⟩⟩
            · have hbad : bad (su ρ4 98 11 (ρ4 98 11 + 1)) := e2.b.o (su_j (by omega))
              rw [e1, if_pos rfl, e2.b.h72]
              simp only
              rw [hbad.b206]
              exact ⟨0, τ5, _, rfl, rfl, Or.inl rfl, (bσ6.tr (n2.b B)).k, (bρ6.tr (wM.b (wM_su (Or.inl ⟨rfl, by omega⟩) _))).k, (n2 3 4 (by omega)).trans l5, Or.inr ⟨rfl, e2.m (su_j (by omega)) (su_j (by omega))⟩⟩
          · obtain ⟨κ, w1, w2, w3, w4⟩ := fl.b.rb3 cB v3
            have hbad : bad κ := fl.b.o w3
            rw [q0, if_neg (fun q => q rfl), w1]
            simp only
            rw [hbad.b206]
            exact ⟨0, τ3, κ, rfl, rfl, Or.inl rfl, bσ5.k, (bρ5.tr w2).k, (k3 3 4 (by omega)).trans l4, Or.inr ⟨rfl, fl.m w3 w4⟩⟩
        · obtain ⟨κ, w1, w2, w3, w4⟩ := fl.b.rb2 cB v2
          have hbad : bad κ := fl.b.o w3
          rw [q0, if_neg (fun q => q rfl), w1]
          simp only
          rw [hbad.b206]
          exact ⟨0, τ2, κ, rfl, rfl, Or.inl rfl, bσ3.k, (bρ3.tr w2).k, (s3 3 4 (by omega)).trans l3, Or.inr ⟨rfl, fl.m w3 w4⟩⟩
      · exact absurd x3 (nI_m4 (by omega))
      · obtain ⟨κ, w1', w2, w3, w4⟩ := fl.b.rb1 cB w1
        have hbad : bad κ := fl.b.o w3
        rw [q0, if_neg (fun q => q rfl), w1']
        simp only
        rw [hbad.b206]
        exact ⟨0, τ1, κ, rfl, rfl, Or.inl rfl, bσ1.k, (bρ1.tr w2).k, l2, Or.inr ⟨rfl, fl.m w3 w4⟩⟩
  · rw [if_neg (fun q => cB (lx.mp q)), b17_2f g1 (lm'.mpr (by omega)), refuse_og]
    exact ⟨0, _, _, rfl, rfl, Or.inl rfl, (refuse_o σ 5).k, ((kM.rf ρ).su (by unfold scM; omega) _).su (by unfold scM; omega) _, refuse_o σ 5 3 4 (by omega), Or.inr ⟨rfl, flt_r (f := 5) (g := 5) (pl := tS a n p) (by omega) (by omega) (by omega) h1.1 (by rw [su_j (by omega), su_s]; rfl) (by rw [su_s]; exact h2.1)⟩⟩
