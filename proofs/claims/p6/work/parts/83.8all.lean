/-! THE TEXT: a line; all told houses and bells are there -/
theorem b17_n {ρ : S0} (g1 : ρ 98 22 = 0) : fX11_readLine_b17 ρ (-4) = some (0, su (su ρ 98 22 2) 98 23 (ρ 98 19)) := by
  have hbad : bad (su (su ρ 98 22 2) 98 23 (ρ 98 19)) := ⟨2, by omega, by omega, by rw [su_j (by omega), su_s]; rfl⟩
  unfold fX11_readLine_b17 fX11_readLine_b30 fX11_readLine_b49 fX11_readLine_b63 fX11_readLine_b68
  rw [if_pos rfl, needs_n _ g1]
  simp only [obp]
  rw [if_pos (by decide), if_pos (by decide), hbad.needs]
  simp only
  rw [if_pos hbad.n, hbad.b117]
theorem og_r {o : Option (Int32 × S0)} {r : Int32} {τ : S0} (h : o = some (r, τ)) (hr : r = 0 ∨ r = 1) : obp o (fun r s => og (r = 0 ∨ r = 1) (some (r, s))) = some (r, τ) := by
  rw [h]
  show og _ _ = _
  rw [og_t hr]
theorem ln_s {a : Nat → Nat} {n p : Nat} {σ ρ : S0} (tx : TpX a n σ) (tp : TpM a n ρ) (h : Cur a n p σ ρ) (d : DR σ ρ) : ∃ r τ μ, fX5_readLine σ = some (r, τ) ∧ fX11_readLine ρ = some (0, μ) ∧ (r = 0 ∨ r = 1) ∧ LR a n p σ ρ r τ μ := by
  have hcu := h
  obtain ⟨h1, h2, h3, h4, h5⟩ := h
  have hn := tp.1
  have hone : ¬ (1 : Int32) = 0 := by decide
  have hb := tok_b (a := a) h5
  obtain ⟨g1, g2, g3⟩ := h2.g h3
  have e20 : ρ 98 20 = 1 ↔ tK a n p = 1 := by rw [g2]; exact nI_eq (b := 1) (by omega) (by omega)
  obtain ⟨r0, p0, o0, m0⟩ := isName_s okW_0 tx h1.1 h1.2.1 h1.2.2.1 (by omega) hb.2.1 hb.2.2.1
  obtain ⟨r1, p1, o1, m1⟩ := isName_s okW_1 tx h1.1 h1.2.1 h1.2.2.1 (by omega) hb.2.1 hb.2.2.1
  obtain ⟨r2, p2, o2, m2⟩ := isName_s okW_2 tx h1.1 h1.2.1 h1.2.2.1 (by omega) hb.2.1 hb.2.2.1
  obtain ⟨r3, p3, o3, m3⟩ := isName_s okW_3 tx h1.1 h1.2.1 h1.2.2.1 (by omega) hb.2.1 hb.2.2.1
  obtain ⟨r4, p4, o4, m4⟩ := isName_s okW_4 tx h1.1 h1.2.1 h1.2.2.1 (by omega) hb.2.1 hb.2.2.1
  -- no line begins so
  have none : r0 = 0 → r1 = 0 → r2 = 0 → r3 = 0 → r4 = 0 → fX11_readLine ρ = fX11_readLine_b17 ρ (-4) → ∃ r τ μ, fX5_readLine σ = some (r, τ) ∧ fX11_readLine ρ = some (0, μ) ∧ (r = 0 ∨ r = 1) ∧ LR a n p σ ρ r τ μ := fun z0 z1 z2 z3 z4 hM => by
    rw [hM, b17_n g1]
    refine ⟨0, su (su σ 3 5 2) 3 6 (σ 1 4), _, ?_, rfl, Or.inl rfl, (refuse_o σ 2).k, ((kM.rf ρ).su (by unfold scM; omega) _).su (by unfold scM; omega) _, refuse_o σ 2 3 4 (by omega), Or.inr ⟨rfl, flt_r (f := 2) (g := 2) (pl := tS a n p) (by omega) (by omega) (by omega) h1.1 (by rw [su_j (by omega), su_s]; rfl) (by rw [su_s]; exact h2.1)⟩⟩
    unfold fX5_readLine
    rw [p0]
    simp only [obp]
    rw [if_pos z0, p1]
    simp only
    rw [if_pos z1, p2]
    simp only
    rw [if_pos z2, p3]
    simp only
    rw [if_pos z3, p4]
    simp only
    rw [if_pos z4]
    exact refuse_og σ 2
  by_cases k1 : tK a n p = 1
  · obtain ⟨r, q1, q2⟩ := nameNow_s tp h2.1 h2.2.1 hb.2.1 hb.2.2.1
    have hM : fX11_readLine ρ = fX11_readLine_b17 ρ r := by
      unfold fX11_readLine
      rw [if_neg (fun q => q (e20.mpr k1)), q1]
      rfl
    have zr : ∀ {r' : Int32} {i : Nat}, (r' = 0 ∨ r' = 1) → (r' = 1 ↔ tK a n p = 1 ∧ mw a (tS a n p) (tE a n p) i) → ¬ mw a (tS a n p) (tE a n p) i → r' = 0 := fun ho hm hq => ho.resolve_right (fun z => hq (hm.mp z).2)
    rcases q2 with ⟨rfl, nm⟩ | ⟨i, i1, rfl, i2, i3⟩
    · exact none (zr o0 m0 (nm 0 (by omega))) (zr o1 m1 (nm 1 (by omega))) (zr o2 m2 (nm 2 (by omega))) (zr o3 m3 (nm 3 (by omega))) (zr o4 m4 (nm 4 (by omega))) hM
    · rw [hM]
      rcases (show i = 0 ∨ i = 1 ∨ i = 2 ∨ i = 3 ∨ i = 4 by omega) with rfl | rfl | rfl | rfl | rfl
      · obtain ⟨r', τ, μ, w1, w2, w3, w4⟩ := ln_houses tx tp hcu d k1
        refine ⟨r', τ, μ, ?_, w2, w3, w4⟩
        unfold fX5_readLine
        rw [p0]
        simp only [obp]
        rw [if_neg (by rw [m0.mpr ⟨k1, i2⟩]; exact hone)]
        exact og_r w1 w3
      · obtain ⟨r', τ, μ, w1, w2, w3, w4⟩ := ln_gap tx tp hcu d k1
        refine ⟨r', τ, μ, ?_, w2, w3, w4⟩
        unfold fX5_readLine
        rw [p0]
        simp only [obp]
        rw [if_pos (zr o0 m0 (i3 0 (by omega))), p1]
        simp only
        rw [if_neg (by rw [m1.mpr ⟨k1, i2⟩]; exact hone)]
        exact og_r w1 w3
      · obtain ⟨r', τ, μ, w1, w2, w3, w4⟩ := ln_bell tx tp hcu d k1
        refine ⟨r', τ, μ, ?_, w2, w3, w4⟩
        unfold fX5_readLine
        rw [p0]
        simp only [obp]
        rw [if_pos (zr o0 m0 (i3 0 (by omega))), p1]
        simp only
        rw [if_pos (zr o1 m1 (i3 1 (by omega))), p2]
        simp only
        rw [if_neg (by rw [m2.mpr ⟨k1, i2⟩]; exact hone)]
        exact og_r w1 w3
      · obtain ⟨r', τ, μ, w1, w2, w3, w4⟩ := ln_tune tx tp hcu d k1
        refine ⟨r', τ, μ, ?_, w2, w3, w4⟩
        unfold fX5_readLine
        rw [p0]
        simp only [obp]
        rw [if_pos (zr o0 m0 (i3 0 (by omega))), p1]
        simp only
        rw [if_pos (zr o1 m1 (i3 1 (by omega))), p2]
        simp only
        rw [if_pos (zr o2 m2 (i3 2 (by omega))), p3]
        simp only
        rw [if_neg (by rw [m3.mpr ⟨k1, i2⟩]; exact hone)]
        exact og_r w1 w3
      · obtain ⟨r', τ, μ, w1, w2, w3, w4⟩ := ln_feud tx tp hcu d k1
        refine ⟨r', τ, μ, ?_, w2, w3, w4⟩
        unfold fX5_readLine
        rw [p0]
        simp only [obp]
        rw [if_pos (zr o0 m0 (i3 0 (by omega))), p1]
        simp only
        rw [if_pos (zr o1 m1 (i3 1 (by omega))), p2]
        simp only
        rw [if_pos (zr o2 m2 (i3 2 (by omega))), p3]
        simp only
        rw [if_pos (zr o3 m3 (i3 3 (by omega))), p4]
        simp only
        rw [if_neg (by rw [m4.mpr ⟨k1, i2⟩]; exact hone)]
        exact og_r w1 w3
  · have hM : fX11_readLine ρ = fX11_readLine_b17 ρ (-4) := by
      unfold fX11_readLine
      rw [if_pos (fun q => k1 (e20.mp q))]
    have zr : ∀ {r' : Int32} {i : Nat}, (r' = 0 ∨ r' = 1) → (r' = 1 ↔ tK a n p = 1 ∧ mw a (tS a n p) (tE a n p) i) → r' = 0 := fun ho hm => ho.resolve_right (fun z => k1 (hm.mp z).1)
    exact none (zr o0 m0) (zr o1 m1) (zr o2 m2) (zr o3 m3) (zr o4 m4) hM
/-! whether all is there: the class -/
theorem hb_x {σ : S0} {k B : Nat} (e : σ k 0 = nI B) (hB : B ≤ 12) {x : Nat} (hx : x < 2 ^ 31) : ∃ r, fX1_hasBell σ k (nI x) = some (r, σ) ∧ (r = 0 ∨ r = 1) ∧ (r = 1 ↔ x < B) := by
  by_cases c : x < B
  · exact ⟨1, hb_y e hB c, Or.inr rfl, ⟨fun _ => c, fun _ => rfl⟩⟩
  · exact ⟨0, hb_n e hB (Or.inr (by rw [ir hx]; omega)), Or.inl rfl, ⟨fun q => absurd q (by decide), fun q => absurd q c⟩⟩
theorem hh_x {σ : S0} {k B : Nat} (e : σ k 0 = nI B) (hB : B ≤ 12) {x : Nat} (hx : x < 2 ^ 31) : ∃ r, fX9_hasHouse σ k (nI x) = some (r, σ) ∧ (r = 0 ∨ r = 1) ∧ (r = 1 ↔ x < B) := hb_x e hB hx
/-- strokes that are there -/
theorem whI_l {σ : S0} {B t m0 : Nat} (hB : B ≤ 12) (ht : t < 6) (eB : σ 14 0 = nI B) (em : σ 6 t = nI m0) (hm : m0 ≤ 12) (s : Nat → Nat) (hs : ∀ i, i < m0 → s i < 12 ∧ σ (8 + t) i = nI (s i)) (sf : S0 → Nat → Int32 → Option (Int32 × S0)) (X : Prop) (hX : ∃ r, sf σ 4 (nI (t + 1)) = some (r, σ) ∧ (r = 0 ∨ r = 1) ∧ (r = 1 ↔ X)) : ∀ (d i m : Nat), m0 - i = d → i ≤ m0 → d < m → ∃ r, fX9_isWhole_h110 sf m σ 4 (nI t) (nI i) = some (r, σ) ∧ (r = 0 ∨ r = 1) ∧ (r = 1 ↔ (∀ j, i ≤ j → j < m0 → s j < B) ∧ X) := by
  have hgt := ix_ok (j := t) (n := 6) ht (by omega)
  have hct : (nI t).toNatClampNeg = t := nI_clamp (by omega)
  have hgt2 : ¬ (nI t < 0 ∨ 6 ≤ t) := fun q => hgt (by rw [hct]; exact q)
  intro d
  induction d with
  | zero =>
    intro i m h1 h2 h3
    obtain ⟨m, rfl⟩ : ∃ q, m = q + 1 := ⟨m - 1, by omega⟩
    have : i = m0 := by omega
    subst this
    obtain ⟨r, x1, x2, x3⟩ := hX
    refine ⟨r, ?_, x2, x3.trans ⟨fun q => ⟨fun j a b => by omega, q⟩, fun q => q.2⟩⟩
    show fX9_isWhole_b110 _ _ _ _ _ _ = _
    unfold fX9_isWhole_b110
    simp only [og_t hgt, og_t hgt2, hct, ol, Nat.reduceAdd, em, nI_1]
    rw [if_pos (nI_le (Nat.le_refl _) (by omega))]
    exact x1
  | succ d ih =>
    intro i m h1 h2 h3
    obtain ⟨m, rfl⟩ : ∃ q, m = q + 1 := ⟨m - 1, by omega⟩
    obtain ⟨r, r1, r2, r3⟩ := ih (i + 1) m (by omega) (by omega) (by omega)
    obtain ⟨s1, s2⟩ := hs i (by omega)
    have hgi := ix_ok (j := i) (n := 12) (by omega) (by omega)
    have hci : (nI i).toNatClampNeg = i := nI_clamp (by omega)
    have hgi2 : ¬ (nI i < 0 ∨ 12 ≤ i) := fun q => hgi (by rw [hci]; exact q)
    obtain ⟨v, v1, v2, v3⟩ := hb_x (k := 14) eB hB (x := s i) (by omega)
    have e1 : fX9_isWhole_h110 sf (m + 1) σ 4 (nI t) (nI i) = if ¬ v = 0 then fX9_isWhole_h110 sf m σ 4 (nI t) (nI (i + 1)) else some (0, σ) := by
      show fX9_isWhole_b110 _ _ _ _ _ _ = _
      unfold fX9_isWhole_b110
      simp only [og_t hgt, og_t hgt2, hct, ol, Nat.reduceAdd, em, nI_1, Nat.one_mul, og_t hgi, og_t hgi2, hci, s2]
      rw [if_neg (nI_ge (by omega) (by omega)), v1]
      rfl
    rw [e1]
    by_cases c : s i < B
    · rw [if_pos (by rw [v3.mpr c]; decide)]
      refine ⟨r, r1, r2, r3.trans ⟨fun q => ⟨fun j a b => ?_, q.2⟩, fun q => ⟨fun j a b => q.1 j (by omega) b, q.2⟩⟩⟩
      by_cases z : j = i
      · subst z; exact c
      · exact q.1 j (by omega) b
    · have v0 : v = 0 := v2.resolve_right (fun q => c (v3.mp q))
      rw [if_neg (fun q => q v0)]
      exact ⟨0, rfl, Or.inl rfl, ⟨fun q => absurd q (by decide), fun q => absurd (q.1 i (Nat.le_refl _) (by omega)) c⟩⟩
theorem whT_l {σ : S0} {B T : Nat} (hB : B ≤ 12) (hT : T ≤ 6) (eB : σ 14 0 = nI B) (eT : σ 4 2 = nI T) (L : Nat → Nat) (s : Nat → Nat → Nat) (hs : ∀ t, t < T → L t ≤ 12 ∧ σ 6 t = nI (L t) ∧ ∀ i, i < L t → s t i < 12 ∧ σ (8 + t) i = nI (s t i)) : ∀ (d t m : Nat), T - t = d → t ≤ T → d < m → ∃ r, fX9_isWhole_h100 m σ 4 (nI t) = some (r, σ) ∧ (r = 0 ∨ r = 1) ∧ (r = 1 ↔ ∀ u, t ≤ u → u < T → ∀ i, i < L u → s u i < B) := by
  intro d
  induction d with
  | zero =>
    intro t m h1 h2 h3
    obtain ⟨m, rfl⟩ : ∃ q, m = q + 1 := ⟨m - 1, by omega⟩
    have : t = T := by omega
    subst this
    refine ⟨1, ?_, Or.inr rfl, ⟨fun _ u a b => by omega, fun _ => rfl⟩⟩
    show fX9_isWhole_b100 _ _ _ _ = _
    unfold fX9_isWhole_b100
    rw [if_pos (show σ 4 2 ≤ nI t from by rw [eT]; exact nI_le (Nat.le_refl _) (by omega))]
  | succ d ih =>
    intro t m h1 h2 h3
    obtain ⟨m, rfl⟩ : ∃ q, m = q + 1 := ⟨m - 1, by omega⟩
    obtain ⟨s1, s2, s3⟩ := hs t (by omega)
    obtain ⟨r, r1, r2, r3⟩ := whI_l hB (show t < 6 by omega) eB s2 s1 (s t) s3 (fX9_isWhole_h100 m) _ (ih (t + 1) m (by omega) (by omega) (by omega)) (L t) 0 400 (by omega) (by omega) (by omega)
    refine ⟨r, ?_, r2, r3.trans ⟨fun q u a b i hi => ?_, fun q => ⟨fun j a b => q t (Nat.le_refl _) (by omega) j b, fun u a b => q u (by omega) b⟩⟩⟩
    · show fX9_isWhole_b100 _ _ _ _ = _
      unfold fX9_isWhole_b100
      rw [if_neg (show ¬ (σ 4 2 ≤ nI t) from by rw [eT]; exact nI_ge (by omega) (by omega))]
      exact r1
    · by_cases z : u = t
      · subst z; exact q.1 i (by omega) hi
      · exact q.2 u (by omega) b i hi
theorem whF_l {σ : S0} (F : Nat → Nat) (hF : ∀ h, h < 6 → F h < 64 ∧ σ 20 h = nI (F h)) (X : Prop) (hX : ∃ r, fX9_isWhole_h100 400 σ 4 0 = some (r, σ) ∧ (r = 0 ∨ r = 1) ∧ (r = 1 ↔ X)) : ∀ (d h m : Nat), 6 - h = d → h ≤ 6 → d < m → ∃ r, fX9_isWhole_h72 m σ 4 (nI h) = some (r, σ) ∧ (r = 0 ∨ r = 1) ∧ (r = 1 ↔ (∀ u, h ≤ u → u < 6 → F u = 0) ∧ X) := by
  intro d
  induction d with
  | zero =>
    intro h m h1 h2 h3
    obtain ⟨m, rfl⟩ : ∃ q, m = q + 1 := ⟨m - 1, by omega⟩
    have : h = 6 := by omega
    subst this
    obtain ⟨r, x1, x2, x3⟩ := hX
    refine ⟨r, ?_, x2, x3.trans ⟨fun q => ⟨fun u a b => by omega, q⟩, fun q => q.2⟩⟩
    show fX9_isWhole_b72 _ _ _ _ = _
    unfold fX9_isWhole_b72
    rw [if_pos (show (6 : Int32) ≤ nI 6 by decide)]
    exact x1
  | succ d ih =>
    intro h m h1 h2 h3
    obtain ⟨m, rfl⟩ : ∃ q, m = q + 1 := ⟨m - 1, by omega⟩
    obtain ⟨r, r1, r2, r3⟩ := ih (h + 1) m (by omega) (by omega) (by omega)
    obtain ⟨f1, f2⟩ := hF h (by omega)
    have f0 : nI (F h) = 0 ↔ F h = 0 := nI_eq (b := 0) (by omega) (by omega)
    have e1 : fX9_isWhole_h72 (m + 1) σ 4 (nI h) = if nI (F h) = 0 then fX9_isWhole_h72 m σ 4 (nI (h + 1)) else some (0, σ) := by
      show fX9_isWhole_b72 _ _ _ _ = _
      unfold fX9_isWhole_b72
      rw [if_neg (show ¬ (6 : Int32) ≤ nI h from nI_ge (b := 6) (by omega) (by omega)), og_t (ix_ok (by omega) (by omega)), nI_clamp (by omega)]
      simp only [ol, Nat.reduceAdd, f2, nI_1]
    rw [e1]
    by_cases c : F h = 0
    · rw [if_pos (f0.mpr c)]
      refine ⟨r, r1, r2, r3.trans ⟨fun q => ⟨fun u a b => ?_, q.2⟩, fun q => ⟨fun u a b => q.1 u (by omega) b, q.2⟩⟩⟩
      by_cases z : u = h
      · subst z; exact c
      · exact q.1 u (by omega) b
    · rw [if_neg (fun q => c (f0.mp q))]
      exact ⟨0, rfl, Or.inl rfl, ⟨fun q => absurd q (by decide), fun q => absurd (q.1 h (Nat.le_refl _) (by omega)) c⟩⟩
theorem whB_l {σ : S0} {H B : Nat} (hH : H ≤ 6) (hB : B ≤ 12) (eH : σ 4 0 = nI H) (eB : σ 14 0 = nI B) (o : Nat → Nat) (hf : Nat → Int32) (ho : ∀ b, b < B → o b < 6 ∧ σ 15 b = nI (o b) ∧ σ 19 b = hf b ∧ (hf b = -4 ∨ ∃ x, x < 6 ∧ hf b = nI x)) (X : Prop) (hX : ∃ r, fX9_isWhole_h72 400 σ 4 (nI H) = some (r, σ) ∧ (r = 0 ∨ r = 1) ∧ (r = 1 ↔ X)) : ∀ (d b m : Nat), B - b = d → b ≤ B → d < m → ∃ r, fX9_isWhole_h2 m σ 4 (nI b) = some (r, σ) ∧ (r = 0 ∨ r = 1) ∧ (r = 1 ↔ (∀ u, b ≤ u → u < B → o u < H ∧ ∀ x, x < 6 → hf u = nI x → x < H) ∧ X) := by
  intro d
  induction d with
  | zero =>
    intro b m h1 h2 h3
    obtain ⟨m, rfl⟩ : ∃ q, m = q + 1 := ⟨m - 1, by omega⟩
    have : b = B := by omega
    subst this
    obtain ⟨r, x1, x2, x3⟩ := hX
    refine ⟨r, ?_, x2, x3.trans ⟨fun q => ⟨fun u a b => by omega, q⟩, fun q => q.2⟩⟩
    show fX9_isWhole_b2 _ _ _ _ = _
    unfold fX9_isWhole_b2
    rw [if_pos (show σ (4 + 10) 0 ≤ nI b from by rw [show σ (4 + 10) 0 = σ 14 0 from rfl, eB]; exact nI_le (Nat.le_refl _) (by omega)), eH]
    exact x1
  | succ d ih =>
    intro b m h1 h2 h3
    obtain ⟨m, rfl⟩ : ∃ q, m = q + 1 := ⟨m - 1, by omega⟩
    obtain ⟨r, r1, r2, r3⟩ := ih (b + 1) m (by omega) (by omega) (by omega)
    obtain ⟨o1, o2, o3, o4⟩ := ho b (by omega)
    have hgb := ix_ok (j := b) (n := 12) (by omega) (by omega)
    have hcb : (nI b).toNatClampNeg = b := nI_clamp (by omega)
    have hgb2 : ¬ (nI b < 0 ∨ 12 ≤ b) := fun q => hgb (by rw [hcb]; exact q)
    obtain ⟨v, v1, v2, v3⟩ := hh_x (k := 4) eH (by omega) (x := o b) (by omega)
    have ge : ¬ σ (4 + 10) 0 ≤ nI b := by rw [show σ (4 + 10) 0 = σ 14 0 from rfl, eB]; exact nI_ge (by omega) (by omega)
    have no : ¬ (o b < H ∧ ∀ x, x < 6 → hf b = nI x → x < H) → ∃ r, some ((0 : Int32), σ) = some (r, σ) ∧ (r = 0 ∨ r = 1) ∧ (r = 1 ↔ (∀ u, b ≤ u → u < B → o u < H ∧ ∀ x, x < 6 → hf u = nI x → x < H) ∧ X) := fun c => ⟨0, rfl, Or.inl rfl, ⟨fun q => absurd q (by decide), fun q => absurd (q.1 b (Nat.le_refl _) (by omega)) c⟩⟩
    have yes : (o b < H ∧ ∀ x, x < 6 → hf b = nI x → x < H) → ∃ r, fX9_isWhole_h2 m σ 4 (nI (b + 1)) = some (r, σ) ∧ (r = 0 ∨ r = 1) ∧ (r = 1 ↔ (∀ u, b ≤ u → u < B → o u < H ∧ ∀ x, x < 6 → hf u = nI x → x < H) ∧ X) := fun c => by
      refine ⟨r, r1, r2, r3.trans ⟨fun q => ⟨fun u x y => ?_, q.2⟩, fun q => ⟨fun u x y => q.1 u (by omega) y, q.2⟩⟩⟩
      by_cases z : u = b
      · subst z; exact c
      · exact q.1 u (by omega) y
    have e0 : fX9_isWhole_h2 (m + 1) σ 4 (nI b) = fX9_isWhole_b2 (fX9_isWhole_h2 m) σ 4 (nI b) := rfl
    rw [e0]
    unfold fX9_isWhole_b2 fX9_isWhole_b61
    rw [if_neg ge]
    simp only [og_t hgb, og_t hgb2, hcb, ol, Nat.reduceAdd, o2, o3, nI_1, v1, obp]
    by_cases c : o b < H
    · rw [if_neg (by rw [v3.mpr c]; decide)]
      rcases o4 with q | ⟨x, x1, x2⟩
      · rw [if_pos q]
        exact yes ⟨c, fun x _ z => absurd (q.symm.trans z).symm (nI_m4 (by omega))⟩
      · rw [if_neg (by rw [x2]; exact nI_m4 (by omega)), x2]
        obtain ⟨w, w1, w2, w3⟩ := hh_x (k := 4) eH (by omega) (x := x) (by omega)
        rw [w1]
        simp only
        by_cases c2 : x < H
        · rw [if_pos (by rw [w3.mpr c2]; decide)]
          exact yes ⟨c, fun y y1 y2 => by
            have := (nI_eq (by omega) (by omega)).mp (x2.symm.trans y2)
            omega⟩
        · rw [if_neg (fun q => q (w2.resolve_right (fun z => c2 (w3.mp z))))]
          exact no (fun z => c2 (z.2 x x1 x2))
    · rw [if_pos (v2.resolve_right (fun q => c (v3.mp q)))]
      exact no (fun z => c z.1)
