/-! A TUNE RUNG: f is the row of bells and feuds (cell 99), g the row of tunes (cell 101) -/
abbrev sil (f : Nat → Int32) (b : Nat) (last : Int32) : Prop := f (5 * b + 3) = 1 ∨ (¬ last = -4 ∧ (f (60 + last.toNatClampNeg) >>> (f (5 * b) &&& 31)) &&& 1 = 1)
abbrev stk (g : Nat → Int32) (t i : Nat) : Nat := (g (14 * t + 2 + i)).toNatClampNeg
/-- after i strokes: cost, flats, silent (bits), silent (how many), owner that rang last -/
def rg (f g : Nat → Int32) (t : Nat) : Nat → Int32 × Int32 × Int32 × Int32 × Int32
  | 0 => (0, 0, 0, 0, -4)
  | i + 1 => if sil f (stk g t i) (rg f g t i).2.2.2.2 then ((rg f g t i).1, (rg f g t i).2.1, (rg f g t i).2.2.1 ||| ((1 : Int32) <<< (nI i &&& 31)), (rg f g t i).2.2.2.1 + 1, (rg f g t i).2.2.2.2) else ((rg f g t i).1 + f (5 * stk g t i + 1), (rg f g t i).2.1 + f (5 * stk g t i + 2), (rg f g t i).2.2.1, (rg f g t i).2.2.2.1, f (5 * stk g t i))
/-- how many of the first i strokes ring and are house h's -/
def rc (f g : Nat → Int32) (t h : Nat) : Nat → Int32
  | 0 => 0
  | i + 1 => rc f g t h i + (if ¬ sil f (stk g t i) (rg f g t i).2.2.2.2 ∧ f (5 * stk g t i) = nI h then 1 else 0)
/-- what is needed of the rows: n strokes, each a bell below 12 with an owner below 6 -/
def okT (f g : Nat → Int32) (t n : Nat) : Prop := n ≤ 12 ∧ g (14 * t + 1) = nI n ∧ ∀ i, i < n → ∃ b w, b < 12 ∧ w < 6 ∧ g (14 * t + 2 + i) = nI b ∧ f (5 * b) = nI w
theorem rg_last {f g : Nat → Int32} {t n : Nat} (h : okT f g t n) : ∀ i, i ≤ n → (rg f g t i).2.2.2.2 = -4 ∨ ∃ w, w < 6 ∧ (rg f g t i).2.2.2.2 = nI w
  | 0, _ => Or.inl rfl
  | i + 1, hi => by
    obtain ⟨b, w, h1, h2, h3, h4⟩ := h.2.2 i (by omega)
    have hb : stk g t i = b := by unfold stk; rw [h3]; exact nI_clamp (by omega)
    unfold rg
    by_cases hs : sil f (stk g t i) (rg f g t i).2.2.2.2
    · rw [if_pos hs]; exact rg_last h i (by omega)
    · rw [if_neg hs]
      exact Or.inr ⟨w, h2, by show f (5 * stk g t i) = _; rw [hb]; exact h4⟩
theorem strokes_s (σ : S0) {t n : Nat} (ht : t < 6) (h : σ 101 (14 * t + 1) = nI n) : fX11_strokes σ (nI t) = some (nI n, σ) := by
  unfold fX11_strokes
  have e : (14 : Int32) * nI t + 1 = nI (14 * t + 1) := by rw [show (14 : Int32) = nI 14 from rfl, pk_mul, nI_1]
  simp only [ol]
  rw [e, og_t (ix_ok (by omega) (by omega)), nI_clamp (by omega), h]
theorem stroke_s (σ : S0) {t i : Nat} (ht : t < 6) (hi : i < 12) : fX11_stroke σ (nI t) (nI i) = some (σ 101 (14 * t + 2 + i), σ) := by
  unfold fX11_stroke
  have e : (14 : Int32) * nI t + 2 + nI i = nI (14 * t + 2 + i) := by rw [show (14 : Int32) = nI 14 from rfl, pk_mul, show (2 : Int32) = nI 2 from rfl, nI_add, nI_add]
  simp only [ol]
  rw [e, og_t (ix_ok (by omega) (by omega)), nI_clamp (by omega)]
theorem isFeud_s (σ : S0) {a : Nat} (ha : a < 6) (x : Int32) : fX11_isFeud σ (nI a) x = some (if (σ 99 (60 + a) >>> (x &&& 31)) &&& 1 = 1 then 1 else 0, σ) := by
  unfold fX11_isFeud
  have e : (60 : Int32) + nI a = nI (60 + a) := nI_add 60 a
  simp only [ol]
  rw [e, og_t (ix_ok (by omega) (by omega)), nI_clamp (by omega)]
  by_cases h : (σ 99 (60 + a) >>> (x &&& 31)) &&& 1 = 1
  · rw [if_neg (by simp [h]), if_pos h]
  · rw [if_pos h, if_neg h]
/-- nothing but the reference's sums and its counts of strokes has changed -/
def onlyR (σ τ : S0) : Prop := ∀ k j, ¬ (k = 98 ∧ 24 ≤ j ∧ j ≤ 27) → k ≠ 105 → τ k j = σ k j
theorem onlyR.tr {a b c : S0} (h1 : onlyR a b) (h2 : onlyR b c) : onlyR a c := fun k j x y => (h2 k j x y).trans (h1 k j x y)
theorem onlyR.c {a b : S0} (h : onlyR a b) {k : Nat} (h1 : k ≠ 98) (h2 : k ≠ 105) : b k = a k := funext fun j => h k j (fun q => h1 q.1) h2
theorem onlyR.e {a b : S0} (h : onlyR a b) : eqv a b := fun k j hr => h k j (fun q => by
  obtain ⟨rfl, q2, q3⟩ := q
  unfold rel at hr
  have := of_decide_eq_true hr
  omega) (fun q => by
  subst q
  unfold rel at hr
  have := of_decide_eq_true hr
  omega)
theorem rings_l (f g : Nat → Int32) {t n : Nat} (ht : t < 6) (ok : okT f g t n) : ∀ (d i m : Nat) (σ : S0), n - i = d → i ≤ n → d < m → σ 99 = f → σ 101 = g → σ 98 24 = (rg f g t i).1 → σ 98 25 = (rg f g t i).2.1 → σ 98 26 = (rg f g t i).2.2.1 → σ 98 27 = (rg f g t i).2.2.2.1 →
    ∃ τ, fX11_rings_h25 m σ (nI t) (rg f g t i).2.2.2.2 (nI i) = some (0, τ) ∧ onlyR σ τ ∧ τ 98 24 = (rg f g t n).1 ∧ τ 98 25 = (rg f g t n).2.1 ∧ τ 98 26 = (rg f g t n).2.2.1 ∧ τ 98 27 = (rg f g t n).2.2.2.1 ∧ ∀ h, h < 6 → τ 105 h + rc f g t h i = σ 105 h + rc f g t h n := by
  intro d
  induction d with
  | zero =>
    intro i m σ h1 h2 h3 h4 h5 s1 s2 s3 s4
    obtain ⟨m, rfl⟩ : ∃ q, m = q + 1 := ⟨m - 1, by omega⟩
    have : i = n := by omega
    subst this
    refine ⟨σ, ?_, fun _ _ _ _ => rfl, s1, s2, s3, s4, fun _ _ => rfl⟩
    show fX11_rings_b25 _ _ _ _ _ = _
    unfold fX11_rings_b25
    rw [strokes_s σ ht (by rw [h5]; exact ok.2.1)]
    simp only [obp]
    rw [if_pos (nI_le (Nat.le_refl _) (by have := ok.1; omega))]
  | succ d ih =>
    intro i m σ h1 h2 h3 h4 h5 s1 s2 s3 s4
    obtain ⟨m, rfl⟩ : ∃ q, m = q + 1 := ⟨m - 1, by omega⟩
    have hn := ok.1
    obtain ⟨b, w, hb, hw, g1, g2⟩ := ok.2.2 i (by omega)
    have hst : stk g t i = b := by unfold stk; rw [g1]; exact nI_clamp (by omega)
    have hlast := rg_last ok i (by omega)
    -- one stroke that is silent
    have silent : sil f b (rg f g t i).2.2.2.2 → ∃ τ, fX11_rings_b78 (fX11_rings_h25 m) σ (nI t) (rg f g t i).2.2.2.2 (nI i) = some (0, τ) ∧ onlyR σ τ ∧ τ 98 24 = (rg f g t n).1 ∧ τ 98 25 = (rg f g t n).2.1 ∧ τ 98 26 = (rg f g t n).2.2.1 ∧ τ 98 27 = (rg f g t n).2.2.2.1 ∧ ∀ h, h < 6 → τ 105 h + rc f g t h i = σ 105 h + rc f g t h n := fun hs => by
      have er : rg f g t (i + 1) = ((rg f g t i).1, (rg f g t i).2.1, (rg f g t i).2.2.1 ||| ((1 : Int32) <<< (nI i &&& 31)), (rg f g t i).2.2.2.1 + 1, (rg f g t i).2.2.2.2) := by
        show (if sil f (stk g t i) _ then _ else _) = _
        rw [hst, if_pos hs]
      have ec : ∀ h, rc f g t h (i + 1) = rc f g t h i := fun h => by
        show rc f g t h i + (if _ then _ else _) = _
        rw [hst, if_neg (fun q => q.1 hs)]
        exact Int32.add_zero _
      have hn1 : nI i + 1 = nI (i + 1) := nI_1 i
      unfold fX11_rings_b78 fX11_rings_b149
      simp only [ol]
      obtain ⟨τ, q1, q2, q3, q4, q5, q6, q7⟩ := ih (i + 1) m (su (su σ 98 26 (σ 98 26 ||| ((1 : Int32) <<< (nI i &&& 31)))) 98 27 (su σ 98 26 (σ 98 26 ||| ((1 : Int32) <<< (nI i &&& 31))) 98 27 + 1)) (by omega) (by omega) (by omega) (by rw [su_ne (by omega), su_ne (by omega)]; exact h4) (by rw [su_ne (by omega), su_ne (by omega)]; exact h5) (by rw [er, su_j (by omega), su_j (by omega)]; exact s1) (by rw [er, su_j (by omega), su_j (by omega)]; exact s2) (by rw [er, su_j (by omega), su_s, s3]) (by rw [er, su_s, su_j (by omega), s4])
      rw [er] at q1
      refine ⟨τ, by rw [hn1]; exact q1, ?_, q3, q4, q5, q6, fun h hh => ?_⟩
      · refine onlyR.tr (fun k j x y => ?_) q2
        by_cases hk : k = 98
        · subst hk
          rw [su_j (by omega), su_j (by omega)]
        · rw [su_ne hk, su_ne hk]
      · have := q7 h hh
        rw [ec h, su_ne (by omega), su_ne (by omega)] at this
        exact this
    -- one stroke that rings
    have rings : ¬ sil f b (rg f g t i).2.2.2.2 → ∃ τ, fX11_rings_b103 (fX11_rings_h25 m) σ (nI t) (nI i) (nI b) (nI w) = some (0, τ) ∧ onlyR σ τ ∧ τ 98 24 = (rg f g t n).1 ∧ τ 98 25 = (rg f g t n).2.1 ∧ τ 98 26 = (rg f g t n).2.2.1 ∧ τ 98 27 = (rg f g t n).2.2.2.1 ∧ ∀ h, h < 6 → τ 105 h + rc f g t h i = σ 105 h + rc f g t h n := fun hs => by
      have er : rg f g t (i + 1) = ((rg f g t i).1 + f (5 * b + 1), (rg f g t i).2.1 + f (5 * b + 2), (rg f g t i).2.2.1, (rg f g t i).2.2.2.1, nI w) := by
        show (if sil f (stk g t i) _ then _ else _) = _
        rw [hst, if_neg hs, g2]
      have ec : ∀ h, h < 6 → rc f g t h (i + 1) = rc f g t h i + (if w = h then 1 else 0) := fun h hh => by
        have hs2 : ¬ sil f (stk g t i) (rg f g t i).2.2.2.2 := by rw [hst]; exact hs
        have g3 : f (5 * stk g t i) = nI w := by rw [hst]; exact g2
        show rc f g t h i + (if _ then _ else _) = _
        by_cases c : w = h
        · rw [if_pos ⟨hs2, by rw [g3, c]⟩, if_pos c]
        · rw [if_neg (fun q => c ((nI_eq (by omega) (by omega)).mp (g3.symm.trans q.2))), if_neg c]
      have hn1 : nI i + 1 = nI (i + 1) := nI_1 i
      unfold fX11_rings_b103 fX11_rings_b149
      rw [of_l σ (b := b) (w := 1) (x := 1) hb (by omega) rfl]
      simp only [obp, ol]
      rw [of_l _ (b := b) (w := 2) (x := 2) hb (by omega) rfl]
      simp only [obp, ol, og_t (ix_ok (j := w) (n := 6) hw (by omega))]
      rw [nI_clamp (n := w) (by omega), hn1]
      obtain ⟨τ, q1, q2, q3, q4, q5, q6, q7⟩ := ih (i + 1) m (su (su (su σ 98 24 (σ 98 24 + σ 99 (5 * b + 1))) 98 25 (su σ 98 24 (σ 98 24 + σ 99 (5 * b + 1)) 98 25 + su σ 98 24 (σ 98 24 + σ 99 (5 * b + 1)) 99 (5 * b + 2))) 105 w (su (su σ 98 24 (σ 98 24 + σ 99 (5 * b + 1))) 98 25 (su σ 98 24 (σ 98 24 + σ 99 (5 * b + 1)) 98 25 + su σ 98 24 (σ 98 24 + σ 99 (5 * b + 1)) 99 (5 * b + 2)) 105 w + 1)) (by omega) (by omega) (by omega) (by rw [su_ne (by omega), su_ne (by omega), su_ne (by omega)]; exact h4) (by rw [su_ne (by omega), su_ne (by omega), su_ne (by omega)]; exact h5) (by rw [er, su_ne (by omega), su_j (by omega), su_s, s1, h4]) (by rw [er, su_ne (by omega), su_s, su_j (by omega), su_ne (by omega), s2, h4]) (by rw [er, su_ne (by omega), su_j (by omega), su_j (by omega)]; exact s3) (by rw [er, su_ne (by omega), su_j (by omega), su_j (by omega)]; exact s4)
      rw [er] at q1
      refine ⟨τ, q1, ?_, q3, q4, q5, q6, fun h hh => ?_⟩
      · refine onlyR.tr (fun k j x y => ?_) q2
        rw [su_ne y]
        by_cases hk : k = 98
        · subst hk
          rw [su_j (by omega), su_j (by omega)]
        · rw [su_ne hk, su_ne hk]
      · have := q7 h hh
        rw [ec h hh, su_at, if_pos rfl] at this
        by_cases c : h = w
        · rw [if_pos c, if_pos c.symm, su_ne (by omega), su_ne (by omega)] at this
          rw [c] at this ⊢
          have e1 : τ 105 w + rc f g t w i + 1 = σ 105 w + rc f g t w n + 1 := by
            rw [Int32.add_assoc, this, Int32.add_assoc, Int32.add_comm 1, ← Int32.add_assoc]
          exact (Int32.add_left_inj 1).mp e1
        · rw [if_neg c, if_neg (fun q => c q.symm), su_ne (by omega), su_ne (by omega), Int32.add_zero] at this
          exact this
    show ∃ τ, fX11_rings_b25 _ _ _ _ _ = _ ∧ _
    unfold fX11_rings_b25
    rw [strokes_s σ ht (by rw [h5]; exact ok.2.1)]
    simp only [obp]
    rw [if_neg (nI_ge (by omega) (by omega)), stroke_s σ ht (by omega)]
    simp only [obp]
    rw [h5, g1, of_l σ (b := b) (w := 0) (x := 0) hb (by omega) rfl]
    simp only [obp, Nat.add_zero]
    rw [of_l σ (b := b) (w := 3) (x := 3) hb (by omega) rfl]
    simp only [obp]
    rw [h4, g2]
    by_cases c1 : f (5 * b + 3) = 1
    · rw [if_pos c1]
      exact silent (Or.inl c1)
    · rw [if_neg c1]
      rcases hlast with c2 | ⟨a, ha, c2⟩
      · rw [if_pos c2]
        exact rings (fun q => q.elim c1 (fun q => q.1 c2))
      · have c3 : ¬ (rg f g t i).2.2.2.2 = -4 := by rw [c2]; exact nI_m4 (by omega)
        rw [if_neg c3]
        have hfe : fX11_isFeud σ (rg f g t i).2.2.2.2 (nI w) = some (if (f (60 + a) >>> (nI w &&& 31)) &&& 1 = 1 then 1 else 0, σ) := by rw [c2, isFeud_s σ ha, h4]
        rw [hfe]
        simp only [obp]
        have hsl : sil f b (rg f g t i).2.2.2.2 ↔ (f (60 + a) >>> (nI w &&& 31)) &&& 1 = 1 := by
          constructor
          · intro q
            rcases q with q | q
            · exact absurd q c1
            · have q2 := q.2
              rw [c2, nI_clamp (by omega), g2] at q2
              exact q2
          · intro q
            refine Or.inr ⟨c3, ?_⟩
            rw [c2, nI_clamp (by omega), g2]
            exact q
        by_cases c4 : (f (60 + a) >>> (nI w &&& 31)) &&& 1 = 1
        · rw [if_pos c4, if_neg (by decide)]
          exact silent (hsl.mpr c4)
        · rw [if_neg c4, if_pos rfl]
          exact rings (fun q => c4 (hsl.mp q))
