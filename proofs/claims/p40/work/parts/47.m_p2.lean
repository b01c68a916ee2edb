section
/-! A TUNE RUNG: f is the row of bells and feuds (cell 99), g the row of tunes (cell 101) -/
abbrev sil (f : Nat → Int32) (b : Nat) (last : Int32) : Prop := f (5 * b + 3) = 1 ∨ (¬ last = -4 ∧ (f (60 + last.toNatClampNeg) >>> (f (5 * b) &&& 31)) &&& 1 = 1)
abbrev stk (g : Nat → Int32) (t i : Nat) : Nat := (g (14 * t + 2 + i)).toNatClampNeg
/-- after i strokes: cost, flats, silent (bits), silent (how many), owner that rang last -/
def rg (f g : Nat → Int32) (t : Nat) : Nat → Int32 × Int32 × Int32 × Int32 × Int32
  | 0 => (0, 0, 0, 0, -4)
  | i + 1 => if sil f (stk g t i) (rg f g t i).2.2.2.2 then ((rg f g t i).1, (rg f g t i).2.1, (rg f g t i).2.2.1 ||| ((1 : Int32) <<< (nI i &&& 31)), (rg f g t i).2.2.2.1 + 1, (rg f g t i).2.2.2.2) else ((rg f g t i).1 + f (5 * stk g t i + 1), (rg f g t i).2.1 + f (5 * stk g t i + 2), (rg f g t i).2.2.1, (rg f g t i).2.2.2.1, f (5 * stk g t i))
/-- how many of the first i strokes ring and are house h's -/
def rc (f g : Nat → Int32) (t h : Nat) : Nat → Int32
  | 0 => 0
  | i + 1 => rc f g t h i + (if ¬ sil f (stk g t i) (rg f g t i).2.2.2.2 ∧ f (5 * stk g t i) = nI h then 1 else 0)
/-- what is needed of the rows: n strokes, each a bell below 12 with an owner below 6 -/
def okT (f g : Nat → Int32) (t n : Nat) : Prop := n ≤ 12 ∧ g (14 * t + 1) = nI n ∧ ∀ i, i < n → ∃ b w, b < 12 ∧ w < 6 ∧ g (14 * t + 2 + i) = nI b ∧ f (5 * b) = nI w
theorem rg_last {f g : Nat → Int32} {t n : Nat} (h : okT f g t n) : ∀ i, i ≤ n → (rg f g t i).2.2.2.2 = -4 ∨ ∃ w, w < 6 ∧ (rg f g t i).2.2.2.2 = nI w
  | 0, _ => Or.inl rfl
  | i + 1, hi => by
    obtain ⟨b, w, h1, h2, h3, h4⟩ := h.2.2 i (by omega)
    have hb : stk g t i = b := by unfold stk; rw [h3]; exact nI_clamp (by omega)
    unfold rg
    by_cases hs : sil f (stk g t i) (rg f g t i).2.2.2.2
    · rw [if_pos hs]; exact rg_last h i (by omega)
    · rw [if_neg hs]
      exact Or.inr ⟨w, h2, by show f (5 * stk g t i) = _; rw [hb]; exact h4⟩
theorem strokes_s (σ : S0) {t n : Nat} (ht : t < 6) (h : σ 101 (14 * t + 1) = nI n) : fX11_strokes σ (nI t) = some (nI n, σ) := by
  unfold fX11_strokes
  have e : (14 : Int32) * nI t + 1 = nI (14 * t + 1) := by rw [show (14 : Int32) = nI 14 from rfl, pk_mul, nI_1]
  simp only [ol]
  rw [e, og_t (ix_ok (by omega) (by omega)), nI_clamp (by omega), h]
theorem stroke_s (σ : S0) {t i : Nat} (ht : t < 6) (hi : i < 12) : fX11_stroke σ (nI t) (nI i) = some (σ 101 (14 * t + 2 + i), σ) := by
  unfold fX11_stroke
  have e : (14 : Int32) * nI t + 2 + nI i = nI (14 * t + 2 + i) := by rw [show (14 : Int32) = nI 14 from rfl, pk_mul, show (2 : Int32) = nI 2 from rfl, nI_add, nI_add]
  simp only [ol]
  rw [e, og_t (ix_ok (by omega) (by omega)), nI_clamp (by omega)]
theorem isFeud_s (σ : S0) {a : Nat} (ha : a < 6) (x : Int32) : fX11_isFeud σ (nI a) x = some (if (σ 99 (60 + a) >>> (x &&& 31)) &&& 1 = 1 then 1 else 0, σ) := by
  unfold fX11_isFeud
  have e : (60 : Int32) + nI a = nI (60 + a) := nI_add 60 a
  simp only [ol]
  rw [e, og_t (ix_ok (by omega) (by omega)), nI_clamp (by omega)]
  by_cases h : (σ 99 (60 + a) >>> (x &&& 31)) &&& 1 = 1
  · rw [if_neg (by simp [h]), if_pos h]
  · rw [if_pos h, if_neg h]
/-- nothing but the reference's sums and its counts of strokes has changed -/
def onlyR (σ τ : S0) : Prop := ∀ k j, ¬ (k = 98 ∧ 24 ≤ j ∧ j ≤ 27) → k ≠ 105 → τ k j = σ k j
theorem onlyR.tr {a b c : S0} (h1 : onlyR a b) (h2 : onlyR b c) : onlyR a c := fun k j x y => (h2 k j x y).trans (h1 k j x y)
theorem onlyR.c {a b : S0} (h : onlyR a b) {k : Nat} (h1 : k ≠ 98) (h2 : k ≠ 105) : b k = a k := funext fun j => h k j (fun q => h1 q.1) h2
theorem onlyR.e {a b : S0} (h : onlyR a b) : eqv a b := fun k j hr => h k j (fun q => by
  obtain ⟨rfl, q2, q3⟩ := q
  unfold rel at hr
  have := of_decide_eq_true hr
  omega) (fun q => by
  subst q
  unfold rel at hr
  have := of_decide_eq_true hr
  omega)
theorem rings_l (f g : Nat → Int32) {t n : Nat} (ht : t < 6) (ok : okT f g t n) : ∀ (d i m : Nat) (σ : S0), n - i = d → i ≤ n → d < m → σ 99 = f → σ 101 = g → σ 98 24 = (rg f g t i).1 → σ 98 25 = (rg f g t i).2.1 → σ 98 26 = (rg f g t i).2.2.1 → σ 98 27 = (rg f g t i).2.2.2.1 →
    ∃ τ, fX11_rings_h25 m σ (nI t) (rg f g t i).2.2.2.2 (nI i) = some (0, τ) ∧ onlyR σ τ ∧ τ 98 24 = (rg f g t n).1 ∧ τ 98 25 = (rg f g t n).2.1 ∧ τ 98 26 = (rg f g t n).2.2.1 ∧ τ 98 27 = (rg f g t n).2.2.2.1 ∧ ∀ h, h < 6 → τ 105 h + rc f g t h i = σ 105 h + rc f g t h n := by
  intro d
  induction d with
  | zero =>
    intro i m σ h1 h2 h3 h4 h5 s1 s2 s3 s4
    obtain ⟨m, rfl⟩ : ∃ q, m = q + 1 := ⟨m - 1, by omega⟩
    have : i = n := by omega
    subst this
    refine ⟨σ, ?_, fun _ _ _ _ => rfl, s1, s2, s3, s4, fun _ _ => rfl⟩
    show fX11_rings_b25 _ _ _ _ _ = _
    unfold fX11_rings_b25
    rw [strokes_s σ ht (by rw [h5]; exact ok.2.1)]
    simp only [obp]
    rw [if_pos (nI_le (Nat.le_refl _) (by have := ok.1; omega))]
  | succ d ih =>
    intro i m σ h1 h2 h3 h4 h5 s1 s2 s3 s4
    obtain ⟨m, rfl⟩ : ∃ q, m = q + 1 := ⟨m - 1, by omega⟩
    have hn := ok.1
    obtain ⟨b, w, hb, hw, g1, g2⟩ := ok.2.2 i (by omega)
    have hst : stk g t i = b := by unfold stk; rw [g1]; exact nI_clamp (by omega)
    have hlast := rg_last ok i (by omega)
    -- one stroke that is silent
    have silent : sil f b (rg f g t i).2.2.2.2 → ∃ τ, fX11_rings_b78 (fX11_rings_h25 m) σ (nI t) (rg f g t i).2.2.2.2 (nI i) = some (0, τ) ∧ onlyR σ τ ∧ τ 98 24 = (rg f g t n).1 ∧ τ 98 25 = (rg f g t n).2.1 ∧ τ 98 26 = (rg f g t n).2.2.1 ∧ τ 98 27 = (rg f g t n).2.2.2.1 ∧ ∀ h, h < 6 → τ 105 h + rc f g t h i = σ 105 h + rc f g t h n := fun hs => by
      have er : rg f g t (i + 1) = ((rg f g t i).1, (rg f g t i).2.1, (rg f g t i).2.2.1 ||| ((1 : Int32) <<< (nI i &&& 31)), (rg f g t i).2.2.2.1 + 1, (rg f g t i).2.2.2.2) := by
        show (if sil f (stk g t i) _ then _ else _) = _
        rw [hst, if_pos hs]
      have ec : ∀ h, rc f g t h (i + 1) = rc f g t h i := fun h => by
        show rc f g t h i + (if _ then _ else _) = _
        rw [hst, if_neg (fun q => q.1 hs)]
        exact Int32.add_zero _
      have hn1 : nI i + 1 = nI (i + 1) := nI_1 i
      unfold fX11_rings_b78 fX11_rings_b149
      simp only [ol]
      obtain ⟨τ, q1, q2, q3, q4, q5, q6, q7⟩ := ih (i + 1) m (su (su σ 98 26 (σ 98 26 ||| ((1 : Int32) <<< (nI i &&& 31)))) 98 27 (su σ 98 26 (σ 98 26 ||| ((1 : Int32) <<< (nI i &&& 31))) 98 27 + 1)) (by omega) (by omega) (by omega) (by rw [su_ne (by omega), su_ne (by omega)]; exact h4) (by rw [su_ne (by omega), su_ne (by omega)]; exact h5) (by rw [er, su_j (by omega), su_j (by omega)]; exact s1) (by rw [er, su_j (by omega), su_j (by omega)]; exact s2) (by rw [er, su_j (by omega), su_s, s3]) (by rw [er, su_s, su_j (by omega), s4])
      rw [er] at q1
      refine ⟨τ, by rw [hn1]; exact q1, ?_, q3, q4, q5, q6, fun h hh => ?_⟩
      · refine onlyR.tr (fun k j x y => ?_) q2
        by_cases hk : k = 98
        · subst hk
          rw [su_j (by omega), su_j (by omega)]
        · rw [su_ne hk, su_ne hk]
      · have := q7 h hh
        rw [ec h, su_ne (by omega), su_ne (by omega)] at this
        exact this
    -- one stroke that rings
    have rings : ¬ sil f b (rg f g t i).2.2.2.2 → ∃ τ, fX11_rings_b103 (fX11_rings_h25 m) σ (nI t) (nI i) (nI b) (nI w) = some (0, τ) ∧ onlyR σ τ ∧ τ 98 24 = (rg f g t n).1 ∧ τ 98 25 = (rg f g t n).2.1 ∧ τ 98 26 = (rg f g t n).2.2.1 ∧ τ 98 27 = (rg f g t n).2.2.2.1 ∧ ∀ h, h < 6 → τ 105 h + rc f g t h i = σ 105 h + rc f g t h n := fun hs => by
      have er : rg f g t (i + 1) = ((rg f g t i).1 + f (5 * b + 1), (rg f g t i).2.1 + f (5 * b + 2), (rg f g t i).2.2.1, (rg f g t i).2.2.2.1, nI w) := by
        show (if sil f (stk g t i) _ then _ else _) = _
        rw [hst, if_neg hs, g2]
      have ec : ∀ h, h < 6 → rc f g t h (i + 1) = rc f g t h i + (if w = h then 1 else 0) := fun h hh => by
        have hs2 : ¬ sil f (stk g t i) (rg f g t i).2.2.2.2 := by rw [hst]; exact hs
        have g3 : f (5 * stk g t i) = nI w := by rw [hst]; exact g2
        show rc f g t h i + (if _ then _ else _) = _
        by_cases c : w = h
        · rw [if_pos ⟨hs2, by rw [g3, c]⟩, if_pos c]
        · rw [if_neg (fun q => c ((nI_eq (by omega) (by omega)).mp (g3.symm.trans q.2))), if_neg c]
      have hn1 : nI i + 1 = nI (i + 1) := nI_1 i
      unfold fX11_rings_b103 fX11_rings_b149
      rw [of_l σ (b := b) (w := 1) (x := 1) hb (by omega) rfl]
      simp only [obp, ol]
      rw [of_l _ (b := b) (w := 2) (x := 2) hb (by omega) rfl]
      simp only [obp, ol, og_t (ix_ok (j := w) (n := 6) hw (by omega))]
      rw [nI_clamp (n := w) (by omega), hn1]
      obtain ⟨τ, q1, q2, q3, q4, q5, q6, q7⟩ := ih (i + 1) m (su (su (su σ 98 24 (σ 98 24 + σ 99 (5 * b + 1))) 98 25 (su σ 98 24 (σ 98 24 + σ 99 (5 * b + 1)) 98 25 + su σ 98 24 (σ 98 24 + σ 99 (5 * b + 1)) 99 (5 * b + 2))) 105 w (su (su σ 98 24 (σ 98 24 + σ 99 (5 * b + 1))) 98 25 (su σ 98 24 (σ 98 24 + σ 99 (5 * b + 1)) 98 25 + su σ 98 24 (σ 98 24 + σ 99 (5 * b + 1)) 99 (5 * b + 2)) 105 w + 1)) (by omega) (by omega) (by omega) (by rw [su_ne (by omega), su_ne (by omega), su_ne (by omega)]; exact h4) (by rw [su_ne (by omega), su_ne (by omega), su_ne (by omega)]; exact h5) (by rw [er, su_ne (by omega), su_j (by omega), su_s, s1, h4]) (by rw [er, su_ne (by omega), su_s, su_j (by omega), su_ne (by omega), s2, h4]) (by rw [er, su_ne (by omega), su_j (by omega), su_j (by omega)]; exact s3) (by rw [er, su_ne (by omega), su_j (by omega), su_j (by omega)]; exact s4)
      rw [er] at q1
      refine ⟨τ, q1, ?_, q3, q4, q5, q6, fun h hh => ?_⟩
      · refine onlyR.tr (fun k j x y => ?_) q2
        rw [su_ne y]
        by_cases hk : k = 98
        · subst hk
          rw [su_j (by omega), su_j (by omega)]
        · rw [su_ne hk, su_ne hk]
      · have := q7 h hh
        rw [ec h hh, su_at, if_pos rfl] at this
        by_cases c : h = w
        · rw [if_pos c, if_pos c.symm, su_ne (by omega), su_ne (by omega)] at this
          rw [c] at this ⊢
          have e1 : τ 105 w + rc f g t w i + 1 = σ 105 w + rc f g t w n + 1 := by
            rw [Int32.add_assoc, this, Int32.add_assoc, Int32.add_comm 1, ← Int32.add_assoc]
          exact (Int32.add_left_inj 1).mp e1
        · rw [if_neg c, if_neg (fun q => c q.symm), su_ne (by omega), su_ne (by omega), Int32.add_zero] at this
          exact this
    show ∃ τ, fX11_rings_b25 _ _ _ _ _ = _ ∧ _
    unfold fX11_rings_b25
    rw [strokes_s σ ht (by rw [h5]; exact ok.2.1)]
    simp only [obp]
    rw [if_neg (nI_ge (by omega) (by omega)), stroke_s σ ht (by omega)]
    simp only [obp]
    rw [h5, g1, of_l σ (b := b) (w := 0) (x := 0) hb (by omega) rfl]
    simp only [obp, Nat.add_zero]
    rw [of_l σ (b := b) (w := 3) (x := 3) hb (by omega) rfl]
    simp only [obp]
    rw [h4, g2]
    by_cases c1 : f (5 * b + 3) = 1
    · rw [if_pos c1]
      exact silent (Or.inl c1)
    · rw [if_neg c1]
      rcases hlast with c2 | ⟨a, ha, c2⟩
      · rw [if_pos c2]
        exact rings (fun q => q.elim c1 (fun q => q.1 c2))
      · have c3 : ¬ (rg f g t i).2.2.2.2 = -4 := by rw [c2]; exact nI_m4 (by omega)
        rw [if_neg c3]
        have hfe : fX11_isFeud σ (rg f g t i).2.2.2.2 (nI w) = some (if (f (60 + a) >>> (nI w &&& 31)) &&& 1 = 1 then 1 else 0, σ) := by rw [c2, isFeud_s σ ha, h4]
        rw [hfe]
        simp only [obp]
        have hsl : sil f b (rg f g t i).2.2.2.2 ↔ (f (60 + a) >>> (nI w &&& 31)) &&& 1 = 1 := by
          constructor
          · intro q
            rcases q with q | q
            · exact absurd q c1
            · have q2 := q.2
              rw [c2, nI_clamp (by omega), g2] at q2
              exact q2
          · intro q
            refine Or.inr ⟨c3, ?_⟩
            rw [c2, nI_clamp (by omega), g2]
            exact q
        by_cases c4 : (f (60 + a) >>> (nI w &&& 31)) &&& 1 = 1
        · rw [if_pos c4, if_neg (by decide)]
          exact silent (hsl.mpr c4)
        · rw [if_neg c4, if_pos rfl]
          exact rings (fun q => c4 (hsl.mp q))
end
section
/-! A TUNE PLAYED by the class, held against rg -/
theorem bits_t : ∀ m : Fin 64, ∀ w : Fin 6, (nI m.1 &&& ((1 : Int32) <<< (nI w.1 &&& 31)) = 0) ↔ ¬ ((nI m.1 >>> (nI w.1 &&& 31)) &&& 1 = 1) := by decide
theorem bits_n {m w : Nat} (hm : m < 64) (hw : w < 6) : (nI m &&& ((1 : Int32) <<< (nI w &&& 31)) = 0) ↔ ¬ ((nI m >>> (nI w &&& 31)) &&& 1 = 1) := bits_t ⟨m, hm⟩ ⟨w, hw⟩
theorem bits_0 (w : Int32) : (0 : Int32) &&& w = 0 := Int32.zero_and
def okP (f g : Nat → Int32) (t n : Nat) (a : S0) : Prop := a 24 t = nI n ∧ (∀ i, i < n → ∃ b, b < 12 ∧ g (14 * t + 2 + i) = nI b ∧ a (26 + t) i = nI b ∧ a 33 b = f (5 * b) ∧ a 34 b = f (5 * b + 1) ∧ a 35 b = f (5 * b + 2) ∧ a 36 b = f (5 * b + 3) ∧ (f (5 * b + 3) = 0 ∨ f (5 * b + 3) = 1)) ∧ ∀ h, h < 6 → a 38 h = f (60 + h) ∧ ∃ m, m < 64 ∧ f (60 + h) = nI m
/-- nothing but the class's sums of a tune played has changed -/
def onlyP (σ τ : S0) : Prop := ∀ k, k ≠ 40 → τ k = σ k
theorem onlyP.tr {a b c : S0} (h1 : onlyP a b) (h2 : onlyP b c) : onlyP a c := fun k x => (h2 k x).trans (h1 k x)
theorem onlyP.su {a b : S0} (h : onlyP a b) (j : Nat) (v : Int32) : onlyP a (su b 40 j v) := fun k x => (su_ne x).trans (h k x)
theorem onlyP.rf (a : S0) : onlyP a a := fun _ _ => rfl
theorem onlyP.e {a b : S0} (h : onlyP a b) : eqv a b := fun k j hr => by
  rw [h k (fun q => by
    subst q
    unfold rel at hr
    have := of_decide_eq_true hr
    omega)]
theorem okP.cg {f g : Nat → Int32} {t n : Nat} {a b : S0} (ht : t < 6) (h : okP f g t n a) (o : onlyP a b) : okP f g t n b := by
  unfold okP at h ⊢
  rw [o 24 (by omega), o (26 + t) (by omega), o 33 (by omega), o 34 (by omega), o 35 (by omega), o 36 (by omega), o 38 (by omega)]
  exact h
def lk (f : Nat → Int32) (last x3 : Int32) : Prop := (last = -4 ∧ x3 = 0) ∨ ∃ a, a < 6 ∧ last = nI a ∧ x3 = f (60 + a)
theorem play_l (f g : Nat → Int32) (G : Int32) {t n : Nat} (ht : t < 6) (ok : okT f g t n) : ∀ (d i m : Nat) (σ : S0) (x2 x3 : Int32), n - i = d → i ≤ n → d < m → okP f g t n σ → σ 22 1 = G → σ 40 2 = (rg f g t i).1 → σ 40 3 = (rg f g t i).2.1 → σ 40 4 = (rg f g t i).2.2.1 → x2 = G * (rg f g t i).2.2.2.1 → lk f (rg f g t i).2.2.2.2 x3 →
    ∃ τ, fX6_play_h22 m σ (nI t) x2 x3 (nI i) = some (0, τ) ∧ onlyP σ τ ∧ τ 40 2 = (rg f g t n).1 ∧ τ 40 3 = (rg f g t n).2.1 ∧ τ 40 4 = (rg f g t n).2.2.1 ∧ τ 40 5 = σ 23 t - (rg f g t n).1 - (rg f g t n).2.1 - G * (rg f g t n).2.2.2.1 := by
  have hgt := ix_ok (j := t) (n := 6) ht (by omega)
  have hct : (nI t).toNatClampNeg = t := nI_clamp (by omega)
  have hgt2 : ¬ (nI t < 0 ∨ 6 ≤ t) := fun q => hgt (by rw [hct]; exact q)
  intro d
  induction d with
  | zero =>
    intro i m σ x2 x3 h1 h2 h3 hp hG s1 s2 s3 s4 hl
    obtain ⟨m, rfl⟩ : ∃ q, m = q + 1 := ⟨m - 1, by omega⟩
    have : i = n := by omega
    subst this
    show ∃ τ, fX6_play_b22 _ _ _ _ _ _ = _ ∧ _
    unfold fX6_play_b22
    simp only [og_t hgt, og_t hgt2, hct, ol]
    rw [hp.1, if_pos (nI_le (Nat.le_refl _) (by have := ok.1; omega))]
    refine ⟨_, rfl, onlyP.su (onlyP.rf _) _ _, ?_, ?_, ?_, ?_⟩
    · rw [su_j (by omega)]; exact s1
    · rw [su_j (by omega)]; exact s2
    · rw [su_j (by omega)]; exact s3
    · rw [su_s, s1, s2, s4]
  | succ d ih =>
    intro i m σ x2 x3 h1 h2 h3 hp hG s1 s2 s3 s4 hl
    obtain ⟨m, rfl⟩ : ∃ q, m = q + 1 := ⟨m - 1, by omega⟩
    have hn := ok.1
    obtain ⟨b, w, hb, hw, g1, g2⟩ := ok.2.2 i (by omega)
    obtain ⟨b', hb', g1', p1, p2, p3, p4, p5, p6⟩ := hp.2.1 i (by omega)
    have : b' = b := (nI_eq (by omega) (by omega)).mp (g1'.symm.trans g1)
    subst this
    have hst : stk g t i = b' := by unfold stk; rw [g1]; exact nI_clamp (by omega)
    have hgi := ix_ok (j := i) (n := 12) (by omega) (by omega)
    have hci : (nI i).toNatClampNeg = i := nI_clamp (by omega)
    have hgi2 : ¬ (nI i < 0 ∨ 12 ≤ i) := fun q => hgi (by rw [hci]; exact q)
    have hgb := ix_ok (j := b') (n := 12) (by omega) (by omega)
    have hcb : (nI b').toNatClampNeg = b' := nI_clamp (by omega)
    have hgb2 : ¬ (nI b' < 0 ∨ 12 ≤ b') := fun q => hgb (by rw [hcb]; exact q)
    have hgw := ix_ok (j := w) (n := 6) (by omega) (by omega)
    have hcw : (nI w).toNatClampNeg = w := nI_clamp (by omega)
    have hgw2 : ¬ (nI w < 0 ∨ 6 ≤ w) := fun q => hgw (by rw [hcw]; exact q)
    have hn1 : nI i + 1 = nI (i + 1) := nI_1 i
    have silent : sil f b' (rg f g t i).2.2.2.2 → ∃ τ, fX6_play_b84 (fX6_play_h22 m) σ (nI t) x2 x3 (nI i) = some (0, τ) ∧ onlyP σ τ ∧ τ 40 2 = (rg f g t n).1 ∧ τ 40 3 = (rg f g t n).2.1 ∧ τ 40 4 = (rg f g t n).2.2.1 ∧ τ 40 5 = σ 23 t - (rg f g t n).1 - (rg f g t n).2.1 - G * (rg f g t n).2.2.2.1 := fun hs => by
      have er : rg f g t (i + 1) = ((rg f g t i).1, (rg f g t i).2.1, (rg f g t i).2.2.1 ||| ((1 : Int32) <<< (nI i &&& 31)), (rg f g t i).2.2.2.1 + 1, (rg f g t i).2.2.2.2) := by
        show (if sil f (stk g t i) _ then _ else _) = _
        rw [hst, if_pos hs]
      have o1 : onlyP σ (su σ 40 4 (σ 40 4 ||| ((1 : Int32) <<< (nI i &&& 31)))) := onlyP.su (onlyP.rf _) _ _
      obtain ⟨τ, q1, q2, q3, q4, q5, q6⟩ := ih (i + 1) m (su σ 40 4 (σ 40 4 ||| ((1 : Int32) <<< (nI i &&& 31)))) (x2 + su σ 40 4 (σ 40 4 ||| ((1 : Int32) <<< (nI i &&& 31))) 22 1) x3 (by omega) (by omega) (by omega) (hp.cg ht o1) (by rw [su_ne (by omega)]; exact hG) (by rw [er, su_j (by omega)]; exact s1) (by rw [er, su_j (by omega)]; exact s2) (by rw [er, su_s, s3]) (by rw [er, su_ne (by omega), hG, s4, Int32.mul_add, Int32.mul_one]) (by rw [er]; exact hl)
      unfold fX6_play_b84 fX6_play_b159
      simp only [ol]
      refine ⟨τ, by rw [hn1]; exact q1, o1.tr q2, q3, q4, q5, ?_⟩
      rw [q6, su_ne (by omega)]
    show ∃ τ, fX6_play_b22 _ _ _ _ _ _ = _ ∧ _
    unfold fX6_play_b22
    simp only [og_t hgt, og_t hgt2, hct, ol]
    rw [hp.1, if_neg (nI_ge (by omega) (by omega))]
    simp only [og_t hgi, og_t hgi2, hci, Nat.one_mul, p1, og_t hgb, og_t hgb2, hcb, p2, p5, g2]
    by_cases c1 : f (5 * b' + 3) = 0
    · rw [if_neg (by simp [c1])]
      have hsl : sil f b' (rg f g t i).2.2.2.2 ↔ ¬ (x3 &&& ((1 : Int32) <<< (nI w &&& 31))) = 0 := by
        rcases hl with ⟨l1, l2⟩ | ⟨a, ha, l1, l2⟩
        · rw [l2, bits_0]
          constructor
          · intro q
            rcases q with q | q
            · rw [c1] at q; exact absurd q (by decide)
            · exact absurd l1 q.1
          · intro q; exact absurd rfl q
        · obtain ⟨-, m6, hm6, e6⟩ := hp.2.2 a ha
          rw [l2, e6, bits_n hm6 hw]
          constructor
          · intro q
            rcases q with q | q
            · rw [c1] at q; exact absurd q (by decide)
            · have q2 := q.2
              rw [l1, nI_clamp (by omega), g2, e6] at q2
              exact fun x => x q2
          · intro q
            refine Or.inr ⟨by rw [l1]; exact nI_m4 (by omega), ?_⟩
            rw [l1, nI_clamp (by omega), g2, e6]
            exact Classical.not_not.mp q
      by_cases c2 : (x3 &&& ((1 : Int32) <<< (nI w &&& 31))) = 0
      · rw [if_pos c2]
        have hs : ¬ sil f b' (rg f g t i).2.2.2.2 := fun q => hsl.mp q c2
        have er : rg f g t (i + 1) = ((rg f g t i).1 + f (5 * b' + 1), (rg f g t i).2.1 + f (5 * b' + 2), (rg f g t i).2.2.1, (rg f g t i).2.2.2.1, nI w) := by
          show (if sil f (stk g t i) _ then _ else _) = _
          rw [hst, if_neg hs, g2]
        have o1 : onlyP σ (su (su σ 40 2 (σ 40 2 + σ 34 b')) 40 3 (su σ 40 2 (σ 40 2 + σ 34 b') 40 3 + su σ 40 2 (σ 40 2 + σ 34 b') 35 b')) := onlyP.su (onlyP.su (onlyP.rf _) _ _) _ _
        have hp1 := hp.cg ht o1
        obtain ⟨τ, q1, q2, q3, q4, q5, q6⟩ := ih (i + 1) m _ x2 (su (su σ 40 2 (σ 40 2 + σ 34 b')) 40 3 (su σ 40 2 (σ 40 2 + σ 34 b') 40 3 + su σ 40 2 (σ 40 2 + σ 34 b') 35 b') 38 w) (by omega) (by omega) (by omega) hp1 (by rw [o1 22 (by omega)]; exact hG) (by rw [er, su_j (by omega), su_s, s1, p3]) (by rw [er, su_s, su_j (by omega), su_ne (by omega), s2, p4]) (by rw [er, su_j (by omega), su_j (by omega)]; exact s3) (by rw [er]; exact s4) (by rw [er]; exact Or.inr ⟨w, hw, rfl, (hp1.2.2 w hw).1⟩)
        simp only [og_t hgw, og_t hgw2, hcw]
        unfold fX6_play_b159
        simp only [ol]
        refine ⟨τ, by rw [hn1]; exact q1, o1.tr q2, q3, q4, q5, ?_⟩
        rw [q6, o1 23 (by omega)]
      · rw [if_neg c2]
        exact silent (hsl.mpr c2)
    · rw [if_pos c1]
      exact silent (Or.inl (p6.resolve_left c1))
end
section
/-! BITS; a tune's sums and its value on both sides -/
theorem bit_a : ∀ i : Fin 31, ((1 : Int32) <<< (nI i.1 &&& 31)).toBitVec = BitVec.twoPow 32 i.1 := by decide
theorem bit_b : ∀ i : Fin 31, ((nI i.1 &&& 31).toBitVec.smod 32).toNat = i.1 := by decide
theorem bit_g {i : Nat} (hi : i < 31) (x : Int32) : (x &&& ((1 : Int32) <<< (nI i &&& 31)) = 0) ↔ ¬ ((x >>> (nI i &&& 31)) &&& 1 = 1) := by
  rw [← Int32.toBitVec_inj, ← Int32.toBitVec_inj, Int32.toBitVec_and, Int32.toBitVec_and, bit_a ⟨i, hi⟩, Int32.toBitVec_shiftRight, show ∀ (v w : BitVec 32), v.sshiftRight' w = v.sshiftRight w.toNat from fun _ _ => rfl, bit_b ⟨i, hi⟩]
  show _ = 0#32 ↔ ¬ (_ &&& 1#32 = 1#32)
  rw [BitVec.and_twoPow, show (1#32 : BitVec 32) = BitVec.twoPow 32 0 from rfl, BitVec.and_twoPow, BitVec.getLsbD_sshiftRight]
  have : i + 0 < 32 := by omega
  have hz : ¬ (BitVec.twoPow 32 i = 0#32) := by
    intro q
    have := congrArg (fun v => v.getLsbD i) q
    simp [BitVec.getLsbD_twoPow] at this
    omega
  simp only [this, if_true, Nat.add_zero]
  by_cases c : x.toBitVec.getLsbD i = true
  · have h32 : ¬ 32 ≤ i := by omega
    simp [c, hz, h32]
  · have h32 : ¬ 32 ≤ i := by omega
    have h0 : ¬ 0#32 = BitVec.twoPow 32 0 := by decide
    simp [c, h0, h32]
abbrev ln (g : Nat → Int32) (t : Nat) : Nat := (g (14 * t + 1)).toNatClampNeg
abbrev rgn (f g : Nat → Int32) (t : Nat) := rg f g t (ln g t)
def vl (f g : Nat → Int32) (G : Int32) (t : Nat) : Int32 := g (14 * t) - (rgn f g t).1 - (rgn f g t).2.1 - G * (rgn f g t).2.2.2.1
theorem RT {σ : S0} {H G B T t : Nat} (h : Rall σ H G B T) (ht : t < T) : okT (σ 99) (σ 101) t (ln (σ 101) t) ∧ okP (σ 99) (σ 101) t (ln (σ 101) t) σ ∧ 1 ≤ ln (σ 101) t ∧ σ 23 t = σ 101 (14 * t) := by
  obtain ⟨n, a1, a2, a3, a4, a5, a6, a7⟩ := h.2.2.2.1 t ht
  obtain ⟨b1, b2, b3, b4, b5⟩ := h.1.1
  have e : ln (σ 101) t = n := by unfold ln; rw [a3]; exact nI_clamp (by omega)
  obtain ⟨m1, m2, fo, m3, m4, m5, m6⟩ := h.2.2.1
  obtain ⟨k1, k2, k3, k4, k5⟩ := h.2.1
  simp only [Nat.zero_add] at m1 m2 m3 k2 k3
  rw [e]
  refine ⟨⟨a2, a3, fun i hi => ?_⟩, ⟨a4, fun i hi => ?_, fun x hx => ⟨k3 x hx, fo x, ?_, (m3 x hx).2⟩⟩, a1, a5⟩
  · obtain ⟨b, c1, c2, c3⟩ := a7 i hi
    obtain ⟨⟨w, d1, d2⟩, d3⟩ := m2 b c1
    exact ⟨b, w, by omega, by omega, c2, d2⟩
  · obtain ⟨b, c1, c2, c3⟩ := a7 i hi
    obtain ⟨d1, d2, d3, d4, d5⟩ := m2 b c1
    obtain ⟨f1, f2, f3, f4, f5⟩ := k2 b c1
    exact ⟨b, by omega, c2, c3, f1, f2, f3, f4, d4⟩
  · have := (m3 x hx).1
    have : 2 ^ H ≤ 2 ^ 6 := Nat.pow_le_pow_right (by omega) b2
    omega
theorem play_s {σ : S0} {H G B T t : Nat} (h : Rall σ H G B T) (ht : t < T) : ∃ τ, fX6_play σ (nI t) = some (0, τ) ∧ onlyP σ τ ∧ τ 40 2 = (rgn (σ 99) (σ 101) t).1 ∧ τ 40 3 = (rgn (σ 99) (σ 101) t).2.1 ∧ τ 40 4 = (rgn (σ 99) (σ 101) t).2.2.1 ∧ τ 40 5 = vl (σ 99) (σ 101) (nI G) t := by
  obtain ⟨r1, r2, r3, r4⟩ := RT h ht
  obtain ⟨b1, b2, b3, b4, b5⟩ := h.1.1
  have o : onlyP σ (su (su (su σ 40 2 0) 40 3 0) 40 4 0) := onlyP.su (onlyP.su (onlyP.su (onlyP.rf _) _ _) _ _) _ _
  have hn := r1.1
  obtain ⟨τ, q1, q2, q3, q4, q5, q6⟩ := play_l (σ 99) (σ 101) (nI G) (by omega) r1 _ 0 400 _ 0 0 rfl (by omega) (by omega) (r2.cg (by omega) o) (by rw [o 22 (by omega)]; exact h.1.2.2.2.1) (by rw [su_j (by omega), su_j (by omega), su_s]; rfl) (by rw [su_j (by omega), su_s]; rfl) (by rw [su_s]; rfl) (by show (0 : Int32) = _ * 0; rw [Int32.mul_zero]) (Or.inl ⟨rfl, rfl⟩)
  refine ⟨τ, ?_, o.tr q2, q3, q4, q5, ?_⟩
  · unfold fX6_play; simp only [ol]; exact q1
  · rw [q6, o 23 (by omega), r4]; rfl
theorem rings_s {σ : S0} {t n : Nat} (ht : t < 6) (ok : okT (σ 99) (σ 101) t n) : ∃ τ, fX11_rings σ (nI t) = some (0, τ) ∧ onlyR σ τ ∧ τ 98 24 = (rg (σ 99) (σ 101) t n).1 ∧ τ 98 25 = (rg (σ 99) (σ 101) t n).2.1 ∧ τ 98 26 = (rg (σ 99) (σ 101) t n).2.2.1 ∧ τ 98 27 = (rg (σ 99) (σ 101) t n).2.2.2.1 ∧ ∀ h, h < 6 → τ 105 h = σ 105 h + rc (σ 99) (σ 101) t h n := by
  have hn := ok.1
  obtain ⟨τ, q1, q2, q3, q4, q5, q6, q7⟩ := rings_l (σ 99) (σ 101) ht ok _ 0 400 (su (su (su (su σ 98 24 0) 98 25 0) 98 26 0) 98 27 0) rfl (by omega) (by omega) (by rw [su_ne (by omega), su_ne (by omega), su_ne (by omega), su_ne (by omega)]) (by rw [su_ne (by omega), su_ne (by omega), su_ne (by omega), su_ne (by omega)]) (by rw [su_j (by omega), su_j (by omega), su_j (by omega), su_s]; rfl) (by rw [su_j (by omega), su_j (by omega), su_s]; rfl) (by rw [su_j (by omega), su_s]; rfl) (by rw [su_s]; rfl)
  refine ⟨τ, ?_, onlyR.tr (fun k j x y => ?_) q2, q3, q4, q5, q6, fun h hh => ?_⟩
  · unfold fX11_rings; simp only [ol]; exact q1
  · by_cases hk : k = 98
    · subst hk
      rw [su_j (by omega), su_j (by omega), su_j (by omega), su_j (by omega)]
    · rw [su_ne hk, su_ne hk, su_ne hk, su_ne hk]
  · have := q7 h hh
    rw [su_ne (by omega), su_ne (by omega), su_ne (by omega), su_ne (by omega)] at this
    rw [← this]
    exact (Int32.add_zero _).symm
theorem val_s {σ : S0} {H G B T t : Nat} (h : Rall σ H G B T) (ht : t < T) : ∃ τ, fX11_valueOf σ (nI t) = some (vl (σ 99) (σ 101) (nI G) t, τ) ∧ onlyR σ τ ∧ τ 98 24 = (rgn (σ 99) (σ 101) t).1 ∧ τ 98 25 = (rgn (σ 99) (σ 101) t).2.1 ∧ τ 98 26 = (rgn (σ 99) (σ 101) t).2.2.1 := by
  obtain ⟨r1, r2, r3, r4⟩ := RT h ht
  obtain ⟨b1, b2, b3, b4, b5⟩ := h.1.1
  obtain ⟨τ, q1, q2, q3, q4, q5, q6, q7⟩ := rings_s (by omega) r1
  refine ⟨τ, ?_, q2, q3, q4, q5⟩
  unfold fX11_valueOf
  rw [q1]
  have e : (14 : Int32) * nI t = nI (14 * t) := by rw [show (14 : Int32) = nI 14 from rfl, pk_mul]
  simp only [obp, ol]
  rw [e, og_t (ix_ok (by omega) (by omega)), nI_clamp (by omega), q3, q4, q6, q2.c (k := 101) (by omega) (by omega), q2 98 3 (by omega) (by omega), h.1.2.1.2.1]
  rfl
theorem sim_ring (x y : Int32) : Sim (fun σ => fX10_ring σ x y) (fun σ => fX11_ring σ x y) := by
  intro σ hR
  show An (fX10_ring σ x y) (fun r τ => An (fX11_ring τ x y) (fun q ρ => r = q ∧ R ρ))
  obtain ⟨H, G, B, T, h⟩ := id hR
  obtain ⟨⟨b1, b2, b3, b4, b5⟩, ⟨e1, e2, e5, e6⟩, e3, e4, e7⟩ := h.1
  rcases ixc x T (by omega) with ⟨t, ht, rfl⟩ | hx
  · obtain ⟨τ, p1, p2, p3, p4, p5, p6⟩ := play_s h ht
    have h2 := h.cg p2.e
    obtain ⟨ρ, v1, v2, v3, v4, v5⟩ := val_s h2 ht
    rw [p2 99 (by omega), p2 101 (by omega)] at v1 v3 v4 v5
    have hρ : R ρ := ⟨H, G, B, T, h2.cg v2.e⟩
    have c1 : fX10_ring σ (nI t) y = if y.toInt < 0 ∨ 3 < y.toInt then (some ((-1), τ)) else if y = 0 then (some (τ 40 2, τ)) else if y = 1 then (some (τ 40 4, τ)) else if y = 2 then (some (τ 40 3, τ)) else if y = 3 then (some ((τ 40 5) + 1000, τ)) else none := by
      unfold fX10_ring
      rw [ht_y e7 (by omega) ht]
      simp only [obp]
      rw [if_pos (by decide), p1]
    have c2 : fX11_ring τ (nI t) y = if y.toInt < 0 ∨ 3 < y.toInt then (some ((-1), ρ)) else if y = 0 then (some (ρ 98 24, ρ)) else if y = 1 then (some (ρ 98 26, ρ)) else if y = 2 then (some (ρ 98 25, ρ)) else if y = 3 then (some (vl (σ 99) (σ 101) (nI G) t + 1000, ρ)) else none := by
      unfold fX11_ring
      rw [it_y h2.1.2.1.2.2.2 (by omega) ht]
      simp only [obp]
      rw [if_pos (by decide), v1]
    rcases ixc y 4 (by omega) with ⟨w, hw, rfl⟩ | hy
    · have hw2 : ¬ ((nI w).toInt < 0 ∨ 3 < (nI w).toInt) := by rw [ir (by omega)]; omega
      rw [if_neg hw2] at c1 c2
      rcases (show w = 0 ∨ w = 1 ∨ w = 2 ∨ w = 3 by omega) with rfl | rfl | rfl | rfl
      · exact ⟨_, τ, c1.trans (if_pos rfl), _, ρ, c2.trans (if_pos rfl), p3.trans v3.symm, hρ⟩
      · exact ⟨_, τ, c1.trans rfl, _, ρ, c2.trans rfl, p5.trans v5.symm, hρ⟩
      · exact ⟨_, τ, c1.trans rfl, _, ρ, c2.trans rfl, p4.trans v4.symm, hρ⟩
      · exact ⟨_, τ, c1.trans rfl, _, ρ, c2.trans rfl, congrArg (· + (1000 : Int32)) p6, hρ⟩
    · have hy2 : y.toInt < 0 ∨ 3 < y.toInt := by omega
      rw [if_pos hy2] at c1 c2
      exact ⟨_, τ, c1, _, ρ, c2, rfl, hρ⟩
  · refine Sim.same (fun τ => fX11_ring τ x y) (a := -1) hR ?_ ?_
    · unfold fX10_ring; rw [ht_n e7 (by omega) hx]; rfl
    · show fX11_ring σ x y = _
      unfold fX11_ring; rw [it_n e6 (by omega) hx]; rfl
end
section
/-! TAKEN, GETS, WAGE; TUNE -/
def tk (f g : Nat → Int32) (G : Int32) : Nat → Int32 × Int32
  | 0 => (-4, 0)
  | t + 1 => if vl f g G t ≤ (tk f g G t).2 then tk f g G t else (nI t, vl f g G t)
theorem tk_r (f g : Nat → Int32) (G : Int32) : ∀ t, (tk f g G t).1 = -4 ∨ ∃ j, j < t ∧ (tk f g G t).1 = nI j
  | 0 => Or.inl rfl
  | t + 1 => by
    unfold tk
    by_cases c : vl f g G t ≤ (tk f g G t).2
    · rw [if_pos c]
      rcases tk_r f g G t with h | ⟨j, h1, h2⟩
      · exact Or.inl h
      · exact Or.inr ⟨j, by omega, h2⟩
    · rw [if_neg c]
      exact Or.inr ⟨t, by omega, rfl⟩
theorem takenX_l {H G B T : Nat} : ∀ (d t m : Nat) (σ : S0), T - t = d → t ≤ T → d < m → Rall σ H G B T → ∃ τ, fX6_tuneTaken_h7 m σ (tk (σ 99) (σ 101) (nI G) t).1 (tk (σ 99) (σ 101) (nI G) t).2 (nI t) = some ((tk (σ 99) (σ 101) (nI G) T).1, τ) ∧ onlyP σ τ := by
  intro d
  induction d with
  | zero =>
    intro t m σ h1 h2 h3 h
    obtain ⟨m, rfl⟩ : ∃ q, m = q + 1 := ⟨m - 1, by omega⟩
    have : t = T := by omega
    subst this
    refine ⟨σ, ?_, onlyP.rf _⟩
    show fX6_tuneTaken_b7 _ _ _ _ _ = _
    unfold fX6_tuneTaken_b7
    rw [h.1.2.2.2.2, if_pos (nI_le (Nat.le_refl _) (by have := h.1.1; omega))]
  | succ d ih =>
    intro t m σ h1 h2 h3 h
    obtain ⟨m, rfl⟩ : ∃ q, m = q + 1 := ⟨m - 1, by omega⟩
    have ht : t < T := by omega
    have hb := h.1.1
    obtain ⟨τ, p1, p2, p3, p4, p5, p6⟩ := play_s h ht
    have hn1 : nI t + 1 = nI (t + 1) := nI_1 t
    obtain ⟨ρ, q1, q2⟩ := ih (t + 1) m τ (by omega) (by omega) (by omega) (h.cg p2.e)
    rw [p2 99 (by omega), p2 101 (by omega)] at q1
    refine ⟨ρ, ?_, p2.tr q2⟩
    show fX6_tuneTaken_b7 _ _ _ _ _ = _
    unfold fX6_tuneTaken_b7 fX6_tuneTaken_b38
    rw [h.1.2.2.2.2, if_neg (nI_ge ht (by omega)), p1]
    simp only [obp, ol, p6, hn1]
    rw [← q1]
    have et : tk (σ 99) (σ 101) (nI G) (t + 1) = if vl (σ 99) (σ 101) (nI G) t ≤ (tk (σ 99) (σ 101) (nI G) t).2 then tk (σ 99) (σ 101) (nI G) t else (nI t, vl (σ 99) (σ 101) (nI G) t) := rfl
    by_cases c : vl (σ 99) (σ 101) (nI G) t ≤ (tk (σ 99) (σ 101) (nI G) t).2
    · rw [if_pos c] at et ⊢
      rw [et]
    · rw [if_neg c] at et ⊢
      rw [et]
theorem takenM_l {H G B T : Nat} : ∀ (d t m : Nat) (σ : S0), T - t = d → t ≤ T → d < m → Rall σ H G B T → ∃ τ, fX11_takenNow_h7 m σ (tk (σ 99) (σ 101) (nI G) t).1 (tk (σ 99) (σ 101) (nI G) t).2 (nI t) = some ((tk (σ 99) (σ 101) (nI G) T).1, τ) ∧ onlyR σ τ := by
  intro d
  induction d with
  | zero =>
    intro t m σ h1 h2 h3 h
    obtain ⟨m, rfl⟩ : ∃ q, m = q + 1 := ⟨m - 1, by omega⟩
    have : t = T := by omega
    subst this
    refine ⟨σ, ?_, fun _ _ _ _ => rfl⟩
    show fX11_takenNow_b7 _ _ _ _ _ = _
    unfold fX11_takenNow_b7
    rw [h.1.2.1.2.2.2, if_pos (nI_le (Nat.le_refl _) (by have := h.1.1; omega))]
  | succ d ih =>
    intro t m σ h1 h2 h3 h
    obtain ⟨m, rfl⟩ : ∃ q, m = q + 1 := ⟨m - 1, by omega⟩
    have ht : t < T := by omega
    have hb := h.1.1
    obtain ⟨τ, p1, p2, -, -, -⟩ := val_s h ht
    have hn1 : nI t + 1 = nI (t + 1) := nI_1 t
    obtain ⟨ρ, q1, q2⟩ := ih (t + 1) m τ (by omega) (by omega) (by omega) (h.cg p2.e)
    rw [p2.c (k := 99) (by omega) (by omega), p2.c (k := 101) (by omega) (by omega)] at q1
    refine ⟨ρ, ?_, p2.tr q2⟩
    show fX11_takenNow_b7 _ _ _ _ _ = _
    unfold fX11_takenNow_b7 fX11_takenNow_b33 fX11_takenNow_b46
    rw [h.1.2.1.2.2.2, if_neg (nI_ge ht (by omega)), p1]
    simp only [obp, ol]
    rw [hn1, ← q1]
    have et : tk (σ 99) (σ 101) (nI G) (t + 1) = if vl (σ 99) (σ 101) (nI G) t ≤ (tk (σ 99) (σ 101) (nI G) t).2 then tk (σ 99) (σ 101) (nI G) t else (nI t, vl (σ 99) (σ 101) (nI G) t) := rfl
    by_cases c : vl (σ 99) (σ 101) (nI G) t ≤ (tk (σ 99) (σ 101) (nI G) t).2
    · rw [if_pos c] at et ⊢
      rw [if_pos c, et]
    · rw [if_neg c] at et ⊢
      rw [if_neg c, et]
theorem takenX_s {σ : S0} {H G B T : Nat} (h : Rall σ H G B T) : ∃ τ, fX6_tuneTaken σ = some ((tk (σ 99) (σ 101) (nI G) T).1, τ) ∧ onlyP σ τ := by
  have hb := h.1.1
  exact takenX_l _ 0 400 σ rfl (by omega) (by omega) h
theorem takenM_s {σ : S0} {H G B T : Nat} (h : Rall σ H G B T) : ∃ τ, fX11_takenNow σ = some ((tk (σ 99) (σ 101) (nI G) T).1, τ) ∧ onlyR σ τ := by
  have hb := h.1.1
  exact takenM_l _ 0 400 σ rfl (by omega) (by omega) h
theorem sim_taken : Sim fX10_taken fX11_taken := by
  intro σ hR
  obtain ⟨H, G, B, T, h⟩ := hR
  obtain ⟨τ, p1, p2⟩ := takenX_s h
  obtain ⟨ρ, q1, q2⟩ := takenM_s (h.cg p2.e)
  rw [p2 99 (by omega), p2 101 (by omega)] at q1
  refine ⟨(tk (σ 99) (σ 101) (nI G) T).1, τ, ?_, (tk (σ 99) (σ 101) (nI G) T).1, ρ, ?_, rfl, H, G, B, T, (h.cg p2.e).cg q2.e⟩
  · unfold fX10_taken; rw [p1]; rfl
  · unfold fX11_taken; rw [q1]; rfl
/-- what house h gets of a stroke of bell b -/
def gb (f : Nat → Int32) (h b : Nat) : Int32 := if f (5 * b) = nI h then (if f (5 * b + 4) = -4 then 2 * f (5 * b + 1) else f (5 * b + 1)) else if f (5 * b + 4) = nI h then f (5 * b + 1) else 0
theorem getsOf_s (σ : S0) {h b : Nat} (hh : h < 6) (hb : b < 12) : fX11_getsOf σ (nI h) (nI b) = some (gb (σ 99) h b, σ) := by
  have hm : ¬ nI h = -4 := nI_m4 (by omega)
  have hm2 : ¬ (-4 : Int32) = nI h := fun q => hm q.symm
  have O0 := of_l σ (b := b) (w := 0) (x := 0) hb (by omega) rfl
  have O1 := of_l σ (b := b) (w := 1) (x := 1) hb (by omega) rfl
  have O4 := of_l σ (b := b) (w := 4) (x := 4) hb (by omega) rfl
  rw [Nat.add_zero] at O0
  unfold fX11_getsOf fX11_getsOf_b16 gb
  simp only [O0, O1, O4, obp]
  by_cases c2 : σ 99 (5 * b + 4) = -4
  · by_cases c1 : σ 99 (5 * b) = nI h
    · simp [c1, c2]
    · simp [c1, c2, hm2]
  · by_cases c1 : σ 99 (5 * b) = nI h
    · simp [c1, c2]
    · by_cases c3 : σ 99 (5 * b + 4) = nI h
      · simp [c1, c3, hm]
      · simp [c1, c2, c3]
theorem share_s (σ : S0) {h b : Nat} (hh : h < 6) (hb : b < 12) (e0 : σ 33 b = σ 99 (5 * b)) (e1 : σ 34 b = σ 99 (5 * b + 1)) (e4 : σ 37 b = σ 99 (5 * b + 4)) : fX1_shareOf σ 32 (nI h) (nI b) = some (gb (σ 99) h b, σ) := by
  unfold fX1_shareOf fX1_partsOf gb
  have hgb := ix_ok (j := b) (n := 12) (by omega) (by omega)
  have hcb : (nI b).toNatClampNeg = b := nI_clamp (by omega)
  have hgb2 : ¬ (nI b < 0 ∨ 12 ≤ b) := fun q => hgb (by rw [hcb]; exact q)
  have hm : ¬ nI h = -4 := nI_m4 (by omega)
  have hm2 : ¬ (-4 : Int32) = nI h := fun q => hm q.symm
  simp only [og_t hgb, og_t hgb2, hcb, ol, e0, e4, Nat.reduceAdd]
  by_cases c2 : σ 99 (5 * b + 4) = -4
  · by_cases c1 : σ 99 (5 * b) = nI h
    · simp [c1, c2, obp, e1]
    · simp [c1, c2, hm2, obp, e1]
  · by_cases c1 : σ 99 (5 * b) = nI h
    · simp [c1, c2, obp, e1]
    · by_cases c3 : σ 99 (5 * b + 4) = nI h
      · simp [c1, c3, hm, obp, e1]
      · simp [c1, c2, c3, obp, e1]
/-- what house h gets of the first i strokes of tune t, those that are silent (bits s) left out -/
def gs (f g : Nat → Int32) (s : Int32) (h t : Nat) : Nat → Int32
  | 0 => 0
  | i + 1 => gs f g s h t i + (if (s >>> (nI i &&& 31)) &&& 1 = 1 then 0 else gb f h (stk g t i))
theorem getsM_l (f g : Nat → Int32) (s : Int32) {h t n : Nat} (hh : h < 6) (ht : t < 6) (ok : okT f g t n) : ∀ (d i m : Nat) (σ : S0), n - i = d → i ≤ n → d < m → σ 99 = f → σ 101 = g → σ 98 26 = s → fX11_getsNow_h10 m σ (nI h) (nI t) (gs f g s h t i) (nI i) = some (gs f g s h t n, σ) := by
  intro d
  induction d with
  | zero =>
    intro i m σ h1 h2 h3 e1 e2 e3
    obtain ⟨m, rfl⟩ : ∃ q, m = q + 1 := ⟨m - 1, by omega⟩
    have : i = n := by omega
    subst this
    show fX11_getsNow_b10 _ _ _ _ _ _ = _
    unfold fX11_getsNow_b10
    rw [strokes_s σ ht (by rw [e2]; exact ok.2.1)]
    simp only [obp]
    rw [if_pos (nI_le (Nat.le_refl _) (by have := ok.1; omega))]
  | succ d ih =>
    intro i m σ h1 h2 h3 e1 e2 e3
    obtain ⟨m, rfl⟩ : ∃ q, m = q + 1 := ⟨m - 1, by omega⟩
    have hn := ok.1
    obtain ⟨b, w, hb, hw, g1, g2⟩ := ok.2.2 i (by omega)
    have hst : stk g t i = b := by unfold stk; rw [g1]; exact nI_clamp (by omega)
    have hn1 : nI i + 1 = nI (i + 1) := nI_1 i
    have q := ih (i + 1) m σ (by omega) (by omega) (by omega) e1 e2 e3
    show fX11_getsNow_b10 _ _ _ _ _ _ = _
    unfold fX11_getsNow_b10 fX11_getsNow_b50
    rw [strokes_s σ ht (by rw [e2]; exact ok.2.1)]
    simp only [obp, ol]
    rw [if_neg (nI_ge (by omega) (by omega)), stroke_s σ ht (by omega)]
    simp only [obp]
    rw [e2, g1, getsOf_s σ hh hb, e3, hn1, e1, ← q]
    have eg : gs f g s h t (i + 1) = gs f g s h t i + (if (s >>> (nI i &&& 31)) &&& 1 = 1 then 0 else gb f h (stk g t i)) := rfl
    rw [hst] at eg
    by_cases c : (s >>> (nI i &&& 31)) &&& 1 = 1
    · rw [if_neg (by simp [c]), eg, if_pos c]
    · rw [if_pos c, eg, if_neg c]
theorem getsX_l (f g : Nat → Int32) (s : Int32) {h t n : Nat} (hh : h < 6) (ht : t < 6) (ok : okT f g t n) : ∀ (d i m : Nat) (σ : S0), n - i = d → i ≤ n → d < m → okP f g t n σ → σ 99 = f → (∀ b, (∃ i, i < n ∧ g (14 * t + 2 + i) = nI b) → b < 12 → σ 37 b = f (5 * b + 4)) → σ 40 4 = s → fX6_shareOf_h10 m σ (nI h) (nI t) (gs f g s h t i) (nI i) = some (gs f g s h t n, σ) := by
  have hgt := ix_ok (j := t) (n := 6) ht (by omega)
  have hct : (nI t).toNatClampNeg = t := nI_clamp (by omega)
  have hgt2 : ¬ (nI t < 0 ∨ 6 ≤ t) := fun q => hgt (by rw [hct]; exact q)
  intro d
  induction d with
  | zero =>
    intro i m σ h1 h2 h3 hp e1 e2 e3
    obtain ⟨m, rfl⟩ : ∃ q, m = q + 1 := ⟨m - 1, by omega⟩
    have : i = n := by omega
    subst this
    show fX6_shareOf_b10 _ _ _ _ _ _ = _
    unfold fX6_shareOf_b10
    simp only [og_t hgt, og_t hgt2, hct, ol]
    rw [hp.1, if_pos (nI_le (Nat.le_refl _) (by have := ok.1; omega))]
  | succ d ih =>
    intro i m σ h1 h2 h3 hp e1 e2 e3
    obtain ⟨m, rfl⟩ : ∃ q, m = q + 1 := ⟨m - 1, by omega⟩
    have hn := ok.1
    obtain ⟨b, hb, g1, p1, p2, p3, p4, p5, p6⟩ := hp.2.1 i (by omega)
    have hst : stk g t i = b := by unfold stk; rw [g1]; exact nI_clamp (by omega)
    have hgi := ix_ok (j := i) (n := 12) (by omega) (by omega)
    have hci : (nI i).toNatClampNeg = i := nI_clamp (by omega)
    have hgi2 : ¬ (nI i < 0 ∨ 12 ≤ i) := fun q => hgi (by rw [hci]; exact q)
    have hn1 : nI i + 1 = nI (i + 1) := nI_1 i
    have q := ih (i + 1) m σ (by omega) (by omega) (by omega) hp e1 e2 e3
    show fX6_shareOf_b10 _ _ _ _ _ _ = _
    unfold fX6_shareOf_b10 fX6_shareOf_b56 fX6_rang
    simp only [og_t hgt, og_t hgt2, hct, ol]
    rw [hp.1, if_neg (nI_ge (by omega) (by omega)), e3]
    have eg : gs f g s h t (i + 1) = gs f g s h t i + (if (s >>> (nI i &&& 31)) &&& 1 = 1 then 0 else gb f h (stk g t i)) := rfl
    rw [hst] at eg
    have hbit := bit_g (i := i) (by omega) s
    by_cases c : (s >>> (nI i &&& 31)) &&& 1 = 1
    · rw [if_pos (fun z => hbit.mp z c)]
      simp only [obp]
      rw [if_pos trivial, hn1, ← q, eg, if_pos c, Int32.add_zero]
    · rw [if_neg (fun z => z (hbit.mpr c))]
      simp only [obp]
      rw [if_neg (by decide)]
      simp only [og_t hgi, og_t hgi2, hci, Nat.one_mul, p1]
      rw [share_s σ hh hb (by rw [e1]; exact p2) (by rw [e1]; exact p3) (by rw [e1]; exact e2 b ⟨i, by omega, g1⟩ hb)]
      simp only [obp]
      rw [hn1, ← q, eg, if_neg c, e1]
end
section
theorem sharesX_s {σ : S0} {H G B T h t : Nat} (hr : Rall σ H G B T) (hh : h < H) (ht : t < T) : ∃ τ, fX6_shareOf σ (nI h) (nI t) = some (gs (σ 99) (σ 101) (rgn (σ 99) (σ 101) t).2.2.1 h t (ln (σ 101) t), τ) ∧ onlyP σ τ := by
  obtain ⟨b1, b2, b3, b4, b5⟩ := hr.1.1
  obtain ⟨τ, p1, p2, p3, p4, p5, p6⟩ := play_s hr ht
  obtain ⟨r1, r2, r3, r4⟩ := RT hr ht
  have hn := r1.1
  refine ⟨τ, ?_, p2⟩
  unfold fX6_shareOf
  rw [p1]
  simp only [obp]
  refine getsX_l (σ 99) (σ 101) _ (by omega) (by omega) r1 _ 0 400 τ rfl (by omega) (by omega) (r2.cg (by omega) p2) (p2 99 (by omega)) (fun b hb hb2 => ?_) p5
  obtain ⟨i, hi, hi2⟩ := hb
  obtain ⟨n, a1, a2, a3, a4, a5, a6, a7⟩ := hr.2.2.2.1 t ht
  have e : ln (σ 101) t = n := by unfold ln; rw [a3]; exact nI_clamp (by omega)
  rw [e] at hi
  obtain ⟨b', c1, c2, c3⟩ := a7 i hi
  have : b' = b := (nI_eq (by omega) (by omega)).mp (c2.symm.trans hi2)
  subst this
  rw [p2 37 (by omega), (hr.2.1.2.1 b' c1).2.2.2.2, Nat.zero_add]
theorem sharesM_s {σ : S0} {H G B T h t : Nat} (hr : Rall σ H G B T) (hh : h < H) (ht : t < T) : ∃ τ, fX11_getsNow σ (nI h) (nI t) = some (gs (σ 99) (σ 101) (rgn (σ 99) (σ 101) t).2.2.1 h t (ln (σ 101) t), τ) ∧ onlyR σ τ := by
  obtain ⟨b1, b2, b3, b4, b5⟩ := hr.1.1
  obtain ⟨r1, r2, r3, r4⟩ := RT hr ht
  obtain ⟨τ, q1, q2, q3, q4, q5, q6, q7⟩ := rings_s (by omega) r1
  have hn := r1.1
  refine ⟨τ, ?_, q2⟩
  unfold fX11_getsNow
  rw [q1]
  simp only [obp]
  exact getsM_l (σ 99) (σ 101) _ (by omega) (by omega) r1 _ 0 400 τ rfl (by omega) (by omega) (q2.c (by omega) (by omega)) (q2.c (by omega) (by omega)) q5
theorem sim_gets (x y : Int32) : Sim (fun σ => fX10_gets σ x y) (fun σ => fX11_gets σ x y) := by
  intro σ hR
  show An (fX10_gets σ x y) (fun r τ => An (fX11_gets τ x y) (fun q ρ => r = q ∧ R ρ))
  obtain ⟨H, G, B, T, h⟩ := id hR
  obtain ⟨⟨b1, b2, b3, b4, b5⟩, ⟨e1, e2, e5, e6⟩, e3, e4, e7⟩ := h.1
  rcases ixc x H (by omega) with ⟨w, hw, rfl⟩ | hx
  · rcases ixc y T (by omega) with ⟨t, ht, rfl⟩ | hy
    · obtain ⟨τ, p1, p2⟩ := sharesX_s h hw ht
      have h2 := h.cg p2.e
      obtain ⟨ρ, q1, q2⟩ := sharesM_s h2 hw ht
      rw [p2 99 (by omega), p2 101 (by omega)] at q1
      refine ⟨gs (σ 99) (σ 101) (rgn (σ 99) (σ 101) t).2.2.1 w t (ln (σ 101) t), τ, ?_, gs (σ 99) (σ 101) (rgn (σ 99) (σ 101) t).2.2.1 w t (ln (σ 101) t), ρ, ?_, rfl, H, G, B, T, h2.cg q2.e⟩
      · unfold fX10_gets
        rw [hh_y e3 (by omega) hw]
        simp only [obp]
        rw [if_neg (by decide), ht_y e7 (by omega) ht]
        simp only [obp]
        rw [if_neg (by decide), p1]
      · unfold fX11_gets
        rw [ih_y h2.1.2.1.1 (by omega) hw]
        simp only [obp]
        rw [if_neg (by decide), it_y h2.1.2.1.2.2.2 (by omega) ht]
        simp only [obp]
        rw [if_neg (by decide), q1]
    · refine Sim.same (fun τ => fX11_gets τ (nI w) y) (a := -1) hR ?_ ?_
      · unfold fX10_gets
        rw [hh_y e3 (by omega) hw]
        simp only [obp]
        rw [if_neg (by decide), ht_n e7 (by omega) hy]
        rfl
      · show fX11_gets σ (nI w) y = _
        unfold fX11_gets
        rw [ih_y e1 (by omega) hw]
        simp only [obp]
        rw [if_neg (by decide), it_n e6 (by omega) hy]
        rfl
  · refine Sim.same (fun τ => fX11_gets τ x y) (a := -1) hR ?_ ?_
    · unfold fX10_gets; rw [hh_n e3 (by omega) hx]; rfl
    · show fX11_gets σ x y = _
      unfold fX11_gets; rw [ih_n e1 (by omega) hx]; rfl
/-- what house h gets of the tune that is taken -/
theorem wageX_s {σ : S0} {H G B T h : Nat} (hr : Rall σ H G B T) (hh : h < H) : ∃ a τ ρ, fX6_wageOf σ (nI h) = some (a, τ) ∧ onlyP σ τ ∧ fX11_wageOf τ (nI h) = some (a, ρ) ∧ onlyR τ ρ := by
  obtain ⟨b1, b2, b3, b4, b5⟩ := hr.1.1
  obtain ⟨τ, p1, p2⟩ := takenX_s hr
  have h2 := hr.cg p2.e
  unfold fX6_wageOf fX11_wageOf
  rw [p1]
  simp only [obp]
  rcases tk_r (σ 99) (σ 101) (nI G) T with c | ⟨t, ht, c⟩
  · obtain ⟨ρ, q1, q2⟩ := takenM_s h2
    rw [p2 99 (by omega), p2 101 (by omega)] at q1
    refine ⟨0, τ, ρ, ?_, p2, ?_, q2⟩
    · rw [if_neg (by simp [c])]
    · rw [q1]
      simp only [obp]
      rw [if_neg (by simp [c])]
  · have cn : ¬ (tk (σ 99) (σ 101) (nI G) T).1 = -4 := by rw [c]; exact nI_m4 (by omega)
    obtain ⟨τ2, s1, s2⟩ := sharesX_s h2 hh ht
    have h3 := h2.cg s2.e
    obtain ⟨ρ, q1, q2⟩ := takenM_s h3
    have h4 := h3.cg q2.e
    obtain ⟨ρ2, u1, u2⟩ := sharesM_s h4 hh ht
    rw [s2 99 (by omega), s2 101 (by omega), p2 99 (by omega), p2 101 (by omega)] at q1
    rw [q2.c (k := 99) (by omega) (by omega), q2.c (k := 101) (by omega) (by omega), s2 99 (by omega), s2 101 (by omega)] at u1
    refine ⟨gs (τ 99) (τ 101) (rgn (τ 99) (τ 101) t).2.2.1 h t (ln (τ 101) t), τ2, ρ2, ?_, p2.tr s2, ?_, q2.tr u2⟩
    · rw [if_pos cn, c, s1]
    · rw [q1]
      simp only [obp]
      rw [if_pos cn, c, u1]
theorem sim_wage (x : Int32) : Sim (fun σ => fX10_wage σ x) (fun σ => fX11_wage σ x) := by
  intro σ hR
  show An (fX10_wage σ x) (fun r τ => An (fX11_wage τ x) (fun q ρ => r = q ∧ R ρ))
  obtain ⟨H, G, B, T, h⟩ := id hR
  obtain ⟨⟨b1, b2, b3, b4, b5⟩, ⟨e1, e2, e5, e6⟩, e3, e4, e7⟩ := h.1
  rcases ixc x H (by omega) with ⟨w, hw, rfl⟩ | hx
  · obtain ⟨a, τ, ρ, p1, p2, q1, q2⟩ := wageX_s h hw
    have h2 := h.cg p2.e
    refine ⟨a, τ, ?_, a, ρ, ?_, rfl, H, G, B, T, h2.cg q2.e⟩
    · unfold fX10_wage
      rw [hh_y e3 (by omega) hw]
      simp only [obp]
      rw [if_neg (by decide), p1]
    · unfold fX11_wage
      rw [ih_y h2.1.2.1.1 (by omega) hw]
      simp only [obp]
      rw [if_neg (by decide), q1]
  · refine Sim.same (fun τ => fX11_wage τ x) (a := -1) hR ?_ ?_
    · unfold fX10_wage; rw [hh_n e3 (by omega) hx]; rfl
    · show fX11_wage σ x = _
      unfold fX11_wage; rw [ih_n e1 (by omega) hx]; rfl
theorem sim_tune (x y : Int32) : Sim (fun σ => fX10_tune σ x y) (fun σ => fX11_tune σ x y) := Sim.ro (fun σ hR => by
  obtain ⟨H, G, B, T, h⟩ := hR
  obtain ⟨⟨b1, b2, b3, b4, b5⟩, ⟨e1, e2, e5, e6⟩, e3, e4, e7⟩ := h.1
  show ∃ a, fX10_tune σ x y = some (a, σ) ∧ fX11_tune σ x y = some (a, σ)
  unfold fX10_tune fX11_tune
  rcases ixc x T (by omega) with ⟨t, ht, rfl⟩ | hx
  · obtain ⟨n, a1, a2, a3, a4, a5, a6, a7⟩ := h.2.2.2.1 t ht
    have hgt := ix_ok (j := t) (n := 6) (by omega) (by omega)
    have hct : (nI t).toNatClampNeg = t := nI_clamp (by omega)
    have hgt2 : ¬ (nI t < 0 ∨ 6 ≤ t) := fun q => hgt (by rw [hct]; exact q)
    rw [ht_y e7 (by omega) ht, it_y e6 (by omega) ht]
    simp only [obp]
    have hone : ¬ (1 : Int32) = 0 := by decide
    rw [if_pos hone, if_pos hone, in_i σ y 0 1 0 1 rfl rfl]
    simp only [obp]
    have z0 : (14 : Int32) * nI t + 0 = nI (14 * t) := by rw [show (14 : Int32) = nI 14 from rfl, pk_mul, Int32.add_zero]
    have z1 : (14 : Int32) * nI t + 1 = nI (14 * t + 1) := by rw [show (14 : Int32) = nI 14 from rfl, pk_mul, nI_1]
    by_cases y0 : y = 0
    · subst y0
      refine ⟨σ 23 t, ?_, ?_⟩
      · rw [if_neg (by simp)]
        simp only [og_t hgt, og_t hgt2, hct, ol]
      · rw [if_neg (by decide)]
        simp only [ol]
        rw [z0, og_t (ix_ok (by omega) (by omega)), nI_clamp (by omega), a5]
    · by_cases y1 : y = 1
      · subst y1
        refine ⟨nI n, ?_, ?_⟩
        · rw [if_pos (by decide), if_neg (by simp)]
          simp only [og_t hgt, og_t hgt2, hct, ol]
          rw [a4]
        · rw [if_neg (by decide)]
          simp only [ol]
          rw [z1, og_t (ix_ok (by omega) (by omega)), nI_clamp (by omega), a3]
      · have i0 : ¬ y.toInt = 0 := fun q => y0 ((i3_eq _ _).mpr q)
        have i1 : ¬ y.toInt = 1 := fun q => y1 ((i3_eq _ _).mpr q)
        have hy : ¬ (0 ≤ y.toInt ∧ y.toInt ≤ 1) := by omega
        rw [if_pos y0, if_pos y1, if_neg hy, if_pos rfl]
        have hs := strokes_s σ (t := t) (by omega) a3
        have e9 : (9 + nI n : Int32) = nI (9 + n) := nI_add 9 n
        have e10 : (10 + nI n : Int32) = nI (10 + n) := nI_add 10 n
        rw [hs]
        simp only [obp]
        rw [in_i σ y 10 _ 10 (9 + n) rfl (by rw [Int32.toInt_toInt64, e9, ir (by omega)]; omega)]
        simp only [obp]
        unfold fX9_asksStroke
        have hlt : y < 10 ↔ y.toInt < 10 := i3_lt _ _
        have hle : nI (10 + n) ≤ y ↔ ((10 + n : Nat) : Int) ≤ y.toInt := by rw [i3_le, ir (by omega)]
        simp only [og_t hgt, og_t hgt2, hct, ol, Nat.reduceAdd, a4, e10]
        by_cases c : 10 ≤ y.toInt ∧ y.toInt ≤ 9 + n
        · obtain ⟨i, hi, hi2⟩ : ∃ i, i < n ∧ y = nI (10 + i) := by
            refine ⟨(y.toInt - 10).toNat, by omega, (i3_eq _ _).mpr ?_⟩
            rw [ir (by omega)]
            omega
          obtain ⟨b, c1, c2, c3⟩ := a7 i hi
          have e : y - 10 = nI i := by
            rw [hi2]
            exact (i3_eq _ _).mpr (by rw [i3_sub] <;> rw [ir (by omega), show (10 : Int32).toInt = 10 from rfl] <;> (try rw [ir (by omega)]) <;> omega)
          have hgi := ix_ok (j := i) (n := 12) (by omega) (by omega)
          have hci : (nI i).toNatClampNeg = i := nI_clamp (by omega)
          refine ⟨nI b, ?_, ?_⟩
          · rw [if_neg (by rw [hlt]; omega), if_neg (by rw [hle]; omega)]
            simp only
            rw [if_neg (by decide), e, og_t hgi, hci, Nat.one_mul, c3]
          · rw [if_pos c, if_neg (by decide), e, stroke_s σ (by omega) (by omega), c2]
        · refine ⟨-1, ?_, ?_⟩
          · by_cases c4 : y.toInt < 10
            · rw [if_pos (hlt.mpr c4)]; rfl
            · rw [if_neg (by rw [hlt]; exact c4), if_pos (hle.mpr (by omega))]; rfl
          · rw [if_neg c, if_pos rfl]
  · refine ⟨-1, ?_, ?_⟩
    · rw [ht_n e7 (by omega) hx]; rfl
    · rw [it_n e6 (by omega) hx]; rfl)
end
section
/-- the storm, after i bells: what house h gets, how many bells are its own, twice all fees -/
def sto (f : Nat → Int32) (h : Nat) : Nat → Int32 × Int32 × Int32
  | 0 => (0, 0, 0)
  | i + 1 => ((sto f h i).1 + gb f h i, (sto f h i).2.1 + (if f (5 * i) = nI h then 1 else 0), (sto f h i).2.2 + 2 * f (5 * i + 1))
def stoA (f : Nat → Int32) (h B : Nat) (y : Int32) : Int32 := if ¬ y = 0 then nI B * (sto f h B).1 - (sto f h B).2.2 * (sto f h B).2.1 + 100000 else (sto f h B).1
theorem stormM_l (y : Int32) {h B : Nat} (hh : h < 6) (hB : B ≤ 12) (σ : S0) (e : σ 98 4 = nI B) : ∀ (d i m : Nat), B - i = d → i ≤ B → d < m → fX11_storm_h31 m σ (nI h) y (sto (σ 99) h i).1 (sto (σ 99) h i).2.2 (sto (σ 99) h i).2.1 (nI i) = some (stoA (σ 99) h B y, σ) := by
  intro d
  induction d with
  | zero =>
    intro i m h1 h2 h3
    obtain ⟨m, rfl⟩ : ∃ q, m = q + 1 := ⟨m - 1, by omega⟩
    have : i = B := by omega
    subst this
    show fX11_storm_b31 _ _ _ _ _ _ _ _ = _
    unfold fX11_storm_b31 stoA
    rw [e, if_pos (nI_le (Nat.le_refl _) (by omega))]
    by_cases c : y = 0
    · simp [c]
    · simp [c]
  | succ d ih =>
    intro i m h1 h2 h3
    obtain ⟨m, rfl⟩ : ∃ q, m = q + 1 := ⟨m - 1, by omega⟩
    have hn1 : nI i + 1 = nI (i + 1) := nI_1 i
    have hi : i < 12 := by omega
    have q := ih (i + 1) m (by omega) (by omega) (by omega)
    have O0 := of_l σ (b := i) (w := 0) (x := 0) hi (by omega) rfl
    have O1 := of_l σ (b := i) (w := 1) (x := 1) hi (by omega) rfl
    rw [Nat.add_zero] at O0
    show fX11_storm_b31 _ _ _ _ _ _ _ _ = _
    unfold fX11_storm_b31 fX11_storm_b82 fX11_flag
    rw [e, if_neg (nI_ge (by omega) (by omega)), getsOf_s σ hh hi]
    simp only [obp, ol, O1, O0, hn1]
    rw [← q]
    have es : sto (σ 99) h (i + 1) = ((sto (σ 99) h i).1 + gb (σ 99) h i, (sto (σ 99) h i).2.1 + (if σ 99 (5 * i) = nI h then 1 else 0), (sto (σ 99) h i).2.2 + 2 * σ 99 (5 * i + 1)) := rfl
    rw [es]
    by_cases c : σ 99 (5 * i) = nI h
    · simp [c]
    · simp [c]
theorem stormX_l (y : Int32) {h B : Nat} (hh : h < 6) (hB : B ≤ 12) (σ : S0) (e : σ 32 0 = nI B) (hk : ∀ b, b < B → σ 33 b = σ 99 (5 * b) ∧ σ 34 b = σ 99 (5 * b + 1) ∧ σ 37 b = σ 99 (5 * b + 4)) : ∀ (d i m : Nat), B - i = d → i ≤ B → d < m → fX10_storm_h33 m σ (nI h) y (sto (σ 99) h i).1 (sto (σ 99) h i).2.1 (sto (σ 99) h i).2.2 (nI i) = some (stoA (σ 99) h B y, σ) := by
  intro d
  induction d with
  | zero =>
    intro i m h1 h2 h3
    obtain ⟨m, rfl⟩ : ∃ q, m = q + 1 := ⟨m - 1, by omega⟩
    have : i = B := by omega
    subst this
    show fX10_storm_b33 _ _ _ _ _ _ _ _ = _
    unfold fX10_storm_b33 stoA
    rw [e, if_pos (nI_le (Nat.le_refl _) (by omega))]
    by_cases c : y = 0
    · simp [c]
    · simp [c]
  | succ d ih =>
    intro i m h1 h2 h3
    obtain ⟨m, rfl⟩ : ∃ q, m = q + 1 := ⟨m - 1, by omega⟩
    have hn1 : nI i + 1 = nI (i + 1) := nI_1 i
    have hi : i < 12 := by omega
    have q := ih (i + 1) m (by omega) (by omega) (by omega)
    obtain ⟨k0, k1, k4⟩ := hk i (by omega)
    have hg := ix_ok (j := i) (n := 12) hi (by omega)
    have hc : (nI i).toNatClampNeg = i := nI_clamp (by omega)
    have hg2 : ¬ (nI i < 0 ∨ 12 ≤ i) := fun q => hg (by rw [hc]; exact q)
    show fX10_storm_b33 _ _ _ _ _ _ _ _ = _
    unfold fX10_storm_b33 fX10_storm_b79
    rw [e, if_neg (nI_ge (by omega) (by omega)), share_s σ hh hi k0 k1 k4]
    simp only [obp, ol, og_t hg, og_t hg2, hc, k0, k1, hn1]
    rw [← q]
    have es : sto (σ 99) h (i + 1) = ((sto (σ 99) h i).1 + gb (σ 99) h i, (sto (σ 99) h i).2.1 + (if σ 99 (5 * i) = nI h then 1 else 0), (sto (σ 99) h i).2.2 + 2 * σ 99 (5 * i + 1)) := rfl
    rw [es]
    by_cases c : σ 99 (5 * i) = nI h
    · simp [c]
    · simp [c]
theorem sim_storm (x y : Int32) : Sim (fun σ => fX10_storm σ x y) (fun σ => fX11_storm σ x y) := Sim.ro (fun σ hR => by
  obtain ⟨H, G, B, T, h⟩ := hR
  obtain ⟨⟨b1, b2, b3, b4, b5⟩, ⟨e1, e2, e5, e6⟩, e3, e4, e7⟩ := h.1
  show ∃ a, fX10_storm σ x y = some (a, σ) ∧ fX11_storm σ x y = some (a, σ)
  unfold fX10_storm fX11_storm
  rcases ixc x H (by omega) with ⟨w, hw, rfl⟩ | hx
  · rw [hh_y e3 (by omega) hw, ih_y e1 (by omega) hw]
    simp only [obp]
    have hone : ¬ (1 : Int32) = 0 := by decide
    rw [if_neg hone, if_neg hone, in_i σ y 0 1 0 1 rfl rfl]
    simp only [obp]
    have hl : y < 0 ↔ y.toInt < 0 := i3_lt _ _
    have hl1 : y ≤ 1 ↔ y.toInt ≤ 1 := i3_le _ _
    by_cases c : 0 ≤ y.toInt ∧ y.toInt ≤ 1
    · refine ⟨stoA (σ 99) w B y, ?_, ?_⟩
      · rw [if_neg (by rw [hl]; omega), if_pos (hl1.mpr c.2)]
        refine stormX_l y (by omega) b4 σ h.2.1.1 (fun b hb => ?_) _ 0 400 rfl (by omega) (by omega)
        obtain ⟨k0, k1, k2, k3, k4⟩ := h.2.1.2.1 b hb
        simp only [Nat.zero_add] at k0 k1 k4
        exact ⟨k0, k1, k4⟩
      · rw [if_pos c, if_pos hone]
        exact stormM_l y (by omega) b4 σ e5 _ 0 400 rfl (by omega) (by omega)
    · refine ⟨-1, ?_, ?_⟩
      · by_cases c2 : y.toInt < 0
        · rw [if_pos (hl.mpr c2)]
        · rw [if_neg (by rw [hl]; exact c2), if_neg (by rw [hl1]; omega)]
      · rw [if_neg c]; rfl
  · refine ⟨-1, ?_, ?_⟩
    · rw [hh_n e3 (by omega) hx]; rfl
    · rw [ih_n e1 (by omega) hx]; rfl)
end
section
def nar (l : Nat) (v : Int32) : Int32 := if l = 0 then v.toInt8.toInt32 else if l = 1 then v.toInt16.toInt32 else v
theorem put_s {σ : S0} {k l j : Nat} (v : Int32) (e : σ k 0 = nI l) (hl : l < 3) (hj : j < 40) : fX7_put σ k (nI j) v = some (0, su σ (k + 1) j (nar l v)) := by
  have hg := ix_ok (j := j) (n := 40) hj (by omega)
  have hc : (nI j).toNatClampNeg = j := nI_clamp (by omega)
  have hg2 : ¬ (nI j < 0 ∨ 40 ≤ j) := fun q => hg (by rw [hc]; exact q)
  unfold fX7_put nar
  rw [e]
  simp only [og_t hg, og_t hg2, hc, ol]
  rcases (show l = 0 ∨ l = 1 ∨ l = 2 by omega) with rfl | rfl | rfl
  · rw [if_neg (by decide), if_pos rfl]
  · rw [if_pos (by decide), if_neg (by decide), if_neg (by decide), if_pos rfl]
  · rw [if_pos (by decide), if_pos (by decide), if_neg (by decide), if_neg (by decide)]
theorem sim_lay (x y v : Int32) : Sim (fun σ => fX10_lay σ x y v) (fun σ => fX11_lay σ x y v) := by
  intro σ hR
  show An (fX10_lay σ x y v) (fun r τ => An (fX11_lay τ x y v) (fun q ρ => r = q ∧ R ρ))
  obtain ⟨H, G, B, T, h⟩ := id hR
  have hone : ¬ (1 : Int32) = 0 := by decide
  rcases ixc x 4 (by omega) with ⟨k, hk, rfl⟩ | hx
  · have hv : 0 ≤ (nI k).toInt ∧ (nI k).toInt < 4 := by rw [ir (by omega)]; omega
    have hv2 : (0 ≤ (nI k).toInt ∧ (nI k).toInt < 4) ∧ (0 ≤ (0 : Int32).toInt ∧ (0 : Int32).toInt < 3) := ⟨hv, by decide⟩
    have hg := ix_ok (j := k) (n := 4) (by omega) (by omega)
    have hc : (nI k).toNatClampNeg = k := nI_clamp (by omega)
    have hg2 : ¬ (nI k < 0 ∨ 4 ≤ k) := fun q => hg (by rw [hc]; exact q)
    obtain ⟨hs, hs2⟩ := h.2.2.2.2.2.2.1 k hk
    rcases hs with ⟨s1, s2⟩ | ⟨l, n, hl, hn, s1, s2, s3, s4⟩
    · refine Sim.same (fun τ => fX11_lay τ (nI k) y v) (a := -11) hR ?_ ?_
      · unfold fX10_lay fX7_faultAt fX7_isNothing
        rw [xs_s, if_pos hv]
        simp only [obp, ol, og_t hg, og_t hg2, hc]
        rw [if_pos hone, s2, if_neg (by decide)]
        simp only
        rw [if_neg hone]
        simp only
        rw [if_neg hone]
        rfl
      · show fX11_lay _ _ _ _ = _
        unfold fX11_lay
        rw [ms_s, if_pos hv2]
        simp only [obp, ol, og_t hg, og_t hg2, hc]
        rw [if_pos hone, s1, if_neg (by decide)]
    · have nl1 : ¬ nI l = -1 := fun q => by
        have := (i3_eq _ _).mp q
        rw [ir (by omega), show (-1 : Int32).toInt = -1 from rfl] at this
        omega
      have nl4 : ¬ nI l = -4 := nI_m4 (by omega)
      have hX : fX10_lay σ (nI k) y v = if y < 0 then some (-12, σ) else if y < nI n then obp (fX7_put σ (90 + 2 * k) y v) (fun _ σ12 => some (1, σ12)) else some (-12, σ) := by
        unfold fX10_lay fX7_faultAt fX7_faultAt_b31 fX7_isNothing
        rw [xs_s, if_pos hv]
        simp only [obp, ol, og_t hg, og_t hg2, hc]
        rw [if_pos hone, s2, if_pos nl1]
        simp only [obp]
        rw [if_pos trivial, if_pos s2.symm, s4]
        by_cases c1 : y < 0
        · rw [if_pos c1, if_pos c1]; simp only; rw [if_neg (by decide)]; rfl
        · rw [if_neg c1, if_neg c1]
          by_cases c2 : y < nI n
          · rw [if_pos c2, if_pos c2]; rfl
          · rw [if_neg c2, if_neg c2]; simp only; rw [if_neg (by decide)]; rfl
      have hM : ∀ τ : S0, τ 108 k = nI l → τ 109 k = nI n → fX11_lay τ (nI k) y v = if 0 ≤ y.toInt ∧ y.toInt ≤ (n : Int) - 1 then fX11_lay_b85 τ (nar l v) (40 * nI k + y) else some (-12, τ) := fun τ t1 t2 => by
        unfold fX11_lay nar
        rw [ms_s, if_pos hv2]
        simp only [obp, ol, og_t hg, og_t hg2, hc]
        rw [if_pos hone, t1, if_pos nl4, t2]
        have en : (nI n - 1).toInt = (n : Int) - 1 := by
          rw [i3_sub] <;> rw [ir (by omega), show (1 : Int32).toInt = 1 from rfl] <;> omega
        rw [in_i τ y 0 _ 0 ((n : Int) - 1) rfl (by rw [Int32.toInt_toInt64, en])]
        by_cases c : 0 ≤ y.toInt ∧ y.toInt ≤ (n : Int) - 1
        · rw [if_pos c, if_pos c]
          simp only
          rw [if_pos hone, t1]
          rcases (show l = 0 ∨ l = 1 ∨ l = 2 by omega) with rfl | rfl | rfl
          · rw [if_neg (by decide), if_pos rfl]
          · rw [if_pos (by decide), if_neg (by decide), if_neg (by decide), if_pos rfl]
          · rw [if_pos (by decide), if_pos (by decide), if_neg (by decide), if_neg (by decide)]
        · rw [if_neg c, if_neg c]; rfl
      rcases ixc y n (by omega) with ⟨j, hj, rfl⟩ | hy
      · refine ⟨1, su σ (91 + 2 * k) j (nar l v), ?_, 1, su (su σ (91 + 2 * k) j (nar l v)) 110 (40 * k + j) (nar l v), ?_, rfl, H, G, B, T, R_sh h ?_ (fun z hz => by rw [su_ne (by omega), su_ne (by omega)])⟩
        · rw [hX, if_neg (nI_pos (by omega)), if_pos (by rw [i3_lt, ir (by omega), ir (by omega)]; omega), put_s v s2 hl (by omega), show 90 + 2 * k + 1 = 91 + 2 * k by omega]
          rfl
        · rw [hM _ (by rw [su_ne (by omega)]; exact s1) (by rw [su_ne (by omega)]; exact s3), ir (by omega), if_pos (by omega)]
          unfold fX11_lay_b85
          have e : (40 : Int32) * nI k + nI j = nI (40 * k + j) := by rw [show (40 : Int32) = nI 40 from rfl, pk_mul, nI_add]
          simp only [ol]
          rw [e, og_t (ix_ok (by omega) (by omega)), nI_clamp (by omega)]
        · intro i hi
          have hsi := h.2.2.2.2.2.2.1 i hi
          rw [su_ne (x := 108) (by omega), su_ne (x := 108) (by omega), su_ne (x := 109) (by omega), su_ne (x := 109) (by omega), su_ne (x := 90 + 2 * i) (by omega), su_ne (x := 90 + 2 * i) (by omega)]
          refine ⟨hsi.1, fun b hb => ?_⟩
          rw [su_ne (x := 91 + 2 * i) (by omega)]
          by_cases hik : i = k
          · subst hik
            by_cases hbj : b = j
            · subst hbj
              rw [su_s, su_s]
            · rw [su_j (by omega), su_j (by omega), su_ne (by omega)]
              exact hsi.2 b hb
          · rw [su_ne (by omega), su_j (by omega), su_ne (by omega)]
            exact hsi.2 b hb
      · refine Sim.same (fun τ => fX11_lay τ (nI k) y v) (a := -12) hR ?_ ?_
        · rw [hX]
          by_cases c1 : y < 0
          · rw [if_pos c1]
          · rw [if_neg c1, if_neg (by rw [i3_lt] at c1 ⊢; rw [ir (by omega)]; rw [show (0 : Int32).toInt = 0 from rfl] at c1; omega)]
        · show fX11_lay _ _ _ _ = _
          rw [hM σ s1 s3, if_neg (by omega)]
  · refine Sim.same (fun τ => fX11_lay τ x y v) (a := -1) hR ?_ ?_
    · unfold fX10_lay
      rw [xs_s, if_neg (by omega)]
      rfl
    · show fX11_lay _ _ _ _ = _
      unfold fX11_lay
      rw [ms_s, if_neg (by omega)]
      rfl
end
