section
/-! ASKS: what a house would get, if it asked so much -/
abbrev bitp (x : Int32) (j : Nat) : Prop := (x >>> (nI j &&& 31)) &&& 1 = 1
theorem bit_h {j : Nat} (hj : j < 31) (x : Int32) : bitp x j ↔ x.toBitVec.getLsbD j = true := by
  unfold bitp
  rw [← Int32.toBitVec_inj, Int32.toBitVec_and, Int32.toBitVec_shiftRight, show ∀ (v w : BitVec 32), v.sshiftRight' w = v.sshiftRight w.toNat from fun _ _ => rfl, bit_b ⟨j, hj⟩]
  show (_ &&& 1#32 = 1#32) ↔ _
  rw [show (1#32 : BitVec 32) = BitVec.twoPow 32 0 from rfl, BitVec.and_twoPow, BitVec.getLsbD_sshiftRight]
  have : j + 0 < 32 := by omega
  have h32 : ¬ 32 ≤ j := by omega
  have h0 : ¬ 0#32 = BitVec.twoPow 32 0 := by decide
  simp only [this, if_true, Nat.add_zero]
  by_cases c : x.toBitVec.getLsbD j = true
  · simp [c, h32]
  · simp [c, h0, h32]
theorem bit_or {i j : Nat} (hi : i < 31) (hj : j < 31) (x : Int32) : bitp (x ||| ((1 : Int32) <<< (nI i &&& 31))) j ↔ bitp x j ∨ i = j := by
  rw [bit_h hj, bit_h hj, Int32.toBitVec_or, bit_a ⟨i, hi⟩, BitVec.getLsbD_or, BitVec.getLsbD_twoPow]
  have : j < 32 := by omega
  by_cases c : x.toBitVec.getLsbD j = true
  · simp [c]
  · by_cases q : i = j
    · simp [c, q, this]
    · simp [c, q]
theorem bit_0 {j : Nat} (hj : j < 31) : ¬ bitp 0 j := by
  rw [bit_h hj]
  simp
abbrev si (f g : Nat → Int32) (t i : Nat) : Prop := sil f (stk g t i) (rg f g t i).2.2.2.2
theorem rg_bit (f g : Nat → Int32) (t : Nat) : ∀ (i j : Nat), i ≤ 12 → j < 31 → (bitp (rg f g t i).2.2.1 j ↔ j < i ∧ si f g t j)
  | 0, j, _, hj => by
    constructor
    · intro q; exact absurd q (bit_0 hj)
    · intro q; omega
  | i + 1, j, hi, hj => by
    have ih := rg_bit f g t i j (by omega) hj
    by_cases c : si f g t i
    · have e : (rg f g t (i + 1)).2.2.1 = (rg f g t i).2.2.1 ||| ((1 : Int32) <<< (nI i &&& 31)) := by
        rw [rg, if_pos c]
      rw [e, bit_or (by omega) hj, ih]
      constructor
      · rintro (⟨q1, q2⟩ | rfl)
        · exact ⟨by omega, q2⟩
        · exact ⟨by omega, c⟩
      · rintro ⟨q1, q2⟩
        by_cases q : i = j
        · exact Or.inr q
        · exact Or.inl ⟨by omega, q2⟩
    · have e : (rg f g t (i + 1)).2.2.1 = (rg f g t i).2.2.1 := by
        rw [rg, if_neg c]
      rw [e, ih]
      constructor
      · rintro ⟨q1, q2⟩; exact ⟨by omega, q2⟩
      · rintro ⟨q1, q2⟩
        by_cases q : i = j
        · subst q; exact absurd q2 c
        · exact ⟨by omega, q2⟩
/-- the fees of house h's bells set to a -/
def fs (f : Nat → Int32) (h : Nat) (a : Int32) (B : Nat) : Nat → Int32 := fun i => if i % 5 = 1 ∧ i / 5 < B ∧ f (5 * (i / 5)) = nI h then a else f i
theorem fs_n {f : Nat → Int32} {h : Nat} {a : Int32} {B i : Nat} (q : i % 5 ≠ 1 ∨ 5 * B ≤ i) : fs f h a B i = f i := by
  unfold fs
  rw [if_neg (by omega)]
theorem fs_1 {f : Nat → Int32} {h : Nat} {a : Int32} {B b : Nat} (hb : b < B) : fs f h a B (5 * b + 1) = if f (5 * b) = nI h then a else f (5 * b + 1) := by
  unfold fs
  have e : (5 * b + 1) / 5 = b := by omega
  rw [e]
  by_cases c : f (5 * b) = nI h
  · rw [if_pos ⟨by omega, hb, c⟩, if_pos c]
  · rw [if_neg (fun q => c q.2.2), if_neg c]
theorem fs_o {f : Nat → Int32} {h : Nat} {a : Int32} {B b d : Nat} (hd : d ≠ 1) (h5 : d < 5) : fs f h a B (5 * b + d) = f (5 * b + d) := fs_n (by omega)
theorem fs_5 {f : Nat → Int32} {h : Nat} {a : Int32} {B b : Nat} : fs f h a B (5 * b) = f (5 * b) := fs_n (by omega)
theorem fs_60 {f : Nat → Int32} {h : Nat} {a : Int32} {B x : Nat} (hB : B ≤ 12) : fs f h a B (60 + x) = f (60 + x) := fs_n (by omega)
/-- how many halves of a fee house h has in bell b -/
def pp (f : Nat → Int32) (h b : Nat) : Int32 := if f (5 * b) = nI h then (if f (5 * b + 4) = -4 then 2 else 1) else if f (5 * b + 4) = nI h then 1 else 0
/-- own fees, own strokes, own halves, fees of others' that come in -/
def ws (f g : Nat → Int32) (h t : Nat) : Nat → Int32 × Int32 × Int32 × Int32
  | 0 => (0, 0, 0, 0)
  | i + 1 => if si f g t i then ws f g h t i else if f (5 * stk g t i) = nI h then ((ws f g h t i).1 + f (5 * stk g t i + 1), (ws f g h t i).2.1 + 1, (ws f g h t i).2.2.1 + pp f h (stk g t i), (ws f g h t i).2.2.2) else ((ws f g h t i).1, (ws f g h t i).2.1, (ws f g h t i).2.2.1, (ws f g h t i).2.2.2 + pp f h (stk g t i) * f (5 * stk g t i + 1))
theorem sil_fs {f : Nat → Int32} {h : Nat} {a : Int32} {B b : Nat} {l : Int32} (hB : B ≤ 12) : sil (fs f h a B) b l ↔ sil f b l := by
  unfold sil
  rw [fs_o (d := 3) (by omega) (by omega), fs_60 hB, fs_5]
theorem rg_fs {f g : Nat → Int32} {h t B n : Nat} {a : Int32} (hB : B ≤ 12) (hs : ∀ i, i < n → stk g t i < B) : ∀ i, i ≤ n → (rg (fs f h a B) g t i).2 = (rg f g t i).2 ∧ (rg (fs f h a B) g t i).1 + (ws f g h t i).1 = (rg f g t i).1 + a * (ws f g h t i).2.1
  | 0, _ => ⟨rfl, by simp [rg, ws]⟩
  | i + 1, hi => by
    obtain ⟨i1, i2⟩ := rg_fs (h := h) (a := a) (f := f) (g := g) (t := t) hB hs i (by omega)
    have hb := hs i (by omega)
    have hss : sil (fs f h a B) (stk g t i) (rg (fs f h a B) g t i).2.2.2.2 ↔ sil f (stk g t i) (rg f g t i).2.2.2.2 := by rw [i1]; exact sil_fs hB
    by_cases c : si f g t i
    · have e1 : rg (fs f h a B) g t (i + 1) = ((rg (fs f h a B) g t i).1, (rg (fs f h a B) g t i).2.1, (rg (fs f h a B) g t i).2.2.1 ||| ((1 : Int32) <<< (nI i &&& 31)), (rg (fs f h a B) g t i).2.2.2.1 + 1, (rg (fs f h a B) g t i).2.2.2.2) := by rw [rg, if_pos (hss.mpr c)]
      have e2 : rg f g t (i + 1) = ((rg f g t i).1, (rg f g t i).2.1, (rg f g t i).2.2.1 ||| ((1 : Int32) <<< (nI i &&& 31)), (rg f g t i).2.2.2.1 + 1, (rg f g t i).2.2.2.2) := by rw [rg, if_pos c]
      have e3 : ws f g h t (i + 1) = ws f g h t i := by rw [ws, if_pos c]
      rw [e1, e2, e3]
      simp only [i1]
      exact ⟨trivial, i2⟩
    · have e1 : rg (fs f h a B) g t (i + 1) = ((rg (fs f h a B) g t i).1 + fs f h a B (5 * stk g t i + 1), (rg (fs f h a B) g t i).2.1 + fs f h a B (5 * stk g t i + 2), (rg (fs f h a B) g t i).2.2.1, (rg (fs f h a B) g t i).2.2.2.1, fs f h a B (5 * stk g t i)) := by rw [rg, if_neg (fun q => c (hss.mp q))]
      have e2 : rg f g t (i + 1) = ((rg f g t i).1 + f (5 * stk g t i + 1), (rg f g t i).2.1 + f (5 * stk g t i + 2), (rg f g t i).2.2.1, (rg f g t i).2.2.2.1, f (5 * stk g t i)) := by rw [rg, if_neg c]
      rw [e1, e2, fs_o (d := 2) (by omega) (by omega), fs_5, fs_1 hb, ws, if_neg c]
      simp only [i1]
      refine ⟨trivial, ?_⟩
      by_cases q : f (5 * stk g t i) = nI h
      · rw [if_pos q, if_pos q]
        simp only
        grind
      · rw [if_neg q, if_neg q]
        simp only
        grind
theorem vl_fs {f g : Nat → Int32} {h t B : Nat} {a G : Int32} (hB : B ≤ 12) (hs : ∀ i, i < ln g t → stk g t i < B) : vl (fs f h a B) g G t = vl f g G t + (ws f g h t (ln g t)).1 - a * (ws f g h t (ln g t)).2.1 := by
  obtain ⟨i1, i2⟩ := rg_fs (h := h) (a := a) (f := f) (g := g) (t := t) hB hs (ln g t) (Nat.le_refl _)
  unfold vl rgn
  rw [i1]
  grind
theorem gb_fs {f : Nat → Int32} {h b B : Nat} {a : Int32} (hb : b < B) : gb (fs f h a B) h b = if f (5 * b) = nI h then a * pp f h b else pp f h b * f (5 * b + 1) := by
  unfold gb pp
  rw [fs_5, fs_o (d := 4) (by omega) (by omega), fs_1 hb]
  by_cases c1 : f (5 * b) = nI h
  · simp only [if_pos c1]
    by_cases c2 : f (5 * b + 4) = -4
    · simp only [if_pos c2]; grind
    · simp only [if_neg c2]; grind
  · simp only [if_neg c1]
    by_cases c2 : f (5 * b + 4) = nI h
    · simp only [if_pos c2]; grind
    · simp only [if_neg c2]; grind
theorem gs_fs {f g : Nat → Int32} {h t B n : Nat} {a : Int32} (hn : n ≤ 12) (hs : ∀ i, i < n → stk g t i < B) : ∀ i, i ≤ n → gs (fs f h a B) g (rg f g t n).2.2.1 h t i = a * (ws f g h t i).2.2.1 + (ws f g h t i).2.2.2
  | 0, _ => by simp [gs, ws]
  | i + 1, hi => by
    have ih := gs_fs (h := h) (a := a) (f := f) (g := g) (t := t) hn hs i (by omega)
    have hb := hs i (by omega)
    have hbit := rg_bit f g t n i hn (by omega)
    rw [gs, ih, gb_fs hb, ws]
    by_cases c : si f g t i
    · rw [if_pos (hbit.mpr ⟨by omega, c⟩), if_pos c]
      grind
    · rw [if_neg (fun q => c (hbit.mp q).2), if_neg c]
      by_cases q : f (5 * stk g t i) = nI h
      · rw [if_pos q, if_pos q]
        simp only
        grind
      · rw [if_neg q, if_neg q]
        simp only
        grind
/-- what house h gets of the tune taken -/
def wgh (f g : Nat → Int32) (G : Int32) (T h : Nat) : Int32 := if (tk f g G T).1 = -4 then 0 else gs f g (rgn f g (tk f g G T).1.toNatClampNeg).2.2.1 h (tk f g G T).1.toNatClampNeg (ln g (tk f g G T).1.toNatClampNeg)
end
section
/-! the class weighs the tunes -/
theorem su_off {σ : S0} {k j x y : Nat} {v : Int32} (h : y ≠ j) : su σ k j v x y = σ x y := by
  by_cases hx : x = k
  · subst hx; exact su_j h
  · rw [su_ne hx]
theorem partsOf_s (σ : S0) {f : Nat → Int32} {h b : Nat} (hb : b < 12) (e0 : σ 33 b = f (5 * b)) (e4 : σ 37 b = f (5 * b + 4)) : fX1_partsOf σ 32 (nI h) (nI b) = some (pp f h b, σ) := by
  unfold fX1_partsOf pp
  have hgb := ix_ok (j := b) (n := 12) (by omega) (by omega)
  have hcb : (nI b).toNatClampNeg = b := nI_clamp (by omega)
  have hgb2 : ¬ (nI b < 0 ∨ 12 ≤ b) := fun q => hgb (by rw [hcb]; exact q)
  simp only [og_t hgb, og_t hgb2, hcb, ol, e0, e4, Nat.reduceAdd]
  by_cases c1 : f (5 * b) = nI h
  · rw [if_neg (fun q => q c1), if_pos c1]
    by_cases c2 : f (5 * b + 4) = -4
    · rw [if_neg (fun q => q c2), if_pos c2]
    · rw [if_pos c2, if_neg c2]
  · rw [if_pos c1, if_neg c1]
    by_cases c2 : f (5 * b + 4) = nI h
    · rw [if_neg (fun q => q c2), if_pos c2]
    · rw [if_pos c2, if_neg c2]
theorem okP.lo {f g : Nat → Int32} {t n : Nat} {a b : S0} (ht : t < 6) (h : okP f g t n a) (o : ∀ x, x < 40 → b x = a x) : okP f g t n b := by
  unfold okP at h ⊢
  rw [o 24 (by omega), o (26 + t) (by omega), o 33 (by omega), o 34 (by omega), o 35 (by omega), o 36 (by omega), o 38 (by omega)]
  exact h
theorem weighT_l (f g : Nat → Int32) (V : Int32) {h t n : Nat} (ht : t < 6) (hh : h < 6) (hn : n ≤ 12) : ∀ (d i m : Nat) (σ : S0), n - i = d → i ≤ n → d < m → okP f g t n σ → (∀ i, i < n → σ 37 (stk g t i) = f (5 * stk g t i + 4)) → σ 40 4 = (rg f g t n).2.2.1 → σ 42 t = V + (ws f g h t i).1 → σ 43 t = (ws f g h t i).2.1 → σ 44 t = (ws f g h t i).2.2.1 → σ 45 t = (ws f g h t i).2.2.2 → ∃ τ, fX0_weighTune_h44 m σ (nI h) (nI t) (nI i) = some (0, τ) ∧ (∀ x, x < 42 ∨ 45 < x → τ x = σ x) ∧ (∀ x j, j ≠ t → τ x j = σ x j) ∧ τ 42 t = V + (ws f g h t n).1 ∧ τ 43 t = (ws f g h t n).2.1 ∧ τ 44 t = (ws f g h t n).2.2.1 ∧ τ 45 t = (ws f g h t n).2.2.2 := by
  intro d
  induction d with
  | zero =>
    intro i m σ h1 h2 h3 okp h37 h40 w1 w2 w3 w4
    obtain ⟨m, rfl⟩ : ∃ q, m = q + 1 := ⟨m - 1, by omega⟩
    have : i = n := by omega
    subst this
    refine ⟨σ, ?_, fun _ _ => rfl, fun _ _ _ => rfl, w1, w2, w3, w4⟩
    show fX0_weighTune_b44 _ _ _ _ _ = _
    unfold fX0_weighTune_b44
    rw [og_t (ix_ok (by omega) (by omega)), nI_clamp (by omega)]
    simp only [ol]
    rw [okp.1, if_pos (nI_le (Nat.le_refl _) (by omega))]
  | succ d ih =>
    intro i m σ h1 h2 h3 okp h37 h40 w1 w2 w3 w4
    obtain ⟨m, rfl⟩ : ∃ q, m = q + 1 := ⟨m - 1, by omega⟩
    obtain ⟨b, hb, g1, s1, o1, o2, -⟩ := okp.2.1 i (by omega)
    have hsb : stk g t i = b := by unfold stk; rw [g1]; exact nI_clamp (by omega)
    have h37b := h37 i (by omega)
    rw [hsb] at h37b
    have s1' : σ (26 + 1 * t) i = nI b := by rw [Nat.one_mul]; exact s1
    have hgi := ix_ok (j := i) (n := 12) (by omega) (by omega)
    have hci : (nI i).toNatClampNeg = i := nI_clamp (by omega)
    have hgi2 : ¬ (nI i < 0 ∨ 12 ≤ i) := fun q => hgi (by rw [hci]; exact q)
    have hgt := ix_ok (j := t) (n := 6) (by omega) (by omega)
    have hct : (nI t).toNatClampNeg = t := nI_clamp (by omega)
    have hgt2 : ¬ (nI t < 0 ∨ 6 ≤ t) := fun q => hgt (by rw [hct]; exact q)
    have hgb := ix_ok (j := b) (n := 12) (by omega) (by omega)
    have hcb : (nI b).toNatClampNeg = b := nI_clamp (by omega)
    have hgb2 : ¬ (nI b < 0 ∨ 12 ≤ b) := fun q => hgb (by rw [hcb]; exact q)
    have hpt := partsOf_s σ (h := h) hb o1 h37b
    have hrang : fX6_rang σ (nI i) = some (if si f g t i then 0 else 1, σ) := by
      have hb1 := bit_g (i := i) (by omega) (σ 40 4)
      have hb2 := rg_bit f g t n i hn (by omega)
      rw [← h40] at hb2
      unfold fX6_rang
      by_cases c : si f g t i
      · rw [if_pos (fun q => hb1.mp q (hb2.mpr ⟨by omega, c⟩)), if_pos c]
      · rw [if_neg (fun q => q (hb1.mpr (fun q2 => c (hb2.mp q2).2))), if_neg c]
    have hone : ¬ (1 : Int32) = 0 := by decide
    have e1 : fX0_weighTune_h44 (m + 1) σ (nI h) (nI t) (nI i) = if si f g t i then fX0_weighTune_h44 m σ (nI h) (nI t) (nI (i + 1)) else if f (5 * b) = nI h then fX0_weighTune_h44 m (su (su (su σ 42 t (σ 42 t + f (5 * b + 1))) 43 t (σ 43 t + 1)) 44 t (σ 44 t + pp f h b)) (nI h) (nI t) (nI (i + 1)) else fX0_weighTune_h44 m (su σ 45 t (σ 45 t + pp f h b * f (5 * b + 1))) (nI h) (nI t) (nI (i + 1)) := by
      show fX0_weighTune_b44 _ _ _ _ _ = _
      unfold fX0_weighTune_b44 fX0_weighTune_b175
      simp only [og_t hgt, og_t hgt2, hct, ol]
      rw [okp.1, if_neg (nI_ge (by omega) (by omega)), hrang]
      simp only [obp]
      by_cases c : si f g t i
      · simp only [if_pos c]
        rw [if_neg (fun q => q trivial), nI_1]
      · simp only [if_neg c]
        rw [if_pos hone]
        simp only [og_t hgi, og_t hgi2, hci, s1', hpt, og_t hgb, og_t hgb2, hcb, o1, o2, nI_1]
        by_cases c2 : f (5 * b) = nI h
        · rw [if_neg (fun q => q c2), if_pos c2, su_ne (by omega), su_ne (by omega), su_ne (by omega)]
        · rw [if_pos c2, if_neg c2]
    rw [e1]
    have ew := ws.eq_2 f g h t i
    simp only [hsb] at ew
    by_cases c : si f g t i
    · rw [if_pos c] at ew ⊢
      rw [← ew] at w1 w2 w3 w4
      exact ih (i + 1) m σ (by omega) (by omega) (by omega) okp h37 h40 w1 w2 w3 w4
    · rw [if_neg c] at ew ⊢
      by_cases c2 : f (5 * b) = nI h
      · rw [if_pos c2] at ew ⊢
        obtain ⟨τ, t1, t2, t3, t4⟩ := ih (i + 1) m (su (su (su σ 42 t (σ 42 t + f (5 * b + 1))) 43 t (σ 43 t + 1)) 44 t (σ 44 t + pp f h b)) (by omega) (by omega) (by omega) (okp.lo ht (fun x hx => by rw [su_ne (by omega), su_ne (by omega), su_ne (by omega)])) (fun j hj => by rw [su_ne (by omega), su_ne (by omega), su_ne (by omega)]; exact h37 j hj) (by rw [su_ne (by omega), su_ne (by omega), su_ne (by omega)]; exact h40) (by rw [su_ne (by omega), su_ne (by omega), su_s, w1, ew]; exact Int32.add_assoc _ _ _) (by rw [su_ne (by omega), su_s, w2, ew]) (by rw [su_s, w3, ew]) (by rw [su_ne (by omega), su_ne (by omega), su_ne (by omega), w4, ew])
        refine ⟨τ, t1, fun x hx => ?_, fun x j hj => ?_, t4⟩
        · rw [t2 x hx, su_ne (by omega), su_ne (by omega), su_ne (by omega)]
        · rw [t3 x j hj, su_off hj, su_off hj, su_off hj]
      · rw [if_neg c2] at ew ⊢
        obtain ⟨τ, t1, t2, t3, t4⟩ := ih (i + 1) m (su σ 45 t (σ 45 t + pp f h b * f (5 * b + 1))) (by omega) (by omega) (by omega) (okp.lo ht (fun x hx => by rw [su_ne (by omega)])) (fun j hj => by rw [su_ne (by omega)]; exact h37 j hj) (by rw [su_ne (by omega)]; exact h40) (by rw [su_ne (by omega), w1, ew]) (by rw [su_ne (by omega), w2, ew]) (by rw [su_ne (by omega), w3, ew]) (by rw [su_s, w4, ew])
        refine ⟨τ, t1, fun x hx => ?_, fun x j hj => ?_, t4⟩
        · rw [t2 x hx, su_ne (by omega)]
        · rw [t3 x j hj, su_off hj]
/-- nothing but the class's row of asks has changed -/
def onlyW (σ τ : S0) : Prop := ∀ x, (x < 40 ∨ 45 < x) → τ x = σ x
theorem onlyW.tr {a b c : S0} (h1 : onlyW a b) (h2 : onlyW b c) : onlyW a c := fun k x => (h2 k x).trans (h1 k x)
theorem onlyW.rf (a : S0) : onlyW a a := fun _ _ => rfl
theorem onlyW.su {a b : S0} (h : onlyW a b) {k : Nat} (hk : 40 ≤ k ∧ k ≤ 45) (j : Nat) (v : Int32) : onlyW a (su b k j v) := fun x hx => (su_ne (by omega)).trans (h x hx)
theorem onlyW.e {a b : S0} (h : onlyW a b) : eqv a b := fun k j hr => by
  by_cases q : k < 40 ∨ 45 < k
  · rw [h k q]
  · unfold rel at hr
    have := of_decide_eq_true hr
    omega
theorem onlyP.w {a b : S0} (h : onlyP a b) : onlyW a b := fun x hx => h x (by omega)
def WT (f g : Nat → Int32) (G : Int32) (h t : Nat) (σ : S0) : Prop := σ 42 t = vl f g G t + (ws f g h t (ln g t)).1 ∧ σ 43 t = (ws f g h t (ln g t)).2.1 ∧ σ 44 t = (ws f g h t (ln g t)).2.2.1 ∧ σ 45 t = (ws f g h t (ln g t)).2.2.2
theorem stk_B {σ : S0} {H G B T t : Nat} (hr : Rall σ H G B T) (ht : t < T) : ∀ i, i < ln (σ 101) t → stk (σ 101) t i < B := fun i hi => by
  obtain ⟨n, n1, n2, n3, n4, n5, n6, n7⟩ := hr.2.2.2.1 t ht
  have hl : ln (σ 101) t = n := by unfold ln; rw [n3]; exact nI_clamp (by omega)
  rw [hl] at hi
  obtain ⟨b, c1, c2, c3⟩ := n7 i hi
  have hB := hr.1.1.2.2.2.1
  unfold stk
  rw [c2, nI_clamp (by omega)]
  exact c1
theorem weighT_s {σ : S0} {H G B T t h : Nat} (hr : Rall σ H G B T) (ht : t < T) (hh : h < H) : ∃ τ, fX0_weighTune σ (nI h) (nI t) = some (0, τ) ∧ onlyW σ τ ∧ (∀ x j, x ≠ 40 → j ≠ t → τ x j = σ x j) ∧ WT (σ 99) (σ 101) (nI G) h t τ := by
  obtain ⟨ok, okp, l1, -⟩ := RT hr ht
  obtain ⟨b1, b2, b3, b4, b5⟩ := hr.1.1
  obtain ⟨ν, p1, p2, p3, p4, p5, p6⟩ := play_s hr ht
  have hsB := stk_B hr ht
  have hgt := ix_ok (j := t) (n := 6) (by omega) (by omega)
  have hct : (nI t).toNatClampNeg = t := nI_clamp (by omega)
  have hgt2 : ¬ (nI t < 0 ∨ 6 ≤ t) := fun q => hgt (by rw [hct]; exact q)
  obtain ⟨τ, t1, t2, t3, t4⟩ := weighT_l (σ 99) (σ 101) (vl (σ 99) (σ 101) (nI G) t) (h := h) (t := t) (n := ln (σ 101) t) (by omega) (by omega) ok.1 (ln (σ 101) t) 0 400 (su (su (su (su ν 42 t (ν 40 5)) 43 t 0) 44 t 0) 45 t 0) (by omega) (by omega) (by have := ok.1; omega)
    (okp.lo (by omega) (fun x hx => by rw [su_ne (by omega), su_ne (by omega), su_ne (by omega), su_ne (by omega), p2 x (by omega)]))
    (fun i hi => by
      rw [su_ne (by omega), su_ne (by omega), su_ne (by omega), su_ne (by omega), p2 37 (by omega)]
      have := (hr.2.1.2.1 _ (hsB i hi)).2.2.2.2
      simpa using this)
    (by rw [su_ne (by omega), su_ne (by omega), su_ne (by omega), su_ne (by omega)]; exact p5)
    (by rw [su_ne (by omega), su_ne (by omega), su_ne (by omega), su_s, p6]; simp [ws])
    (by rw [su_ne (by omega), su_ne (by omega), su_s]; rfl)
    (by rw [su_ne (by omega), su_s]; rfl)
    (by rw [su_s]; rfl)
  refine ⟨τ, ?_, fun x hx => ?_, fun x j hx hj => ?_, t4⟩
  · unfold fX0_weighTune
    rw [p1]
    simp only [obp, ol, og_t hgt, og_t hgt2, hct]
    exact t1
  · rw [t2 x (by omega), su_ne (by omega), su_ne (by omega), su_ne (by omega), su_ne (by omega), p2 x (by omega)]
  · rw [t3 x j hj, su_off hj, su_off hj, su_off hj, su_off hj, p2 x hx]
theorem weigh_l {H G B T h : Nat} : ∀ (d t m : Nat) (σ : S0), T - t = d → t ≤ T → d < m → h < H → Rall σ H G B T → (∀ u, u < t → WT (σ 99) (σ 101) (nI G) h u σ) → ∃ τ, fX0_weigh_h2 m σ (nI h) (nI t) = some (0, τ) ∧ onlyW σ τ ∧ ∀ u, u < T → WT (σ 99) (σ 101) (nI G) h u τ := by
  intro d
  induction d with
  | zero =>
    intro t m σ h1 h2 h3 hh hr hw
    obtain ⟨m, rfl⟩ : ∃ q, m = q + 1 := ⟨m - 1, by omega⟩
    have hT := hr.1.1.2.2.2.2
    have : t = T := by omega
    subst this
    refine ⟨σ, ?_, onlyW.rf σ, hw⟩
    show fX0_weigh_b2 _ _ _ _ = _
    unfold fX0_weigh_b2
    rw [if_pos (show σ 22 2 ≤ nI t from by rw [hr.1.2.2.2.2]; exact nI_le (Nat.le_refl _) (by omega))]
  | succ d ih =>
    intro t m σ h1 h2 h3 hh hr hw
    obtain ⟨m, rfl⟩ : ∃ q, m = q + 1 := ⟨m - 1, by omega⟩
    have hT := hr.1.1.2.2.2.2
    obtain ⟨τ, t1, t2, t3, t4⟩ := weighT_s hr (show t < T by omega) hh
    have e99 := t2 99 (by omega)
    have e101 := t2 101 (by omega)
    obtain ⟨ν, v1, v2, v3⟩ := ih (t + 1) m τ (by omega) (by omega) (by omega) hh (hr.cg t2.e) (fun u hu => by
      rw [e99, e101]
      by_cases q : u = t
      · subst q; exact t4
      · have := hw u (by omega)
        unfold WT at this ⊢
        rw [t3 42 u (by omega) q, t3 43 u (by omega) q, t3 44 u (by omega) q, t3 45 u (by omega) q]
        exact this)
    rw [e99, e101] at v3
    refine ⟨ν, ?_, t2.tr v2, v3⟩
    show fX0_weigh_b2 _ _ _ _ = _
    unfold fX0_weigh_b2
    rw [if_neg (show ¬ (σ 22 2 ≤ nI t) from by rw [hr.1.2.2.2.2]; exact nI_ge (by omega) (by omega)), t1]
    simp only [obp, ol, nI_1]
    exact v1
theorem weigh_s {σ : S0} {H G B T h : Nat} (hr : Rall σ H G B T) (hh : h < H) : ∃ τ, fX0_weigh σ (nI h) = some (0, τ) ∧ onlyW σ τ ∧ ∀ u, u < T → WT (σ 99) (σ 101) (nI G) h u τ := weigh_l T 0 400 σ (by omega) (by omega) (by have := hr.1.1.2.2.2.2; omega) hh hr (fun u hu => by omega)
theorem brings_l {f g : Nat → Int32} {σ : S0} {G a : Int32} {T B h : Nat} (hT : T ≤ 6) (hB : B ≤ 12) (e : σ 22 2 = nI T) (hl : ∀ u, u < T → ln g u ≤ 12) (hs : ∀ u, u < T → ∀ i, i < ln g u → stk g u i < B) (hw : ∀ u, u < T → WT f g G h u σ) : ∀ (d t m : Nat), T - t = d → t ≤ T → d < m → fX0_bringsAt_h7 m σ a (wgh (fs f h a B) g G t h) (tk (fs f h a B) g G t).2 (nI t) = some (wgh (fs f h a B) g G T h, σ) := by
  intro d
  induction d with
  | zero =>
    intro t m h1 h2 h3
    obtain ⟨m, rfl⟩ : ∃ q, m = q + 1 := ⟨m - 1, by omega⟩
    have : t = T := by omega
    subst this
    show fX0_bringsAt_b7 _ _ _ _ _ _ = _
    unfold fX0_bringsAt_b7
    rw [if_pos (show σ 22 2 ≤ nI t from by rw [e]; exact nI_le (Nat.le_refl _) (by omega))]
  | succ d ih =>
    intro t m h1 h2 h3
    obtain ⟨m, rfl⟩ : ∃ q, m = q + 1 := ⟨m - 1, by omega⟩
    have hlt : t < T := by omega
    obtain ⟨w1, w2, w3, w4⟩ := hw t hlt
    have hgt := ix_ok (j := t) (n := 6) (by omega) (by omega)
    have hct : (nI t).toNatClampNeg = t := nI_clamp (by omega)
    have hgt2 : ¬ (nI t < 0 ∨ 6 ≤ t) := fun q => hgt (by rw [hct]; exact q)
    have hv := vl_fs (f := f) (h := h) (a := a) (G := G) hB (hs t hlt)
    have hg := gs_fs (f := f) (h := h) (a := a) (hl t hlt) (hs t hlt) (ln g t) (Nat.le_refl _)
    have hrg := (rg_fs (f := f) (h := h) (a := a) hB (hs t hlt) (ln g t) (Nat.le_refl _)).1
    have ih' := ih (t + 1) m (by omega) (by omega) (by omega)
    show fX0_bringsAt_b7 _ _ _ _ _ _ = _
    unfold fX0_bringsAt_b7 fX0_bringsAt_b65
    rw [if_neg (show ¬ (σ 22 2 ≤ nI t) from by rw [e]; exact nI_ge (by omega) (by omega))]
    simp only [og_t hgt, og_t hgt2, hct, ol, w1, w2, w3, w4, ← hv, nI_1]
    by_cases c : vl (fs f h a B) g G t ≤ (tk (fs f h a B) g G t).2
    · rw [if_pos c]
      unfold wgh at ih' ⊢
      rw [tk, if_pos c] at ih'
      exact ih'
    · rw [if_neg c]
      have ewg : wgh (fs f h a B) g G (t + 1) h = a * (ws f g h t (ln g t)).2.2.1 + (ws f g h t (ln g t)).2.2.2 := by
        unfold wgh
        rw [tk, if_neg c]
        simp only
        rw [if_neg (nI_m4 (by omega)), nI_clamp (by omega)]
        rw [← hg]
        unfold rgn
        rw [hrg]
      rw [ewg] at ih'
      rw [tk, if_neg c] at ih'
      exact ih'
theorem brings_s {σ τ : S0} {H G B T h : Nat} (a : Int32) (hr : Rall σ H G B T) (hw : ∀ u, u < T → WT (σ 99) (σ 101) (nI G) h u τ) (e : τ 22 2 = nI T) : fX0_bringsAt τ a = some (wgh (fs (σ 99) h a B) (σ 101) (nI G) T h, τ) := brings_l hr.1.1.2.2.2.2 hr.1.1.2.2.2.1 e (fun u hu => (RT hr hu).1.1) (fun u hu => stk_B hr hu) hw T 0 400 (by omega) (by omega) (by have := hr.1.1.2.2.2.2; omega)
end
section
/-! best of the asks; the reference's asks -/
def bs (F : Int32 → Int32) : Nat → Int32 × Int32
  | 0 => (0, F 0)
  | a + 1 => if F (nI (a + 1)) ≤ (bs F a).2 then bs F a else (nI (a + 1), F (nI (a + 1)))
theorem bs_1 (F : Int32 → Int32) : ∀ a, ∃ j, j ≤ a ∧ (bs F a).1 = nI j
  | 0 => ⟨0, Nat.le_refl _, rfl⟩
  | a + 1 => by
    unfold bs
    by_cases c : F (nI (a + 1)) ≤ (bs F a).2
    · rw [if_pos c]
      obtain ⟨j, h1, h2⟩ := bs_1 F a
      exact ⟨j, by omega, h2⟩
    · rw [if_neg c]; exact ⟨a + 1, Nat.le_refl _, rfl⟩
theorem choose_l {σ : S0} {H G B T h : Nat} (hr : Rall σ H G B T) : ∀ (d i m : Nat) (τ : S0), 20 - i = d → i ≤ 20 → d < m → onlyW σ τ → (∀ u, u < T → WT (σ 99) (σ 101) (nI G) h u τ) → τ 41 7 = (bs (fun a => wgh (fs (σ 99) h a B) (σ 101) (nI G) T h) i).1 → τ 41 8 = (bs (fun a => wgh (fs (σ 99) h a B) (σ 101) (nI G) T h) i).2 → ∃ ν, fX0_choose_h21 m τ (nI (i + 1)) = some (0, ν) ∧ onlyW σ ν ∧ ν 41 7 = (bs (fun a => wgh (fs (σ 99) h a B) (σ 101) (nI G) T h) 20).1 ∧ ν 41 8 = (bs (fun a => wgh (fs (σ 99) h a B) (σ 101) (nI G) T h) 20).2 := by
  intro d
  induction d with
  | zero =>
    intro i m τ h1 h2 h3 ho hw w7 w8
    obtain ⟨m, rfl⟩ : ∃ q, m = q + 1 := ⟨m - 1, by omega⟩
    have : i = 20 := by omega
    subst this
    refine ⟨τ, ?_, ho, w7, w8⟩
    show fX0_choose_b21 _ _ _ = _
    unfold fX0_choose_b21
    rw [if_pos (show (20 : Int32) < nI 21 from by decide)]
  | succ d ih =>
    intro i m τ h1 h2 h3 ho hw w7 w8
    obtain ⟨m, rfl⟩ : ∃ q, m = q + 1 := ⟨m - 1, by omega⟩
    have hng : ¬ (20 : Int32) < nI (i + 1) := fun q => by
      have := (nI_ltI (a := 20) (b := i + 1) (by omega) (by omega)).mp q
      omega
    have hb := brings_s (nI (i + 1)) hr hw (by rw [ho 22 (by omega)]; exact hr.1.2.2.2.2)
    have hne : ∀ (τ : S0) (j : Nat) (v : Int32), (∀ u, u < T → WT (σ 99) (σ 101) (nI G) h u τ) → ∀ u, u < T → WT (σ 99) (σ 101) (nI G) h u (su τ 41 j v) := fun τ j v q u hu => by
      have := q u hu
      unfold WT at this ⊢
      rw [su_ne (by omega), su_ne (by omega), su_ne (by omega), su_ne (by omega)]
      exact this
    have e1 : fX0_choose_h21 (m + 1) τ (nI (i + 1)) = if wgh (fs (σ 99) h (nI (i + 1)) B) (σ 101) (nI G) T h ≤ τ 41 8 then fX0_choose_h21 m τ (nI (i + 1 + 1)) else fX0_choose_h21 m (su (su τ 41 8 (wgh (fs (σ 99) h (nI (i + 1)) B) (σ 101) (nI G) T h)) 41 7 (nI (i + 1))) (nI (i + 1 + 1)) := by
      show fX0_choose_b21 _ _ _ = _
      unfold fX0_choose_b21 fX0_choose_b51
      rw [if_neg hng, hb]
      simp only [obp, ol, nI_1]
    rw [e1, w8]
    by_cases c : wgh (fs (σ 99) h (nI (i + 1)) B) (σ 101) (nI G) T h ≤ (bs (fun a => wgh (fs (σ 99) h a B) (σ 101) (nI G) T h) i).2
    · rw [if_pos c]
      exact ih (i + 1) m τ (by omega) (by omega) (by omega) ho hw (by rw [bs, if_pos c]; exact w7) (by rw [bs, if_pos c]; exact w8)
    · rw [if_neg c]
      exact ih (i + 1) m _ (by omega) (by omega) (by omega) ((ho.su (by omega) _ _).su (by omega) _ _) (hne _ _ _ (hne _ _ _ hw)) (by rw [su_s, bs, if_neg c]) (by rw [su_j (by omega), su_s, bs, if_neg c])
theorem choose_s {σ : S0} {H G B T h : Nat} (hr : Rall σ H G B T) (hh : h < H) : ∃ ν, fX0_choose σ (nI h) = some (0, ν) ∧ onlyW σ ν ∧ ν 41 7 = (bs (fun a => wgh (fs (σ 99) h a B) (σ 101) (nI G) T h) 20).1 ∧ ν 41 8 = (bs (fun a => wgh (fs (σ 99) h a B) (σ 101) (nI G) T h) 20).2 := by
  obtain ⟨τ, t1, t2, t3⟩ := weigh_s hr hh
  have hne : ∀ (τ : S0) (j : Nat) (v : Int32), (∀ u, u < T → WT (σ 99) (σ 101) (nI G) h u τ) → ∀ u, u < T → WT (σ 99) (σ 101) (nI G) h u (su τ 41 j v) := fun τ j v q u hu => by
    have := q u hu
    unfold WT at this ⊢
    rw [su_ne (by omega), su_ne (by omega), su_ne (by omega), su_ne (by omega)]
    exact this
  have hb := brings_s (τ := su τ 41 7 0) 0 hr (hne _ _ _ t3) (by rw [su_ne (by omega), t2 22 (by omega)]; exact hr.1.2.2.2.2)
  obtain ⟨ν, v1, v2, v3, v4⟩ := choose_l hr 20 0 400 (su (su τ 41 7 0) 41 8 (wgh (fs (σ 99) h 0 B) (σ 101) (nI G) T h)) (by omega) (by omega) (by omega) ((t2.su (by omega) _ _).su (by omega) _ _) (hne _ _ _ (hne _ _ _ t3)) (by rw [su_j (by omega), su_s]; rfl) (by rw [su_s]; rfl)
  refine ⟨ν, ?_, v2, v3, v4⟩
  unfold fX0_choose
  rw [t1]
  simp only [obp, ol]
  rw [hb]
  simp only
  exact v1
/-- nothing but what the reference needs for its asks has changed -/
def onlyQ (σ τ : S0) : Prop := ∀ k j, ¬ (k = 98 ∧ 24 ≤ j ∧ j ≤ 31) → k ≠ 105 → k ≠ 106 → τ k j = σ k j
theorem onlyQ.tr {a b c : S0} (h1 : onlyQ a b) (h2 : onlyQ b c) : onlyQ a c := fun k j x y z => (h2 k j x y z).trans (h1 k j x y z)
theorem onlyQ.rf (a : S0) : onlyQ a a := fun _ _ _ _ _ => rfl
theorem onlyQ.c {a b : S0} (h : onlyQ a b) {k : Nat} (h1 : k ≠ 98) (h2 : k ≠ 105) (h3 : k ≠ 106) : b k = a k := funext fun j => h k j (fun q => h1 q.1) h2 h3
theorem onlyR.q {a b : S0} (h : onlyR a b) : onlyQ a b := fun k j x y z => h k j (fun q => x ⟨q.1, by omega, by omega⟩) y
theorem onlyQ.su {a b : S0} (h : onlyQ a b) {j : Nat} (hj : 24 ≤ j ∧ j ≤ 31) (v : Int32) : onlyQ a (su b 98 j v) := fun k i x y z => by
  by_cases hk : k = 98
  · subst hk
    rw [su_j (fun q => x ⟨rfl, by omega, by omega⟩)]; exact h 98 i x y z
  · rw [su_ne hk]; exact h k i x y z
theorem onlyQ.e {a b : S0} (h : onlyQ a b) : eqv a b := fun k j hr => by
  refine h k j (fun q => ?_) (fun q => ?_) (fun q => ?_)
  · obtain ⟨rfl, q2, q3⟩ := q
    unfold rel at hr
    have := of_decide_eq_true hr
    omega
  · subst q
    unfold rel at hr
    have := of_decide_eq_true hr
    omega
  · subst q
    unfold rel at hr
    have := of_decide_eq_true hr
    omega
theorem wageM_s {σ : S0} {H G B T h : Nat} (hr : Rall σ H G B T) (hh : h < H) : ∃ ρ, fX11_wageOf σ (nI h) = some (wgh (σ 99) (σ 101) (nI G) T h, ρ) ∧ onlyR σ ρ := by
  obtain ⟨b1, b2, b3, b4, b5⟩ := hr.1.1
  obtain ⟨τ, p1, p2⟩ := takenM_s hr
  unfold fX11_wageOf wgh
  rw [p1]
  simp only [obp]
  rcases tk_r (σ 99) (σ 101) (nI G) T with c | ⟨t, ht, c⟩
  · refine ⟨τ, ?_, p2⟩
    rw [if_neg (fun q => q c), if_pos c]
  · have cn : ¬ (tk (σ 99) (σ 101) (nI G) T).1 = -4 := by rw [c]; exact nI_m4 (by omega)
    obtain ⟨ρ, s1, s2⟩ := sharesM_s (hr.cg p2.e) hh ht
    rw [p2.c (k := 99) (by omega) (by omega), p2.c (k := 101) (by omega) (by omega)] at s1
    refine ⟨ρ, ?_, p2.tr s2⟩
    rw [if_pos cn, if_neg cn, c, s1, nI_clamp (by omega)]
theorem wageX_w {σ : S0} {H G B T h : Nat} (hr : Rall σ H G B T) (hh : h < H) : ∃ τ, fX6_wageOf σ (nI h) = some (wgh (σ 99) (σ 101) (nI G) T h, τ) ∧ onlyP σ τ := by
  obtain ⟨b1, b2, b3, b4, b5⟩ := hr.1.1
  obtain ⟨τ, p1, p2⟩ := takenX_s hr
  unfold fX6_wageOf wgh
  rw [p1]
  simp only [obp]
  rcases tk_r (σ 99) (σ 101) (nI G) T with c | ⟨t, ht, c⟩
  · refine ⟨τ, ?_, p2⟩
    rw [if_neg (fun q => q c), if_pos c]
  · have cn : ¬ (tk (σ 99) (σ 101) (nI G) T).1 = -4 := by rw [c]; exact nI_m4 (by omega)
    obtain ⟨ρ, s1, s2⟩ := sharesX_s (hr.cg p2.e) hh ht
    rw [p2 99 (by omega), p2 101 (by omega)] at s1
    refine ⟨ρ, ?_, p2.tr s2⟩
    rw [if_pos cn, if_neg cn, c, s1, nI_clamp (by omega)]
/-- the fees of house h's bells set on both sides -/
theorem R_fees {σ ν : S0} {H G B T h a : Nat} (hr : Rall σ H G B T) (ha : a ≤ 20) (h34 : ∀ b, b < B → ν 34 b = fs (σ 99) h (nI a) B (5 * b + 1)) (h99 : ν 99 = fs (σ 99) h (nI a) B) (ta : ∀ x, x ≠ 34 → x ≠ 99 → ν x = σ x) : Rall ν H G B T := by
  obtain ⟨hn, hk, hm, ht, hi, hp, hs, hf, hq⟩ := hr
  have hB := hn.1.2.2.2.1
  have hT := hn.1.2.2.2.2
  have tb : ∀ i, i % 5 ≠ 1 ∨ 60 ≤ i → ν 99 i = σ 99 i := fun i hi => by rw [h99]; exact fs_n (by omega)
  have t98 := ta 98 (by omega) (by omega)
  obtain ⟨k1, k2, k3, k4, k5⟩ := hk
  obtain ⟨⟨n, n1, n2, n3⟩, m2, fo, f1, f2, f3, f4⟩ := hm
  refine ⟨hn.c (by rw [t98]) (by rw [t98]) (by rw [t98]) (by rw [t98]) (ta 22 (by omega) (by omega)), ?_, ?_, ht.c (ta _ (by omega) (by omega)) (ta _ (by omega) (by omega)) (ta _ (by omega) (by omega)) (fun t h => ta _ (by omega) (by omega)), hi.c (ta _ (by omega) (by omega)) (ta _ (by omega) (by omega)) (fun x h1 h2 => ta _ (by omega) (by omega)) (fun i h1 h2 => tb i (by omega)) hB, hp.c (by rw [ta 1 (by omega) (by omega)]) (by rw [t98]) (ta _ (by omega) (by omega)) (ta _ (by omega) (by omega)), hs.c (ta _ (by omega) (by omega)) (ta _ (by omega) (by omega)) (ta _ (by omega) (by omega)) (fun x h1 h2 => ta _ (by omega) (by omega)), by rw [ta 3 (by omega) (by omega), t98]; exact hf, by rw [ta 0 (by omega) (by omega), t98]; exact hq⟩
  · refine ⟨by rw [ta 32 (by omega) (by omega)]; exact k1, fun b hb => ?_, fun x hx => ?_, ?_, fun i hi2 hl => ?_⟩
    · obtain ⟨a1, a2, a3, a4, a5⟩ := k2 b hb
      refine ⟨?_, ?_, ?_, ?_, ?_⟩
      · rw [ta _ (by omega) (by omega), tb _ (by omega)]; exact a1
      · show ν 34 b = ν 99 (0 + 5 * b + 1)
        rw [h34 b hb, h99, Nat.zero_add]
      · rw [ta _ (by omega) (by omega), tb _ (by omega)]; exact a3
      · rw [ta _ (by omega) (by omega), tb _ (by omega)]; exact a4
      · rw [ta _ (by omega) (by omega), tb _ (by omega)]; exact a5
    · rw [ta _ (by omega) (by omega), tb _ (by omega)]; exact k3 x hx
    · rw [ta _ (by omega) (by omega), tb _ (by omega)]; exact k4
    · rw [tb _ (by omega)] at hl
      rw [ta _ (by omega) (by omega), tb _ (by omega)]; exact k5 i hi2 hl
  · refine ⟨⟨n, n1, by rw [tb _ (by omega)]; exact n2, fun j hj => by rw [tb _ (by omega)]; exact n3 j hj⟩, fun b hb => ?_, fo, fun x hx => ⟨(f1 x hx).1, by rw [tb _ (by omega)]; exact (f1 x hx).2⟩, f2, f3, f4⟩
    obtain ⟨a1, a2, a3, a4, a5⟩ := m2 b hb
    rw [tb (0 + 5 * b) (by omega), tb (0 + 5 * b + 2) (by omega), tb (0 + 5 * b + 3) (by omega), tb (0 + 5 * b + 4) (by omega)]
    refine ⟨a1, ?_, a3, a4, a5⟩
    rw [h99, Nat.zero_add, fs_1 hb]
    by_cases c : σ 99 (5 * b) = nI h
    · rw [if_pos c]; exact ⟨a, ha, rfl⟩
    · rw [if_neg c]
      rw [Nat.zero_add] at a2
      exact a2
/-- the reference sets the fees -/
theorem fs_su {f : Nat → Int32} {h i : Nat} {a : Int32} {ρ : S0} (e : ρ 99 = fs f h a i) : su ρ 99 (5 * i + 1) (if f (5 * i) = nI h then a else f (5 * i + 1)) 99 = fs f h a (i + 1) := by
  funext y
  by_cases hy : y = 5 * i + 1
  · subst hy
    rw [su_s, fs_1 (by omega)]
  · rw [su_j hy, e]
    unfold fs
    by_cases c : y % 5 = 1 ∧ y / 5 < i ∧ f (5 * (y / 5)) = nI h
    · rw [if_pos c, if_pos ⟨c.1, by omega, c.2.2⟩]
    · rw [if_neg c, if_neg (fun q => c ⟨q.1, by omega, q.2.2⟩)]
theorem asks_l {f : Nat → Int32} {h B : Nat} (a : Int32) (hB : B ≤ 12) : ∀ (d i m : Nat) (ρ : S0), B - i = d → i ≤ B → d < m → ρ 98 4 = nI B → ρ 99 = fs f h a i → ∃ ν, fX11_asks_h2 m ρ (nI h) a (nI i) = some (0, ν) ∧ ν 99 = fs f h a B ∧ ∀ x, x ≠ 99 → ν x = ρ x := by
  intro d
  induction d with
  | zero =>
    intro i m ρ h1 h2 h3 e4 e99
    obtain ⟨m, rfl⟩ : ∃ q, m = q + 1 := ⟨m - 1, by omega⟩
    have : i = B := by omega
    subst this
    refine ⟨ρ, ?_, e99, fun _ _ => rfl⟩
    show fX11_asks_b2 _ _ _ _ _ = _
    unfold fX11_asks_b2
    rw [if_pos (show ρ 98 4 ≤ nI i from by rw [e4]; exact nI_le (Nat.le_refl _) (by omega))]
  | succ d ih =>
    intro i m ρ h1 h2 h3 e4 e99
    obtain ⟨m, rfl⟩ : ∃ q, m = q + 1 := ⟨m - 1, by omega⟩
    have O0 := of_l ρ (b := i) (w := 0) (x := 0) (by omega) (by omega) rfl
    have O1 := of_l ρ (b := i) (w := 1) (x := 1) (by omega) (by omega) rfl
    rw [Nat.add_zero, e99, fs_5] at O0
    rw [e99, fs_n (by omega)] at O1
    obtain ⟨ν, v1, v2, v3⟩ := ih (i + 1) m (su ρ 99 (5 * i + 1) (if f (5 * i) = nI h then a else f (5 * i + 1))) (by omega) (by omega) (by omega) (by rw [su_ne (by omega)]; exact e4) (fs_su e99)
    refine ⟨ν, ?_, v2, fun x hx => by rw [v3 x hx, su_ne hx]⟩
    show fX11_asks_b2 _ _ _ _ _ = _
    unfold fX11_asks_b2 fX11_asks_b39
    rw [if_neg (show ¬ (ρ 98 4 ≤ nI i) from by rw [e4]; exact nI_ge (by omega) (by omega)), O0]
    simp only [obp, ol, x5 i 1 (x := 1) rfl]
    rw [og_t (ix_ok (by omega) (by omega)), nI_clamp (by omega), nI_1]
    by_cases c : f (5 * i) = nI h
    · rw [if_neg (fun q => q c)]
      rw [if_pos c] at v1
      exact v1
    · rw [if_pos c, O1]
      rw [if_neg c] at v1
      simp only
      have hgq : ¬ (nI (5 * i + 1) < 0 ∨ 240 ≤ 5 * i + 1) := fun q => ix_ok (j := 5 * i + 1) (n := 240) (by omega) (by omega) (by rw [nI_clamp (by omega)]; exact q)
      rw [og_t hgq]
      exact v1
theorem fs_z {f : Nat → Int32} {h : Nat} {a : Int32} : fs f h a 0 = f := by
  funext i
  exact fs_n (by omega)
theorem asks_s {σ : S0} {h B : Nat} (a : Int32) (hB : B ≤ 12) (e4 : σ 98 4 = nI B) : ∃ ν, fX11_asks σ (nI h) a = some (0, ν) ∧ ν 99 = fs (σ 99) h a B ∧ ∀ x, x ≠ 99 → ν x = σ x := asks_l a hB B 0 400 σ (by omega) (by omega) (by omega) e4 fs_z.symm
theorem save_l {f : Nat → Int32} {B : Nat} (x1 x2 : Int32) (hB : B ≤ 12) : ∀ (d i m : Nat) (ρ : S0), B - i = d → i ≤ B → d < m → ρ 98 4 = nI B → ρ 99 = f → (∀ b, b < i → ρ 106 b = f (5 * b + 1)) → ∃ ν, fX11_askOf_h2 m ρ x1 x2 (nI i) = obp (fX11_asks ν x1 x2) (fun r2 σ3 => obp (fX11_wageOf σ3 x1) (fun r5 σ6 => fX11_askOf_h43 400 σ6 r5 0)) ∧ (∀ b, b < B → ν 106 b = f (5 * b + 1)) ∧ ∀ x, x ≠ 106 → ν x = ρ x := by
  intro d
  induction d with
  | zero =>
    intro i m ρ h1 h2 h3 e4 e99 hs
    obtain ⟨m, rfl⟩ : ∃ q, m = q + 1 := ⟨m - 1, by omega⟩
    have : i = B := by omega
    subst this
    refine ⟨ρ, ?_, hs, fun _ _ => rfl⟩
    show fX11_askOf_b2 _ _ _ _ _ = _
    unfold fX11_askOf_b2
    rw [if_pos (show ρ 98 4 ≤ nI i from by rw [e4]; exact nI_le (Nat.le_refl _) (by omega))]
  | succ d ih =>
    intro i m ρ h1 h2 h3 e4 e99 hs
    obtain ⟨m, rfl⟩ : ∃ q, m = q + 1 := ⟨m - 1, by omega⟩
    have O1 := of_l ρ (b := i) (w := 1) (x := 1) (by omega) (by omega) rfl
    rw [e99] at O1
    obtain ⟨ν, v1, v2, v3⟩ := ih (i + 1) m (su ρ 106 i (f (5 * i + 1))) (by omega) (by omega) (by omega) (by rw [su_ne (by omega)]; exact e4) (by rw [su_ne (by omega)]; exact e99) (fun b hb => by
      by_cases q : b = i
      · subst q; rw [su_s]
      · rw [su_j q]; exact hs b (by omega))
    refine ⟨ν, ?_, v2, fun x hx => by rw [v3 x hx, su_ne hx]⟩
    rw [← v1]
    show fX11_askOf_b2 _ _ _ _ _ = _
    unfold fX11_askOf_b2
    rw [if_neg (show ¬ (ρ 98 4 ≤ nI i) from by rw [e4]; exact nI_ge (by omega) (by omega)), O1]
    simp only [obp, ol]
    rw [og_t (ix_ok (by omega) (by omega)), nI_clamp (by omega), nI_1]
theorem rest_l {f : Nat → Int32} {B h : Nat} {a : Int32} (r : Int32) (hB : B ≤ 12) : ∀ (d i m : Nat) (ρ : S0), B - i = d → i ≤ B → d < m → ρ 98 4 = nI B → (∀ b, b < B → ρ 106 b = f (5 * b + 1)) → (ρ 99 = fun y => if y % 5 = 1 ∧ y / 5 < i then f y else fs f h a B y) → ∃ ν, fX11_askOf_h43 m ρ r (nI i) = some (r, ν) ∧ ν 99 = f ∧ ∀ x, x ≠ 99 → ν x = ρ x := by
  intro d
  induction d with
  | zero =>
    intro i m ρ h1 h2 h3 e4 hs e99
    obtain ⟨m, rfl⟩ : ∃ q, m = q + 1 := ⟨m - 1, by omega⟩
    have : i = B := by omega
    subst this
    refine ⟨ρ, ?_, ?_, fun _ _ => rfl⟩
    · show fX11_askOf_b43 _ _ _ _ = _
      unfold fX11_askOf_b43
      rw [if_pos (show ρ 98 4 ≤ nI i from by rw [e4]; exact nI_le (Nat.le_refl _) (by omega))]
    · rw [e99]
      funext y
      by_cases c : y % 5 = 1 ∧ y / 5 < i
      · simp only [if_pos c]
      · simp only [if_neg c]
        exact fs_n (by omega)
  | succ d ih =>
    intro i m ρ h1 h2 h3 e4 hs e99
    obtain ⟨m, rfl⟩ : ∃ q, m = q + 1 := ⟨m - 1, by omega⟩
    obtain ⟨ν, v1, v2, v3⟩ := ih (i + 1) m (su ρ 99 (5 * i + 1) (f (5 * i + 1))) (by omega) (by omega) (by omega) (by rw [su_ne (by omega)]; exact e4) (fun b hb => by rw [su_ne (by omega)]; exact hs b hb) (by
      funext y
      by_cases hy : y = 5 * i + 1
      · subst hy
        rw [su_s]
        rw [if_pos (by omega)]
      · rw [su_j hy, e99]
        by_cases c : y % 5 = 1 ∧ y / 5 < i
        · simp only [if_pos c]
          rw [if_pos (by omega)]
        · simp only [if_neg c]
          rw [if_neg (by omega)])
    refine ⟨ν, ?_, v2, fun x hx => by rw [v3 x hx, su_ne hx]⟩
    show fX11_askOf_b43 _ _ _ _ = _
    unfold fX11_askOf_b43
    rw [if_neg (show ¬ (ρ 98 4 ≤ nI i) from by rw [e4]; exact nI_ge (by omega) (by omega)), og_t (ix_ok (by omega) (by omega)), nI_clamp (by omega)]
    simp only [ol, x5 i 1 (x := 1) rfl]
    rw [og_t (ix_ok (by omega) (by omega)), nI_clamp (by omega), nI_1, hs i (by omega)]
    exact v1
theorem askOf_s {σ : S0} {H G B T h a : Nat} (hr : Rall σ H G B T) (hh : h < H) (ha : a ≤ 20) : ∃ ρ, fX11_askOf σ (nI h) (nI a) = some (wgh (fs (σ 99) h (nI a) B) (σ 101) (nI G) T h, ρ) ∧ onlyQ σ ρ ∧ ρ 98 30 = σ 98 30 ∧ ρ 98 31 = σ 98 31 := by
  obtain ⟨b1, b2, b3, b4, b5⟩ := hr.1.1
  have e4 : σ 98 4 = nI B := hr.1.2.1.2.2.1
  obtain ⟨ρ1, s1, s2, s3⟩ := save_l (f := σ 99) (nI h) (nI a) b4 B 0 400 σ (by omega) (by omega) (by omega) e4 rfl (fun b hb => by omega)
  obtain ⟨ρ2, u1, u2, u3⟩ := asks_s (σ := ρ1) (h := h) (nI a) b4 (by rw [s3 98 (by omega)]; exact e4)
  rw [s3 99 (by omega)] at u2
  have hν : Rall (mix (fun x j => if x = 34 then fs (σ 99) h (nI a) B (5 * j + 1) else σ x j) (fun x => if x = 106 then σ 106 else ρ2 x)) H G B T := by
    refine R_fees (h := h) (a := a) hr ha (fun b hb => ?_) ?_ (fun x h1 h2 => ?_)
    · rw [mix_lo (by omega)]
      simp only [if_true]
    · rw [mix_hi (by omega)]
      show (if (99 : Nat) = 106 then σ 106 else ρ2 99) = _
      rw [if_neg (by omega), u2]
    · by_cases hx : x < 98
      · rw [mix_lo hx]
        funext j
        simp only [if_neg h1]
      · rw [mix_hi (by omega)]
        show (if x = 106 then σ 106 else ρ2 x) = _
        by_cases h6 : x = 106
        · rw [if_pos h6, h6]
        · rw [if_neg h6, u3 x h2, s3 x h6]
  have hν2 : Rall (mix (fun x j => if x = 34 then fs (σ 99) h (nI a) B (5 * j + 1) else σ x j) ρ2) H G B T := by
    refine hν.cg (fun k j hk => ?_)
    by_cases hx : k < 98
    · rw [mix_lo hx, mix_lo hx]
    · rw [mix_hi (by omega), mix_hi (by omega)]
      show ρ2 k j = (if k = 106 then σ 106 else ρ2 k) j
      by_cases h6 : k = 106
      · subst h6
        unfold rel at hk
        have := of_decide_eq_true hk
        omega
      · rw [if_neg h6]
  obtain ⟨ρ3, w1, w2⟩ := wageM_s hν2 hh
  rw [rm_fX11_wageOf] at w1
  obtain ⟨ρ4, w3, rfl⟩ := mp_inv w1
  rw [mix_hi (by omega), mix_hi (by omega), u2, u3 101 (by omega), s3 101 (by omega)] at w3
  have w4 : ∀ k j, 98 ≤ k → ¬ (k = 98 ∧ 24 ≤ j ∧ j ≤ 27) → k ≠ 105 → ρ4 k j = ρ2 k j := fun k j hk h1 h2 => by
    have := w2 k j h1 h2
    rw [mix_hi hk, mix_hi hk] at this
    exact this
  have e99 : ρ4 99 = fs (σ 99) h (nI a) B := by
    rw [← u2]
    funext j
    exact w4 99 j (by omega) (by omega) (by omega)
  obtain ⟨ρ5, x1, x2, x3⟩ := rest_l (f := σ 99) (h := h) (a := nI a) (wgh (fs (σ 99) h (nI a) B) (σ 101) (nI G) T h) b4 B 0 400 ρ4 (by omega) (by omega) (by omega) (by rw [w4 98 4 (by omega) (by omega) (by omega), u3 98 (by omega), s3 98 (by omega)]; exact e4) (fun b hb => by rw [w4 106 b (by omega) (by omega) (by omega), u3 106 (by omega)]; exact s2 b hb) (by
    rw [e99]
    funext y
    rw [if_neg (by omega)])
  have hlo : ∀ k, k < 98 → ρ5 k = σ k := fun k hk => by
    have f1 := rm_fX11_askOf σ σ (nI h) (nI a)
    have f2 : fX11_askOf σ (nI h) (nI a) = some (wgh (fs (σ 99) h (nI a) B) (σ 101) (nI G) T h, ρ5) := by
      show fX11_askOf_h2 400 σ (nI h) (nI a) 0 = _
      rw [show (0 : Int32) = nI 0 from rfl, s1, u1]
      simp only [obp]
      rw [w3]
      exact x1
    rw [mix_self, f2] at f1
    obtain ⟨ρ', g1, g2⟩ := mp_inv f1.symm
    rw [g2, mix_lo hk]
  refine ⟨ρ5, ?_, fun k j h1 h2 h3 => ?_, ?_, ?_⟩
  · show fX11_askOf_h2 400 σ (nI h) (nI a) 0 = _
    rw [show (0 : Int32) = nI 0 from rfl, s1, u1]
    simp only [obp]
    rw [w3]
    exact x1
  · by_cases hk : k < 98
    · rw [hlo k hk]
    · by_cases h9 : k = 99
      · subst h9; rw [x2]
      · rw [x3 k h9, w4 k j (by omega) (by omega) h2, u3 k h9, s3 k h3]
  · rw [x3 98 (by omega), w4 98 30 (by omega) (by omega) (by omega), u3 98 (by omega), s3 98 (by omega)]
  · rw [x3 98 (by omega), w4 98 31 (by omega) (by omega) (by omega), u3 98 (by omega), s3 98 (by omega)]
end
section
/-! ASK, BEST, SETTLE, SETTLED -/
abbrev Fw (σ : S0) (G B T h : Nat) : Int32 → Int32 := fun a => wgh (fs (σ 99) h a B) (σ 101) (nI G) T h
theorem findBest_l {σ : S0} {H G B T h : Nat} (hr : Rall σ H G B T) (hh : h < H) : ∀ (d i m : Nat) (τ : S0), 21 - i = d → i ≤ 21 → d < m → onlyQ σ τ → ((i = 0 ∧ τ 98 30 = -4) ∨ ∃ j, i = j + 1 ∧ τ 98 30 = (bs (Fw σ G B T h) j).1 ∧ τ 98 31 = (bs (Fw σ G B T h) j).2) → ∃ ν, fX11_findBest_h13 m τ (nI h) (nI i) = some (0, ν) ∧ onlyQ σ ν ∧ ν 98 30 = (bs (Fw σ G B T h) 20).1 ∧ ν 98 31 = (bs (Fw σ G B T h) 20).2 := by
  intro d
  have hone : ¬ (1 : Int32) = 0 := by decide
  induction d with
  | zero =>
    intro i m τ h1 h2 h3 ho hc
    obtain ⟨m, rfl⟩ : ∃ q, m = q + 1 := ⟨m - 1, by omega⟩
    have : i = 21 := by omega
    subst this
    obtain ⟨j, j1, j2, j3⟩ := hc.resolve_left (fun q => by omega)
    have : j = 20 := by omega
    subst this
    refine ⟨τ, ?_, ho, j2, j3⟩
    show fX11_findBest_b13 _ _ _ _ = _
    unfold fX11_findBest_b13
    rw [if_pos (show (20 : Int32) < nI 21 from by decide)]
  | succ d ih =>
    intro i m τ h1 h2 h3 ho hc
    obtain ⟨m, rfl⟩ : ∃ q, m = q + 1 := ⟨m - 1, by omega⟩
    have hng : ¬ (20 : Int32) < nI i := fun q => by
      have := (nI_ltI (a := 20) (b := i) (by omega) (by omega)).mp q
      omega
    obtain ⟨ρ, r1, r2, r3, r4⟩ := askOf_s (a := i) (hr.cg ho.e) hh (by omega)
    rw [ho.c (k := 99) (by omega) (by omega) (by omega), ho.c (k := 101) (by omega) (by omega) (by omega)] at r1
    have htake : fX11_findBest_b43 (fX11_findBest_h13 m) ρ (nI h) (nI i) (Fw σ G B T h (nI i)) = fX11_findBest_h13 m (su (su ρ 98 30 (nI i)) 98 31 (Fw σ G B T h (nI i))) (nI h) (nI (i + 1)) := by
      unfold fX11_findBest_b43 fX11_findBest_b48 fX11_findBest_b64 fX11_findBest_b81
      rw [if_neg hone]
      simp only [ol, nI_1]
      rw [if_neg hone]
    have e1 : fX11_findBest_h13 (m + 1) τ (nI h) (nI i) = if ρ 98 30 = -4 then fX11_findBest_b43 (fX11_findBest_h13 m) ρ (nI h) (nI i) (Fw σ G B T h (nI i)) else if Fw σ G B T h (nI i) ≤ ρ 98 31 then fX11_findBest_h13 m (su (su ρ 98 30 (ρ 98 30)) 98 31 (ρ 98 31)) (nI h) (nI (i + 1)) else fX11_findBest_b43 (fX11_findBest_h13 m) ρ (nI h) (nI i) (Fw σ G B T h (nI i)) := by
      show fX11_findBest_b13 _ _ _ _ = _
      unfold fX11_findBest_b13
      rw [if_neg hng, r1]
      simp only [obp]
      unfold fX11_findBest_b48 fX11_findBest_b64 fX11_findBest_b81
      simp only [ol, nI_1, if_true]
      rw [su_j (by omega)]
    rw [e1]
    rcases hc with ⟨rfl, c1⟩ | ⟨j, rfl, j2, j3⟩
    · rw [if_pos (by rw [r3]; exact c1), htake]
      exact ih 1 m _ (by omega) (by omega) (by omega) (((ho.tr r2).su (by omega) _).su (by omega) _) (Or.inr ⟨0, rfl, by rw [su_j (by omega), su_s]; rfl, by rw [su_s]; rfl⟩)
    · obtain ⟨j0, q1, q2⟩ := bs_1 (Fw σ G B T h) j
      rw [if_neg (by rw [r3, j2, q2]; exact nI_m4 (by omega)), r4, j3]
      by_cases c : Fw σ G B T h (nI (j + 1)) ≤ (bs (Fw σ G B T h) j).2
      · rw [if_pos c]
        exact ih (j + 1 + 1) m _ (by omega) (by omega) (by omega) (((ho.tr r2).su (by omega) _).su (by omega) _) (Or.inr ⟨j + 1, rfl, by rw [su_j (by omega), su_s, r3, j2, bs, if_pos c], by rw [su_s, bs, if_pos c]⟩)
      · rw [if_neg c, htake]
        exact ih (j + 1 + 1) m _ (by omega) (by omega) (by omega) (((ho.tr r2).su (by omega) _).su (by omega) _) (Or.inr ⟨j + 1, rfl, by rw [su_j (by omega), su_s, bs, if_neg c], by rw [su_s, bs, if_neg c]⟩)
theorem findBest_s {σ : S0} {H G B T h : Nat} (hr : Rall σ H G B T) (hh : h < H) : ∃ ν, fX11_findBest σ (nI h) = some (0, ν) ∧ onlyQ σ ν ∧ ν 98 30 = (bs (Fw σ G B T h) 20).1 ∧ ν 98 31 = (bs (Fw σ G B T h) 20).2 := findBest_l hr hh 21 0 400 (su (su σ 98 30 (-4)) 98 31 0) (by omega) (by omega) (by omega) (((onlyQ.rf σ).su (by omega) _).su (by omega) _) (Or.inl ⟨rfl, by rw [su_j (by omega), su_s]⟩)
def wts (σ : S0) (G B T h : Nat) : Int32 := if (bs (Fw σ G B T h) 20).2 ≤ wgh (σ 99) (σ 101) (nI G) T h then 0 else 1
theorem changesM_s {σ : S0} {H G B T h : Nat} (hr : Rall σ H G B T) (hh : h < H) : ∃ ρ, fX11_changes σ (nI h) = some (wts σ G B T h, ρ) ∧ onlyQ σ ρ ∧ ρ 98 30 = (bs (Fw σ G B T h) 20).1 := by
  obtain ⟨ν, v1, v2, v3, v4⟩ := findBest_s hr hh
  obtain ⟨ρ, r1, r2⟩ := wageM_s (hr.cg v2.e) hh
  rw [v2.c (k := 99) (by omega) (by omega) (by omega), v2.c (k := 101) (by omega) (by omega) (by omega)] at r1
  refine ⟨ρ, ?_, v2.tr r2.q, by rw [r2 98 30 (by omega) (by omega)]; exact v3⟩
  unfold fX11_changes wts
  rw [v1]
  simp only [obp]
  rw [r1]
  simp only
  rw [v4]
  by_cases c : (bs (Fw σ G B T h) 20).2 ≤ wgh (σ 99) (σ 101) (nI G) T h
  · rw [if_pos c, if_pos c]
  · rw [if_neg c, if_neg c]
theorem wantsX_s {σ : S0} {H G B T h : Nat} (hr : Rall σ H G B T) (hh : h < H) : ∃ τ, fX0_wantsOther σ (nI h) = some (wts σ G B T h, τ) ∧ onlyW σ τ ∧ τ 41 7 = (bs (Fw σ G B T h) 20).1 := by
  obtain ⟨ν, v1, v2, v3, v4⟩ := choose_s hr hh
  obtain ⟨τ, r1, r2⟩ := wageX_w (hr.cg v2.e) hh
  rw [v2 99 (by omega), v2 101 (by omega)] at r1
  refine ⟨τ, ?_, v2.tr r2.w, by rw [r2 41 (by omega)]; exact v3⟩
  unfold fX0_wantsOther wts
  rw [v1]
  simp only [obp]
  rw [r1]
  simp only
  rw [v4]
  by_cases c : (bs (Fw σ G B T h) 20).2 ≤ wgh (σ 99) (σ 101) (nI G) T h
  · rw [if_pos c, if_pos c]
  · rw [if_neg c, if_neg c]
theorem eqv.mx {σ τ ρ : S0} (h1 : eqv σ τ) (h2 : eqv σ ρ) : eqv σ (mix τ ρ) := fun k j hk => by
  by_cases c : k < 98
  · rw [mix_lo c]; exact h1 k j hk
  · rw [mix_hi (by omega)]; exact h2 k j hk
theorem wants2 {σ : S0} {H G B T h : Nat} (hr : Rall σ H G B T) (hh : h < H) : Two (fX0_wantsOther σ (nI h)) (fX11_changes σ (nI h)) (fun a b ν => a = b ∧ Rall ν H G B T ∧ ∃ j, j ≤ 20 ∧ ν 41 7 = nI j ∧ ν 98 30 = nI j) := by
  obtain ⟨τ, t1, t2, t3⟩ := wantsX_s hr hh
  obtain ⟨ρ, r1, r2, r3⟩ := changesM_s hr hh
  obtain ⟨j, j1, j2⟩ := bs_1 (Fw σ G B T h) 20
  refine ⟨_, τ, _, ρ, t1, r1, rfl, hr.cg (t2.e.mx r2.e), j, j1, ?_, ?_⟩
  · rw [mix_lo (by omega), t3, j2]
  · rw [mix_hi (by omega), r3, j2]
theorem setFees_l {σ : S0} {h B : Nat} (a : Int32) (hB : B ≤ 12) (e0 : σ 32 0 = nI B) : ∀ (d i m : Nat) (τ : S0), B - i = d → i ≤ B → d < m → (∀ x, x ≠ 34 → τ x = σ x) → (∀ b, b < i → τ 34 b = if σ 33 b = nI h then a else σ 34 b) → (∀ b, i ≤ b → τ 34 b = σ 34 b) → ∃ ν, fX0_setFees_h2 m τ (nI h) a (nI i) = some (0, ν) ∧ (∀ x, x ≠ 34 → ν x = σ x) ∧ ∀ b, b < B → ν 34 b = if σ 33 b = nI h then a else σ 34 b := by
  intro d
  induction d with
  | zero =>
    intro i m τ h1 h2 h3 t1 t2 t3
    obtain ⟨m, rfl⟩ : ∃ q, m = q + 1 := ⟨m - 1, by omega⟩
    have : i = B := by omega
    subst this
    refine ⟨τ, ?_, t1, t2⟩
    show fX0_setFees_b2 _ _ _ _ _ = _
    unfold fX0_setFees_b2
    rw [if_pos (show τ 32 0 ≤ nI i from by rw [t1 32 (by omega), e0]; exact nI_le (Nat.le_refl _) (by omega))]
  | succ d ih =>
    intro i m τ h1 h2 h3 t1 t2 t3
    obtain ⟨m, rfl⟩ : ∃ q, m = q + 1 := ⟨m - 1, by omega⟩
    have hgi := ix_ok (j := i) (n := 12) (by omega) (by omega)
    have hci : (nI i).toNatClampNeg = i := nI_clamp (by omega)
    have hgi2 : ¬ (nI i < 0 ∨ 12 ≤ i) := fun q => hgi (by rw [hci]; exact q)
    show ∃ ν, fX0_setFees_b2 _ _ _ _ _ = _ ∧ _
    unfold fX0_setFees_b2 fX0_setFees_b36
    rw [if_neg (show ¬ (τ 32 0 ≤ nI i) from by rw [t1 32 (by omega), e0]; exact nI_ge (by omega) (by omega))]
    simp only [og_t hgi, og_t hgi2, hci, ol, nI_1, t1 33 (by omega)]
    by_cases c : σ 33 i = nI h
    · rw [if_neg (fun q => q c)]
      refine ih (i + 1) m (su τ 34 i a) (by omega) (by omega) (by omega) (fun x hx => by rw [su_ne hx]; exact t1 x hx) (fun b hb => ?_) (fun b hb => by rw [su_j (by omega)]; exact t3 b (by omega))
      by_cases q : b = i
      · subst q; rw [su_s, if_pos c]
      · rw [su_j q]; exact t2 b (by omega)
    · rw [if_pos c]
      refine ih (i + 1) m τ (by omega) (by omega) (by omega) t1 (fun b hb => ?_) (fun b hb => t3 b (by omega))
      by_cases q : b = i
      · subst q; rw [if_neg c]; exact t3 b (by omega)
      · exact t2 b (by omega)
theorem set2 {σ : S0} {H G B T h a : Nat} (hr : Rall σ H G B T) (ha : a ≤ 20) : Two (fX0_setFees σ (nI h) (nI a)) (fX11_asks σ (nI h) (nI a)) (fun _ _ ν => Rall ν H G B T) := by
  have hB := hr.1.1.2.2.2.1
  obtain ⟨τ, t1, t2, t3⟩ := setFees_l (σ := σ) (h := h) (nI a) hB hr.2.1.1 B 0 400 σ (by omega) (by omega) (by omega) (fun _ _ => rfl) (fun b hb => by omega) (fun _ _ => rfl)
  obtain ⟨ρ, r1, r2, r3⟩ := asks_s (σ := σ) (h := h) (nI a) hB hr.1.2.1.2.2.1
  refine ⟨0, τ, 0, ρ, t1, r1, R_fees (h := h) (a := a) hr ha (fun b hb => ?_) ?_ (fun x h1 h2 => ?_)⟩
  · obtain ⟨k1, k2, -⟩ := hr.2.1.2.1 b hb
    rw [Nat.zero_add] at k1 k2
    rw [mix_lo (by omega), t3 b hb, fs_1 hb]
    have k1 : σ 33 b = σ 99 (5 * b) := k1
    have k2 : σ 34 b = σ 99 (5 * b + 1) := k2
    rw [k1, k2]
  · rw [mix_hi (by omega), r2]
  · by_cases c : x < 98
    · rw [mix_lo c, t2 x h1]
    · rw [mix_hi (by omega), r3 x h2]
theorem obp_a {o : Option (Int32 × S0)} {k1 k2 : Int32 → S0 → Option (Int32 × S0)} : obp (obp o k1) k2 = obp o (fun r τ => obp (k1 r τ) k2) := by
  cases o <;> rfl
theorem obp_i {c : Prop} [Decidable c] {a b : Option (Int32 × S0)} {k : Int32 → S0 → Option (Int32 × S0)} : obp (if c then a else b) k = if c then obp a k else obp b k := by
  by_cases h : c
  · rw [if_pos h, if_pos h]
  · rw [if_neg h, if_neg h]
theorem settleI {H G B T : Nat} {sx sm : S0 → Int32 → Int32 → Option (Int32 × S0)} (fx : ∀ ρ (σ : S0) a0 a1, sx (mix σ ρ) a0 a1 = mo ρ (sx σ a0 a1)) (fm : ∀ σ (ρ : S0) a0 a1, sm (mix σ ρ) a0 a1 = mp σ (sm ρ a0 a1)) (x1 x2 : Int32)
    (hs : ∀ σ, Rall σ H G B T → Two (sx σ x1 (x2 + 1)) (sm σ x1 (x2 + 1)) (fun r s ν => r = s ∧ Rall ν H G B T)) : ∀ (d i m : Nat) (σ : S0) (c : Int32), H - i = d → i ≤ H → d < m → (c = 0 ∨ c = 1) → Rall σ H G B T → Two (obp (fX0_changeInRound_h4 m σ c (nI i)) (fun r2 σ3 => if ¬ r2 = 0 then sx σ3 x1 (x2 + 1) else some (x2, σ3))) (fX11_settle_h26 sm m σ x1 x2 c (nI i)) (fun r s ν => r = s ∧ Rall ν H G B T) := by
  intro d
  have hone : ¬ (1 : Int32) = 0 := by decide
  induction d with
  | zero =>
    intro i m σ c h1 h2 h3 hc hr
    obtain ⟨m, rfl⟩ : ∃ q, m = q + 1 := ⟨m - 1, by omega⟩
    have hH := hr.1.1.2.1
    have : i = H := by omega
    subst this
    show Two (obp (fX0_changeInRound_b4 _ _ _ _) _) (fX11_settle_b26 _ _ _ _ _ _ _) _
    unfold fX0_changeInRound_b4 fX11_settle_b26
    rw [if_pos (show σ 22 0 ≤ nI i from by rw [hr.1.2.2.1]; exact nI_le (Nat.le_refl _) (by omega)), if_pos (show σ 98 2 ≤ nI i from by rw [hr.1.2.1.1]; exact nI_le (Nat.le_refl _) (by omega)), og_t hc]
    simp only [obp, ol]
    by_cases q : c = 0
    · rw [if_neg (fun z => z q), if_neg (fun z => z q)]
      exact Two.mk ⟨rfl, hr⟩
    · rw [if_pos q, if_pos q]
      exact hs σ hr
  | succ d ih =>
    intro i m σ c h1 h2 h3 hc hr
    obtain ⟨m, rfl⟩ : ∃ q, m = q + 1 := ⟨m - 1, by omega⟩
    have hH := hr.1.1.2.1
    show Two (obp (fX0_changeInRound_b4 _ _ _ _) _) (fX11_settle_b26 _ _ _ _ _ _ _) _
    unfold fX0_changeInRound_b4 fX11_settle_b26 fX0_changeInRound_b34 fX11_settle_b56
    rw [if_neg (show ¬ (σ 22 0 ≤ nI i) from by rw [hr.1.2.2.1]; exact nI_ge (by omega) (by omega)), if_neg (show ¬ (σ 98 2 ≤ nI i) from by rw [hr.1.2.1.1]; exact nI_ge (by omega) (by omega))]
    simp only [ol, nI_1]
    rw [obp_a]
    have hX : ∀ (c : Int32), FX (fun σ => obp (fX0_changeInRound_h4 m σ c (nI (i + 1))) (fun r2 σ3 => if ¬ r2 = 0 then sx σ3 x1 (x2 + 1) else some (x2, σ3))) := fun c σ ρ => by
      show obp (fX0_changeInRound_h4 m (mix σ ρ) c (nI (i + 1))) _ = _
      simp only [rx_fX0_changeInRound_h4, obp_mo, mo_obp, mo_ite, mo_some, fx]
    have hM : ∀ (c : Int32), FM (fun σ => fX11_settle_h26 sm m σ x1 x2 c (nI (i + 1))) := fun c σ ρ => rm_fX11_settle_h26 σ sm (fm σ) m ρ _ _ _ _
    refine (wants2 hr (show i < H by omega)).bind (fun a σ ρ => ?_) (fun a σ ρ => ?_) (fun a b ν hν => ?_)
    · simp (disch := omega) only [obp_i, obp_a, rx_fX0_changeInRound_h4, rx_fX0_setFees, mix_lo, obp_mo, mo_obp, mo_ite, mo_some, fx]
    · have e := fun (ρ : S0) (a : Int32) => hM a σ ρ
      simp (disch := omega) only at e
      simp (disch := omega) only [e, rm_fX11_asks, mix_hi, obp_mp, mp_obp, mp_ite, mp_some]
    · obtain ⟨rfl, q2, j, j1, j2, j3⟩ := hν
      simp only [obp_i, obp_a]
      by_cases q : a = 0
      · rw [if_pos q, if_pos q]
        exact ih (i + 1) m ν c (by omega) (by omega) (by omega) hc q2
      · rw [if_neg q, if_neg q, j2, j3]
        exact (set2 (h := i) q2 j1).bind (fun _ => hX 1) (fun _ => hM 1) (fun _ _ ν hν => ih (i + 1) m ν 1 (by omega) (by omega) (by omega) (Or.inr rfl) hν)
theorem settleO {H G B T n : Nat} (hn : n ≤ 30) : ∀ (d i m : Nat) (σ : S0), n - i = d → i ≤ n → d < m → Rall σ H G B T → Two (fX10_settle_h15 m σ (nI n) (nI i)) (fX11_settle_h16 m σ (nI n) (nI i)) (fun r s ν => r = s ∧ Rall ν H G B T) := by
  intro d
  induction d with
  | zero =>
    intro i m σ h1 h2 h3 hr
    obtain ⟨m, rfl⟩ : ∃ q, m = q + 1 := ⟨m - 1, by omega⟩
    have : i = n := by omega
    subst this
    show Two (fX10_settle_b15 _ _ _ _) (fX11_settle_b16 _ _ _ _) _
    unfold fX10_settle_b15 fX11_settle_b16
    rw [if_pos (nI_le (Nat.le_refl _) (by omega)), if_pos (nI_le (Nat.le_refl _) (by omega))]
    exact Two.mk ⟨rfl, hr⟩
  | succ d ih =>
    intro i m σ h1 h2 h3 hr
    obtain ⟨m, rfl⟩ : ∃ q, m = q + 1 := ⟨m - 1, by omega⟩
    have hH := hr.1.1.2.1
    show Two (fX10_settle_b15 _ _ _ _) (fX11_settle_b16 _ _ _ _) _
    unfold fX10_settle_b15 fX11_settle_b16
    rw [if_neg (nI_ge (by omega) (by omega)), if_neg (nI_ge (by omega) (by omega))]
    simp only [ol]
    exact settleI (fun ρ σ a0 a1 => rx_fX10_settle_h15 ρ m σ a0 a1) (fun σ ρ a0 a1 => rm_fX11_settle_h16 σ m ρ a0 a1) (nI n) (nI i) (fun σ hr => by rw [nI_1]; exact ih (i + 1) m σ (by omega) (by omega) (by omega) hr) H 0 400 σ 0 (by omega) (by omega) (by omega) (Or.inl rfl) hr
theorem sim_settle (x : Int32) : Sim (fun σ => fX10_settle σ x) (fun σ => fX11_settle σ x) := by
  refine Sim.of2 (fun σ ρ => rx_fX10_settle ρ σ x) (fun σ ρ => rm_fX11_settle σ ρ x) (fun σ hR => ?_)
  show Two (fX10_settle σ x) (fX11_settle σ x) _
  obtain ⟨H, G, B, T, h⟩ := id hR
  have hone : ¬ (1 : Int32) = 0 := by decide
  have l1 : (x < 1) ↔ x.toInt < 1 := i3_lt x 1
  have l30 : (x ≤ 30) ↔ x.toInt ≤ 30 := i3_le x 30
  by_cases hx : 1 ≤ x.toInt ∧ x.toInt ≤ 30
  · obtain ⟨n, hn, rfl⟩ : ∃ j, j < 31 ∧ x = nI j := by
      rcases ixc x 31 (by omega) with q | q
      · exact q
      · omega
    have eX : fX10_settle σ (nI n) = fX10_settle_h15 400 σ (nI n) (nI 0) := by
      unfold fX10_settle
      rw [if_neg (by rw [l1]; omega), if_pos (by rw [l30]; omega)]
      rfl
    have eM : fX11_settle σ (nI n) = fX11_settle_h16 400 σ (nI n) (nI 0) := by
      unfold fX11_settle
      rw [in_i σ (nI n) 1 30 1 30 rfl rfl, if_pos hx]
      simp only [obp]
      rw [if_pos hone]
      rfl
    rw [eX, eM]
    exact (settleO (by omega) n 0 400 σ (by omega) (by omega) (by omega) h).mono (fun a b ν q => ⟨q.1, H, G, B, T, q.2⟩)
  · have eX : fX10_settle σ x = some (-1, σ) := by
      unfold fX10_settle
      by_cases q : x < 1
      · rw [if_pos q]
      · rw [if_neg q, if_neg (by rw [l30]; rw [l1] at q; omega)]
    have eM : fX11_settle σ x = some (-1, σ) := by
      unfold fX11_settle
      rw [in_i σ x 1 30 1 30 rfl rfl, if_neg hx]
      rfl
    rw [eX, eM]
    exact Two.mk ⟨rfl, hR⟩
theorem settled_1 {σ : S0} {H : Nat} (hH : H ≤ 6) (e : σ 98 2 = nI H) : ∀ (d i m : Nat), H - i = d → i ≤ H → d < m → fX11_settled_h4 m σ 1 (nI i) = some (0, σ) := by
  intro d
  have hone : ¬ (1 : Int32) = 0 := by decide
  induction d with
  | zero =>
    intro i m h1 h2 h3
    obtain ⟨m, rfl⟩ : ∃ q, m = q + 1 := ⟨m - 1, by omega⟩
    have : i = H := by omega
    subst this
    show fX11_settled_b4 _ _ _ _ = _
    unfold fX11_settled_b4 fX11_settled_b45 fX11_flag
    rw [if_pos (show σ 98 2 ≤ nI i from by rw [e]; exact nI_le (Nat.le_refl _) (by omega)), if_pos hone]
    rfl
  | succ d ih =>
    intro i m h1 h2 h3
    obtain ⟨m, rfl⟩ : ∃ q, m = q + 1 := ⟨m - 1, by omega⟩
    show fX11_settled_b4 _ _ _ _ = _
    unfold fX11_settled_b4 fX11_settled_b24 fX11_settled_b29
    rw [if_neg (show ¬ (σ 98 2 ≤ nI i) from by rw [e]; exact nI_ge (by omega) (by omega)), if_pos hone]
    simp only [ol, nI_1]
    exact ih (i + 1) m (by omega) (by omega) (by omega)
theorem settledO {H G B T : Nat} : ∀ (d i m : Nat) (σ : S0), H - i = d → i ≤ H → d < m → Rall σ H G B T → Two (fX10_settled_h2 m σ (nI i)) (fX11_settled_h4 m σ 0 (nI i)) (fun r s ν => r = s ∧ Rall ν H G B T) := by
  intro d
  have hone : ¬ (1 : Int32) = 0 := by decide
  induction d with
  | zero =>
    intro i m σ h1 h2 h3 hr
    obtain ⟨m, rfl⟩ : ∃ q, m = q + 1 := ⟨m - 1, by omega⟩
    have hH := hr.1.1.2.1
    have : i = H := by omega
    subst this
    show Two (fX10_settled_b2 _ _ _) (fX11_settled_b4 _ _ _ _) _
    unfold fX10_settled_b2 fX11_settled_b4 fX11_settled_b45 fX11_flag
    rw [if_pos (show σ 22 0 ≤ nI i from by rw [hr.1.2.2.1]; exact nI_le (Nat.le_refl _) (by omega)), if_pos (show σ 98 2 ≤ nI i from by rw [hr.1.2.1.1]; exact nI_le (Nat.le_refl _) (by omega)), if_neg (fun q => q rfl), if_neg hone]
    exact Two.mk ⟨rfl, hr⟩
  | succ d ih =>
    intro i m σ h1 h2 h3 hr
    obtain ⟨m, rfl⟩ : ∃ q, m = q + 1 := ⟨m - 1, by omega⟩
    have hH := hr.1.1.2.1
    show Two (fX10_settled_b2 _ _ _) (fX11_settled_b4 _ _ _ _) _
    unfold fX10_settled_b2 fX11_settled_b4 fX11_settled_b24 fX11_settled_b29
    rw [if_neg (show ¬ (σ 22 0 ≤ nI i) from by rw [hr.1.2.2.1]; exact nI_ge (by omega) (by omega)), if_neg (show ¬ (σ 98 2 ≤ nI i) from by rw [hr.1.2.1.1]; exact nI_ge (by omega) (by omega)), if_neg (fun q => q rfl)]
    simp only [ol, nI_1]
    refine (wants2 hr (show i < H by omega)).bind (fun a σ ρ => ?_) (fun a σ ρ => ?_) (fun a b ν hν => ?_)
    · simp (disch := omega) only [rx_fX10_settled_h2, mo_ite, mo_some]
    · simp (disch := omega) only [rm_fX11_settled_h4, mp_ite]
    · obtain ⟨rfl, q2, -⟩ := hν
      by_cases q : a = 0
      · rw [if_pos q, if_pos q]
        exact ih (i + 1) m ν (by omega) (by omega) (by omega) q2
      · rw [if_neg q, if_neg q, settled_1 hH q2.1.2.1.1 (H - (i + 1)) (i + 1) m (by omega) (by omega) (by omega)]
        exact Two.mk ⟨rfl, q2⟩
theorem sim_settled : Sim fX10_settled fX11_settled := by
  refine Sim.of2 (fun σ ρ => rx_fX10_settled ρ σ) (fun σ ρ => rm_fX11_settled σ ρ) (fun σ hR => ?_)
  obtain ⟨H, G, B, T, h⟩ := id hR
  have hH := h.1.1.2.1
  exact (settledO H 0 400 σ (by omega) (by omega) (by omega) h).mono (fun a b ν q => ⟨q.1, H, G, B, T, q.2⟩)
theorem sim_ask (x y : Int32) : Sim (fun σ => fX10_ask σ x y) (fun σ => fX11_ask σ x y) := by
  refine Sim.of2 (fun σ ρ => rx_fX10_ask ρ σ x y) (fun σ ρ => rm_fX11_ask σ ρ x y) (fun σ hR => ?_)
  show Two (fX10_ask σ x y) (fX11_ask σ x y) _
  obtain ⟨H, G, B, T, h⟩ := id hR
  obtain ⟨⟨b1, b2, b3, b4, b5⟩, ⟨e1, e2, e5, e6⟩, e3, e4, e7⟩ := h.1
  have hone : ¬ (1 : Int32) = 0 := by decide
  have l0 : (y < 0) ↔ y.toInt < 0 := i3_lt y 0
  have l20 : ((20 : Int32) < y) ↔ 20 < y.toInt := i3_lt 20 y
  rcases ixc x H (by omega) with ⟨j, hj, rfl⟩ | hx
  · by_cases hy : 0 ≤ y.toInt ∧ y.toInt ≤ 20
    · obtain ⟨a, ha, rfl⟩ : ∃ j, j < 21 ∧ y = nI j := by
        rcases ixc y 21 (by omega) with q | q
        · exact q
        · omega
      obtain ⟨τ, t1, t2, t3⟩ := weigh_s h hj
      have hb := brings_s (nI a) h t3 (by rw [t2 22 (by omega)]; exact e7)
      obtain ⟨ρ, r1, r2, -⟩ := askOf_s (a := a) h hj (by omega)
      refine ⟨wgh (fs (σ 99) j (nI a) B) (σ 101) (nI G) T j, τ, wgh (fs (σ 99) j (nI a) B) (σ 101) (nI G) T j, ρ, ?_, ?_, rfl, H, G, B, T, h.cg (t2.e.mx r2.e)⟩
      · unfold fX10_ask fX10_isFee
        rw [hh_y e3 (by omega) hj]
        simp only [obp]
        rw [if_neg hone, if_neg (by rw [l0]; omega), if_neg (by rw [l20]; omega)]
        simp only
        rw [if_pos hone, t1]
        simp only
        rw [hb]
      · unfold fX11_ask
        rw [ih_y e1 (by omega) hj]
        simp only [obp]
        rw [if_neg hone, in_i σ (nI a) 0 20 0 20 rfl rfl, if_pos hy]
        simp only
        rw [if_neg hone, r1]
    · have eX : fX10_ask σ (nI j) y = some (-1, σ) := by
        unfold fX10_ask fX10_isFee
        rw [hh_y e3 (by omega) hj]
        simp only [obp]
        rw [if_neg hone]
        by_cases q : y < 0
        · rw [if_pos q]; rfl
        · rw [if_neg q, if_pos (by rw [l20]; rw [l0] at q; omega)]; rfl
      have eM : fX11_ask σ (nI j) y = some (-1, σ) := by
        unfold fX11_ask
        rw [ih_y e1 (by omega) hj]
        simp only [obp]
        rw [if_neg hone, in_i σ y 0 20 0 20 rfl rfl, if_neg hy]
        rfl
      rw [eX, eM]
      exact Two.mk ⟨rfl, hR⟩
  · have eX : fX10_ask σ x y = some (-1, σ) := by
      unfold fX10_ask; rw [hh_n e3 (by omega) hx]; rfl
    have eM : fX11_ask σ x y = some (-1, σ) := by
      unfold fX11_ask; rw [ih_n e1 (by omega) hx]; rfl
    rw [eX, eM]
    exact Two.mk ⟨rfl, hR⟩
theorem sim_best (x y : Int32) : Sim (fun σ => fX10_best σ x y) (fun σ => fX11_best σ x y) := by
  refine Sim.of2 (fun σ ρ => rx_fX10_best ρ σ x y) (fun σ ρ => rm_fX11_best σ ρ x y) (fun σ hR => ?_)
  show Two (fX10_best σ x y) (fX11_best σ x y) _
  obtain ⟨H, G, B, T, h⟩ := id hR
  obtain ⟨⟨b1, b2, b3, b4, b5⟩, ⟨e1, e2, e5, e6⟩, e3, e4, e7⟩ := h.1
  have hone : ¬ (1 : Int32) = 0 := by decide
  have l0 : (y < 0) ↔ y.toInt < 0 := i3_lt y 0
  have l1 : (y ≤ 1) ↔ y.toInt ≤ 1 := i3_le y 1
  rcases ixc x H (by omega) with ⟨j, hj, rfl⟩ | hx
  · by_cases hy : 0 ≤ y.toInt ∧ y.toInt ≤ 1
    · obtain ⟨τ, t1, t2, t3, t4⟩ := choose_s h hj
      obtain ⟨ρ, r1, r2, r3, r4⟩ := findBest_s h hj
      refine ⟨if ¬ y = 0 then (bs (Fw σ G B T j) 20).2 else (bs (Fw σ G B T j) 20).1, τ, if ¬ y = 0 then (bs (Fw σ G B T j) 20).2 else (bs (Fw σ G B T j) 20).1, ρ, ?_, ?_, rfl, H, G, B, T, h.cg (t2.e.mx r2.e)⟩
      · unfold fX10_best
        rw [hh_y e3 (by omega) hj]
        simp only [obp]
        rw [if_neg hone, if_neg (by rw [l0]; omega), if_pos (by rw [l1]; omega), t1]
        simp only
        rw [t3, t4]
        by_cases c : y = 0
        · rw [if_neg (fun q => q c), if_neg (fun q => q c)]
        · rw [if_pos c, if_pos c]
      · unfold fX11_best
        rw [ih_y e1 (by omega) hj]
        simp only [obp]
        rw [if_neg hone, in_i σ y 0 1 0 1 rfl rfl, if_pos hy]
        simp only
        rw [if_pos hone, r1]
        simp only
        rw [r3, r4]
        by_cases c : y = 0
        · rw [if_neg (fun q => q c), if_neg (fun q => q c)]
        · rw [if_pos c, if_pos c]
    · have eX : fX10_best σ (nI j) y = some (-1, σ) := by
        unfold fX10_best
        rw [hh_y e3 (by omega) hj]
        simp only [obp]
        rw [if_neg hone]
        by_cases q : y < 0
        · rw [if_pos q]
        · rw [if_neg q, if_neg (by rw [l1]; rw [l0] at q; omega)]
      have eM : fX11_best σ (nI j) y = some (-1, σ) := by
        unfold fX11_best
        rw [ih_y e1 (by omega) hj]
        simp only [obp]
        rw [if_neg hone, in_i σ y 0 1 0 1 rfl rfl, if_neg hy]
        rfl
      rw [eX, eM]
      exact Two.mk ⟨rfl, hR⟩
  · have eX : fX10_best σ x y = some (-1, σ) := by
      unfold fX10_best; rw [hh_n e3 (by omega) hx]; rfl
    have eM : fX11_best σ x y = some (-1, σ) := by
      unfold fX11_best; rw [ih_n e1 (by omega) hx]; rfl
    rw [eX, eM]
    exact Two.mk ⟨rfl, hR⟩
end
section
/-! THE START: firstDraft, keepDraft, the relation of the new object -/
def z80 (σ : S0) (i : Nat) : S0 := fun x y => if x = 102 ∧ i ≤ y ∧ y < 80 then 0 else σ x y
theorem z80_su {σ : S0} {i : Nat} (h : i < 80) : z80 (su σ 102 i 0) (i + 1) = z80 σ i := by
  funext x y
  unfold z80
  by_cases hx : x = 102 ∧ i ≤ y ∧ y < 80
  · rw [if_pos hx]
    by_cases hy : y = i
    · rw [if_neg (by omega), hx.1, hy, su_s]
    · rw [if_pos (by omega)]
  · rw [if_neg hx, if_neg (by omega)]
    by_cases h9 : x = 102
    · rw [h9, su_j (by omega)]
    · rw [su_ne h9]
theorem z80_n (σ : S0) : z80 σ 80 = σ := by
  funext x y
  unfold z80
  rw [if_neg (by omega)]
def fdS (σ : S0) : S0 := su (su (su (su (su (su (su σ 98 9 3) 98 10 3) 98 11 0) 98 12 0) 98 13 (-4)) 98 14 (-4)) 98 15 0
theorem firstDraft_l : ∀ (d i m : Nat) (σ : S0), 80 - i = d → i ≤ 80 → d < m → fX11_firstDraft_h2 m σ (nI i) = some (0, fdS (z80 σ i)) := by
  intro d
  induction d with
  | zero =>
    intro i m σ h1 h2 h3
    obtain ⟨m, rfl⟩ : ∃ q, m = q + 1 := ⟨m - 1, by omega⟩
    have : i = 80 := by omega
    subst this
    show fX11_firstDraft_b2 _ _ _ = _
    unfold fX11_firstDraft_b2
    rw [if_pos (show (80 : Int32) ≤ nI 80 from by decide), z80_n]
    rfl
  | succ d ih =>
    intro i m σ h1 h2 h3
    obtain ⟨m, rfl⟩ : ∃ q, m = q + 1 := ⟨m - 1, by omega⟩
    show fX11_firstDraft_b2 _ _ _ = _
    unfold fX11_firstDraft_b2
    rw [if_neg (show ¬ ((80 : Int32) ≤ nI i) from nI_ge (b := 80) (by omega) (by omega))]
    simp only [ol]
    rw [og_t (ix_ok (by omega) (by omega)), nI_clamp (by omega), nI_1, ih (i + 1) m _ (by omega) (by omega) (by omega), z80_su (by omega)]
theorem firstDraft_s (σ : S0) : fX11_firstDraft σ = some (0, fdS (z80 σ 0)) := firstDraft_l 80 0 400 σ (by omega) (by omega) (by omega)
theorem fdS_ne {σ : S0} {x : Nat} (h : x ≠ 98) : fdS σ x = σ x := by
  unfold fdS
  simp (disch := omega) only [su_ne]
theorem fdS_j {σ : S0} {j : Nat} (h : j < 9 ∨ 15 < j) : fdS σ 98 j = σ 98 j := by
  unfold fdS
  simp (disch := omega) only [su_j]
theorem z80_ne {σ : S0} {i x : Nat} (h : x ≠ 102) : z80 σ i x = σ x := by
  funext y
  unfold z80
  rw [if_neg (fun q => h q.1)]
theorem z80_in {σ : S0} {j : Nat} (h : j < 80) : z80 σ 0 102 j = 0 := by
  unfold z80
  rw [if_pos (by omega)]
/-- what firstDraft leaves -/
theorem fd_facts (σ : S0) : (∀ x, x ≠ 98 → x ≠ 102 → fdS (z80 σ 0) x = σ x) ∧ (∀ j, j < 80 → fdS (z80 σ 0) 102 j = 0) ∧ (∀ j, j < 9 ∨ 15 < j → fdS (z80 σ 0) 98 j = σ 98 j) ∧ fdS (z80 σ 0) 98 9 = 3 ∧ fdS (z80 σ 0) 98 10 = 3 ∧ fdS (z80 σ 0) 98 11 = 0 ∧ fdS (z80 σ 0) 98 12 = 0 ∧ fdS (z80 σ 0) 98 13 = -4 ∧ fdS (z80 σ 0) 98 14 = -4 ∧ fdS (z80 σ 0) 98 15 = 0 := by
  refine ⟨fun x h1 h2 => by rw [fdS_ne h1, z80_ne h2], fun j hj => by rw [fdS_ne (by omega), z80_in hj], fun j hj => by rw [fdS_j hj, z80_ne (by omega)], ?_, ?_, ?_, ?_, ?_, ?_, ?_⟩ <;> unfold fdS <;> simp (disch := omega) only [su_s, su_j]
def k80 (σ : S0) (i : Nat) : S0 := fun x y => if x = 99 ∧ i ≤ y ∧ y < 80 then σ 102 y else σ x y
theorem k80_su {σ : S0} {i : Nat} (h : i < 80) : k80 (su σ 99 i (σ 102 i)) (i + 1) = k80 σ i := by
  funext x y
  unfold k80
  by_cases hx : x = 99 ∧ i ≤ y ∧ y < 80
  · rw [if_pos hx]
    by_cases hy : y = i
    · rw [if_neg (by omega), hx.1, hy, su_s]
    · rw [if_pos (by omega), su_ne (by omega)]
  · rw [if_neg hx, if_neg (by omega)]
    by_cases h9 : x = 99
    · rw [h9, su_j (by omega)]
    · rw [su_ne h9]
theorem k80_n (σ : S0) : k80 σ 80 = σ := by
  funext x y
  unfold k80
  rw [if_neg (by omega)]
def k84 (σ : S0) (i : Nat) : S0 := fun x y => if x = 101 ∧ i ≤ y ∧ y < 84 then σ 103 y else σ x y
theorem k84_su {σ : S0} {i : Nat} (h : i < 84) : k84 (su σ 101 i (σ 103 i)) (i + 1) = k84 σ i := by
  funext x y
  unfold k84
  by_cases hx : x = 101 ∧ i ≤ y ∧ y < 84
  · rw [if_pos hx]
    by_cases hy : y = i
    · rw [if_neg (by omega), hx.1, hy, su_s]
    · rw [if_pos (by omega), su_ne (by omega)]
  · rw [if_neg hx, if_neg (by omega)]
    by_cases h9 : x = 101
    · rw [h9, su_j (by omega)]
    · rw [su_ne h9]
theorem k84_n (σ : S0) : k84 σ 84 = σ := by
  funext x y
  unfold k84
  rw [if_neg (by omega)]
def kdS (σ : S0) : S0 := su (su (su (su (su (su σ 98 2 (σ 98 9)) 98 3 (σ 98 10)) 98 4 (σ 98 11)) 98 5 (σ 98 12)) 100 0 0) 100 1 0
theorem keepDraft_l2 : ∀ (d i m : Nat) (σ : S0), 84 - i = d → i ≤ 84 → d < m → fX11_keepDraft_h28 m σ (nI i) = some (0, kdS (k84 σ i)) := by
  intro d
  induction d with
  | zero =>
    intro i m σ h1 h2 h3
    obtain ⟨m, rfl⟩ : ∃ q, m = q + 1 := ⟨m - 1, by omega⟩
    have : i = 84 := by omega
    subst this
    show fX11_keepDraft_b28 _ _ _ = _
    unfold fX11_keepDraft_b28
    rw [if_pos (show (84 : Int32) ≤ nI 84 from by decide), k84_n]
    simp only [ol]
    rw [og_t (by decide), og_t (by decide)]
    simp (disch := omega) only [su_j]
    rfl
  | succ d ih =>
    intro i m σ h1 h2 h3
    obtain ⟨m, rfl⟩ : ∃ q, m = q + 1 := ⟨m - 1, by omega⟩
    show fX11_keepDraft_b28 _ _ _ = _
    unfold fX11_keepDraft_b28
    rw [if_neg (show ¬ ((84 : Int32) ≤ nI i) from nI_ge (b := 84) (by omega) (by omega))]
    simp only [ol]
    rw [og_t (ix_ok (by omega) (by omega)), og_t (ix_ok (by omega) (by omega)), nI_clamp (by omega), nI_1, ih (i + 1) m _ (by omega) (by omega) (by omega), k84_su (by omega)]
theorem keepDraft_l1 : ∀ (d i m : Nat) (σ : S0), 80 - i = d → i ≤ 80 → d < m → fX11_keepDraft_h2 m σ (nI i) = some (0, kdS (k84 (k80 σ i) 0)) := by
  intro d
  induction d with
  | zero =>
    intro i m σ h1 h2 h3
    obtain ⟨m, rfl⟩ : ∃ q, m = q + 1 := ⟨m - 1, by omega⟩
    have : i = 80 := by omega
    subst this
    show fX11_keepDraft_b2 _ _ _ = _
    unfold fX11_keepDraft_b2
    rw [if_pos (show (80 : Int32) ≤ nI 80 from by decide), k80_n]
    exact keepDraft_l2 84 0 400 σ (by omega) (by omega) (by omega)
  | succ d ih =>
    intro i m σ h1 h2 h3
    obtain ⟨m, rfl⟩ : ∃ q, m = q + 1 := ⟨m - 1, by omega⟩
    show fX11_keepDraft_b2 _ _ _ = _
    unfold fX11_keepDraft_b2
    rw [if_neg (show ¬ ((80 : Int32) ≤ nI i) from nI_ge (b := 80) (by omega) (by omega))]
    simp only [ol]
    rw [og_t (ix_ok (by omega) (by omega)), og_t (ix_ok (by omega) (by omega)), nI_clamp (by omega), nI_1, ih (i + 1) m _ (by omega) (by omega) (by omega), k80_su (by omega)]
theorem keepDraft_s (σ : S0) : fX11_keepDraft σ = some (0, kdS (k84 (k80 σ 0) 0)) := keepDraft_l1 80 0 400 σ (by omega) (by omega) (by omega)
theorem kdS_ne {σ : S0} {x : Nat} (h : x ≠ 98) (h2 : x ≠ 100) : kdS σ x = σ x := by
  unfold kdS
  simp (disch := omega) only [su_ne]
theorem k80_ne {σ : S0} {i x : Nat} (h : x ≠ 99) : k80 σ i x = σ x := by
  funext y
  unfold k80
  rw [if_neg (fun q => h q.1)]
theorem k84_ne {σ : S0} {i x : Nat} (h : x ≠ 101) : k84 σ i x = σ x := by
  funext y
  unfold k84
  rw [if_neg (fun q => h q.1)]
/-- what keepDraft leaves -/
theorem kd_facts (σ : S0) : (∀ x, x ≠ 98 → x ≠ 99 → x ≠ 100 → x ≠ 101 → kdS (k84 (k80 σ 0) 0) x = σ x) ∧ (∀ j, j < 80 → kdS (k84 (k80 σ 0) 0) 99 j = σ 102 j) ∧ (∀ j, 80 ≤ j → kdS (k84 (k80 σ 0) 0) 99 j = σ 99 j) ∧ (∀ j, j < 84 → kdS (k84 (k80 σ 0) 0) 101 j = σ 103 j) ∧ (∀ j, j < 2 ∨ 5 < j → kdS (k84 (k80 σ 0) 0) 98 j = σ 98 j) ∧ kdS (k84 (k80 σ 0) 0) 98 2 = σ 98 9 ∧ kdS (k84 (k80 σ 0) 0) 98 3 = σ 98 10 ∧ kdS (k84 (k80 σ 0) 0) 98 4 = σ 98 11 ∧ kdS (k84 (k80 σ 0) 0) 98 5 = σ 98 12 ∧ kdS (k84 (k80 σ 0) 0) 100 0 = 0 ∧ kdS (k84 (k80 σ 0) 0) 100 1 = 0 := by
  have e98 : k84 (k80 σ 0) 0 98 = σ 98 := by rw [k84_ne (by omega), k80_ne (by omega)]
  refine ⟨fun x h1 h2 h3 h4 => by rw [kdS_ne h1 h3, k84_ne h4, k80_ne h2], fun j hj => ?_, fun j hj => ?_, fun j hj => ?_, fun j hj => ?_, ?_, ?_, ?_, ?_, ?_, ?_⟩
  · rw [kdS_ne (by omega) (by omega), k84_ne (by omega)]
    unfold k80
    rw [if_pos (by omega)]
  · rw [kdS_ne (by omega) (by omega), k84_ne (by omega)]
    unfold k80
    rw [if_neg (by omega)]
  · rw [kdS_ne (by omega) (by omega)]
    unfold k84
    rw [if_pos (by omega), k80_ne (by omega)]
  · unfold kdS
    simp (disch := omega) only [su_ne, su_j]
    rw [e98]
  all_goals
    unfold kdS
    simp (disch := omega) only [su_ne, su_j, su_s]
    try rw [e98]
theorem sigI_o {k : Nat} (h : k ≠ 4 ∧ k ≠ 22 ∧ k ≠ 90 ∧ k ≠ 92 ∧ k ≠ 94 ∧ k ≠ 96 ∧ k ≠ 108) : sigI k = fun _ => 0 := by
  unfold sigI sigX sus
  simp (disch := omega) only [List.foldl_cons, List.foldl_nil, su_ne]
/-- the new object's state -/
def sig0 : S0 := kdS (k84 (k80 (fdS (z80 sigI 0)) 0) 0)
theorem s0_o {k : Nat} (h : k ≠ 4 ∧ k ≠ 22 ∧ k ≠ 90 ∧ k ≠ 92 ∧ k ≠ 94 ∧ k ≠ 96 ∧ k ≠ 108 ∧ k ≠ 98 ∧ k ≠ 99 ∧ k ≠ 100 ∧ k ≠ 101 ∧ k ≠ 102) (j : Nat) : sig0 k j = 0 := by
  unfold sig0
  rw [(kd_facts _).1 k (by omega) (by omega) (by omega) (by omega), (fd_facts _).1 k (by omega) (by omega), sigI_o (by omega)]
theorem s0_i {k : Nat} (h : k ≠ 98 ∧ k ≠ 99 ∧ k ≠ 100 ∧ k ≠ 101 ∧ k ≠ 102) : sig0 k = sigI k := by
  unfold sig0
  rw [(kd_facts _).1 k (by omega) (by omega) (by omega) (by omega), (fd_facts _).1 k (by omega) (by omega)]
theorem s0_99 {j : Nat} (hj : j < 80) : sig0 99 j = 0 := by
  unfold sig0
  rw [(kd_facts _).2.1 j hj, (fd_facts _).2.1 j hj]
theorem s0_98 {j : Nat} (hj : 15 < j) : sig0 98 j = 0 := by
  unfold sig0
  rw [(kd_facts _).2.2.2.2.1 j (by omega), (fd_facts _).2.2.1 j (by omega), sigI_o (by omega)]
theorem s0_n : sig0 98 2 = 3 ∧ sig0 98 3 = 3 ∧ sig0 98 4 = 0 ∧ sig0 98 5 = 0 ∧ sig0 100 0 = 0 ∧ sig0 100 1 = 0 := by
  unfold sig0
  obtain ⟨-, -, -, -, -, a1, a2, a3, a4, a5, a6⟩ := kd_facts (fdS (z80 sigI 0))
  obtain ⟨-, -, -, b1, b2, b3, b4, -⟩ := fd_facts sigI
  exact ⟨a1.trans b1, a2.trans b2, a3.trans b3, a4.trans b4, a5, a6⟩
theorem start_p : ∃ r1 r2 σ1, fX11_firstDraft sigI = some (r1, σ1) ∧ fX11_keepDraft σ1 = some (r2, sig0) := ⟨0, 0, _, firstDraft_s _, keepDraft_s _⟩
theorem R_start : Rall sig0 3 3 0 0 := by
  obtain ⟨a1, a2, a3, a4, a5, a6⟩ := s0_n
  refine ⟨⟨by omega, ⟨a1, a2, a3, a4⟩, ?_, ?_, ?_⟩, ⟨?_, fun b hb => absurd hb (by omega), fun h hh => ?_, ?_, fun j hj hl => ?_⟩, ⟨⟨0, by omega, ?_, fun j hj => absurd hj (by omega)⟩, fun b hb => absurd hb (by omega), fun _ => 0, fun h hh => ⟨show 0 < 2 ^ 3 by decide, ?_⟩, fun a b _ _ => (Nat.zero_testBit b).trans (Nat.zero_testBit a).symm, fun a _ => ?_, fun a _ _ => rfl⟩, fun t ht => absurd ht (by omega), fun k hk => Or.inl ⟨?_, ?_⟩, ⟨0, by omega, ?_, ?_, fun j hj => absurd hj (by omega)⟩, fun k hk => ⟨Or.inl ⟨?_, ?_⟩, fun j hj => ?_⟩, ?_, ?_⟩
  · rw [s0_i (by omega)]; rfl
  · rw [s0_i (by omega)]; rfl
  · rw [s0_i (by omega)]; rfl
  · rw [s0_o (by omega)]; rfl
  · rw [s0_o (by omega), s0_99 (by omega)]
  · rw [s0_o (by omega), s0_99 (by omega)]
  · rw [s0_o (by omega), s0_99 (by omega)]
  · rw [s0_99 (by omega)]; rfl
  · rw [s0_99 (by omega)]; rfl
  · simp
  · rcases (show k = 0 ∨ k = 1 by omega) with rfl | rfl
    · exact a5
    · exact a6
  · rw [s0_o (by omega)]
  · rw [s0_o (by omega)]; rfl
  · rw [s0_98 (by omega)]; rfl
  · rw [s0_i (by omega)]
    rcases (show k = 0 ∨ k = 1 ∨ k = 2 ∨ k = 3 by omega) with rfl | rfl | rfl | rfl <;> rfl
  · rw [s0_i (by omega)]
    rcases (show k = 0 ∨ k = 1 ∨ k = 2 ∨ k = 3 by omega) with rfl | rfl | rfl | rfl <;> rfl
  · rw [s0_o (by omega), s0_o (by omega)]
  · unfold fr
    rw [s0_o (by omega), s0_98 (by omega)]
  · rw [s0_o (by omega), s0_98 (by omega)]
end
section
/-! noRung -/
def nr (σ : S0) (i : Nat) : S0 := fun x y => if x = 105 ∧ i ≤ y ∧ y < 6 then 0 else σ x y
theorem nr_su {σ : S0} {i : Nat} (h : i < 6) : nr (su σ 105 i 0) (i + 1) = nr σ i := by
  funext x y
  unfold nr
  by_cases hx : x = 105 ∧ i ≤ y ∧ y < 6
  · rw [if_pos hx]
    by_cases hy : y = i
    · rw [if_neg (by omega), hx.1, hy, su_s]
    · rw [if_pos (by omega)]
  · rw [if_neg hx, if_neg (by omega)]
    by_cases h9 : x = 105
    · rw [h9, su_j (by omega)]
    · rw [su_ne h9]
theorem nr_n (σ : S0) : nr σ 6 = σ := by
  funext x y
  unfold nr
  rw [if_neg (by omega)]
theorem noRung_l : ∀ (d i m : Nat) (σ : S0), 6 - i = d → i ≤ 6 → d < m → fX11_noRung_h2 m σ (nI i) = some (0, nr σ i) := by
  intro d
  induction d with
  | zero =>
    intro i m σ h1 h2 h3
    obtain ⟨m, rfl⟩ : ∃ q, m = q + 1 := ⟨m - 1, by omega⟩
    have : i = 6 := by omega
    subst this
    show fX11_noRung_b2 _ _ _ = _
    unfold fX11_noRung_b2
    rw [if_pos (show (6 : Int32) ≤ nI 6 from by decide), nr_n]
  | succ d ih =>
    intro i m σ h1 h2 h3
    obtain ⟨m, rfl⟩ : ∃ q, m = q + 1 := ⟨m - 1, by omega⟩
    show fX11_noRung_b2 _ _ _ = _
    unfold fX11_noRung_b2
    rw [if_neg (show ¬ ((6 : Int32) ≤ nI i) from nI_ge (b := 6) (by omega) (by omega))]
    simp only [ol]
    rw [og_t (ix_ok (by omega) (by omega)), nI_clamp (by omega), nI_1, ih (i + 1) m _ (by omega) (by omega) (by omega), nr_su (by omega)]
theorem noRung_s (σ : S0) : fX11_noRung σ = some (0, nr σ 0) := noRung_l 6 0 400 σ (by omega) (by omega) (by omega)
theorem nr_ne {σ : S0} {i x : Nat} (h : x ≠ 105) : nr σ i x = σ x := by
  funext y
  unfold nr
  rw [if_neg (fun q => h q.1)]
theorem nr_in {σ : S0} {j : Nat} (h : j < 6) : nr σ 0 105 j = 0 := by
  unfold nr
  rw [if_pos (by omega)]
end
