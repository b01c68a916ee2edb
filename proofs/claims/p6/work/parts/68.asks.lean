/-! ASKS: what a house would get, if it asked so much -/
abbrev bitp (x : Int32) (j : Nat) : Prop := (x >>> (nI j &&& 31)) &&& 1 = 1
theorem bit_h {j : Nat} (hj : j < 31) (x : Int32) : bitp x j ↔ x.toBitVec.getLsbD j = true := by
  unfold bitp
  rw [← Int32.toBitVec_inj, Int32.toBitVec_and, Int32.toBitVec_shiftRight, show ∀ (v w : BitVec 32), v.sshiftRight' w = v.sshiftRight w.toNat from fun _ _ => rfl, bit_b ⟨j, hj⟩]
  show (_ &&& 1#32 = 1#32) ↔ _
  rw [show (1#32 : BitVec 32) = BitVec.twoPow 32 0 from rfl, BitVec.and_twoPow, BitVec.getLsbD_sshiftRight]
  have : j + 0 < 32 := by omega
  have h32 : ¬ 32 ≤ j := by omega
  have h0 : ¬ 0#32 = BitVec.twoPow 32 0 := by decide
  simp only [this, if_true, Nat.add_zero]
  by_cases c : x.toBitVec.getLsbD j = true
  · simp [c, h32]
  · simp [c, h0, h32]
theorem bit_or {i j : Nat} (hi : i < 31) (hj : j < 31) (x : Int32) : bitp (x ||| ((1 : Int32) <<< (nI i &&& 31))) j ↔ bitp x j ∨ i = j := by
  rw [bit_h hj, bit_h hj, Int32.toBitVec_or, bit_a ⟨i, hi⟩, BitVec.getLsbD_or, BitVec.getLsbD_twoPow]
  have : j < 32 := by omega
  by_cases c : x.toBitVec.getLsbD j = true
  · simp [c]
  · by_cases q : i = j
    · simp [c, q, this]
    · simp [c, q]
theorem bit_0 {j : Nat} (hj : j < 31) : ¬ bitp 0 j := by
  rw [bit_h hj]
  simp
abbrev si (f g : Nat → Int32) (t i : Nat) : Prop := sil f (stk g t i) (rg f g t i).2.2.2.2
theorem rg_bit (f g : Nat → Int32) (t : Nat) : ∀ (i j : Nat), i ≤ 12 → j < 31 → (bitp (rg f g t i).2.2.1 j ↔ j < i ∧ si f g t j)
  | 0, j, _, hj => by
    constructor
    · intro q; exact absurd q (bit_0 hj)
    · intro q; omega
  | i + 1, j, hi, hj => by
    have ih := rg_bit f g t i j (by omega) hj
    by_cases c : si f g t i
    · have e : (rg f g t (i + 1)).2.2.1 = (rg f g t i).2.2.1 ||| ((1 : Int32) <<< (nI i &&& 31)) := by
        rw [rg, if_pos c]
      rw [e, bit_or (by omega) hj, ih]
      constructor
      · rintro (⟨q1, q2⟩ | rfl)
        · exact ⟨by omega, q2⟩
        · exact ⟨by omega, c⟩
      · rintro ⟨q1, q2⟩
        by_cases q : i = j
        · exact Or.inr q
        · exact Or.inl ⟨by omega, q2⟩
    · have e : (rg f g t (i + 1)).2.2.1 = (rg f g t i).2.2.1 := by
        rw [rg, if_neg c]
      rw [e, ih]
      constructor
      · rintro ⟨q1, q2⟩; exact ⟨by omega, q2⟩
      · rintro ⟨q1, q2⟩
        by_cases q : i = j
        · subst q; exact absurd q2 c
        · exact ⟨by omega, q2⟩
/-- the fees of house h's bells set to a -/
def fs (f : Nat → Int32) (h : Nat) (a : Int32) (B : Nat) : Nat → Int32 := fun i => if i % 5 = 1 ∧ i / 5 < B ∧ f (5 * (i / 5)) = nI h then a else f i
theorem fs_n {f : Nat → Int32} {h : Nat} {a : Int32} {B i : Nat} (q : i % 5 ≠ 1 ∨ 5 * B ≤ i) : fs f h a B i = f i := by
  unfold fs
  rw [if_neg (by omega)]
theorem fs_1 {f : Nat → Int32} {h : Nat} {a : Int32} {B b : Nat} (hb : b < B) : fs f h a B (5 * b + 1) = if f (5 * b) = nI h then a else f (5 * b + 1) := by
  unfold fs
  have e : (5 * b + 1) / 5 = b := by omega
  rw [e]
  by_cases c : f (5 * b) = nI h
  · rw [if_pos ⟨by omega, hb, c⟩, if_pos c]
  · rw [if_neg (fun q => c q.2.2), if_neg c]
theorem fs_o {f : Nat → Int32} {h : Nat} {a : Int32} {B b d : Nat} (hd : d ≠ 1) (h5 : d < 5) : fs f h a B (5 * b + d) = f (5 * b + d) := fs_n (by omega)
theorem fs_5 {f : Nat → Int32} {h : Nat} {a : Int32} {B b : Nat} : fs f h a B (5 * b) = f (5 * b) := fs_n (by omega)
theorem fs_60 {f : Nat → Int32} {h : Nat} {a : Int32} {B x : Nat} (hB : B ≤ 12) : fs f h a B (60 + x) = f (60 + x) := fs_n (by omega)
/-- how many halves of a fee house h has in bell b -/
def pp (f : Nat → Int32) (h b : Nat) : Int32 := if f (5 * b) = nI h then (if f (5 * b + 4) = -4 then 2 else 1) else if f (5 * b + 4) = nI h then 1 else 0
/-- own fees, own strokes, own halves, fees of others' that come in -/
def ws (f g : Nat → Int32) (h t : Nat) : Nat → Int32 × Int32 × Int32 × Int32
  | 0 => (0, 0, 0, 0)
  | i + 1 => if si f g t i then ws f g h t i else if f (5 * stk g t i) = nI h then ((ws f g h t i).1 + f (5 * stk g t i + 1), (ws f g h t i).2.1 + 1, (ws f g h t i).2.2.1 + pp f h (stk g t i), (ws f g h t i).2.2.2) else ((ws f g h t i).1, (ws f g h t i).2.1, (ws f g h t i).2.2.1, (ws f g h t i).2.2.2 + pp f h (stk g t i) * f (5 * stk g t i + 1))
theorem sil_fs {f : Nat → Int32} {h : Nat} {a : Int32} {B b : Nat} {l : Int32} (hB : B ≤ 12) : sil (fs f h a B) b l ↔ sil f b l := by
  unfold sil
  rw [fs_o (d := 3) (by omega) (by omega), fs_60 hB, fs_5]
theorem rg_fs {f g : Nat → Int32} {h t B n : Nat} {a : Int32} (hB : B ≤ 12) (hs : ∀ i, i < n → stk g t i < B) : ∀ i, i ≤ n → (rg (fs f h a B) g t i).2 = (rg f g t i).2 ∧ (rg (fs f h a B) g t i).1 + (ws f g h t i).1 = (rg f g t i).1 + a * (ws f g h t i).2.1
  | 0, _ => ⟨rfl, by simp [rg, ws]⟩
  | i + 1, hi => by
    obtain ⟨i1, i2⟩ := rg_fs (h := h) (a := a) (f := f) (g := g) (t := t) hB hs i (by omega)
    have hb := hs i (by omega)
    have hss : sil (fs f h a B) (stk g t i) (rg (fs f h a B) g t i).2.2.2.2 ↔ sil f (stk g t i) (rg f g t i).2.2.2.2 := by rw [i1]; exact sil_fs hB
    by_cases c : si f g t i
    · have e1 : rg (fs f h a B) g t (i + 1) = ((rg (fs f h a B) g t i).1, (rg (fs f h a B) g t i).2.1, (rg (fs f h a B) g t i).2.2.1 ||| ((1 : Int32) <<< (nI i &&& 31)), (rg (fs f h a B) g t i).2.2.2.1 + 1, (rg (fs f h a B) g t i).2.2.2.2) := by rw [rg, if_pos (hss.mpr c)]
      have e2 : rg f g t (i + 1) = ((rg f g t i).1, (rg f g t i).2.1, (rg f g t i).2.2.1 ||| ((1 : Int32) <<< (nI i &&& 31)), (rg f g t i).2.2.2.1 + 1, (rg f g t i).2.2.2.2) := by rw [rg, if_pos c]
      have e3 : ws f g h t (i + 1) = ws f g h t i := by rw [ws, if_pos c]
      rw [e1, e2, e3]
      simp only [i1]
      exact ⟨trivial, i2⟩
    · have e1 : rg (fs f h a B) g t (i + 1) = ((rg (fs f h a B) g t i).1 + fs f h a B (5 * stk g t i + 1), (rg (fs f h a B) g t i).2.1 + fs f h a B (5 * stk g t i + 2), (rg (fs f h a B) g t i).2.2.1, (rg (fs f h a B) g t i).2.2.2.1, fs f h a B (5 * stk g t i)) := by rw [rg, if_neg (fun q => c (hss.mp q))]
      have e2 : rg f g t (i + 1) = ((rg f g t i).1 + f (5 * stk g t i + 1), (rg f g t i).2.1 + f (5 * stk g t i + 2), (rg f g t i).2.2.1, (rg f g t i).2.2.2.1, f (5 * stk g t i)) := by rw [rg, if_neg c]
      rw [e1, e2, fs_o (d := 2) (by omega) (by omega), fs_5, fs_1 hb, ws, if_neg c]
      simp only [i1]
      refine ⟨trivial, ?_⟩
      by_cases q : f (5 * stk g t i) = nI h
      · rw [if_pos q, if_pos q]
        simp only
        grind
      · rw [if_neg q, if_neg q]
        simp only
        grind
theorem vl_fs {f g : Nat → Int32} {h t B : Nat} {a G : Int32} (hB : B ≤ 12) (hs : ∀ i, i < ln g t → stk g t i < B) : vl (fs f h a B) g G t = vl f g G t + (ws f g h t (ln g t)).1 - a * (ws f g h t (ln g t)).2.1 := by
  obtain ⟨i1, i2⟩ := rg_fs (h := h) (a := a) (f := f) (g := g) (t := t) hB hs (ln g t) (Nat.le_refl _)
  unfold vl rgn
  rw [i1]
  grind
theorem gb_fs {f : Nat → Int32} {h b B : Nat} {a : Int32} (hb : b < B) : gb (fs f h a B) h b = if f (5 * b) = nI h then a * pp f h b else pp f h b * f (5 * b + 1) := by
  unfold gb pp
  rw [fs_5, fs_o (d := 4) (by omega) (by omega), fs_1 hb]
  by_cases c1 : f (5 * b) = nI h
  · simp only [if_pos c1]
    by_cases c2 : f (5 * b + 4) = -4
    · simp only [if_pos c2]; grind
    · simp only [if_neg c2]; grind
  · simp only [if_neg c1]
    by_cases c2 : f (5 * b + 4) = nI h
    · simp only [if_pos c2]; grind
    · simp only [if_neg c2]; grind
theorem gs_fs {f g : Nat → Int32} {h t B n : Nat} {a : Int32} (hn : n ≤ 12) (hs : ∀ i, i < n → stk g t i < B) : ∀ i, i ≤ n → gs (fs f h a B) g (rg f g t n).2.2.1 h t i = a * (ws f g h t i).2.2.1 + (ws f g h t i).2.2.2
  | 0, _ => by simp [gs, ws]
  | i + 1, hi => by
    have ih := gs_fs (h := h) (a := a) (f := f) (g := g) (t := t) hn hs i (by omega)
    have hb := hs i (by omega)
    have hbit := rg_bit f g t n i hn (by omega)
    rw [gs, ih, gb_fs hb, ws]
    by_cases c : si f g t i
    · rw [if_pos (hbit.mpr ⟨by omega, c⟩), if_pos c]
      grind
    · rw [if_neg (fun q => c (hbit.mp q).2), if_neg c]
      by_cases q : f (5 * stk g t i) = nI h
      · rw [if_pos q, if_pos q]
        simp only
        grind
      · rw [if_neg q, if_neg q]
        simp only
        grind
/-- what house h gets of the tune taken -/
def wgh (f g : Nat → Int32) (G : Int32) (T h : Nat) : Int32 := if (tk f g G T).1 = -4 then 0 else gs f g (rgn f g (tk f g G T).1.toNatClampNeg).2.2.1 h (tk f g G T).1.toNatClampNeg (ln g (tk f g G T).1.toNatClampNeg)
