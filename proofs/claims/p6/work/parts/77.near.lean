/-! ROUND A BELL: the pure side -/
/-- bell b can ring behind x (a bell, or none) -/
abbrev cf (f : Nat → Int32) (x : Int32) (b : Nat) : Prop := x = -4 ∨ ¬ ((f (60 + (f (5 * x.toNatClampNeg)).toNatClampNeg) >>> (f (5 * b) &&& 31)) &&& 1 = 1)
def lm (f : Nat → Int32) (D : Nat → Nat) (x : Int32) : Nat → Nat
  | 0 => 99999
  | b + 1 => if cf f x b ∧ D b < lm f D x b then D b else lm f D x b
def la (f : Nat → Int32) (D : Nat → Nat) (x : Int32) : Nat → Int32
  | 0 => -4
  | b + 1 => if cf f x b ∧ D b < lm f D x b then nI b else la f D x b
theorem lm_le (f : Nat → Int32) (D : Nat → Nat) (x : Int32) : ∀ b, lm f D x b ≤ 99999
  | 0 => Nat.le_refl _
  | b + 1 => by
    have := lm_le f D x b
    unfold lm
    by_cases c : cf f x b ∧ D b < lm f D x b
    · rw [if_pos c]; omega
    · rw [if_neg c]; exact this
theorem lm_min (f : Nat → Int32) (D : Nat → Nat) (x : Int32) : ∀ b j, j < b → cf f x j → lm f D x b ≤ D j
  | 0, j, h, _ => by omega
  | b + 1, j, h, hc => by
    unfold lm
    by_cases c : cf f x b ∧ D b < lm f D x b
    · rw [if_pos c]
      by_cases q : j = b
      · subst q; exact Nat.le_refl _
      · have := lm_min f D x b j (by omega) hc
        omega
    · rw [if_neg c]
      by_cases q : j = b
      · subst q
        exact Nat.not_lt.mp (fun z => c ⟨hc, z⟩)
      · exact lm_min f D x b j (by omega) hc
theorem la_s (f : Nat → Int32) (D : Nat → Nat) (x : Int32) : ∀ b, (la f D x b = -4 ∧ lm f D x b = 99999) ∨ ∃ k, k < b ∧ la f D x b = nI k ∧ cf f x k ∧ D k = lm f D x b ∧ lm f D x b < 99999 ∧ ∀ j, j < k → cf f x j → lm f D x b < D j
  | 0 => Or.inl ⟨rfl, rfl⟩
  | b + 1 => by
    have ih := la_s f D x b
    have hle := lm_le f D x b
    have ea : la f D x (b + 1) = if cf f x b ∧ D b < lm f D x b then nI b else la f D x b := rfl
    have el : lm f D x (b + 1) = if cf f x b ∧ D b < lm f D x b then D b else lm f D x b := rfl
    rw [ea, el]
    by_cases c : cf f x b ∧ D b < lm f D x b
    · rw [if_pos c, if_pos c]
      exact Or.inr ⟨b, by omega, rfl, c.1, rfl, by omega, fun j hj hc => by
        have := lm_min f D x b j hj hc
        omega⟩
    · rw [if_neg c, if_neg c]
      rcases ih with h | ⟨k, h1, h2⟩
      · exact Or.inl h
      · exact Or.inr ⟨k, by omega, h2⟩
/-- the class's value of what is too far -/
def cv (n : Nat) : Nat := if n = 99999 then 1000000 else n
theorem cv_le {a b : Nat} (ha : a ≤ 99999) (hb : b ≤ 99999) : cv a ≤ cv b ↔ a ≤ b := by
  unfold cv
  by_cases c1 : a = 99999
  · rw [if_pos c1]
    by_cases c2 : b = 99999
    · rw [if_pos c2]; omega
    · rw [if_neg c2]; omega
  · rw [if_neg c1]
    by_cases c2 : b = 99999
    · rw [if_pos c2]; omega
    · rw [if_neg c2]
theorem cv_b (a : Nat) (h : a ≤ 99999) : cv a ≤ 1000000 := by
  unfold cv
  by_cases c1 : a = 99999
  · rw [if_pos c1]; omega
  · rw [if_neg c1]; omega
def dist (b s : Nat) : Nat := if s ≤ b then b - s else s - b
theorem dist_b {b s : Nat} (hb : b < 12) (hs : s < 12) : dist b s ≤ 11 := by
  unfold dist
  by_cases c : s ≤ b
  · rw [if_pos c]; omega
  · rw [if_neg c]; omega
theorem dist_x {b s : Nat} (hb : b < 12) (hs : s < 12) : (if 0 ≤ nI b - nI s then nI b - nI s else 0 - (nI b - nI s)) = nI (dist b s) := by
  unfold dist
  by_cases c : s ≤ b
  · rw [if_pos c, pk_sub c, if_pos (nI_pos' (by omega))]
  · rw [if_neg c, if_neg (fun q => absurd (pk_sneg (a := b) (b := s) (by omega) (by omega)) (Int32.not_lt.mpr q)), Int32.zero_sub, Int32.neg_sub, pk_sub (by omega)]
theorem dist_m (σ : S0) {b s : Nat} (hb : b < 12) (hs : s < 12) : fX11_size σ (nI b - nI s) = some (nI (dist b s), σ) := by
  unfold fX11_size dist
  by_cases c : s ≤ b
  · rw [if_pos c, pk_sub c, if_pos (nI_pos' (by omega))]
  · rw [if_neg c, if_neg (fun q => absurd (pk_sneg (a := b) (b := s) (by omega) (by omega)) (Int32.not_lt.mpr q)), Int32.neg_sub, pk_sub (by omega)]
/-- what is needed of the rows: owners below 6, feuds alike from both sides, shut 0 or 1 -/
def okB (f : Nat → Int32) (B : Nat) : Prop := B ≤ 12 ∧ (∀ b, b < B → ∃ w, w < 6 ∧ f (5 * b) = nI w) ∧ ∃ fo : Nat → Nat, (∀ h, h < 6 → fo h < 64 ∧ f (60 + h) = nI (fo h)) ∧ ∀ a b, a < 6 → b < 6 → (fo a).testBit b = (fo b).testBit a
theorem tb_t : ∀ m : Fin 64, ∀ w : Fin 6, (nI m.1 >>> (nI w.1 &&& 31)) &&& 1 = 1 ↔ m.1.testBit w.1 = true := by decide
theorem tb_n {m w : Nat} (hm : m < 64) (hw : w < 6) : ((nI m >>> (nI w &&& 31)) &&& 1 = 1) ↔ m.testBit w = true := tb_t ⟨m, hm⟩ ⟨w, hw⟩
def okX (B : Nat) (x : Int32) : Prop := x = -4 ∨ ∃ k, k < B ∧ x = nI k
theorem la_ok (f : Nat → Int32) (D : Nat → Nat) (x : Int32) (B : Nat) : okX B (la f D x B) := by
  rcases la_s f D x B with h | ⟨k, h1, h2, -⟩
  · exact Or.inl h.1
  · exact Or.inr ⟨k, h1, h2⟩
theorem canF_s {f : Nat → Int32} {B : Nat} (ok : okB f B) (σ : S0) (e : σ 99 = f) {k b : Nat} (hk : k < B) (hb : b < B) : fX11_canFollow σ (nI k) (nI b) = some (if cf f (nI k) b then 1 else 0, σ) := by
  have hB := ok.1
  obtain ⟨wk, k1, k2⟩ := ok.2.1 k hk
  obtain ⟨wb, b1, b2⟩ := ok.2.1 b hb
  have hm : ¬ nI k = -4 := nI_m4 (by omega)
  have hone : ¬ (1 : Int32) = 0 := by decide
  unfold fX11_canFollow
  rw [of_l σ (b := k) (w := 0) (x := 0) (by omega) (by omega) rfl]
  simp only [obp]
  rw [of_l σ (b := b) (w := 0) (x := 0) (by omega) (by omega) rfl]
  simp only [Nat.add_zero, e]
  rw [k2, isFeud_s σ k1, e]
  simp only
  have hc : cf f (nI k) b ↔ ¬ ((f (60 + wk) >>> (f (5 * b) &&& 31)) &&& 1 = 1) := by
    unfold cf
    rw [nI_clamp (by omega), k2, nI_clamp (by omega)]
    exact ⟨fun q => q.resolve_left hm, fun q => Or.inr q⟩
  by_cases c : (f (60 + wk) >>> (f (5 * b) &&& 31)) &&& 1 = 1
  · rw [if_pos c, if_pos hone, if_neg (fun q => hc.mp q c)]
  · rw [if_neg c, if_neg (fun q => q rfl), if_pos (hc.mpr c)]
/-- the class's row of values at a stroke -/
def rowX (D : Nat → Nat) (B r : Nat) (σ : S0) : Prop := ∀ b, b < B → σ r b = nI (cv (D b))
def okK (f : Nat → Int32) (B : Nat) (σ : S0) : Prop := σ 32 0 = nI B ∧ (∀ b, b < B → σ 33 b = f (5 * b) ∧ σ 36 b = f (5 * b + 3)) ∧ ∀ h, h < 6 → σ 38 h = f (60 + h)
theorem leastB_l {f : Nat → Int32} {D : Nat → Nat} {B i : Nat} (ok : okB f B) (hD : ∀ b, b < B → D b ≤ 99999) (hi : i < 12) {σ : S0} (k : okK f B σ) (hr : rowX D B (57 + i) σ) {x : Int32} (hx : okX B x) : ∀ (d b m : Nat), B - b = d → b ≤ B → d < m → fX4_leastBehind_h6 m σ (nI i) x (la f D x b) (nI b) = some (la f D x B, σ) := by
  have hB := ok.1
  obtain ⟨fo, f1, f2⟩ := ok.2.2
  have hgi := ix_ok (j := i) (n := 12) hi (by omega)
  have hci : (nI i).toNatClampNeg = i := nI_clamp (by omega)
  have hgi2 : ¬ (nI i < 0 ∨ 12 ≤ i) := fun q => hgi (by rw [hci]; exact q)
  intro d
  induction d with
  | zero =>
    intro b m h1 h2 h3
    obtain ⟨m, rfl⟩ : ∃ q, m = q + 1 := ⟨m - 1, by omega⟩
    have : b = B := by omega
    subst this
    show fX4_leastBehind_b6 _ _ _ _ _ _ = _
    unfold fX4_leastBehind_b6
    rw [if_pos (show σ 32 0 ≤ nI b from by rw [k.1]; exact nI_le (Nat.le_refl _) (by omega))]
  | succ d ih =>
    intro b m h1 h2 h3
    obtain ⟨m, rfl⟩ : ∃ q, m = q + 1 := ⟨m - 1, by omega⟩
    have hbB : b < B := by omega
    have ih' := ih (b + 1) m (by omega) (by omega) (by omega)
    have ea : la f D x (b + 1) = if cf f x b ∧ D b < lm f D x b then nI b else la f D x b := rfl
    have hgb := ix_ok (j := b) (n := 12) (by omega) (by omega)
    have hcb : (nI b).toNatClampNeg = b := nI_clamp (by omega)
    have hgb2 : ¬ (nI b < 0 ∨ 12 ≤ b) := fun q => hgb (by rw [hcb]; exact q)
    have hl := lm_le f D x b
    have skip : fX4_leastBehind_b58 (fX4_leastBehind_h6 m) σ (nI i) x (la f D x b) (nI b) 0 = fX4_leastBehind_h6 m σ (nI i) x (la f D x b) (nI (b + 1)) := by
      unfold fX4_leastBehind_b58 fX4_leastBehind_b99
      rw [if_pos rfl]
      simp only [ol, nI_1]
    have look : fX4_leastBehind_b53 (fX4_leastBehind_h6 m) σ (nI i) x (la f D x b) (nI b) = if lm f D x b ≤ D b then fX4_leastBehind_h6 m σ (nI i) x (la f D x b) (nI (b + 1)) else fX4_leastBehind_h6 m σ (nI i) x (nI b) (nI (b + 1)) := by
      unfold fX4_leastBehind_b53 fX4_leastBehind_b58
      rw [if_neg (by decide)]
      simp only [ol, og_t hgi, og_t hgi2, hci, Nat.one_mul, og_t hgb, og_t hgb2, hcb, hr b hbB]
      have key : fX4_leastBehind_b93 (fX4_leastBehind_h6 m) σ (nI i) x (la f D x b) (nI b) (nI (cv (lm f D x b))) (nI (cv (D b))) = if lm f D x b ≤ D b then fX4_leastBehind_h6 m σ (nI i) x (la f D x b) (nI (b + 1)) else fX4_leastBehind_h6 m σ (nI i) x (nI b) (nI (b + 1)) := by
        unfold fX4_leastBehind_b93 fX4_leastBehind_b99
        have c1 := cv_b _ hl
        have c2 := cv_b _ (hD b hbB)
        have e := (nI_leI (a := cv (lm f D x b)) (b := cv (D b)) (by omega) (by omega)).trans (cv_le hl (hD b hbB))
        simp only [ol, nI_1]
        by_cases c : lm f D x b ≤ D b
        · rw [if_pos c, if_pos (e.mpr c)]
        · rw [if_neg c, if_neg (fun q => c (e.mp q))]
      rcases la_s f D x b with ⟨q1, q2⟩ | ⟨k', q1, q2, q3, q4, q5, q6⟩
      · rw [if_neg (fun z => z q1)]
        rw [q2, show nI (cv 99999) = 1000000 from rfl] at key
        rw [q2]
        exact key
      · have hn : ¬ la f D x b = -4 := by rw [q2]; exact nI_m4 (by omega)
        rw [if_pos hn]
        have hck : (la f D x b).toNatClampNeg = k' := by rw [q2]; exact nI_clamp (by omega)
        have hgk : ¬ (la f D x b < 0 ∨ 12 ≤ (la f D x b).toNatClampNeg) := by rw [q2]; exact ix_ok (by omega) (by omega)
        rw [og_t hgk, hck, hr k' (by omega), q4]
        exact key
    have fin : cf f x b → (if lm f D x b ≤ D b then fX4_leastBehind_h6 m σ (nI i) x (la f D x b) (nI (b + 1)) else fX4_leastBehind_h6 m σ (nI i) x (nI b) (nI (b + 1))) = some (la f D x B, σ) := fun hc => by
      by_cases c : lm f D x b ≤ D b
      · rw [if_pos c]
        rw [ea, if_neg (fun q => absurd q.2 (Nat.not_lt.mpr c))] at ih'
        exact ih'
      · rw [if_neg c]
        rw [ea, if_pos ⟨hc, Nat.lt_of_not_le c⟩] at ih'
        exact ih'
    show fX4_leastBehind_b6 _ _ _ _ _ _ = _
    unfold fX4_leastBehind_b6
    rw [if_neg (show ¬ (σ 32 0 ≤ nI b) from by rw [k.1]; exact nI_ge hbB (by omega))]
    by_cases cx : x = -4
    · rw [if_pos cx, look]
      exact fin (Or.inl cx)
    · rw [if_neg cx]
      obtain ⟨k', k1, k2⟩ := hx.resolve_left cx
      obtain ⟨wk, u1, u2⟩ := ok.2.1 k' k1
      obtain ⟨wb, v1, v2⟩ := ok.2.1 b hbB
      have hckx : x.toNatClampNeg = k' := by rw [k2]; exact nI_clamp (by omega)
      have hgkx : ¬ (x < 0 ∨ 12 ≤ x.toNatClampNeg) := by rw [k2]; exact ix_ok (by omega) (by omega)
      have hgkx2 : ¬ (x < 0 ∨ 12 ≤ k') := by rw [← hckx]; exact hgkx
      have hc : cf f x b ↔ ¬ (fo wk).testBit wb = true := by
        unfold cf
        rw [hckx, u2, nI_clamp (by omega), v2, (f1 wk u1).2, tb_n (f1 wk u1).1 v1]
        exact ⟨fun q => q.resolve_left cx, fun q => Or.inr q⟩
      have ef : fX1_areFoes σ 32 (nI wb) (nI wk) = some (if (fo wk).testBit wb = true then 1 else 0, σ) := by
        unfold fX1_areFoes
        rw [og_t (ix_ok v1 (by omega)), nI_clamp (by omega)]
        simp only [ol, Nat.reduceAdd]
        rw [k.2.2 wb v1, (f1 wb v1).2]
        have e2 := (bits_n (f1 wb v1).1 u1).trans (not_congr (tb_n (f1 wb v1).1 u1))
        rw [f2 wb wk v1 u1] at e2
        by_cases c : (fo wk).testBit wb = true
        · rw [if_neg (fun q => e2.mp q c), if_pos c]
        · rw [if_pos (e2.mpr c), if_neg c]
      simp only [og_t hgb, og_t hgb2, hcb, ol, (k.2.1 b hbB).1, og_t hgkx, og_t hgkx2, hckx, (k.2.1 k' k1).1, v2, u2, ef, obp]
      by_cases c : (fo wk).testBit wb = true
      · simp only [if_pos c]
        rw [if_pos (by decide), skip]
        rw [ea, if_neg (fun q => hc.mp q.1 c)] at ih'
        exact ih'
      · simp only [if_neg c]
        rw [if_neg (by decide), look]
        exact fin (hc.mpr c)
theorem leastB_s {f : Nat → Int32} {D : Nat → Nat} {B i : Nat} (ok : okB f B) (hD : ∀ b, b < B → D b ≤ 99999) (hi : i < 12) {σ : S0} (k : okK f B σ) (hr : rowX D B (57 + i) σ) {x : Int32} (hx : okX B x) : fX4_leastBehind σ (nI i) x = some (la f D x B, σ) := leastB_l ok hD hi k hr hx B 0 400 (by omega) (by omega) (by have := ok.1; omega)
def rowM (D : Nat → Nat) (B i : Nat) (σ : S0) : Prop := ∀ b, b < B → σ 107 (12 * i + b) = nI (D b)
theorem x12 (i b : Nat) : (12 : Int32) * nI i + nI b = nI (12 * i + b) := by
  rw [show (12 : Int32) = nI 12 from rfl, pk_mul, nI_add]
theorem restOf_l {f : Nat → Int32} {D : Nat → Nat} {B i : Nat} (ok : okB f B) (hD : ∀ b, b < B → D b ≤ 99999) (hi : i < 12) {σ : S0} (e4 : σ 98 4 = nI B) (e99 : σ 99 = f) (hr : rowM D B i σ) {x : Int32} (hx : okX B x) : ∀ (d b m : Nat), B - b = d → b ≤ B → d < m → fX11_restOf_h7 m σ (nI i) x (nI (lm f D x b)) (nI b) = some (nI (lm f D x B), σ) := by
  have hB := ok.1
  intro d
  induction d with
  | zero =>
    intro b m h1 h2 h3
    obtain ⟨m, rfl⟩ : ∃ q, m = q + 1 := ⟨m - 1, by omega⟩
    have : b = B := by omega
    subst this
    show fX11_restOf_b7 _ _ _ _ _ _ = _
    unfold fX11_restOf_b7
    rw [if_pos (show σ 98 4 ≤ nI b from by rw [e4]; exact nI_le (Nat.le_refl _) (by omega))]
  | succ d ih =>
    intro b m h1 h2 h3
    obtain ⟨m, rfl⟩ : ∃ q, m = q + 1 := ⟨m - 1, by omega⟩
    have hbB : b < B := by omega
    have ih' := ih (b + 1) m (by omega) (by omega) (by omega)
    have ea : lm f D x (b + 1) = if cf f x b ∧ D b < lm f D x b then D b else lm f D x b := rfl
    have hl := lm_le f D x b
    have hDb := hD b hbB
    have hgv := ix_ok (j := 12 * i + b) (n := 156) (by omega) (by omega)
    have hcv : (nI (12 * i + b)).toNatClampNeg = 12 * i + b := nI_clamp (by omega)
    have hgv2 : ¬ (nI (12 * i + b) < 0 ∨ 156 ≤ 12 * i + b) := fun q => hgv (by rw [hcv]; exact q)
    have fin : cf f x b → fX11_restOf_b32 (fX11_restOf_h7 m) σ (nI i) x (nI (lm f D x b)) (nI b) = some (nI (lm f D x B), σ) := fun hc => by
      unfold fX11_restOf_b32 fX11_restOf_b64 fX11_restOf_b65
      simp only [ol, x12, og_t hgv, og_t hgv2, hcv, hr b hbB, nI_1]
      have e := nI_leI (a := lm f D x b) (b := D b) (by omega) (by omega)
      by_cases c : lm f D x b ≤ D b
      · rw [if_pos (e.mpr c)]
        rw [ea, if_neg (fun q => absurd q.2 (Nat.not_lt.mpr c))] at ih'
        exact ih'
      · rw [if_neg (fun q => c (e.mp q))]
        rw [ea, if_pos ⟨hc, Nat.lt_of_not_le c⟩] at ih'
        exact ih'
    show fX11_restOf_b7 _ _ _ _ _ _ = _
    unfold fX11_restOf_b7
    rw [if_neg (show ¬ (σ 98 4 ≤ nI b) from by rw [e4]; exact nI_ge hbB (by omega))]
    by_cases cx : x = -4
    · rw [if_pos cx]
      exact fin (Or.inl cx)
    · rw [if_neg cx]
      obtain ⟨k', k1, k2⟩ := hx.resolve_left cx
      have ec := canF_s ok σ e99 k1 hbB
      rw [← k2] at ec
      rw [ec]
      simp only [obp]
      by_cases c : cf f x b
      · rw [if_pos c, if_neg (by decide)]
        exact fin c
      · rw [if_neg c, if_pos rfl]
        unfold fX11_restOf_b65
        simp only [ol, nI_1]
        rw [ea, if_neg (fun q => c q.1)] at ih'
        exact ih'
theorem restOf_s {f : Nat → Int32} {D : Nat → Nat} {B i : Nat} (ok : okB f B) (hD : ∀ b, b < B → D b ≤ 99999) (hi : i < 12) {σ : S0} (e4 : σ 98 4 = nI B) (e99 : σ 99 = f) (hr : rowM D B i σ) {x : Int32} (hx : okX B x) : fX11_restOf σ (nI i) x = some (nI (lm f D x B), σ) := restOf_l ok hD hi e4 e99 hr hx B 0 400 (by omega) (by omega) (by have := ok.1; omega)
/-- the values at a stroke, k strokes ahead of the last one; s: the tune's strokes, n of them; w: the bell that is left out -/
def dv (f : Nat → Int32) (B : Nat) (s : Nat → Nat) (n w : Nat) : Nat → Nat → Nat
  | 0, b => if b ≠ w ∧ f (5 * b + 3) = 0 then dist b (s (n - 1)) else 99999
  | k + 1, b => if (b ≠ w ∧ f (5 * b + 3) = 0) ∧ lm f (dv f B s n w k) (nI b) B < 99999 then lm f (dv f B s n w k) (nI b) B + dist b (s (n - 1 - (k + 1))) else 99999
theorem dv_b {f : Nat → Int32} {B : Nat} {s : Nat → Nat} {n w : Nat} (hB : B ≤ 12) (hs : ∀ i, i < n → s i < 12) (hn : 1 ≤ n) : ∀ k, k < n → ∀ b, b < B → dv f B s n w k b = 99999 ∨ dv f B s n w k b ≤ 11 * (k + 1)
  | 0, _, b, hb => by
    unfold dv
    by_cases c : b ≠ w ∧ f (5 * b + 3) = 0
    · rw [if_pos c]
      have := dist_b (b := b) (s := s (n - 1)) (by omega) (hs _ (by omega))
      exact Or.inr (by omega)
    · rw [if_neg c]; exact Or.inl rfl
  | k + 1, hk, b, hb => by
    have ih := dv_b (f := f) (w := w) hB hs hn k (by omega)
    unfold dv
    by_cases c : (b ≠ w ∧ f (5 * b + 3) = 0) ∧ lm f (dv f B s n w k) (nI b) B < 99999
    · rw [if_pos c]
      have hd := dist_b (b := b) (s := s (n - 1 - (k + 1))) (by omega) (hs _ (by omega))
      rcases la_s f (dv f B s n w k) (nI b) B with ⟨q1, q2⟩ | ⟨j, q1, q2, q3, q4, q5, q6⟩
      · omega
      · rcases ih j q1 with z | z
        · omega
        · exact Or.inr (by omega)
    · rw [if_neg c]; exact Or.inl rfl
theorem dv_le {f : Nat → Int32} {B : Nat} {s : Nat → Nat} {n w : Nat} (hB : B ≤ 12) (hs : ∀ i, i < n → s i < 12) (hn : 1 ≤ n) (hn2 : n ≤ 12) {k : Nat} (hk : k < n) {b : Nat} (hb : b < B) : dv f B s n w k b ≤ 99999 := by
  rcases dv_b (f := f) (w := w) hB hs hn k hk b hb with h | h
  · omega
  · omega
