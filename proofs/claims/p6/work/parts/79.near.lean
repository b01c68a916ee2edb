/-! ROUND A BELL: the reference's rows; nearest, dear -/
def MX (f : Nat → Int32) (B : Nat) (s : Nat → Nat) (n t : Nat) (σ : S0) : Prop := σ 98 4 = nI B ∧ σ 99 = f ∧ σ 101 (14 * t + 1) = nI n ∧ ∀ i, i < n → σ 101 (14 * t + 2 + i) = nI (s i)
theorem MX.lo {f : Nat → Int32} {B : Nat} {s : Nat → Nat} {n t : Nat} {a b : S0} (h : MX f B s n t a) (o : ∀ x, x ≠ 107 → b x = a x) : MX f B s n t b := by
  unfold MX at h ⊢
  rw [o 98 (by omega), o 99 (by omega), o 101 (by omega)]
  exact h
theorem nsumI_l {f : Nat → Int32} {B : Nat} {s : Nat → Nat} {n t i w : Nat} (ok : okB f B) (ht : t < 6) (hs : ∀ i, i < n → s i < 12) (hn2 : n ≤ 12) (hi : i < n) (hw : w < 12) (sf : S0 → Int32 → Int32 → Int32 → Int32 → Option (Int32 × S0)) : ∀ (d b m : Nat) (σ : S0), B - b = d → b ≤ B → d < m → MX f B s n t σ → (i + 1 < n → rowM (DI f B s n w (i + 1)) B (i + 1) σ) → (∀ j, j < b → σ 107 (12 * i + j) = nI (DI f B s n w i j)) → ∃ τ, fX11_nearestSum_h19 sf m σ (nI t) (nI w) (nI n) (nI i) (nI b) = sf τ (nI t) (nI w) (nI n) (nI i + (-1)) ∧ (∀ x, x ≠ 107 → τ x = σ x) ∧ (∀ j, ¬ (12 * i ≤ j ∧ j < 12 * i + 12) → τ 107 j = σ 107 j) ∧ rowM (DI f B s n w i) B i τ := by
  have hB := ok.1
  intro d
  induction d with
  | zero =>
    intro b m σ h1 h2 h3 mx hr hj
    obtain ⟨m, rfl⟩ : ∃ q, m = q + 1 := ⟨m - 1, by omega⟩
    have : b = B := by omega
    subst this
    refine ⟨σ, ?_, fun _ _ => rfl, fun _ _ => rfl, hj⟩
    show fX11_nearestSum_b19 _ _ _ _ _ _ _ _ = _
    unfold fX11_nearestSum_b19
    rw [if_pos (show σ 98 4 ≤ nI b from by rw [mx.1]; exact nI_le (Nat.le_refl _) (by omega))]
    rfl
  | succ d ih =>
    intro b m σ h1 h2 h3 mx hr hj
    obtain ⟨m, rfl⟩ : ∃ q, m = q + 1 := ⟨m - 1, by omega⟩
    have hbB : b < B := by omega
    have hgv := ix_ok (j := 12 * i + b) (n := 156) (by omega) (by omega)
    have hcv : (nI (12 * i + b)).toNatClampNeg = 12 * i + b := nI_clamp (by omega)
    have b122 : ∀ v : Int32, fX11_nearestSum_b122 sf (fX11_nearestSum_h19 sf m) σ (nI t) (nI w) (nI n) (nI i) (nI b) v (12 * nI i + nI b) = fX11_nearestSum_h19 sf m (su σ 107 (12 * i + b) v) (nI t) (nI w) (nI n) (nI i) (nI (b + 1)) := fun v => by
      unfold fX11_nearestSum_b122
      rw [x12, og_t hgv, hcv]
      simp only [ol, nI_1]
    have b50 : ∀ r : Nat, r ≤ 99999 → fX11_nearestSum_b50 sf (fX11_nearestSum_h19 sf m) σ (nI t) (nI w) (nI n) (nI i) (nI b) (nI r) = fX11_nearestSum_h19 sf m (su σ 107 (12 * i + b) (nI (if (b ≠ w ∧ f (5 * b + 3) = 0) ∧ r < 99999 then r + dist b (s i) else 99999))) (nI t) (nI w) (nI n) (nI i) (nI (b + 1)) := fun r hr9 => by
      have b80 : fX11_nearestSum_b80 sf (fX11_nearestSum_h19 sf m) σ (nI t) (nI w) (nI n) (nI i) (nI b) (nI r) = fX11_nearestSum_h19 sf m (su σ 107 (12 * i + b) (nI 99999)) (nI t) (nI w) (nI n) (nI i) (nI (b + 1)) := by
        unfold fX11_nearestSum_b80 fX11_nearestSum_b81
        rw [if_pos rfl]
        exact b122 _
      unfold fX11_nearestSum_b50
      by_cases c1 : b = w
      · rw [if_pos (by rw [c1]), b80, if_neg (fun z => z.1.1 c1)]
      · rw [if_neg (fun q => c1 ((nI_eq (by omega) (by omega)).mp q)), of_l σ (b := b) (w := 3) (x := 3) (by omega) (by omega) rfl, mx.2.1]
        simp only [obp]
        by_cases c2 : f (5 * b + 3) = 0
        · rw [if_neg (fun q => q c2)]
          by_cases c3 : r < 99999
          · rw [if_neg (show ¬ (99999 : Int32) ≤ nI r from nI_ge (b := 99999) c3 (by omega)), if_pos ⟨⟨c1, c2⟩, c3⟩]
            unfold fX11_nearestSum_b81
            rw [if_neg (by decide), stroke_s σ ht (by omega), mx.2.2.2 i hi]
            simp only [obp]
            rw [dist_m σ (by omega) (hs i hi)]
            simp only
            rw [b122, nI_add]
          · rw [if_pos (show (99999 : Int32) ≤ nI r from nI_le (a := 99999) (by omega) (by omega)), b80, if_neg (fun z => c3 z.2)]
        · rw [if_pos c2, b80, if_neg (fun z => c2 z.1.2)]
    have hv : fX11_nearestSum_h19 sf (m + 1) σ (nI t) (nI w) (nI n) (nI i) (nI b) = fX11_nearestSum_h19 sf m (su σ 107 (12 * i + b) (nI (DI f B s n w i b))) (nI t) (nI w) (nI n) (nI i) (nI (b + 1)) := by
      show fX11_nearestSum_b19 _ _ _ _ _ _ _ _ = _
      unfold fX11_nearestSum_b19
      obtain ⟨n', rfl⟩ : ∃ q, n = q + 1 := ⟨n - 1, by omega⟩
      rw [if_neg (show ¬ (σ 98 4 ≤ nI b) from by rw [mx.1]; exact nI_ge hbB (by omega)), nI_pred]
      by_cases c3 : i = n'
      · rw [if_neg (fun q => q (by rw [c3])), show (0 : Int32) = nI 0 from rfl, b50 0 (by omega), DI_0 (by omega)]
        by_cases c : b ≠ w ∧ f (5 * b + 3) = 0
        · rw [if_pos ⟨c, by omega⟩, if_pos c, Nat.zero_add]
        · rw [if_neg (fun z => c z.1), if_neg c]
      · have c3' : i + 1 < n' + 1 := by omega
        rw [if_pos (fun q => c3 ((nI_eq (by omega) (by omega)).mp q)), nI_1, restOf_s ok (fun j hj => DI_le hB hs c3' hn2 hj) (by omega) mx.1 mx.2.1 (hr c3') (Or.inr ⟨b, hbB, rfl⟩)]
        simp only [obp]
        rw [b50 _ (lm_le _ _ _ _), DI_s c3']
    have o : ∀ x, x ≠ 107 → su σ 107 (12 * i + b) (nI (DI f B s n w i b)) x = σ x := fun x hx => su_ne hx
    obtain ⟨τ, t1, t2, t3, t4⟩ := ih (b + 1) m (su σ 107 (12 * i + b) (nI (DI f B s n w i b))) (by omega) (by omega) (by omega) (mx.lo o) (fun q j hj2 => by rw [su_j (by omega)]; exact hr q j hj2) (fun j hj2 => by
      by_cases q : j = b
      · subst q; exact su_s
      · rw [su_j (by omega)]; exact hj j (by omega))
    exact ⟨τ, hv.trans t1, fun x hx => (t2 x hx).trans (o x hx), fun j hj2 => by rw [t3 j hj2, su_j (by omega)], t4⟩
theorem nsumO_l {f : Nat → Int32} {B : Nat} {s : Nat → Nat} {n t w : Nat} (ok : okB f B) (ht : t < 6) (hs : ∀ i, i < n → s i < 12) (hn : 1 ≤ n) (hn2 : n ≤ 12) (hw : w < 12) : ∀ (c m : Nat) (σ : S0), c ≤ n → c < m → MX f B s n t σ → (∀ i, c ≤ i → i < n → rowM (DI f B s n w i) B i σ) → ∃ τ, fX11_nearestSum_h11 m σ (nI t) (nI w) (nI n) (nI c - 1) = some (nI (lm f (DI f B s n w 0) (-4) B), τ) ∧ (∀ x, x ≠ 107 → τ x = σ x) ∧ ∀ i, i < n → rowM (DI f B s n w i) B i τ := by
  have hB := ok.1
  intro c
  induction c with
  | zero =>
    intro m σ h2 h3 mx hr
    obtain ⟨m, rfl⟩ : ∃ q, m = q + 1 := ⟨m - 1, by omega⟩
    have hL : fX11_restOf σ 0 (-4) = some (nI (lm f (DI f B s n w 0) (-4) B), σ) := restOf_s (i := 0) ok (fun j hj => DI_le hB hs (show 0 < n by omega) hn2 hj) (by omega) mx.1 mx.2.1 (hr 0 (by omega) (by omega)) (Or.inl rfl)
    refine ⟨σ, ?_, fun _ _ => rfl, fun i hi => hr i (by omega) hi⟩
    show fX11_nearestSum_b11 _ _ _ _ _ _ = _
    unfold fX11_nearestSum_b11
    rw [if_pos (show nI 0 - 1 < 0 from by decide), hL]
    rfl
  | succ c ih =>
    intro m σ h2 h3 mx hr
    obtain ⟨m, rfl⟩ : ∃ q, m = q + 1 := ⟨m - 1, by omega⟩
    obtain ⟨ν, v1, v2, v3, v4⟩ := nsumI_l ok ht hs hn2 (show c < n by omega) hw (fX11_nearestSum_h11 m) B 0 400 σ (by omega) (by omega) (by omega) mx (fun q => hr (c + 1) (by omega) q) (fun j hj => by omega)
    obtain ⟨τ, t1, t2, t3⟩ := ih m ν (by omega) (by omega) (mx.lo v2) (fun i h4 h5 => by
      by_cases q : i = c
      · subst q; exact v4
      · intro b hb
        rw [v3 (12 * i + b) (by omega)]
        exact hr i (by omega) h5 b hb)
    refine ⟨τ, ?_, fun x hx => by rw [t2 x hx, v2 x hx], t3⟩
    have e0 : fX11_nearestSum_h11 (m + 1) σ (nI t) (nI w) (nI n) (nI (c + 1) - 1) = fX11_nearestSum_b11 (fX11_nearestSum_h11 m) σ (nI t) (nI w) (nI n) (nI (c + 1) - 1) := rfl
    rw [e0, nI_pred]
    unfold fX11_nearestSum_b11
    rw [if_neg (nI_pos (by omega))]
    rw [← t1, ← m1_a]
    exact v1
theorem nsum_s {f : Nat → Int32} {B : Nat} {s : Nat → Nat} {n t w : Nat} (ok : okB f B) (ht : t < 6) (hs : ∀ i, i < n → s i < 12) (hn : 1 ≤ n) (hn2 : n ≤ 12) (hw : w < 12) {σ : S0} (mx : MX f B s n t σ) : ∃ τ, fX11_nearestSum σ (nI t) (nI w) = some (nI (lm f (DI f B s n w 0) (-4) B), τ) ∧ (∀ x, x ≠ 107 → τ x = σ x) ∧ ∀ i, i < n → rowM (DI f B s n w i) B i τ := by
  obtain ⟨τ, t1, t2⟩ := nsumO_l ok ht hs hn hn2 hw n 400 σ (Nat.le_refl _) (by omega) mx (fun i h4 h5 => by omega)
  refine ⟨τ, ?_, t2⟩
  unfold fX11_nearestSum
  rw [strokes_s σ ht mx.2.2.1]
  simp only [obp, ol]
  exact t1
/-- the last found, from the highest bell down -/
def ff (f : Nat → Int32) (D : Nat → Nat) (L : Nat) (x : Int32) : Nat → Int32 → Int32
  | 0, y => y
  | c + 1, y => ff f D L x c (if cf f x c ∧ D c = L then nI c else y)
theorem ff_none {f : Nat → Int32} {D : Nat → Nat} {L : Nat} {x : Int32} : ∀ (c : Nat) (y : Int32), (∀ j, j < c → ¬ (cf f x j ∧ D j = L)) → ff f D L x c y = y
  | 0, _, _ => rfl
  | c + 1, y, h => by
    unfold ff
    rw [if_neg (h c (by omega))]
    exact ff_none c y (fun j hj => h j (by omega))
theorem ff_first {f : Nat → Int32} {D : Nat → Nat} {L : Nat} {x : Int32} {k : Nat} (h1 : cf f x k ∧ D k = L) (h2 : ∀ j, j < k → ¬ (cf f x j ∧ D j = L)) : ∀ (c : Nat) (y : Int32), k < c → ff f D L x c y = nI k
  | 0, _, h => by omega
  | c + 1, y, h => by
    unfold ff
    by_cases q : k = c
    · subst q
      rw [if_pos h1]
      exact ff_none k _ h2
    · exact ff_first h1 h2 c _ (by omega)
theorem ff_la {f : Nat → Int32} {D : Nat → Nat} {x : Int32} {B : Nat} (h : lm f D x B < 99999) : ff f D (lm f D x B) x B (-4) = la f D x B := by
  rcases la_s f D x B with ⟨q1, q2⟩ | ⟨j, q1, q2, q3, q4, q5, q6⟩
  · omega
  · rw [q2]
    exact ff_first ⟨q3, q4⟩ (fun i hi z => by have := q6 i hi z.1; omega) B _ q1
theorem nstrI_l {f : Nat → Int32} {D : Nat → Nat} {B k L : Nat} (ok : okB f B) (hD : ∀ b, b < B → D b ≤ 99999) (hk : k < 12) (hL : L ≤ 99999) {σ : S0} (e99 : σ 99 = f) (hr : rowM D B k σ) {x : Int32} (hx : okX B x) (sf : S0 → Int32 → Int32 → Int32 → Option (Int32 × S0)) (z : Int32) : ∀ (c m : Nat) (y : Int32), c ≤ B → c < m → fX11_nearestStroke_h30 sf m σ z x (nI k) (nI L) y (nI c - 1) = sf σ z (ff f D L x c y) (nI (k + 1)) := by
  have hB := ok.1
  intro c
  induction c with
  | zero =>
    intro m y h2 h3
    obtain ⟨m, rfl⟩ : ∃ q, m = q + 1 := ⟨m - 1, by omega⟩
    show fX11_nearestStroke_b30 _ _ _ _ _ _ _ _ _ = _
    unfold fX11_nearestStroke_b30
    rw [if_pos (show nI 0 - 1 < 0 from by decide)]
    simp only [ol, nI_1]
    rfl
  | succ c ih =>
    intro m y h2 h3
    obtain ⟨m, rfl⟩ : ∃ q, m = q + 1 := ⟨m - 1, by omega⟩
    have hgv := ix_ok (j := 12 * k + c) (n := 156) (by omega) (by omega)
    have hcv : (nI (12 * k + c)).toNatClampNeg = 12 * k + c := nI_clamp (by omega)
    have hgv2 : ¬ (nI (12 * k + c) < 0 ∨ 156 ≤ 12 * k + c) := fun q => hgv (by rw [hcv]; exact q)
    have hDc := hD c (by omega)
    have e0 : fX11_nearestStroke_h30 sf (m + 1) σ z x (nI k) (nI L) y (nI (c + 1) - 1) = fX11_nearestStroke_b30 sf (fX11_nearestStroke_h30 sf m) σ z x (nI k) (nI L) y (nI (c + 1) - 1) := rfl
    have ef : ff f D L x (c + 1) y = ff f D L x c (if cf f x c ∧ D c = L then nI c else y) := rfl
    have no : fX11_nearestStroke_b72 sf (fX11_nearestStroke_h30 sf m) σ z x (nI k) (nI L) y (nI c) = sf σ z (ff f D L x c y) (nI (k + 1)) := by
      unfold fX11_nearestStroke_b72 fX11_nearestStroke_b73 fX11_nearestStroke_b87
      rw [if_pos rfl]
      simp only [ol, m1_a]
      exact ih m y (by omega) (by omega)
    have look : cf f x c → fX11_nearestStroke_b51 sf (fX11_nearestStroke_h30 sf m) σ z x (nI k) (nI L) y (nI c) = sf σ z (ff f D L x (c + 1) y) (nI (k + 1)) := fun hc => by
      unfold fX11_nearestStroke_b51
      simp only [ol, x12, og_t hgv, og_t hgv2, hcv, hr c (by omega)]
      by_cases c4 : D c = L
      · rw [if_neg (fun q => q (by rw [c4])), ef, if_pos ⟨hc, c4⟩]
        unfold fX11_nearestStroke_b73 fX11_nearestStroke_b87
        rw [if_neg (by decide)]
        simp only [ol, m1_a]
        exact ih m (nI c) (by omega) (by omega)
      · rw [if_pos (fun q => c4 ((nI_eq (by omega) (by omega)).mp q)), ef, if_neg (fun q => c4 q.2)]
        exact no
    rw [e0, nI_pred]
    unfold fX11_nearestStroke_b30
    rw [if_neg (nI_pos (by omega))]
    by_cases cx : x = -4
    · rw [if_pos cx]
      exact look (Or.inl cx)
    · rw [if_neg cx]
      obtain ⟨k', k1, k2⟩ := hx.resolve_left cx
      have ec := canF_s ok σ e99 k1 (show c < B by omega)
      rw [← k2] at ec
      rw [ec]
      simp only [obp]
      by_cases c5 : cf f x c
      · rw [if_pos c5, if_neg (by decide)]
        exact look c5
      · rw [if_neg c5, if_pos rfl, ef, if_neg (fun q => c5 q.1)]
        exact no
theorem nstr_l {f : Nat → Int32} {B : Nat} {s : Nat → Nat} {n w i : Nat} (ok : okB f B) (hs : ∀ i, i < n → s i < 12) (hn2 : n ≤ 12) (hi : i < n) {σ : S0} (e4 : σ 98 4 = nI B) (e99 : σ 99 = f) (hr : ∀ j, j < n → rowM (DI f B s n w j) B j σ) (hfin : ∀ k, k < n → lm f (DI f B s n w k) (rwp f B s n w k) B < 99999) : ∀ (d k m : Nat), i + 1 - k = d → k ≤ i + 1 → d < m → fX11_nearestStroke_h5 m σ (nI i) (rwp f B s n w k) (nI k) = some (rwp f B s n w (i + 1), σ) := by
  have hB := ok.1
  intro d
  induction d with
  | zero =>
    intro k m h1 h2 h3
    obtain ⟨m, rfl⟩ : ∃ q, m = q + 1 := ⟨m - 1, by omega⟩
    have : k = i + 1 := by omega
    subst this
    show fX11_nearestStroke_b5 _ _ _ _ _ = _
    unfold fX11_nearestStroke_b5
    rw [if_pos (nI_lt (by omega) (by omega))]
  | succ d ih =>
    intro k m h1 h2 h3
    obtain ⟨m, rfl⟩ : ∃ q, m = q + 1 := ⟨m - 1, by omega⟩
    have hle : ∀ j, j < B → DI f B s n w k j ≤ 99999 := fun j hj => DI_le hB hs (show k < n by omega) hn2 hj
    have ih' := ih (k + 1) m (by omega) (by omega) (by omega)
    show fX11_nearestStroke_b5 _ _ _ _ _ = _
    unfold fX11_nearestStroke_b5
    rw [if_neg (nI_nlt (by omega) (by omega)), restOf_s ok hle (by omega) e4 e99 (hr k (by omega)) (rwp_ok f B s n w k)]
    simp only [obp, ol, e4]
    rw [nstrI_l ok hle (by omega) (lm_le _ _ _ _) e99 (hr k (by omega)) (rwp_ok f B s n w k) _ _ B 400 (-4) (Nat.le_refl _) (by omega), ff_la (hfin k (by omega))]
    exact ih'
theorem fin_l {f : Nat → Int32} {B : Nat} {s : Nat → Nat} {n w : Nat} (h : lm f (DI f B s n w 0) (-4) B < 99999) : ∀ k, k < n → lm f (DI f B s n w k) (rwp f B s n w k) B < 99999
  | 0, _ => h
  | k + 1, hk => by
    have ih := fin_l h k (by omega)
    rcases la_s f (DI f B s n w k) (rwp f B s n w k) B with ⟨q1, q2⟩ | ⟨j, q1, q2, q3, q4, q5, q6⟩
    · omega
    · show lm f _ (la f (DI f B s n w k) (rwp f B s n w k) B) B < _
      rw [q2]
      rw [← q4, DI_s hk] at q5
      by_cases c : (j ≠ w ∧ f (5 * j + 3) = 0) ∧ lm f (DI f B s n w (k + 1)) (nI j) B < 99999
      · exact c.2
      · rw [if_neg c] at q5
        omega
/-- the rows out of the relation -/
theorem near_R {σ : S0} {H G B T t : Nat} (h : Rall σ H G B T) (ht : t < T) : okB (σ 99) B ∧ ∃ n, 1 ≤ n ∧ n ≤ 12 ∧ σ 24 t = nI n ∧ (∀ i, i < n → stk (σ 101) t i < 12) ∧ NX (σ 99) B (stk (σ 101) t) n t σ ∧ MX (σ 99) B (stk (σ 101) t) n t σ := by
  obtain ⟨b1, b2, b3, b4, b5⟩ := h.1.1
  obtain ⟨m1, m2, fo, m3, m4, m5, m6⟩ := h.2.2.1
  obtain ⟨k1, k2, k3, k4, k5⟩ := h.2.1
  simp only [Nat.zero_add] at m1 m2 m3 k2 k3
  obtain ⟨n, a1, a2, a3, a4, a5, a6, a7⟩ := h.2.2.2.1 t ht
  have hp : 2 ^ H ≤ 2 ^ 6 := Nat.pow_le_pow_right (by omega) b2
  have hst : ∀ i, i < n → ∃ b, b < B ∧ σ 101 (14 * t + 2 + i) = nI b ∧ σ (26 + t) i = nI b ∧ stk (σ 101) t i = b := fun i hi => by
    obtain ⟨b, c1, c2, c3⟩ := a7 i hi
    exact ⟨b, c1, c2, c3, by unfold stk; rw [c2]; exact nI_clamp (by omega)⟩
  refine ⟨⟨b4, fun b hb => ?_, fo, fun x hx => ⟨by have := (m3 x hx).1; omega, (m3 x hx).2⟩, m4⟩, n, a1, a2, a4, fun i hi => ?_, ⟨⟨k1, fun b hb => ?_, k3⟩, a4, fun i hi => ?_⟩, h.1.2.1.2.2.1, rfl, a3, fun i hi => ?_⟩
  · obtain ⟨⟨w, d1, d2⟩, -⟩ := m2 b hb
    exact ⟨w, by omega, d2⟩
  · obtain ⟨b, c1, c2, c3, c4⟩ := hst i hi
    omega
  · obtain ⟨f1, f2, f3, f4, f5⟩ := k2 b hb
    exact ⟨f1, f4⟩
  · obtain ⟨b, c1, c2, c3, c4⟩ := hst i hi
    rw [c3, c4]
  · obtain ⟨b, c1, c2, c3, c4⟩ := hst i hi
    rw [c2, c4]
theorem onlyN_e {σ τ : S0} (h : ∀ x, x < 55 ∨ 69 < x → τ x = σ x) : eqv σ τ := fun k j hr => by
  by_cases q : k < 55 ∨ 69 < k
  · rw [h k q]
  · unfold rel at hr
    have := of_decide_eq_true hr
    omega
theorem only7_e {σ τ : S0} (h : ∀ x, x ≠ 107 → τ x = σ x) : eqv σ τ := fun k j hr => by
  by_cases q : k = 107
  · subst q
    unfold rel at hr
    have := of_decide_eq_true hr
    omega
  · rw [h k q]
theorem cv_far {a : Nat} (h : a ≤ 99999) : nI (cv a) = 1000000 ↔ a = 99999 := by
  constructor
  · intro q
    by_cases c : a = 99999
    · exact c
    · rw [cv_n (by omega)] at q
      have := (nI_eq (a := a) (b := 1000000) (by omega) (by omega)).mp q
      omega
  · intro q
    rw [q]
    rfl
theorem near_b {σ : S0} {H G B T t w : Nat} (h : Rall σ H G B T) (ht : t < T) (hw : w < B) {y : Int32} {n : Nat} (hn12 : n ≤ 12) (e24 : σ 24 t = nI n) (hy : y = 0 ∨ ∃ i, i < n ∧ y = nI (10 + i)) : An (fX10_nearest_b42 σ (nI t) (nI w) y) (fun r τ => An (fX11_nearest_b42 τ (nI t) (nI w) y) (fun q ρ => r = q ∧ R ρ)) := by
  obtain ⟨ok, n', n1, n2, e24', hs, nx, mx⟩ := near_R h ht
  obtain ⟨b1, b2, b3, b4, b5⟩ := h.1.1
  have hnn : nI n = nI n' := e24.symm.trans e24'
  obtain ⟨τ, t1, t2, t3, t4⟩ := find_s ok (by omega) hs n1 n2 (w := w) (by omega) nx
  have hτ := h.cg (onlyN_e t2)
  obtain ⟨ρ, q1, q2, q3⟩ := nsum_s (t := t) (B := B) (s := stk (σ 101) t) ok (by omega) hs n1 n2 (w := w) (by omega) (σ := τ) (by
    unfold MX at mx ⊢
    rw [t2 98 (by omega), t2 99 (by omega), t2 101 (by omega)]
    exact mx)
  have hρ : R ρ := ⟨H, G, B, T, hτ.cg (only7_e q2)⟩
  have hl := lm_le (σ 99) (DI (σ 99) B (stk (σ 101) t) n' w 0) (-4) B
  have hcv := cv_far hl
  by_cases c : lm (σ 99) (DI (σ 99) B (stk (σ 101) t) n' w 0) (-4) B = 99999
  · refine ⟨-4, τ, ?_, -4, ρ, ?_, rfl, hρ⟩
    · unfold fX10_nearest_b42
      rw [t1]
      simp only [obp]
      rw [t3, if_neg (fun q => q (hcv.mpr c))]
    · unfold fX11_nearest_b42
      rw [q1]
      simp only [obp]
      rw [if_neg (fun q => q (by rw [c]; rfl))]
  · have cX : ¬ nI (cv (lm (σ 99) (DI (σ 99) B (stk (σ 101) t) n' w 0) (-4) B)) = 1000000 := fun q => c (hcv.mp q)
    have cM : ¬ nI (lm (σ 99) (DI (σ 99) B (stk (σ 101) t) n' w 0) (-4) B) = 99999 := fun q => c ((nI_eq (b := 99999) (by omega) (by omega)).mp q)
    rcases hy with rfl | ⟨i, hi, rfl⟩
    · refine ⟨nI (lm (σ 99) (DI (σ 99) B (stk (σ 101) t) n' w 0) (-4) B), τ, ?_, nI (lm (σ 99) (DI (σ 99) B (stk (σ 101) t) n' w 0) (-4) B), ρ, ?_, rfl, hρ⟩
      · unfold fX10_nearest_b42
        rw [t1]
        simp only [obp]
        rw [t3, if_pos cX, if_neg (by simp), cv_n (by omega)]
      · unfold fX11_nearest_b42
        rw [q1]
        simp only [obp]
        rw [if_pos cM, if_neg (by simp)]
    · have hi' : i < n' := by
        have := (nI_eq (by omega) (by omega)).mp hnn
        omega
      have hne : ¬ nI (10 + i) = 0 := nI_ne0 (by omega) (by omega)
      have e10 : nI (10 + i) - 10 = nI i := by
        rw [show (10 : Int32) = nI 10 from rfl, pk_sub (by omega), show 10 + i - 10 = i by omega]
      have hS := nstr_l (i := i) ok hs n2 hi' (σ := ρ) (by rw [q2 98 (by omega), t2 98 (by omega)]; exact mx.1) (by rw [q2 99 (by omega), t2 99 (by omega)]) q3 (fin_l (by omega)) (i + 1) 0 400 (by omega) (by omega) (by omega)
      have hS' : fX11_nearestStroke ρ (nI i) = some (rwp (σ 99) B (stk (σ 101) t) n' w (i + 1), ρ) := hS
      refine ⟨rwp (σ 99) B (stk (σ 101) t) n' w (i + 1), τ, ?_, rwp (σ 99) B (stk (σ 101) t) n' w (i + 1), ρ, ?_, rfl, hρ⟩
      · unfold fX10_nearest_b42
        rw [t1]
        simp only [obp]
        rw [t3, if_pos cX, if_pos hne, e10]
        simp only [ol]
        rw [og_t (ix_ok (by omega) (by omega)), nI_clamp (by omega), t4 i hi']
      · unfold fX11_nearest_b42
        rw [q1]
        simp only [obp]
        rw [if_pos cM, if_pos hne, e10, hS']
theorem sim_nearest (x b y : Int32) : Sim (fun σ => fX10_nearest σ x b y) (fun σ => fX11_nearest σ x b y) := by
  intro σ hR
  show An (fX10_nearest σ x b y) (fun r τ => An (fX11_nearest τ x b y) (fun q ρ => r = q ∧ R ρ))
  obtain ⟨H, G, B, T, h⟩ := id hR
  obtain ⟨⟨b1, b2, b3, b4, b5⟩, ⟨e1, e2, e5, e6⟩, e3, e4, e7⟩ := h.1
  have ek := h.2.1.1
  have hone : ¬ (1 : Int32) = 0 := by decide
  rcases ixc x T (by omega) with ⟨t, ht, rfl⟩ | hx
  · rcases ixc b B (by omega) with ⟨w, hw, rfl⟩ | hb
    · obtain ⟨n, a1, a2, a3, a4, a5, a6, a7⟩ := h.2.2.2.1 t ht
      have hgt := ix_ok (j := t) (n := 6) (by omega) (by omega)
      have hct : (nI t).toNatClampNeg = t := nI_clamp (by omega)
      have e9 : (9 + nI n : Int32) = nI (9 + n) := nI_add 9 n
      have e10 : (10 + nI n : Int32) = nI (10 + n) := nI_add 10 n
      have hlt : y < 10 ↔ y.toInt < 10 := i3_lt _ _
      have hle : nI (10 + n) ≤ y ↔ ((10 + n : Nat) : Int) ≤ y.toInt := by rw [i3_le, ir (by omega)]
      -- the class
      have cX : ∀ (z : Int32), fX10_nearest σ (nI t) (nI w) z = if z = 0 then fX10_nearest_b42 σ (nI t) (nI w) z else if z < 10 then some (-1, σ) else if nI (10 + n) ≤ z then some (-1, σ) else fX10_nearest_b42 σ (nI t) (nI w) z := fun z => by
        unfold fX10_nearest fX9_asksStroke
        rw [ht_y e7 (by omega) ht]
        simp only [obp]
        rw [if_neg hone, hb_y ek b4 hw]
        simp only
        rw [if_pos hone, og_t hgt, hct]
        simp only [ol, Nat.reduceAdd, a4, e10]
        by_cases c0 : z = 0
        · rw [if_pos c0, if_pos c0]
        · rw [if_neg c0, if_neg c0]
          by_cases c1 : z < 10
          · rw [if_pos c1, if_pos c1]
            rfl
          · rw [if_neg c1, if_neg c1]
            by_cases c2 : nI (10 + n) ≤ z
            · rw [if_pos c2, if_pos c2]
              rfl
            · rw [if_neg c2, if_neg c2]
              simp only
              rw [if_pos hone]
      have cM : ∀ (τ : S0) (z : Int32), τ 98 = σ 98 → τ 101 = σ 101 → fX11_nearest τ (nI t) (nI w) z = if z = 0 then fX11_nearest_b42 τ (nI t) (nI w) z else if 10 ≤ z.toInt ∧ z.toInt ≤ 9 + n then fX11_nearest_b42 τ (nI t) (nI w) z else some (-1, τ) := fun τ z o1 o2 => by
        unfold fX11_nearest
        rw [it_y (by rw [o1]; exact e6) (by omega) ht]
        simp only [obp]
        rw [if_neg hone, ib_y (by rw [o1]; exact e5) b4 hw]
        simp only
        rw [if_neg hone, strokes_s τ (t := t) (by omega) (by rw [o2]; exact a3)]
        simp only
        rw [in_i τ z 10 _ 10 (9 + n) rfl (by rw [Int32.toInt_toInt64, e9, ir (by omega)]; omega)]
        simp only
        by_cases c0 : z = 0
        · rw [if_pos c0, if_pos c0]
        · rw [if_neg c0, if_neg c0]
          by_cases c1 : 10 ≤ z.toInt ∧ z.toInt ≤ 9 + n
          · rw [if_pos c1, if_pos c1, if_pos hone]
          · rw [if_neg c1, if_neg c1, if_neg (fun q => q rfl)]
      have good : (y = 0 ∨ ∃ i, i < n ∧ y = nI (10 + i)) → An (fX10_nearest_b42 σ (nI t) (nI w) y) (fun r τ => An (fX11_nearest_b42 τ (nI t) (nI w) y) (fun q ρ => r = q ∧ R ρ)) := fun hy => near_b h ht hw a2 a4 hy
      have lift : (∀ τ : S0, τ 98 = σ 98 → τ 101 = σ 101 → fX11_nearest τ (nI t) (nI w) y = fX11_nearest_b42 τ (nI t) (nI w) y) → (y = 0 ∨ ∃ i, i < n ∧ y = nI (10 + i)) → An (fX10_nearest_b42 σ (nI t) (nI w) y) (fun r τ => An (fX11_nearest τ (nI t) (nI w) y) (fun q ρ => r = q ∧ R ρ)) := fun hm hy => by
        obtain ⟨r, τ, p1, p2⟩ := good hy
        have fx := rx_fX10_nearest_b42 σ σ (nI t) (nI w) y
        rw [mix_self, p1] at fx
        obtain ⟨τ', z1, z2⟩ := mo_inv fx.symm
        have : τ = τ' := by cases z1; rfl
        subst this
        refine ⟨r, τ, p1, ?_⟩
        show An (fX11_nearest τ (nI t) (nI w) y) _
        rw [hm τ (by rw [z2, mix_hi (by omega)]) (by rw [z2, mix_hi (by omega)])]
        exact p2
      rw [cX]
      by_cases y0 : y = 0
      · rw [if_pos y0]
        exact lift (fun τ o1 o2 => by rw [cM τ y o1 o2, if_pos y0]) (Or.inl y0)
      · rw [if_neg y0]
        by_cases c : 10 ≤ y.toInt ∧ y.toInt ≤ 9 + n
        · rw [if_neg (by rw [hlt]; omega), if_neg (by rw [hle]; omega)]
          refine lift (fun τ o1 o2 => by rw [cM τ y o1 o2, if_neg y0, if_pos c]) (Or.inr ⟨(y.toInt - 10).toNat, by omega, (i3_eq _ _).mpr ?_⟩)
          rw [ir (by omega)]
          omega
        · have em := cM σ y rfl rfl
          rw [if_neg y0, if_neg c] at em
          by_cases c1 : y < 10
          · rw [if_pos c1]
            exact ⟨-1, σ, rfl, -1, σ, em, rfl, hR⟩
          · rw [if_neg c1, if_pos (by rw [hle]; rw [hlt] at c1; omega)]
            exact ⟨-1, σ, rfl, -1, σ, em, rfl, hR⟩
    · refine Sim.same (fun τ => fX11_nearest τ (nI t) b y) (a := -1) hR ?_ ?_
      · unfold fX10_nearest
        rw [ht_y e7 (by omega) ht]
        simp only [obp]
        rw [if_neg hone, hb_n ek b4 hb]
        rfl
      · show fX11_nearest σ (nI t) b y = _
        unfold fX11_nearest
        rw [it_y e6 (by omega) ht]
        simp only [obp]
        rw [if_neg hone, ib_n e5 b4 hb]
        rfl
  · refine Sim.same (fun τ => fX11_nearest τ x b y) (a := -1) hR ?_ ?_
    · unfold fX10_nearest; rw [ht_n e7 (by omega) hx]; rfl
    · show fX11_nearest σ x b y = _
      unfold fX11_nearest; rw [it_n e6 (by omega) hx]; rfl
/-- dear, after b bells: the bell, how far -/
def dr (V : Nat → Nat) : Nat → Int32 × Nat
  | 0 => (-4, 0)
  | b + 1 => if (dr V b).1 = -4 ∨ (dr V b).2 < V b then (nI b, V b) else dr V b
def drX (V : Nat → Nat) : Nat → Int32
  | 0 => -1
  | b + 1 => nI (cv (dr V (b + 1)).2)
theorem dr_n (V : Nat → Nat) : ∀ b, b < 1000 → ¬ (dr V (b + 1)).1 = -4
  | 0, _ => by
    unfold dr
    rw [if_pos (show (dr V 0).1 = -4 ∨ _ from Or.inl rfl)]
    exact nI_m4 (a := 0) (by decide)
  | b + 1, hb => by
    have ih := dr_n V b (by omega)
    unfold dr
    by_cases c : (dr V (b + 1)).1 = -4 ∨ (dr V (b + 1)).2 < V (b + 1)
    · rw [if_pos c]
      exact nI_m4 (by omega)
    · rw [if_neg c]
      exact ih
theorem dr_le {V : Nat → Nat} (hV : ∀ b, V b ≤ 99999) : ∀ b, (dr V b).2 ≤ 99999
  | 0 => by unfold dr; omega
  | b + 1 => by
    have ih := dr_le hV b
    unfold dr
    by_cases c : (dr V b).1 = -4 ∨ (dr V b).2 < V b
    · rw [if_pos c]; exact hV b
    · rw [if_neg c]; exact ih
theorem dearX_l {f : Nat → Int32} {B : Nat} {s : Nat → Nat} {n t : Nat} (ok : okB f B) (ht : t < 6) (hs : ∀ i, i < n → s i < 12) (hn : 1 ≤ n) (hn2 : n ≤ 12) (V : Nat → Nat) (hV : ∀ w, V w = lm f (DI f B s n w 0) (-4) B) : ∀ (d b m : Nat) (σ : S0), B - b = d → b ≤ B → d < m → NX f B s n t σ → ∃ τ, fX10_dear_h21 m σ (nI t) (dr V b).1 (drX V b) (nI b) = some ((dr V B).1, τ) ∧ ∀ x, x < 55 ∨ 69 < x → τ x = σ x := by
  have hB := ok.1
  have hVl : ∀ b, V b ≤ 99999 := fun b => by rw [hV]; exact lm_le _ _ _ _
  intro d
  induction d with
  | zero =>
    intro b m σ h1 h2 h3 nx
    obtain ⟨m, rfl⟩ : ∃ q, m = q + 1 := ⟨m - 1, by omega⟩
    have : b = B := by omega
    subst this
    refine ⟨σ, ?_, fun _ _ => rfl⟩
    show fX10_dear_b21 _ _ _ _ _ _ = _
    unfold fX10_dear_b21
    rw [if_pos (show σ 32 0 ≤ nI b from by rw [nx.1.1]; exact nI_le (Nat.le_refl _) (by omega))]
  | succ d ih =>
    intro b m σ h1 h2 h3 nx
    obtain ⟨m, rfl⟩ : ∃ q, m = q + 1 := ⟨m - 1, by omega⟩
    obtain ⟨ν, v1, v2, v3, -⟩ := find_s ok ht hs hn hn2 (w := b) (by omega) nx
    rw [← hV] at v3
    obtain ⟨τ, t1, t2⟩ := ih (b + 1) m ν (by omega) (by omega) (by omega) (nx.lo ht (fun x hx => v2 x (by omega)))
    have hvb := hVl b
    have hcb := cv_b _ hvb
    have ed : dr V (b + 1) = if (dr V b).1 = -4 ∨ (dr V b).2 < V b then (nI b, V b) else dr V b := rfl
    have ex : drX V (b + 1) = nI (cv (dr V (b + 1)).2) := rfl
    rw [ex] at t1
    refine ⟨τ, ?_, fun x hx => (t2 x hx).trans (v2 x hx)⟩
    show fX10_dear_b21 _ _ _ _ _ _ = _
    unfold fX10_dear_b21 fX10_dear_b65
    rw [if_neg (show ¬ (σ 32 0 ≤ nI b) from by rw [nx.1.1]; exact nI_ge (by omega) (by omega)), v1]
    simp only [obp, ol, nI_1, v3]
    cases b with
    | zero =>
      rw [if_neg (show ¬ nI (cv (V 0)) ≤ drX V 0 from fun q => by
        have := (i3_le _ _).mp q
        rw [ir (by omega)] at this
        have e1 : (drX V 0).toInt = -1 := rfl
        omega)]
      rw [ed, if_pos (show (dr V 0).1 = -4 ∨ _ from Or.inl rfl)] at t1
      exact t1
    | succ b =>
      have hl := dr_le hVl (b + 1)
      have hcl := cv_b _ hl
      have hn4 := dr_n V b (by omega)
      have e := (nI_leI (a := cv (V (b + 1))) (b := cv (dr V (b + 1)).2) (by omega) (by omega)).trans (cv_le hvb hl)
      have ex2 : drX V (b + 1) = nI (cv (dr V (b + 1)).2) := rfl
      rw [ex2]
      by_cases c : V (b + 1) ≤ (dr V (b + 1)).2
      · rw [if_pos (e.mpr c)]
        rw [ed, if_neg (fun q => q.elim hn4 (fun z => by omega))] at t1
        exact t1
      · rw [if_neg (fun q => c (e.mp q))]
        rw [ed, if_pos (Or.inr (by omega))] at t1
        exact t1
theorem dearM_l {f : Nat → Int32} {B : Nat} {s : Nat → Nat} {n t : Nat} (ok : okB f B) (ht : t < 6) (hs : ∀ i, i < n → s i < 12) (hn : 1 ≤ n) (hn2 : n ≤ 12) (V : Nat → Nat) (hV : ∀ w, V w = lm f (DI f B s n w 0) (-4) B) : ∀ (d b m : Nat) (σ : S0), B - b = d → b ≤ B → d < m → MX f B s n t σ → ∃ τ, fX11_dear_h18 m σ (nI t) (dr V b).1 (nI (dr V b).2) (nI b) = some ((dr V B).1, τ) ∧ ∀ x, x ≠ 107 → τ x = σ x := by
  have hB := ok.1
  have hVl : ∀ b, V b ≤ 99999 := fun b => by rw [hV]; exact lm_le _ _ _ _
  have hone : ¬ (1 : Int32) = 0 := by decide
  intro d
  induction d with
  | zero =>
    intro b m σ h1 h2 h3 mx
    obtain ⟨m, rfl⟩ : ∃ q, m = q + 1 := ⟨m - 1, by omega⟩
    have : b = B := by omega
    subst this
    refine ⟨σ, ?_, fun _ _ => rfl⟩
    show fX11_dear_b18 _ _ _ _ _ _ = _
    unfold fX11_dear_b18
    rw [if_pos (show σ 98 4 ≤ nI b from by rw [mx.1]; exact nI_le (Nat.le_refl _) (by omega))]
  | succ d ih =>
    intro b m σ h1 h2 h3 mx
    obtain ⟨m, rfl⟩ : ∃ q, m = q + 1 := ⟨m - 1, by omega⟩
    obtain ⟨ν, v1, v2, -⟩ := nsum_s ok ht hs hn hn2 (w := b) (by omega) mx
    rw [← hV] at v1
    obtain ⟨τ, t1, t2⟩ := ih (b + 1) m ν (by omega) (by omega) (by omega) (mx.lo v2)
    have hvb := hVl b
    have hl := dr_le hVl b
    have ed : dr V (b + 1) = if (dr V b).1 = -4 ∨ (dr V b).2 < V b then (nI b, V b) else dr V b := rfl
    refine ⟨τ, ?_, fun x hx => (t2 x hx).trans (v2 x hx)⟩
    show fX11_dear_b18 _ _ _ _ _ _ = _
    unfold fX11_dear_b18 fX11_dear_b48 fX11_dear_b53 fX11_dear_b66 fX11_dear_b78
    rw [if_neg (show ¬ (σ 98 4 ≤ nI b) from by rw [mx.1]; exact nI_ge (by omega) (by omega)), v1]
    simp only [obp, ol, nI_1, if_neg hone, if_true]
    have e := nI_leI (a := V b) (b := (dr V b).2) (by omega) (by omega)
    by_cases c1 : (dr V b).1 = -4
    · rw [if_pos c1]
      rw [ed, if_pos (Or.inl c1)] at t1
      exact t1
    · rw [if_neg c1]
      by_cases c : V b ≤ (dr V b).2
      · rw [if_pos (e.mpr c)]
        rw [ed, if_neg (fun q => q.elim c1 (fun z => by omega))] at t1
        exact t1
      · rw [if_neg (fun q => c (e.mp q))]
        rw [ed, if_pos (Or.inr (by omega))] at t1
        exact t1
theorem sim_dear (x : Int32) : Sim (fun σ => fX10_dear σ x) (fun σ => fX11_dear σ x) := by
  intro σ hR
  show An (fX10_dear σ x) (fun r τ => An (fX11_dear τ x) (fun q ρ => r = q ∧ R ρ))
  obtain ⟨H, G, B, T, h⟩ := id hR
  obtain ⟨⟨b1, b2, b3, b4, b5⟩, ⟨e1, e2, e5, e6⟩, e3, e4, e7⟩ := h.1
  have hone : ¬ (1 : Int32) = 0 := by decide
  rcases ixc x T (by omega) with ⟨t, ht, rfl⟩ | hx
  · obtain ⟨ok, n, n1, n2, e24, hs, nx, mx⟩ := near_R h ht
    obtain ⟨τ, t1, t2⟩ := dearX_l ok (by omega) hs n1 n2 (fun w => lm (σ 99) (DI (σ 99) B (stk (σ 101) t) n w 0) (-4) B) (fun _ => rfl) B 0 400 σ (by omega) (by omega) (by omega) nx
    have hτ := h.cg (onlyN_e t2)
    obtain ⟨ρ, q1, q2⟩ := dearM_l (t := t) ok (by omega) hs n1 n2 (fun w => lm (σ 99) (DI (σ 99) B (stk (σ 101) t) n w 0) (-4) B) (fun _ => rfl) B 0 400 τ (by omega) (by omega) (by omega) (by
      unfold MX at mx ⊢
      rw [t2 98 (by omega), t2 99 (by omega), t2 101 (by omega)]
      exact mx)
    refine ⟨(dr (fun w => lm (σ 99) (DI (σ 99) B (stk (σ 101) t) n w 0) (-4) B) B).1, τ, ?_, (dr (fun w => lm (σ 99) (DI (σ 99) B (stk (σ 101) t) n w 0) (-4) B) B).1, ρ, ?_, rfl, H, G, B, T, hτ.cg (only7_e q2)⟩
    · unfold fX10_dear
      rw [ht_y e7 (by omega) ht]
      simp only [obp]
      rw [if_pos hone]
      exact t1
    · show fX11_dear τ (nI t) = _
      unfold fX11_dear
      rw [it_y (by rw [t2 98 (by omega)]; exact e6) (by omega) ht]
      simp only [obp]
      rw [if_pos hone]
      exact q1
  · refine Sim.same (fun τ => fX11_dear τ x) (a := -1) hR ?_ ?_
    · unfold fX10_dear; rw [ht_n e7 (by omega) hx]; rfl
    · show fX11_dear σ x = _
      unfold fX11_dear; rw [it_n e6 (by omega) hx]; rfl
