/-! ROUND A BELL: the class's rows -/
abbrev DI (f : Nat → Int32) (B : Nat) (s : Nat → Nat) (n w i : Nat) : Nat → Nat := dv f B s n w (n - 1 - i)
theorem DI_0 {f : Nat → Int32} {B : Nat} {s : Nat → Nat} {n w i : Nat} (h : i + 1 = n) (b : Nat) : DI f B s n w i b = if b ≠ w ∧ f (5 * b + 3) = 0 then dist b (s i) else 99999 := by
  have e : n - 1 - i = 0 := by omega
  have e2 : n - 1 = i := by omega
  unfold DI
  rw [e]
  unfold dv
  rw [e2]
theorem DI_s {f : Nat → Int32} {B : Nat} {s : Nat → Nat} {n w i : Nat} (h : i + 1 < n) (b : Nat) : DI f B s n w i b = if (b ≠ w ∧ f (5 * b + 3) = 0) ∧ lm f (DI f B s n w (i + 1)) (nI b) B < 99999 then lm f (DI f B s n w (i + 1)) (nI b) B + dist b (s i) else 99999 := by
  have e : n - 1 - i = (n - 1 - (i + 1)) + 1 := by omega
  have e2 : n - 1 - ((n - 1 - (i + 1)) + 1) = i := by omega
  unfold DI
  rw [e]
  show (if _ then _ + dist b (s (n - 1 - ((n - 1 - (i + 1)) + 1))) else _) = _
  rw [e2]
theorem DI_le {f : Nat → Int32} {B : Nat} {s : Nat → Nat} {n w i : Nat} (hB : B ≤ 12) (hs : ∀ i, i < n → s i < 12) (hi : i < n) (hn2 : n ≤ 12) {b : Nat} (hb : b < B) : DI f B s n w i b ≤ 99999 := dv_le hB hs (by omega) hn2 (by omega) hb
theorem DI_b {f : Nat → Int32} {B : Nat} {s : Nat → Nat} {n w i : Nat} (hB : B ≤ 12) (hs : ∀ i, i < n → s i < 12) (hi : i < n) (hn2 : n ≤ 12) {b : Nat} (hb : b < B) : DI f B s n w i b = 99999 ∨ DI f B s n w i b ≤ 132 := by
  rcases dv_b (f := f) (w := w) hB hs (by omega) (n - 1 - i) (by omega) b hb with h | h
  · exact Or.inl h
  · exact Or.inr (by unfold DI; omega)
theorem lm_b {f : Nat → Int32} {D : Nat → Nat} {x : Int32} {B K : Nat} (hD : ∀ b, b < B → D b = 99999 ∨ D b ≤ K) (h : lm f D x B < 99999) : lm f D x B ≤ K := by
  rcases la_s f D x B with ⟨q1, q2⟩ | ⟨j, q1, q2, q3, q4, q5, q6⟩
  · omega
  · rcases hD j q1 with z | z
    · omega
    · omega
theorem cv_n {a : Nat} (h : a < 99999) : cv a = a := by
  unfold cv
  rw [if_neg (by omega)]
/-- the row that is nearest: what stands ahead of stroke k -/
def rwp (f : Nat → Int32) (B : Nat) (s : Nat → Nat) (n w : Nat) : Nat → Int32
  | 0 => -4
  | k + 1 => la f (DI f B s n w k) (rwp f B s n w k) B
theorem rwp_ok (f : Nat → Int32) (B : Nat) (s : Nat → Nat) (n w : Nat) : ∀ k, okX B (rwp f B s n w k)
  | 0 => Or.inl rfl
  | _ + 1 => la_ok _ _ _ _
def NX (f : Nat → Int32) (B : Nat) (s : Nat → Nat) (n t : Nat) (σ : S0) : Prop := okK f B σ ∧ σ 24 t = nI n ∧ ∀ i, i < n → σ (26 + t) i = nI (s i)
theorem NX.lo {f : Nat → Int32} {B : Nat} {s : Nat → Nat} {n t : Nat} {a b : S0} (h : NX f B s n t a) (ht : t < 6) (o : ∀ x, x < 55 → b x = a x) : NX f B s n t b := by
  unfold NX okK at h ⊢
  rw [o 32 (by omega), o 33 (by omega), o 36 (by omega), o 38 (by omega), o 24 (by omega), o (26 + t) (by omega)]
  exact h
theorem farFrom_s {f : Nat → Int32} {B : Nat} {s : Nat → Nat} {n t i w b : Nat} (ok : okB f B) (ht : t < 6) (hs : ∀ i, i < n → s i < 12) (hn2 : n ≤ 12) (hi : i < n) (hb : b < B) (hw : w < 12) {σ : S0} (nx : NX f B s n t σ) (hr : i + 1 < n → rowX (DI f B s n w (i + 1)) B (57 + (i + 1)) σ) : fX4_farFrom σ (nI t) (nI i) (nI b) (nI w) = some (nI (cv (DI f B s n w i b)), σ) := by
  have hB := ok.1
  have hgt := ix_ok (j := t) (n := 6) ht (by omega)
  have hct : (nI t).toNatClampNeg = t := nI_clamp (by omega)
  have hgt2 : ¬ (nI t < 0 ∨ 6 ≤ t) := fun q => hgt (by rw [hct]; exact q)
  have hgi := ix_ok (j := i) (n := 12) (by omega) (by omega)
  have hci : (nI i).toNatClampNeg = i := nI_clamp (by omega)
  have hgi2 : ¬ (nI i < 0 ∨ 12 ≤ i) := fun q => hgi (by rw [hci]; exact q)
  have hgb := ix_ok (j := b) (n := 12) (by omega) (by omega)
  have hcb : (nI b).toNatClampNeg = b := nI_clamp (by omega)
  have hgb2 : ¬ (nI b < 0 ∨ 12 ≤ b) := fun q => hgb (by rw [hcb]; exact q)
  have far : DI f B s n w i b = 99999 → some ((1000000 : Int32), σ) = some (nI (cv (DI f B s n w i b)), σ) := fun q => by rw [q]; rfl
  unfold fX4_farFrom
  by_cases c1 : b = w
  · rw [if_pos (by rw [c1])]
    refine far ?_
    by_cases q : i + 1 = n
    · rw [DI_0 q, if_neg (fun z => z.1 c1)]
    · rw [DI_s (by omega), if_neg (fun z => z.1.1 c1)]
  · rw [if_neg (fun q => c1 ((nI_eq (by omega) (by omega)).mp q))]
    simp only [og_t hgb, og_t hgb2, hcb, ol, (nx.1.2.1 b hb).2]
    by_cases c2 : f (5 * b + 3) = 0
    · rw [if_pos c2]
      simp only [og_t hgt, og_t hgt2, hct, Nat.one_mul, og_t hgi, og_t hgi2, hci, nx.2.2 i hi, nx.2.1, nI_1]
      rw [dist_x (by omega) (hs i hi)]
      by_cases c3 : i + 1 = n
      · rw [if_neg (nI_nlt (by omega) (by omega)), DI_0 c3, if_pos ⟨c1, c2⟩, cv_n (by have := dist_b (b := b) (s := s i) (by omega) (hs i hi); omega)]
      · have c3' : i + 1 < n := by omega
        have hgj := ix_ok (j := i + 1) (n := 12) (by omega) (by omega)
        have hcj : (nI (i + 1)).toNatClampNeg = i + 1 := nI_clamp (by omega)
        have hgj2 : ¬ (nI (i + 1) < 0 ∨ 12 ≤ i + 1) := fun q => hgj (by rw [hcj]; exact q)
        have hle : ∀ j, j < B → DI f B s n w (i + 1) j ≤ 99999 := fun j hj => DI_le hB hs c3' hn2 hj
        have hL := leastB_s ok hle (by omega) nx.1 (hr c3') (Or.inr ⟨b, hb, rfl⟩)
        rw [if_pos (nI_lt (by omega) (by omega)), hL]
        simp only [obp, og_t hgj, og_t hgj2, hcj]
        rw [DI_s c3']
        rcases la_s f (DI f B s n w (i + 1)) (nI b) B with ⟨q1, q2⟩ | ⟨j, q1, q2, q3, q4, q5, q6⟩
        · rw [if_neg (fun z => z q1), if_neg (fun z => by have := z.2; omega)]
          rfl
        · have hn : ¬ la f (DI f B s n w (i + 1)) (nI b) B = -4 := by rw [q2]; exact nI_m4 (by omega)
          have hck : (la f (DI f B s n w (i + 1)) (nI b) B).toNatClampNeg = j := by rw [q2]; exact nI_clamp (by omega)
          have hgk : ¬ (la f (DI f B s n w (i + 1)) (nI b) B < 0 ∨ 12 ≤ (la f (DI f B s n w (i + 1)) (nI b) B).toNatClampNeg) := by rw [q2]; exact ix_ok (by omega) (by omega)
          have hd := dist_b (b := b) (s := s i) (by omega) (hs i hi)
          have hlb : lm f (DI f B s n w (i + 1)) (nI b) B ≤ 132 := lm_b (fun j hj => DI_b hB hs c3' hn2 hj) q5
          rw [if_pos hn, if_pos ⟨⟨c1, c2⟩, q5⟩, og_t hgk, hck, hr c3' j q1, q4, cv_n q5, cv_n (by omega), nI_add, Nat.add_comm]
    · rw [if_neg c2]
      refine far ?_
      by_cases q : i + 1 = n
      · rw [DI_0 q, if_neg (fun z => c2 z.2)]
      · rw [DI_s (by omega), if_neg (fun z => c2 z.1.2)]
theorem findI_l {f : Nat → Int32} {B : Nat} {s : Nat → Nat} {n t i w : Nat} (ok : okB f B) (ht : t < 6) (hs : ∀ i, i < n → s i < 12) (hn2 : n ≤ 12) (hi : i < n) (hw : w < 12) (sf : S0 → Int32 → Int32 → Int32 → Int32 → Option (Int32 × S0)) : ∀ (d b m : Nat) (σ : S0), B - b = d → b ≤ B → d < m → NX f B s n t σ → (i + 1 < n → rowX (DI f B s n w (i + 1)) B (57 + (i + 1)) σ) → (∀ j, j < b → σ (57 + i) j = nI (cv (DI f B s n w i j))) → ∃ τ, fX4_find_h23 sf m σ (nI t) (nI w) (nI n) (nI i) (nI b) = sf τ (nI t) (nI w) (nI n) (nI i + (-1)) ∧ (∀ x, x ≠ 57 + i → τ x = σ x) ∧ rowX (DI f B s n w i) B (57 + i) τ := by
  have hB := ok.1
  have hgi := ix_ok (j := i) (n := 12) (by omega) (by omega)
  have hci : (nI i).toNatClampNeg = i := nI_clamp (by omega)
  have hgi2 : ¬ (nI i < 0 ∨ 12 ≤ i) := fun q => hgi (by rw [hci]; exact q)
  intro d
  induction d with
  | zero =>
    intro b m σ h1 h2 h3 nx hr hj
    obtain ⟨m, rfl⟩ : ∃ q, m = q + 1 := ⟨m - 1, by omega⟩
    have : b = B := by omega
    subst this
    refine ⟨σ, ?_, fun _ _ => rfl, hj⟩
    show fX4_find_b23 _ _ _ _ _ _ _ _ = _
    unfold fX4_find_b23
    rw [if_pos (show σ 32 0 ≤ nI b from by rw [nx.1.1]; exact nI_le (Nat.le_refl _) (by omega))]
    rfl
  | succ d ih =>
    intro b m σ h1 h2 h3 nx hr hj
    obtain ⟨m, rfl⟩ : ∃ q, m = q + 1 := ⟨m - 1, by omega⟩
    have hgb := ix_ok (j := b) (n := 12) (by omega) (by omega)
    have hcb : (nI b).toNatClampNeg = b := nI_clamp (by omega)
    have hgb2 : ¬ (nI b < 0 ∨ 12 ≤ b) := fun q => hgb (by rw [hcb]; exact q)
    have hf := farFrom_s ok ht hs hn2 hi (show b < B by omega) hw nx hr
    have o : ∀ x, x ≠ 57 + i → su σ (57 + i) b (nI (cv (DI f B s n w i b))) x = σ x := fun x hx => su_ne hx
    obtain ⟨τ, t1, t2, t3⟩ := ih (b + 1) m (su σ (57 + i) b (nI (cv (DI f B s n w i b)))) (by omega) (by omega) (by omega) (nx.lo ht (fun x hx => o x (by omega))) (fun q j hj2 => by rw [o _ (by omega)]; exact hr q j hj2) (fun j hj2 => by
      by_cases q : j = b
      · subst q; exact su_s
      · rw [su_j q]; exact hj j (by omega))
    refine ⟨τ, ?_, fun x hx => (t2 x hx).trans (o x hx), t3⟩
    show fX4_find_b23 _ _ _ _ _ _ _ _ = _
    unfold fX4_find_b23
    rw [if_neg (show ¬ (σ 32 0 ≤ nI b) from by rw [nx.1.1]; exact nI_ge (by omega) (by omega))]
    simp only [og_t hgi, og_t hgi2, hci, ol, Nat.one_mul, hf, obp, og_t hgb, og_t hgb2, hcb, nI_1]
    exact t1
theorem findR_l {f : Nat → Int32} {B : Nat} {s : Nat → Nat} {n t w : Nat} (ok : okB f B) (ht : t < 6) (hs : ∀ i, i < n → s i < 12) (hn2 : n ≤ 12) : ∀ (d i m : Nat) (σ : S0), n - i = d → 1 ≤ i → i ≤ n → d < m → NX f B s n t σ → (∀ j, j < n → rowX (DI f B s n w j) B (57 + j) σ) → (∀ j, j < i → σ 69 j = rwp f B s n w (j + 1)) → ∃ τ, fX4_find_h112 m σ (nI n) (nI i) = some (0, τ) ∧ (∀ x, x ≠ 69 → τ x = σ x) ∧ ∀ j, j < n → τ 69 j = rwp f B s n w (j + 1) := by
  have hB := ok.1
  intro d
  induction d with
  | zero =>
    intro i m σ h1 h0 h2 h3 nx hr hj
    obtain ⟨m, rfl⟩ : ∃ q, m = q + 1 := ⟨m - 1, by omega⟩
    have : i = n := by omega
    subst this
    refine ⟨σ, ?_, fun _ _ => rfl, hj⟩
    show fX4_find_b112 _ _ _ _ = _
    unfold fX4_find_b112
    rw [if_pos (nI_le (Nat.le_refl _) (by omega))]
  | succ d ih =>
    intro i m σ h1 h0 h2 h3 nx hr hj
    obtain ⟨m, rfl⟩ : ∃ q, m = q + 1 := ⟨m - 1, by omega⟩
    obtain ⟨i', rfl⟩ : ∃ q, i = q + 1 := ⟨i - 1, by omega⟩
    have hgp := ix_ok (j := i') (n := 12) (by omega) (by omega)
    have hcp : (nI i').toNatClampNeg = i' := nI_clamp (by omega)
    have hgp2 : ¬ (nI i' < 0 ∨ 12 ≤ i') := fun q => hgp (by rw [hcp]; exact q)
    have hgi := ix_ok (j := i' + 1) (n := 12) (by omega) (by omega)
    have hci : (nI (i' + 1)).toNatClampNeg = i' + 1 := nI_clamp (by omega)
    have hgi2 : ¬ (nI (i' + 1) < 0 ∨ 12 ≤ i' + 1) := fun q => hgi (by rw [hci]; exact q)
    have hL := leastB_s ok (fun j hj => DI_le hB hs (show i' + 1 < n by omega) hn2 hj) (by omega) nx.1 (hr (i' + 1) (by omega)) (rwp_ok f B s n w (i' + 1))
    have o : ∀ x, x ≠ 69 → su σ 69 (i' + 1) (rwp f B s n w (i' + 2)) x = σ x := fun x hx => su_ne hx
    obtain ⟨τ, t1, t2, t3⟩ := ih (i' + 1 + 1) m (su σ 69 (i' + 1) (rwp f B s n w (i' + 2))) (by omega) (by omega) (by omega) (by omega) (nx.lo ht (fun x hx => o x (by omega))) (fun j hj b hb => by rw [o _ (by omega)]; exact hr j hj b hb) (fun j hj2 => by
      by_cases q : j = i' + 1
      · subst q; exact su_s
      · rw [su_j q]; exact hj j (by omega))
    refine ⟨τ, ?_, fun x hx => (t2 x hx).trans (o x hx), t3⟩
    show fX4_find_b112 _ _ _ _ = _
    unfold fX4_find_b112
    rw [if_neg (nI_ge (by omega) (by omega)), nI_pred]
    simp only [ol, og_t hgp, og_t hgp2, hcp, hj i' (by omega), hL, obp, og_t hgi, og_t hgi2, hci, nI_1]
    exact t1
theorem m1_a (a : Int32) : a + (-1) = a - 1 := by rw [Int32.sub_eq_add_neg]
theorem rwp_1 (f : Nat → Int32) (B : Nat) (s : Nat → Nat) (n w k : Nat) : rwp f B s n w (k + 1) = la f (DI f B s n w k) (rwp f B s n w k) B := rfl
theorem rwp_0 (f : Nat → Int32) (B : Nat) (s : Nat → Nat) (n w : Nat) : rwp f B s n w 0 = -4 := rfl
theorem ol_g {α β : Type} {a : β} {k : β → Option α} : ol a k = k a := rfl
theorem b98_g (σ : S0) (x3 x4 t0 : Int32) {z : Int32} (hz : z = nI 0) : ol (su σ 55 4 t0) (fun σ1 => og (¬ (z < 0 ∨ 12 ≤ z.toNatClampNeg)) (ol (su σ1 69 z.toNatClampNeg x4) (fun σ3 => fX4_find_h112 400 σ3 x3 1))) = fX4_find_h112 400 (su (su σ 55 4 t0) 69 0 x4) x3 (nI 1) := by
  have hc : z.toNatClampNeg = 0 := by rw [hz]; exact nI_clamp (by omega)
  have hg : ¬ (z < 0 ∨ 12 ≤ z.toNatClampNeg) := by rw [hz]; exact ix_ok (by omega) (by omega)
  rw [ol_g, og_t hg, hc, ol_g]
  rfl
theorem b98_s (σ : S0) (x3 x4 t0 : Int32) : fX4_find_b98 σ x3 x4 t0 = fX4_find_h112 400 (su (su σ 55 4 t0) 69 0 x4) x3 (nI 1) := b98_g σ x3 x4 t0 nI_0.symm
theorem b15_g (σ : S0) (x3 r2 : Int32) {z : Int32} (hz : z = nI 0) {j : Nat} (hj : j < 12) (hr : r2 = nI j) : og (¬ (z < 0 ∨ 12 ≤ z.toNatClampNeg)) (ol (57 + 1 * z.toNatClampNeg) (fun q7 => og (¬ (r2 < 0 ∨ 12 ≤ r2.toNatClampNeg)) (ol (σ q7 r2.toNatClampNeg) (fun v9 => fX4_find_b98 σ x3 r2 v9)))) = fX4_find_b98 σ x3 r2 (σ 57 j) := by
  have hc : z.toNatClampNeg = 0 := by rw [hz]; exact nI_clamp (by omega)
  have hg : ¬ (z < 0 ∨ 12 ≤ z.toNatClampNeg) := by rw [hz]; exact ix_ok (by omega) (by omega)
  have hc2 : r2.toNatClampNeg = j := by rw [hr]; exact nI_clamp (by omega)
  have hg2 : ¬ (r2 < 0 ∨ 12 ≤ r2.toNatClampNeg) := by rw [hr]; exact ix_ok (by omega) (by omega)
  rw [og_t hg, hc, ol_g, og_t hg2, hc2, ol_g]
theorem find_e98 {f : Nat → Int32} {B : Nat} {s : Nat → Nat} {n t w : Nat} (ok : okB f B) (ht : t < 6) (hs : ∀ i, i < n → s i < 12) (hn : 1 ≤ n) (hn2 : n ≤ 12) (σ : S0) (nx : NX f B s n t σ) (hr : ∀ i, i < n → rowX (DI f B s n w i) B (57 + i) σ) (v : Int32) : ∃ τ, fX4_find_b98 σ (nI n) (la f (DI f B s n w 0) (-4) B) v = some (0, τ) ∧ (∀ x, x < 55 ∨ 69 < x → τ x = σ x) ∧ τ 55 4 = v ∧ ∀ i, i < n → τ 69 i = rwp f B s n w (i + 1) := by
  have hlo : ∀ x, x ≠ 55 → x ≠ 69 → su (su σ 55 4 v) 69 0 (la f (DI f B s n w 0) (-4) B) x = σ x := fun x a b => by rw [su_ne b, su_ne a]
  obtain ⟨τ, t1, t2, t3⟩ := findR_l (w := w) ok ht hs hn2 (n - 1) 1 400 (su (su σ 55 4 v) 69 0 (la f (DI f B s n w 0) (-4) B)) rfl (by omega) hn (by omega) (nx.lo ht (fun x hx => hlo x (by omega) (by omega))) (fun j hj b hb => by rw [hlo _ (by omega) (by omega)]; exact hr j hj b hb) (fun j hj => by
    have : j = 0 := by omega
    rw [this, su_s, rwp_1, rwp_0])
  refine ⟨τ, ?_, fun x hx => by rw [t2 x (by omega), hlo x (by omega) (by omega)], by rw [t2 55 (by omega), su_ne (by omega), su_s], t3⟩
  rw [b98_s]
  exact t1
theorem cv_9 : nI (cv 99999) = 1000000 := rfl
theorem find_e15 {f : Nat → Int32} {B : Nat} {s : Nat → Nat} {n t w : Nat} (ok : okB f B) (ht : t < 6) (hs : ∀ i, i < n → s i < 12) (hn : 1 ≤ n) (hn2 : n ≤ 12) (sf : S0 → Int32 → Int32 → Int32 → Int32 → Option (Int32 × S0)) (σ : S0) (nx : NX f B s n t σ) (hr : ∀ i, i < n → rowX (DI f B s n w i) B (57 + i) σ) {x4 : Int32} (hx4 : x4 < 0) : ∃ τ, fX4_find_b15 sf σ (nI t) (nI w) (nI n) x4 = some (0, τ) ∧ (∀ x, x < 55 ∨ 69 < x → τ x = σ x) ∧ τ 55 4 = nI (cv (lm f (DI f B s n w 0) (-4) B)) ∧ ∀ i, i < n → τ 69 i = rwp f B s n w (i + 1) := by
  have hB := ok.1
  have hL := leastB_s (i := 0) (x := -4) ok (fun j hj => DI_le (w := w) hB hs (show 0 < n by omega) hn2 hj) (by omega) nx.1 (hr 0 (by omega)) (Or.inl rfl)
  rw [nI_0] at hL
  unfold fX4_find_b15
  rw [if_pos hx4, hL]
  simp only [obp]
  rcases la_s f (DI f B s n w 0) (-4) B with ⟨q1, q2⟩ | ⟨j, q1, q2, q3, q4, q5, q6⟩
  · rw [if_neg (fun z => z q1), q2, cv_9]
    exact find_e98 ok ht hs hn hn2 σ nx hr 1000000
  · have hn4 : ¬ la f (DI f B s n w 0) (-4) B = -4 := by rw [q2]; exact nI_m4 (by omega)
    have hrow : σ 57 j = nI (cv (lm f (DI f B s n w 0) (-4) B)) := by
      rw [← q4]
      exact hr 0 (by omega) j q1
    rw [if_pos hn4]
    rw [b15_g σ (nI n) (la f (DI f B s n w 0) (-4) B) nI_0.symm (j := j) (by omega) q2, hrow]
    exact find_e98 ok ht hs hn hn2 σ nx hr _
theorem findO_l {f : Nat → Int32} {B : Nat} {s : Nat → Nat} {n t w : Nat} (ok : okB f B) (ht : t < 6) (hs : ∀ i, i < n → s i < 12) (hn : 1 ≤ n) (hn2 : n ≤ 12) (hw : w < 12) : ∀ (c m : Nat) (σ : S0), c ≤ n → c < m → NX f B s n t σ → (∀ i, c ≤ i → i < n → rowX (DI f B s n w i) B (57 + i) σ) → ∃ τ, fX4_find_h15 m σ (nI t) (nI w) (nI n) (nI c - 1) = some (0, τ) ∧ (∀ x, x < 55 ∨ 69 < x → τ x = σ x) ∧ τ 55 4 = nI (cv (lm f (DI f B s n w 0) (-4) B)) ∧ ∀ i, i < n → τ 69 i = rwp f B s n w (i + 1) := by
  have hB := ok.1
  intro c
  induction c with
  | zero =>
    intro m σ h2 h3 nx hr
    obtain ⟨m, rfl⟩ : ∃ q, m = q + 1 := ⟨m - 1, by omega⟩
    exact find_e15 ok ht hs hn hn2 (fX4_find_h15 m) σ nx (fun i hi => hr i (by omega) hi) (show nI 0 - 1 < 0 from by decide)
  | succ c ih =>
    intro m σ h2 h3 nx hr
    obtain ⟨m, rfl⟩ : ∃ q, m = q + 1 := ⟨m - 1, by omega⟩
    obtain ⟨ν, v1, v2, v3⟩ := findI_l ok ht hs hn2 (show c < n by omega) hw (fX4_find_h15 m) B 0 400 σ (by omega) (by omega) (by omega) nx (fun q => hr (c + 1) (by omega) q) (fun j hj => by omega)
    obtain ⟨τ, t1, t2, t3, t4⟩ := ih m ν (by omega) (by omega) (nx.lo ht (fun x hx => v2 x (by omega))) (fun i h4 h5 => by
      by_cases q : i = c
      · subst q; exact v3
      · intro b hb
        rw [v2 (57 + i) (by omega)]
        exact hr i (by omega) h5 b hb)
    refine ⟨τ, ?_, fun x hx => by rw [t2 x hx, v2 x (by omega)], t3, t4⟩
    have e0 : fX4_find_h15 (m + 1) σ (nI t) (nI w) (nI n) (nI (c + 1) - 1) = fX4_find_b15 (fX4_find_h15 m) σ (nI t) (nI w) (nI n) (nI (c + 1) - 1) := rfl
    rw [e0, nI_pred]
    unfold fX4_find_b15
    rw [if_neg (nI_pos (by omega))]
    rw [← t1, ← m1_a]
    exact v1
theorem find_s {f : Nat → Int32} {B : Nat} {s : Nat → Nat} {n t w : Nat} (ok : okB f B) (ht : t < 6) (hs : ∀ i, i < n → s i < 12) (hn : 1 ≤ n) (hn2 : n ≤ 12) (hw : w < 12) {σ : S0} (nx : NX f B s n t σ) : ∃ τ, fX4_find σ (nI t) (nI w) = some (0, τ) ∧ (∀ x, x < 55 ∨ 69 < x → τ x = σ x) ∧ τ 55 4 = nI (cv (lm f (DI f B s n w 0) (-4) B)) ∧ ∀ i, i < n → τ 69 i = rwp f B s n w (i + 1) := by
  obtain ⟨τ, t1, t2⟩ := findO_l ok ht hs hn hn2 hw n 400 σ (Nat.le_refl _) (by omega) nx (fun i h4 h5 => by omega)
  refine ⟨τ, ?_, t2⟩
  unfold fX4_find
  rw [og_t (ix_ok ht (by omega)), nI_clamp (by omega), nx.2.1]
  simp only [ol]
  exact t1
