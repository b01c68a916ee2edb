section
/-! THE TEXT: tokens. a: the bytes, n of them -/
def sbt (x : Nat) : Int32 := (nI x).toInt8.toInt32
theorem sbt_t : ∀ x : Fin 256, (sbt x.1 = 32 ↔ x.1 = 32) ∧ (sbt x.1 = 59 ↔ x.1 = 59) ∧ ((97 ≤ x.1 ∧ x.1 ≤ 122) ↔ (¬ sbt x.1 < 97 ∧ ¬ (122 : Int32) < sbt x.1)) ∧ ((48 ≤ x.1 ∧ x.1 ≤ 57) ↔ (¬ sbt x.1 < 48 ∧ ¬ (57 : Int32) < sbt x.1)) ∧ (x.1 < 128 → sbt x.1 = nI x.1) := by decide +kernel
theorem sbt_n {x : Nat} (h : x < 256) : (sbt x = 32 ↔ x = 32) ∧ (sbt x = 59 ↔ x = 59) ∧ ((97 ≤ x ∧ x ≤ 122) ↔ (¬ sbt x < 97 ∧ ¬ (122 : Int32) < sbt x)) ∧ ((48 ≤ x ∧ x ≤ 57) ↔ (¬ sbt x < 48 ∧ ¬ (57 : Int32) < sbt x)) ∧ (x < 128 → sbt x = nI x) := sbt_t ⟨x, h⟩
def TpX (a : Nat → Nat) (n : Nat) (σ : S0) : Prop := n ≤ 320 ∧ σ 1 1 = nI n ∧ ∀ j, j < n → a j < 256 ∧ σ 2 j = sbt (a j)
def TpM (a : Nat → Nat) (n : Nat) (ρ : S0) : Prop := n ≤ 320 ∧ ρ 98 17 = nI n ∧ ∀ j, j < n → a j < 256 ∧ ρ 104 j = nI (a j)
def pB (a : Nat → Nat) (n p : Nat) : Bool := decide (p < n ∧ a p = 32)
def pL (a : Nat → Nat) (n p : Nat) : Bool := decide (p < n ∧ 97 ≤ a p ∧ a p ≤ 122)
def pD (a : Nat → Nat) (n p : Nat) : Bool := decide (p < n ∧ 48 ≤ a p ∧ a p ≤ 57)
def sk (P : Nat → Bool) : Nat → Nat → Nat
  | 0, p => p
  | d + 1, p => if P p = true then sk P d (p + 1) else p
theorem sk_le (P : Nat → Bool) : ∀ d p, p ≤ sk P d p ∧ sk P d p ≤ p + d
  | 0, p => ⟨Nat.le_refl _, Nat.le_refl _⟩
  | d + 1, p => by
    have ih := sk_le P d (p + 1)
    unfold sk
    by_cases c : P p = true
    · rw [if_pos c]; omega
    · rw [if_neg c]; omega
theorem sk_y {P : Nat → Bool} {d p : Nat} (h : P p = true) : sk P (d + 1) p = sk P d (p + 1) := by
  show (if _ then _ else _) = _
  rw [if_pos h]
theorem sk_n {P : Nat → Bool} {d p : Nat} (h : ¬ P p = true) : sk P d p = p := by
  cases d with
  | zero => rfl
  | succ d =>
    show (if _ then _ else _) = _
    rw [if_neg h]
theorem sk_st {P : Nat → Bool} {n : Nat} (hP : ∀ p, n ≤ p → ¬ P p = true) : ∀ d p, n - p ≤ d → ¬ P (sk P d p) = true
  | 0, p, h => hP p (by omega)
  | d + 1, p, h => by
    by_cases c : P p = true
    · rw [sk_y c]; exact sk_st hP d (p + 1) (by omega)
    · rw [sk_n c]; exact c
abbrev tS (a : Nat → Nat) (n p : Nat) : Nat := sk (pB a n) (n - p) p
abbrev tL (a : Nat → Nat) (n s : Nat) : Nat := sk (pL a n) (n - s) s
abbrev tD (a : Nat → Nat) (n s : Nat) : Nat := sk (pD a n) (n - s) s
def tE (a : Nat → Nat) (n p : Nat) : Nat := if pL a n (tS a n p) = true then tL a n (tS a n p) else if pD a n (tS a n p) = true then tD a n (tS a n p) else if tS a n p < n then tS a n p + 1 else tS a n p
def tK (a : Nat → Nat) (n p : Nat) : Nat := if pL a n (tS a n p) = true then 1 else if pD a n (tS a n p) = true then (if tD a n (tS a n p) - tS a n p ≤ 2 then 2 else 4) else if tS a n p < n then (if a (tS a n p) = 59 then 3 else 4) else 0
def tV (a : Nat → Nat) (n p : Nat) : Nat := if tD a n (tS a n p) - tS a n p = 1 then a (tS a n p) - 48 else (a (tS a n p) - 48) * 10 + (a (tS a n p + 1) - 48)
/-- the class's number -/
def dnum (P : Nat → Bool) (a : Nat → Nat) : Nat → Int32 → Nat → Int32
  | 0, acc, _ => acc
  | d + 1, acc, p => if P p = true then dnum P a d (acc * 10 + sbt (a p) - 48) (p + 1) else acc
theorem dnum_0 {P : Nat → Bool} {a : Nat → Nat} {d p : Nat} {acc : Int32} (h : sk P d p = p) : dnum P a d acc p = acc := by
  cases d with
  | zero => rfl
  | succ d =>
    by_cases c : P p = true
    · rw [sk_y c] at h
      have := (sk_le P d (p + 1)).1
      omega
    · show (if _ then _ else _) = _
      rw [if_neg c]
/-- the reference's number -/
def rnum (P : Nat → Bool) (a : Nat → Nat) (s : Nat) : Nat → Int32 → Nat → Int32
  | 0, acc, _ => acc
  | d + 1, acc, p => if P p = true then rnum P a s d (if 2 ≤ p - s then acc else 10 * acc + nI (a p) - 48) (p + 1) else acc
theorem rnum_0 {P : Nat → Bool} {a : Nat → Nat} {s d p : Nat} {acc : Int32} (h : sk P d p = p) : rnum P a s d acc p = acc := by
  cases d with
  | zero => rfl
  | succ d =>
    by_cases c : P p = true
    · rw [sk_y c] at h
      have := (sk_le P d (p + 1)).1
      omega
    · show (if _ then _ else _) = _
      rw [if_neg c]
theorem pD_y {a : Nat → Nat} {n p : Nat} (h : pD a n p = true) : p < n ∧ 48 ≤ a p ∧ a p ≤ 57 := of_decide_eq_true h
theorem num_2 {a : Nat → Nat} {n s : Nat} (ha : ∀ j, j < n → a j < 256) (h : pD a n s = true) (h2 : tD a n s - s ≤ 2) : ∃ v, v < 100 ∧ v = (if tD a n s - s = 1 then a s - 48 else (a s - 48) * 10 + (a (s + 1) - 48)) ∧ dnum (pD a n) a (n - s) 0 s = nI v ∧ rnum (pD a n) a s (n - s) 0 s = nI v := by
  obtain ⟨h3, h4, h5⟩ := pD_y h
  obtain ⟨d, hd⟩ : ∃ d, n - s = d + 1 := ⟨n - s - 1, by omega⟩
  have hle := sk_le (pD a n) d (s + 1)
  have e1 : tD a n s = sk (pD a n) d (s + 1) := by unfold tD; rw [hd, sk_y h]
  have x1 : (0 : Int32) * 10 + sbt (a s) - 48 = nI (a s - 48) := by
    rw [(sbt_n (ha s h3)).2.2.2.2 (by omega), Int32.zero_mul, Int32.zero_add, show (48 : Int32) = nI 48 from rfl, pk_sub h4]
  have y1 : (10 : Int32) * 0 + nI (a s) - 48 = nI (a s - 48) := by
    rw [Int32.mul_zero, Int32.zero_add, show (48 : Int32) = nI 48 from rfl, pk_sub h4]
  have ed : dnum (pD a n) a (n - s) 0 s = dnum (pD a n) a d (nI (a s - 48)) (s + 1) := by
    rw [hd]
    show (if _ then _ else _) = _
    rw [if_pos h, x1]
  have er : rnum (pD a n) a s (n - s) 0 s = rnum (pD a n) a s d (nI (a s - 48)) (s + 1) := by
    rw [hd]
    show (if _ then _ else _) = _
    rw [if_pos h, if_neg (show ¬ 2 ≤ s - s by omega), y1]
  rw [ed, er, e1]
  rw [e1] at h2
  by_cases c : sk (pD a n) d (s + 1) = s + 1
  · refine ⟨a s - 48, by omega, by rw [if_pos (by omega)], dnum_0 c, rnum_0 c⟩
  · by_cases c2 : pD a n (s + 1) = true
    · obtain ⟨h6, h7, h8⟩ := pD_y c2
      obtain ⟨d', hd'⟩ : ∃ d', d = d' + 1 := ⟨d - 1, by omega⟩
      subst hd'
      rw [sk_y c2] at h2 c ⊢
      have hle2 := sk_le (pD a n) d' (s + 1 + 1)
      have c3 : sk (pD a n) d' (s + 1 + 1) = s + 1 + 1 := by omega
      have x2 : nI (a s - 48) * 10 + sbt (a (s + 1)) - 48 = nI ((a s - 48) * 10 + (a (s + 1) - 48)) := by
        rw [(sbt_n (ha _ h6)).2.2.2.2 (by omega), show (10 : Int32) = nI 10 from rfl, pk_mul, nI_add, show (48 : Int32) = nI 48 from rfl, pk_sub (by omega)]
        congr 1
        omega
      have y2 : (10 : Int32) * nI (a s - 48) + nI (a (s + 1)) - 48 = nI ((a s - 48) * 10 + (a (s + 1) - 48)) := by
        rw [show (10 : Int32) = nI 10 from rfl, pk_mul, nI_add, show (48 : Int32) = nI 48 from rfl, pk_sub (by omega)]
        congr 1
        omega
      refine ⟨(a s - 48) * 10 + (a (s + 1) - 48), by omega, by rw [if_neg (by omega)], ?_, ?_⟩
      · show (if _ then _ else _) = _
        rw [if_pos c2, x2, dnum_0 c3]
      · show (if _ then _ else _) = _
        rw [if_pos c2, if_neg (show ¬ 2 ≤ s + 1 - s by omega), y2, rnum_0 c3]
    · exact absurd (sk_n c2) c
/-! the class reads a token -/
theorem su_o (σ : S0) (k j : Nat) : su σ k j (σ k j) = σ := by
  funext x y
  rw [su_at]
  by_cases h : x = k
  · rw [if_pos h]
    by_cases h2 : y = j
    · rw [if_pos h2, h, h2]
    · rw [if_neg h2, h]
  · rw [if_neg h]
theorem su_2 (σ : S0) (k j : Nat) (u v : Int32) : su (su σ k j u) k j v = su σ k j v := by
  funext x y
  by_cases hx : x = k
  · subst hx
    by_cases hy : y = j
    · subst hy
      rw [su_s, su_s]
    · rw [su_j hy, su_j hy, su_j hy]
  · rw [su_ne hx, su_ne hx, su_ne hx]
theorem su_sw (σ : S0) (k : Nat) {i j : Nat} (h : i ≠ j) (u v : Int32) : su (su σ k i u) k j v = su (su σ k j v) k i u := by
  funext x y
  by_cases hx : x = k
  · subst hx
    by_cases hy : y = j
    · subst hy
      rw [su_s, su_j (fun q => h q.symm), su_s]
    · rw [su_j hy]
      by_cases hy2 : y = i
      · subst hy2
        rw [su_s, su_s]
      · rw [su_j hy2, su_j hy2, su_j hy]
  · rw [su_ne hx, su_ne hx, su_ne hx, su_ne hx]
theorem su_e {σ : S0} {k j : Nat} {v : Int32} (h : σ k j = v) : su σ k j v = σ := by rw [← h, su_o]
theorem TpX.c {a : Nat → Nat} {n : Nat} {σ τ : S0} (h : TpX a n σ) (h1 : τ 1 1 = σ 1 1) (h2 : τ 2 = σ 2) : TpX a n τ := by
  unfold TpX
  rw [h1, h2]
  exact h
theorem tokB_l {a : Nat → Nat} {n : Nat} : ∀ (d p m : Nat) (σ : S0), n - p = d → p ≤ n → d < m → TpX a n σ → σ 1 2 = nI p → fX8_readToken_h0 m σ = fX8_readToken_b38 (su σ 1 2 (nI (sk (pB a n) d p))) := by
  intro d
  induction d with
  | zero =>
    intro p m σ h1 h2 h3 tp e
    obtain ⟨m, rfl⟩ : ∃ q, m = q + 1 := ⟨m - 1, by omega⟩
    have : p = n := by omega
    subst this
    have hn := tp.1
    show fX8_readToken_b0 _ _ = _
    unfold fX8_readToken_b0
    rw [if_pos (show σ 1 1 ≤ σ 1 2 from by rw [tp.2.1, e]; exact nI_le (Nat.le_refl _) (by omega))]
    show _ = fX8_readToken_b38 (su σ 1 2 (nI p))
    exact (congrArg _ (su_e e)).symm
  | succ d ih =>
    intro p m σ h1 h2 h3 tp e
    obtain ⟨m, rfl⟩ : ∃ q, m = q + 1 := ⟨m - 1, by omega⟩
    have hn := tp.1
    obtain ⟨t1, t2⟩ := tp.2.2 p (by omega)
    have hg := ix_ok (j := p) (n := 320) (by omega) (by omega)
    have hc : (nI p).toNatClampNeg = p := nI_clamp (by omega)
    have hg2 : ¬ (nI p < 0 ∨ 320 ≤ p) := fun q => hg (by rw [hc]; exact q)
    show fX8_readToken_b0 _ _ = _
    unfold fX8_readToken_b0
    rw [if_neg (show ¬ (σ 1 1 ≤ σ 1 2) from by rw [tp.2.1, e]; exact nI_ge (by omega) (by omega))]
    simp only [ol, e, og_t hg, og_t hg2, hc, t2, nI_1]
    by_cases c : a p = 32
    · have cp : pB a n p = true := decide_eq_true ⟨by omega, c⟩
      rw [if_neg (fun q => q ((sbt_n t1).1.mpr c)), ih (p + 1) m (su σ 1 2 (nI (p + 1))) (by omega) (by omega) (by omega) (tp.c (su_j (by omega)) (su_ne (by omega))) su_s, sk_y cp, su_2]
    · have cp : ¬ pB a n p = true := fun q => c (of_decide_eq_true q).2
      rw [if_pos (fun q => c ((sbt_n t1).1.mp q)), sk_n cp, su_e e]
theorem tokL_l {a : Nat → Nat} {n : Nat} : ∀ (d p m : Nat) (σ : S0), n - p = d → p ≤ n → d < m → TpX a n σ → σ 1 2 = nI p → fX8_readToken_h51 m σ = fX8_readToken_b103 (su σ 1 2 (nI (sk (pL a n) d p))) := by
  intro d
  induction d with
  | zero =>
    intro p m σ h1 h2 h3 tp e
    obtain ⟨m, rfl⟩ : ∃ q, m = q + 1 := ⟨m - 1, by omega⟩
    have : p = n := by omega
    subst this
    have hn := tp.1
    show fX8_readToken_b51 _ _ = _
    unfold fX8_readToken_b51
    rw [if_pos (show σ 1 1 ≤ σ 1 2 from by rw [tp.2.1, e]; exact nI_le (Nat.le_refl _) (by omega))]
    show _ = fX8_readToken_b103 (su σ 1 2 (nI p))
    exact (congrArg _ (su_e e)).symm
  | succ d ih =>
    intro p m σ h1 h2 h3 tp e
    obtain ⟨m, rfl⟩ : ∃ q, m = q + 1 := ⟨m - 1, by omega⟩
    have hn := tp.1
    obtain ⟨t1, t2⟩ := tp.2.2 p (by omega)
    have hg := ix_ok (j := p) (n := 320) (by omega) (by omega)
    have hc : (nI p).toNatClampNeg = p := nI_clamp (by omega)
    have hg2 : ¬ (nI p < 0 ∨ 320 ≤ p) := fun q => hg (by rw [hc]; exact q)
    have hb := (sbt_n t1).2.2.1
    show fX8_readToken_b51 _ _ = _
    unfold fX8_readToken_b51
    rw [if_neg (show ¬ (σ 1 1 ≤ σ 1 2) from by rw [tp.2.1, e]; exact nI_ge (by omega) (by omega))]
    simp only [ol, e, og_t hg, og_t hg2, hc, t2, nI_1]
    by_cases c : 97 ≤ a p ∧ a p ≤ 122
    · have cp : pL a n p = true := decide_eq_true ⟨by omega, c⟩
      rw [if_neg (hb.mp c).1, if_neg (hb.mp c).2, ih (p + 1) m (su σ 1 2 (nI (p + 1))) (by omega) (by omega) (by omega) (tp.c (su_j (by omega)) (su_ne (by omega))) su_s, sk_y cp, su_2]
    · have cp : ¬ pL a n p = true := fun q => c (of_decide_eq_true q).2
      rw [sk_n cp, su_e e]
      by_cases c1 : sbt (a p) < 97
      · rw [if_pos c1]
      · rw [if_neg c1, if_pos (Classical.byContradiction fun c2 => c (hb.mpr ⟨c1, c2⟩))]
theorem tokD_l {a : Nat → Nat} {n : Nat} : ∀ (d p m : Nat) (σ : S0), n - p = d → p ≤ n → d < m → TpX a n σ → σ 1 2 = nI p → fX8_readToken_h120 m σ = fX8_readToken_b196 (su (su σ 1 2 (nI (sk (pD a n) d p))) 1 5 (dnum (pD a n) a d (σ 1 5) p)) := by
  intro d
  induction d with
  | zero =>
    intro p m σ h1 h2 h3 tp e
    obtain ⟨m, rfl⟩ : ∃ q, m = q + 1 := ⟨m - 1, by omega⟩
    have : p = n := by omega
    subst this
    have hn := tp.1
    show fX8_readToken_b120 _ _ = _
    unfold fX8_readToken_b120
    rw [if_pos (show σ 1 1 ≤ σ 1 2 from by rw [tp.2.1, e]; exact nI_le (Nat.le_refl _) (by omega))]
    show _ = fX8_readToken_b196 (su (su σ 1 2 (nI p)) 1 5 (σ 1 5))
    rw [su_e e, su_o]
  | succ d ih =>
    intro p m σ h1 h2 h3 tp e
    obtain ⟨m, rfl⟩ : ∃ q, m = q + 1 := ⟨m - 1, by omega⟩
    have hn := tp.1
    obtain ⟨t1, t2⟩ := tp.2.2 p (by omega)
    have hg := ix_ok (j := p) (n := 320) (by omega) (by omega)
    have hc : (nI p).toNatClampNeg = p := nI_clamp (by omega)
    have hg2 : ¬ (nI p < 0 ∨ 320 ≤ p) := fun q => hg (by rw [hc]; exact q)
    have hb := (sbt_n t1).2.2.2.1
    have e2 : ∀ v : Int32, su σ 1 5 v 1 2 = nI p := fun v => by rw [su_j (by omega)]; exact e
    show fX8_readToken_b120 _ _ = _
    unfold fX8_readToken_b120
    rw [if_neg (show ¬ (σ 1 1 ≤ σ 1 2) from by rw [tp.2.1, e]; exact nI_ge (by omega) (by omega))]
    simp only [ol, e, og_t hg, og_t hg2, hc, t2, nI_1, e2]
    by_cases c : 48 ≤ a p ∧ a p ≤ 57
    · have cp : pD a n p = true := decide_eq_true ⟨by omega, c⟩
      have edn : dnum (pD a n) a (d + 1) (σ 1 5) p = dnum (pD a n) a d (σ 1 5 * 10 + sbt (a p) - 48) (p + 1) := by
        show (if _ then _ else _) = _
        rw [if_pos cp]
      rw [if_neg (hb.mp c).1, if_neg (hb.mp c).2, ih (p + 1) m (su (su σ 1 5 (σ 1 5 * 10 + sbt (a p) - 48)) 1 2 (nI (p + 1))) (by omega) (by omega) (by omega) (tp.c (by rw [su_j (by omega), su_j (by omega)]) (by rw [su_ne (by omega), su_ne (by omega)])) su_s, sk_y cp, edn, su_j (by omega), su_s, su_2, su_sw _ _ (by omega), su_2]
      exact congrArg _ (su_sw _ _ (by omega) _ _)
    · have cp : ¬ pD a n p = true := fun q => c (of_decide_eq_true q).2
      have edn : dnum (pD a n) a (d + 1) (σ 1 5) p = σ 1 5 := by
        show (if _ then _ else _) = _
        rw [if_neg cp]
      rw [sk_n cp, edn, su_e e, su_o]
      by_cases c1 : sbt (a p) < 48
      · rw [if_pos c1]
      · rw [if_neg c1, if_pos (Classical.byContradiction fun c2 => c (hb.mpr ⟨c1, c2⟩))]
/-- what the class holds behind a token read from p on -/
def tkX (a : Nat → Nat) (n p : Nat) (σ : S0) : Prop := σ 1 4 = nI (tS a n p) ∧ σ 1 2 = nI (tE a n p) ∧ σ 1 3 = nI (tK a n p) ∧ (tK a n p = 2 → σ 1 5 = nI (tV a n p))
def on1 (σ τ : S0) : Prop := ∀ k j, ¬ (k = 1 ∧ 2 ≤ j ∧ j ≤ 5) → τ k j = σ k j
theorem on1.tr {a b c : S0} (h1 : on1 a b) (h2 : on1 b c) : on1 a c := fun k j h => (h2 k j h).trans (h1 k j h)
theorem on1.rf (a : S0) : on1 a a := fun _ _ _ => rfl
theorem on1.su {a b : S0} (h : on1 a b) {j : Nat} (hj : 2 ≤ j ∧ j ≤ 5) (v : Int32) : on1 a (su b 1 j v) := fun k i q => by
  rw [← h k i q]
  by_cases hk : k = 1
  · subst hk; exact su_j (fun z => q ⟨rfl, by omega⟩)
  · rw [su_ne hk]
theorem on1.c {a b : S0} (h : on1 a b) {k : Nat} (hk : k ≠ 1) : b k = a k := funext fun j => h k j (fun q => hk q.1)
theorem rtok_s {a : Nat → Nat} {n p : Nat} {σ : S0} (tp : TpX a n σ) (hp : p ≤ n) (e : σ 1 2 = nI p) : ∃ τ, fX8_readToken σ = some (0, τ) ∧ on1 σ τ ∧ tkX a n p τ := by
  have hn := tp.1
  have hs := sk_le (pB a n) (n - p) p
  have hsn : tS a n p ≤ n := by unfold tS; omega
  have hl := sk_le (pL a n) (n - tS a n p) (tS a n p)
  have hd := sk_le (pD a n) (n - tS a n p) (tS a n p)
  have hl2 : tL a n (tS a n p) ≤ n := by show sk _ _ _ ≤ n; omega
  have hd2 : tD a n (tS a n p) ≤ n := by show sk _ _ _ ≤ n; omega
  have b1 := tokB_l (n - p) p 400 σ rfl hp (by omega) tp e
  have b1' : fX8_readToken σ = fX8_readToken_b38 (su σ 1 2 (nI (tS a n p))) := b1
  have o1 : on1 σ (su (su (su σ 1 2 (nI (tS a n p))) 1 4 (nI (tS a n p))) 1 5 0) := ((on1.rf σ).su (by omega) _).su (by omega) _ |>.su (by omega) _
  have b2 : fX8_readToken σ = fX8_readToken_b103 (su (su (su (su σ 1 2 (nI (tS a n p))) 1 4 (nI (tS a n p))) 1 5 0) 1 2 (nI (tL a n (tS a n p)))) := by
    rw [b1']
    unfold fX8_readToken_b38
    simp only [ol]
    rw [su_s]
    exact tokL_l (n - tS a n p) (tS a n p) 400 _ rfl hsn (by omega) (tp.c (o1 1 1 (by omega)) (o1.c (by omega))) (by rw [su_j (by omega), su_j (by omega), su_s])
  generalize hσ1 : su (su (su σ 1 2 (nI (tS a n p))) 1 4 (nI (tS a n p))) 1 5 0 = σ1 at b2 o1
  have s4 : σ1 1 4 = nI (tS a n p) := by rw [← hσ1, su_j (by omega), su_s]
  have s5 : σ1 1 5 = 0 := by rw [← hσ1, su_s]
  have s2 : σ1 1 2 = nI (tS a n p) := by rw [← hσ1, su_j (by omega), su_j (by omega), su_s]
  have t1 : TpX a n σ1 := tp.c (o1 1 1 (by omega)) (o1.c (by omega))
  rw [b2]
  unfold fX8_readToken_b103
  rw [su_s, su_j (show 4 ≠ 2 by omega), s4]
  by_cases cL : pL a n (tS a n p) = true
  · have hlt : tS a n p < tL a n (tS a n p) := by
      obtain ⟨q1, -⟩ := of_decide_eq_true cL
      obtain ⟨d, hd'⟩ : ∃ d, n - tS a n p = d + 1 := ⟨n - tS a n p - 1, by omega⟩
      have := (sk_le (pL a n) d (tS a n p + 1)).1
      show tS a n p < sk (pL a n) (n - tS a n p) (tS a n p)
      rw [hd', sk_y cL]
      omega
    have eE : tE a n p = tL a n (tS a n p) := by unfold tE; rw [if_pos cL]
    have eK : tK a n p = 1 := by unfold tK; rw [if_pos cL]
    rw [if_neg (nI_ge hlt (by omega))]
    refine ⟨_, rfl, ((o1.su (j := 2) (by omega) _).su (j := 3) (by omega) _), ?_, ?_, ?_, fun q => by omega⟩
    · rw [su_j (by omega), su_j (by omega)]; exact s4
    · rw [su_j (by omega), su_s, eE]
    · rw [su_s, eK]; rfl
  · have eL : tL a n (tS a n p) = tS a n p := sk_n cL
    rw [eL, if_pos (nI_le (Nat.le_refl _) (by omega)), su_e s2]
    rw [tokD_l (n - tS a n p) (tS a n p) 400 σ1 rfl hsn (by omega) t1 s2, s5]
    unfold fX8_readToken_b196 fX8_readToken_b226 fX8_readToken_b267
    rw [su_j (show 2 ≠ 5 by omega), su_s, su_j (show 4 ≠ 5 by omega), su_j (show 4 ≠ 2 by omega), s4]
    by_cases cD : pD a n (tS a n p) = true
    · obtain ⟨q1, q2⟩ := pD_y cD
      have hlt : tS a n p < tD a n (tS a n p) := by
        obtain ⟨d, hd'⟩ : ∃ d, n - tS a n p = d + 1 := ⟨n - tS a n p - 1, by omega⟩
        have := (sk_le (pD a n) d (tS a n p + 1)).1
        show tS a n p < sk (pD a n) (n - tS a n p) (tS a n p)
        rw [hd', sk_y cD]
        omega
      have eE : tE a n p = tD a n (tS a n p) := by unfold tE; rw [if_neg cL, if_pos cD]
      have eK : tK a n p = if tD a n (tS a n p) - tS a n p ≤ 2 then 2 else 4 := by unfold tK; rw [if_neg cL, if_pos cD]
      have esub : nI (tD a n (tS a n p)) - nI (tS a n p) = nI (tD a n (tS a n p) - tS a n p) := pk_sub (by omega)
      rw [if_neg (show ¬ nI (sk (pD a n) (n - tS a n p) (tS a n p)) ≤ nI (tS a n p) from nI_ge hlt (by omega))]
      have h2 : (nI (tD a n (tS a n p)) - nI (tS a n p) ≤ 2) ↔ tD a n (tS a n p) - tS a n p ≤ 2 := by
        rw [esub]
        exact nI_leI (b := 2) (by omega) (by omega)
      simp only [ol]
      by_cases c2 : tD a n (tS a n p) - tS a n p ≤ 2
      · rw [if_pos c2] at eK
        rw [if_pos (h2.mpr c2)]
        obtain ⟨v, v1, v2, v3, v4⟩ := num_2 (fun j hj => (tp.2.2 j hj).1) cD c2
        refine ⟨_, rfl, ((o1.su (j := 2) (by omega) _).su (j := 5) (by omega) _).su (j := 3) (by omega) _, ?_, ?_, ?_, fun _ => ?_⟩
        · rw [su_j (by omega), su_j (by omega), su_j (by omega)]; exact s4
        · rw [su_j (by omega), su_j (by omega), su_s, eE]
        · rw [su_s, eK]; rfl
        · rw [su_j (by omega), su_s, v3]
          unfold tV
          rw [← v2]
      · rw [if_neg c2] at eK
        rw [if_neg (fun q => c2 (h2.mp q))]
        refine ⟨_, rfl, ((o1.su (j := 2) (by omega) _).su (j := 5) (by omega) _).su (j := 3) (by omega) _, ?_, ?_, ?_, fun q => by omega⟩
        · rw [su_j (by omega), su_j (by omega), su_j (by omega)]; exact s4
        · rw [su_j (by omega), su_j (by omega), su_s, eE]
        · rw [su_s, eK]; rfl
    · have eD : sk (pD a n) (n - tS a n p) (tS a n p) = tS a n p := sk_n cD
      have edn : dnum (pD a n) a (n - tS a n p) 0 (tS a n p) = 0 := dnum_0 eD
      rw [eD, edn, if_pos (nI_le (Nat.le_refl _) (by omega)), su_e s2, su_e s5, t1.2.1]
      by_cases c3 : tS a n p < n
      · obtain ⟨u1, u2⟩ := t1.2.2 (tS a n p) c3
        have hb := (sbt_n u1).2.1
        have eE : tE a n p = tS a n p + 1 := by unfold tE; rw [if_neg cL, if_neg cD, if_pos c3]
        have eK : tK a n p = if a (tS a n p) = 59 then 3 else 4 := by unfold tK; rw [if_neg cL, if_neg cD, if_pos c3]
        rw [if_pos (nI_lt c3 (by omega))]
        simp only [ol, og_t (ix_ok (j := tS a n p) (n := 320) (by omega) (by omega))]
        rw [nI_clamp (by omega), u2]
        have fin : ∀ k : Nat, tK a n p = k → k ≠ 2 → ∃ τ, some ((0 : Int32), su (su σ1 1 3 (nI k)) 1 2 (su σ1 1 3 (nI k) 1 2 + 1)) = some (0, τ) ∧ on1 σ τ ∧ tkX a n p τ := fun k hk hk2 => by
          refine ⟨_, rfl, (o1.su (j := 3) (by omega) _).su (j := 2) (by omega) _, ?_, ?_, ?_, fun q => absurd (hk.symm.trans q) hk2⟩
          · rw [su_j (by omega), su_j (by omega)]; exact s4
          · rw [su_s, su_j (by omega), s2, nI_1, eE]
          · rw [su_j (by omega), su_s, hk]
        by_cases c5 : a (tS a n p) = 59
        · rw [if_neg (fun q => q (hb.mpr c5))]
          rw [if_pos c5] at eK
          exact fin 3 eK (by omega)
        · rw [if_pos (fun q => c5 (hb.mp q))]
          rw [if_neg c5] at eK
          exact fin 4 eK (by omega)
      · have eE : tE a n p = tS a n p := by unfold tE; rw [if_neg cL, if_neg cD, if_neg c3]
        have eK : tK a n p = 0 := by unfold tK; rw [if_neg cL, if_neg cD, if_neg c3]
        rw [if_neg (nI_nlt (by omega) (by omega))]
        refine ⟨_, rfl, o1.su (j := 3) (by omega) _, ?_, ?_, ?_, fun q => by omega⟩
        · rw [su_j (by omega)]; exact s4
        · rw [su_j (by omega), s2, eE]
        · rw [su_s, eK]; rfl
end
section
/-! THE TEXT: the reference reads a token -/
theorem TpM.c {a : Nat → Nat} {n : Nat} {σ τ : S0} (h : TpM a n σ) (h1 : τ 98 17 = σ 98 17) (h2 : τ 104 = σ 104) : TpM a n τ := by
  unfold TpM
  rw [h1, h2]
  exact h
theorem look_s {a : Nat → Nat} {n : Nat} {ρ : S0} (tp : TpM a n ρ) {p : Nat} (hp : p < 2 ^ 30) : fX11_look ρ (nI p) = some (if p < n then nI (a p) else -1, ρ) := by
  have hn := tp.1
  unfold fX11_look
  rw [tp.2.1]
  by_cases c : p < n
  · rw [if_neg (nI_ge c (by omega)), og_t (ix_ok (by omega) (by omega)), nI_clamp (by omega), if_pos c, (tp.2.2 p c).2]
    rfl
  · rw [if_pos (nI_le (by omega) (by omega)), if_neg c]
def nxtB (σ2 : S0) : Option (Int32 × S0) := ol (σ2 98 18) (fun v5 => ol (su σ2 98 19 v5) (fun σ6 => obp (fX11_look σ6 (σ6 98 18)) (fun r7 σ8 => if 0 ≤ r7 then (obp (fX11_in σ8 r7.toInt64 ((97 : Int64)) ((122 : Int64))) (fun r11 σ12 => if r11 = 0 then (obp (fX11_in σ12 r7.toInt64 ((48 : Int64)) ((57 : Int64))) (fun r15 σ16 => if r15 = 0 then (ol (su σ16 98 20 3) (fun σ19 => if ¬ r7 = 59 then (fX11_next_b260 σ19 0) else (fX11_next_b260 σ19 1))) else (ol (su σ16 98 20 2) (fun σ21 => ol (su σ21 98 21 0) (fun σ22 => fX11_next_h140 400 σ22))))) else (ol (su σ12 98 20 1) (fun σ23 => fX11_next_h82 400 σ23)))) else (ol (su σ8 98 20 0) (fun σ24 => some (0, σ24))))))
theorem b8_e (sf : S0 → Option (Int32 × S0)) (σ : S0) : fX11_next_b8 sf σ = obp (fX11_look σ (σ 98 18)) (fun r1 σ2 => if ¬ r1 = 32 then nxtB σ2 else (ol ((σ2 98 18) + 1) (fun v25 => ol (su σ2 98 18 v25) (fun σ26 => sf σ26)))) := rfl
theorem nI32 {x : Nat} (h : x < 256) : nI x = 32 ↔ x = 32 := nI_eq (b := 32) (by omega) (by omega)
theorem nxtS_l {a : Nat → Nat} {n : Nat} : ∀ (d p m : Nat) (ρ : S0), n - p = d → p ≤ n → d < m → TpM a n ρ → ρ 98 18 = nI p → fX11_next_h8 m ρ = nxtB (su ρ 98 18 (nI (sk (pB a n) d p))) := by
  intro d
  induction d with
  | zero =>
    intro p m ρ h1 h2 h3 tp e
    obtain ⟨m, rfl⟩ : ∃ q, m = q + 1 := ⟨m - 1, by omega⟩
    have hn := tp.1
    show fX11_next_b8 _ _ = _
    rw [b8_e, e, look_s tp (by omega), if_neg (by omega)]
    simp only [obp]
    rw [if_pos (by decide)]
    show _ = nxtB (su ρ 98 18 (nI p))
    rw [su_e e]
  | succ d ih =>
    intro p m ρ h1 h2 h3 tp e
    obtain ⟨m, rfl⟩ : ∃ q, m = q + 1 := ⟨m - 1, by omega⟩
    have hn := tp.1
    have hpn : p < n := by omega
    obtain ⟨t1, t2⟩ := tp.2.2 p hpn
    show fX11_next_b8 _ _ = _
    rw [b8_e, e, look_s tp (by omega), if_pos hpn]
    simp only [obp, ol]
    by_cases c : a p = 32
    · have cp : pB a n p = true := decide_eq_true ⟨hpn, c⟩
      rw [if_neg (fun q => q ((nI32 t1).mpr c)), e, nI_1, ih (p + 1) m (su ρ 98 18 (nI (p + 1))) (by omega) (by omega) (by omega) (tp.c (su_j (by omega)) (su_ne (by omega))) su_s, sk_y cp, su_2]
    · have cp : ¬ pB a n p = true := fun q => c (of_decide_eq_true q).2
      rw [if_pos (fun q => c ((nI32 t1).mp q)), sk_n cp, su_e e]
theorem in_c {σ : S0} {x l h : Nat} (hx : x < 256) {lo hi : Int64} (hl : lo.toInt = l) (hh : hi.toInt = h) : fX11_in σ ((nI x).toInt64) lo hi = some (if l ≤ x ∧ x ≤ h then 1 else 0, σ) := by
  rw [in_i σ (nI x) lo hi l h hl hh, ir (by omega)]
  by_cases c : l ≤ x ∧ x ≤ h
  · rw [if_pos c, if_pos (by omega)]
  · rw [if_neg c, if_neg (by omega)]
theorem in_m1 {σ : S0} {l h : Nat} {lo hi : Int64} (hl : lo.toInt = l) (hh : hi.toInt = h) : fX11_in σ ((-1 : Int32).toInt64) lo hi = some (0, σ) := by
  rw [in_i σ (-1) lo hi l h hl hh, if_neg (fun q => by have e : (-1 : Int32).toInt = -1 := rfl; omega)]
theorem nxtL_l {a : Nat → Nat} {n : Nat} : ∀ (d p m : Nat) (ρ : S0), n - p = d → p ≤ n → d < m → TpM a n ρ → ρ 98 18 = nI p → fX11_next_h82 m ρ = some (0, su ρ 98 18 (nI (sk (pL a n) d p))) := by
  intro d
  induction d with
  | zero =>
    intro p m ρ h1 h2 h3 tp e
    obtain ⟨m, rfl⟩ : ∃ q, m = q + 1 := ⟨m - 1, by omega⟩
    have hn := tp.1
    show fX11_next_b82 _ _ = _
    unfold fX11_next_b82
    rw [e, look_s tp (by omega), if_neg (by omega)]
    simp only [obp]
    rw [in_m1 (l := 97) (h := 122) rfl rfl]
    show some (0, ρ) = some (0, su ρ 98 18 (nI p))
    rw [su_e e]
  | succ d ih =>
    intro p m ρ h1 h2 h3 tp e
    obtain ⟨m, rfl⟩ : ∃ q, m = q + 1 := ⟨m - 1, by omega⟩
    have hn := tp.1
    have hpn : p < n := by omega
    obtain ⟨t1, t2⟩ := tp.2.2 p hpn
    show fX11_next_b82 _ _ = _
    unfold fX11_next_b82
    rw [e, look_s tp (by omega), if_pos hpn]
    simp only [obp]
    rw [in_c t1 (l := 97) (h := 122) rfl rfl]
    simp only [ol]
    by_cases c : 97 ≤ a p ∧ a p ≤ 122
    · have cp : pL a n p = true := decide_eq_true ⟨hpn, c⟩
      rw [if_pos c, if_neg (by decide), e, nI_1, ih (p + 1) m (su ρ 98 18 (nI (p + 1))) (by omega) (by omega) (by omega) (tp.c (su_j (by omega)) (su_ne (by omega))) su_s, sk_y cp, su_2]
    · have cp : ¬ pL a n p = true := fun q => c (of_decide_eq_true q).2
      rw [if_neg c, if_pos rfl, sk_n cp, su_e e]
theorem nxtD_l {a : Nat → Nat} {n s : Nat} : ∀ (d p m : Nat) (ρ : S0), n - p = d → s ≤ p → p ≤ n → d < m → TpM a n ρ → ρ 98 18 = nI p → ρ 98 19 = nI s → fX11_next_h140 m ρ = fX11_next_b236 (su (su ρ 98 18 (nI (sk (pD a n) d p))) 98 21 (rnum (pD a n) a s d (ρ 98 21) p)) (if sk (pD a n) d p - s ≤ 2 then 1 else 0) := by
  intro d
  induction d with
  | zero =>
    intro p m ρ h1 hs h2 h3 tp e e9
    obtain ⟨m, rfl⟩ : ∃ q, m = q + 1 := ⟨m - 1, by omega⟩
    have hn := tp.1
    show fX11_next_b140 _ _ = _
    unfold fX11_next_b140
    rw [e, look_s tp (by omega), if_neg (by omega)]
    simp only [obp]
    rw [in_m1 (l := 48) (h := 57) rfl rfl]
    simp only
    rw [if_pos (by decide)]
    show _ = fX11_next_b236 (su (su ρ 98 18 (nI p)) 98 21 (ρ 98 21)) (if p - s ≤ 2 then 1 else 0)
    rw [su_e e, su_o]
    have h2l : (2 : Int32) < ρ 98 18 - ρ 98 19 ↔ 2 < p - s := by rw [e, e9, pk_sub hs]; exact nI_ltI (a := 2) (by omega) (by omega)
    by_cases c : p - s ≤ 2
    · rw [if_neg (fun q => by have := h2l.mp q; omega), if_pos c]
    · rw [if_pos (h2l.mpr (by omega)), if_neg c]
  | succ d ih =>
    intro p m ρ h1 hs h2 h3 tp e e9
    obtain ⟨m, rfl⟩ : ∃ q, m = q + 1 := ⟨m - 1, by omega⟩
    have hn := tp.1
    have hpn : p < n := by omega
    obtain ⟨t1, t2⟩ := tp.2.2 p hpn
    have h2l : (2 : Int32) < ρ 98 18 - ρ 98 19 ↔ 2 < p - s := by rw [e, e9, pk_sub hs]; exact nI_ltI (a := 2) (by omega) (by omega)
    have h2e : (2 : Int32) ≤ ρ 98 18 - ρ 98 19 ↔ 2 ≤ p - s := by rw [e, e9, pk_sub hs]; exact nI_leI (a := 2) (by omega) (by omega)
    show fX11_next_b140 _ _ = _
    unfold fX11_next_b140 fX11_next_b201
    rw [e, look_s tp (by omega), if_pos hpn]
    simp only [obp]
    rw [in_c t1 (l := 48) (h := 57) rfl rfl]
    simp only [ol]
    by_cases c : 48 ≤ a p ∧ a p ≤ 57
    · have cp : pD a n p = true := decide_eq_true ⟨hpn, c⟩
      have ern : rnum (pD a n) a s (d + 1) (ρ 98 21) p = rnum (pD a n) a s d (if 2 ≤ p - s then ρ 98 21 else 10 * ρ 98 21 + nI (a p) - 48) (p + 1) := by
        show (if _ then _ else _) = _
        rw [if_pos cp]
      have go : ∀ v : Int32, fX11_next_h140 m (su (su ρ 98 21 v) 98 18 (su ρ 98 21 v 98 18 + 1)) = fX11_next_b236 (su (su ρ 98 18 (nI (sk (pD a n) (d + 1) p))) 98 21 (rnum (pD a n) a s d v (p + 1))) (if sk (pD a n) (d + 1) p - s ≤ 2 then 1 else 0) := fun v => by
        rw [su_j (show 18 ≠ 21 by omega), e, nI_1, ih (p + 1) m (su (su ρ 98 21 v) 98 18 (nI (p + 1))) (by omega) (by omega) (by omega) (by omega) (tp.c (by rw [su_j (by omega), su_j (by omega)]) (by rw [su_ne (by omega), su_ne (by omega)])) su_s (by rw [su_j (by omega), su_j (by omega)]; exact e9), su_j (show 21 ≠ 18 by omega), su_s, sk_y cp, su_2, su_sw _ _ (show 21 ≠ 18 by omega), su_2]
      rw [if_pos c, if_neg (by decide), ern]
      by_cases c2 : 2 ≤ p - s
      · rw [if_pos (h2e.mpr c2), if_pos c2]
        exact go _
      · rw [if_neg (fun q => c2 (h2e.mp q)), if_neg c2, e, look_s tp (by omega), if_pos hpn]
        exact go _
    · have cp : ¬ pD a n p = true := fun q => c (of_decide_eq_true q).2
      have ern : rnum (pD a n) a s (d + 1) (ρ 98 21) p = ρ 98 21 := by
        show (if _ then _ else _) = _
        rw [if_neg cp]
      rw [if_neg c, if_pos rfl, sk_n cp, ern, su_e e, su_o]
      by_cases c2 : p - s ≤ 2
      · rw [if_neg (fun q => by have := h2l.mp q; omega), if_pos c2]
      · rw [if_pos (h2l.mpr (by omega)), if_neg c2]
/-- what the reference holds behind a token read from p on -/
def tkM (a : Nat → Nat) (n p : Nat) (ρ : S0) : Prop := ρ 98 19 = nI (tS a n p) ∧ ρ 98 18 = nI (tE a n p) ∧ ((tK a n p = 4 ∧ ρ 98 22 = 1 ∧ ρ 98 23 = nI (tS a n p)) ∨ (tK a n p ≤ 3 ∧ ρ 98 22 = 0 ∧ ρ 98 20 = nI (tK a n p) ∧ (tK a n p = 2 → ρ 98 21 = nI (tV a n p))))
def on8 (σ τ : S0) : Prop := ∀ k j, ¬ (k = 98 ∧ 18 ≤ j ∧ j ≤ 23) → τ k j = σ k j
theorem on8.tr {a b c : S0} (h1 : on8 a b) (h2 : on8 b c) : on8 a c := fun k j h => (h2 k j h).trans (h1 k j h)
theorem on8.rf (a : S0) : on8 a a := fun _ _ _ => rfl
theorem on8.su {a b : S0} (h : on8 a b) {j : Nat} (hj : 18 ≤ j ∧ j ≤ 23) (v : Int32) : on8 a (su b 98 j v) := fun k i q => by
  rw [← h k i q]
  by_cases hk : k = 98
  · subst hk; exact su_j (fun z => q ⟨rfl, by omega⟩)
  · rw [su_ne hk]
theorem on8.c {a b : S0} (h : on8 a b) {k : Nat} (hk : k ≠ 98) : b k = a k := funext fun j => h k j (fun q => hk q.1)
theorem needs_y {ρ : S0} {v : Int32} (c : Int32) (h : ¬ v = 0) : fX11_needs ρ v c = some (0, ρ) := by
  unfold fX11_needs
  rw [if_pos h]
theorem needs_f {ρ : S0} (v c : Int32) (h : ¬ ρ 98 22 = 0) : fX11_needs ρ v c = some (0, ρ) := by
  unfold fX11_needs
  by_cases q : v = 0
  · rw [if_neg (fun z => z q), if_pos h]
  · rw [if_pos q]
theorem needs_n {ρ : S0} (c : Int32) (h : ρ 98 22 = 0) : fX11_needs ρ 0 c = some (0, su (su ρ 98 22 c) 98 23 (ρ 98 19)) := by
  unfold fX11_needs
  rw [if_neg (fun z => z rfl), if_neg (fun z => z h)]
  simp only [ol]
  rw [su_j (by omega)]
theorem tK_4 (a : Nat → Nat) (n p : Nat) : tK a n p ≤ 4 := by
  unfold tK
  by_cases c1 : pL a n (tS a n p) = true
  · rw [if_pos c1]; omega
  · rw [if_neg c1]
    by_cases c2 : pD a n (tS a n p) = true
    · rw [if_pos c2]
      by_cases c3 : tD a n (tS a n p) - tS a n p ≤ 2
      · rw [if_pos c3]; omega
      · rw [if_neg c3]; omega
    · rw [if_neg c2]
      by_cases c3 : tS a n p < n
      · rw [if_pos c3]
        by_cases c4 : a (tS a n p) = 59
        · rw [if_pos c4]; omega
        · rw [if_neg c4]; omega
      · rw [if_neg c3]; omega
theorem next_s {a : Nat → Nat} {n p : Nat} {ρ : S0} (tp : TpM a n ρ) (hp : p ≤ n) (e : ρ 98 18 = nI p) (e22 : ρ 98 22 = 0) : ∃ μ, fX11_next ρ = some (0, μ) ∧ on8 ρ μ ∧ tkM a n p μ := by
  have hn := tp.1
  have hs := sk_le (pB a n) (n - p) p
  have hsn : tS a n p ≤ n := by show sk _ _ _ ≤ n; omega
  have hl := sk_le (pL a n) (n - tS a n p) (tS a n p)
  have hd := sk_le (pD a n) (n - tS a n p) (tS a n p)
  have hd2 : tD a n (tS a n p) ≤ n := by show sk _ _ _ ≤ n; omega
  have b1 : fX11_next ρ = nxtB (su ρ 98 18 (nI (tS a n p))) := by
    unfold fX11_next
    rw [if_pos (show ρ 98 22 ≤ 0 from by rw [e22]; decide)]
    exact nxtS_l (n - p) p 400 ρ rfl hp (by omega) tp e
  have o1 : on8 ρ (su (su ρ 98 18 (nI (tS a n p))) 98 19 (nI (tS a n p))) := ((on8.rf ρ).su (by omega) _).su (by omega) _
  have s9 : su (su ρ 98 18 (nI (tS a n p))) 98 19 (nI (tS a n p)) 98 19 = nI (tS a n p) := su_s
  have s8 : su (su ρ 98 18 (nI (tS a n p))) 98 19 (nI (tS a n p)) 98 18 = nI (tS a n p) := by rw [su_j (by omega), su_s]
  have s2 : su (su ρ 98 18 (nI (tS a n p))) 98 19 (nI (tS a n p)) 98 22 = 0 := by rw [su_j (by omega), su_j (by omega)]; exact e22
  rw [b1]
  unfold nxtB
  simp only [ol]
  rw [su_s]
  generalize su (su ρ 98 18 (nI (tS a n p))) 98 19 (nI (tS a n p)) = ρ1 at o1 s9 s8 s2
  have t1 : TpM a n ρ1 := tp.c (o1 98 17 (by omega)) (o1.c (by omega))
  rw [s8, look_s t1 (by omega)]
  simp only [obp]
  by_cases c3 : tS a n p < n
  · obtain ⟨u1, u2⟩ := t1.2.2 (tS a n p) c3
    rw [if_pos c3, if_pos (nI_pos' (by omega)), in_c u1 (l := 97) (h := 122) rfl rfl]
    simp only
    by_cases cL : 97 ≤ a (tS a n p) ∧ a (tS a n p) ≤ 122
    · have cp : pL a n (tS a n p) = true := decide_eq_true ⟨c3, cL⟩
      have eE : tE a n p = tL a n (tS a n p) := by unfold tE; rw [if_pos cp]
      have eK : tK a n p = 1 := by unfold tK; rw [if_pos cp]
      rw [if_pos cL, if_neg (by decide), nxtL_l (n - tS a n p) (tS a n p) 400 (su ρ1 98 20 1) rfl hsn (by omega) (t1.c (su_j (by omega)) (su_ne (by omega))) (by rw [su_j (by omega)]; exact s8)]
      refine ⟨_, rfl, (o1.su (j := 20) (by omega) _).su (j := 18) (by omega) _, ?_, ?_, Or.inr ⟨by omega, ?_, ?_, fun q => by omega⟩⟩
      · rw [su_j (by omega), su_j (by omega)]; exact s9
      · rw [su_s, eE]
      · rw [su_j (by omega), su_j (by omega)]; exact s2
      · rw [su_j (by omega), su_s, eK]; rfl
    · have cp : ¬ pL a n (tS a n p) = true := fun q => cL (of_decide_eq_true q).2
      rw [if_neg cL, if_pos rfl, in_c u1 (l := 48) (h := 57) rfl rfl]
      simp only
      by_cases cD : 48 ≤ a (tS a n p) ∧ a (tS a n p) ≤ 57
      · have dp : pD a n (tS a n p) = true := decide_eq_true ⟨c3, cD⟩
        have eE : tE a n p = tD a n (tS a n p) := by unfold tE; rw [if_neg cp, if_pos dp]
        have eK : tK a n p = if tD a n (tS a n p) - tS a n p ≤ 2 then 2 else 4 := by unfold tK; rw [if_neg cp, if_pos dp]
        rw [if_pos cD, if_neg (by decide), nxtD_l (s := tS a n p) (n - tS a n p) (tS a n p) 400 (su (su ρ1 98 20 2) 98 21 0) rfl (Nat.le_refl _) hsn (by omega) (t1.c (by rw [su_j (by omega), su_j (by omega)]) (by rw [su_ne (by omega), su_ne (by omega)])) (by rw [su_j (by omega), su_j (by omega)]; exact s8) (by rw [su_j (by omega), su_j (by omega)]; exact s9), su_s]
        unfold fX11_next_b236
        by_cases c2 : tD a n (tS a n p) - tS a n p ≤ 2
        · obtain ⟨v, v1, v2, v3, v4⟩ := num_2 (fun j hj => (tp.2.2 j hj).1) dp c2
          have c2' : sk (pD a n) (n - tS a n p) (tS a n p) - tS a n p ≤ 2 := c2
          rw [if_pos c2] at eK
          rw [if_pos c2', needs_y _ (by decide)]
          simp only [obp]
          refine ⟨_, rfl, (((o1.su (j := 20) (by omega) _).su (j := 21) (by omega) _).su (j := 18) (by omega) _).su (j := 21) (by omega) _, ?_, ?_, Or.inr ⟨by omega, ?_, ?_, fun _ => ?_⟩⟩
          · rw [su_j (by omega), su_j (by omega), su_j (by omega), su_j (by omega)]; exact s9
          · rw [su_j (by omega), su_s, eE]
          · rw [su_j (by omega), su_j (by omega), su_j (by omega), su_j (by omega)]; exact s2
          · rw [su_j (by omega), su_j (by omega), su_j (by omega), su_s, eK]; rfl
          · rw [su_s, v4]
            unfold tV
            rw [← v2]
        · have c2' : ¬ sk (pD a n) (n - tS a n p) (tS a n p) - tS a n p ≤ 2 := c2
          rw [if_neg c2] at eK
          rw [if_neg c2', needs_n _ (by rw [su_j (by omega), su_j (by omega), su_j (by omega), su_j (by omega)]; exact s2)]
          simp only [obp]
          refine ⟨_, rfl, (((((o1.su (j := 20) (by omega) _).su (j := 21) (by omega) _).su (j := 18) (by omega) _).su (j := 21) (by omega) _).su (j := 22) (by omega) _).su (j := 23) (by omega) _, ?_, ?_, Or.inl ⟨eK, ?_, ?_⟩⟩
          · rw [su_j (by omega), su_j (by omega), su_j (by omega), su_j (by omega), su_j (by omega), su_j (by omega)]; exact s9
          · rw [su_j (by omega), su_j (by omega), su_j (by omega), su_s, eE]
          · rw [su_j (by omega), su_s]
          · rw [su_s, su_j (by omega), su_j (by omega), su_j (by omega), su_j (by omega)]; exact s9
      · have dp : ¬ pD a n (tS a n p) = true := fun q => cD (of_decide_eq_true q).2
        have eE : tE a n p = tS a n p + 1 := by unfold tE; rw [if_neg cp, if_neg dp, if_pos c3]
        have eK : tK a n p = if a (tS a n p) = 59 then 3 else 4 := by unfold tK; rw [if_neg cp, if_neg dp, if_pos c3]
        have h59 : nI (a (tS a n p)) = 59 ↔ a (tS a n p) = 59 := nI_eq (b := 59) (by omega) (by omega)
        rw [if_neg cD, if_pos rfl]
        unfold fX11_next_b260
        by_cases c5 : a (tS a n p) = 59
        · rw [if_pos c5] at eK
          rw [if_neg (fun q => q (h59.mpr c5)), needs_y _ (by decide)]
          simp only [obp, ol]
          refine ⟨_, rfl, (o1.su (j := 20) (by omega) _).su (j := 18) (by omega) _, ?_, ?_, Or.inr ⟨by omega, ?_, ?_, fun q => by omega⟩⟩
          · rw [su_j (by omega), su_j (by omega)]; exact s9
          · rw [su_s, su_j (by omega), s8, nI_1, eE]
          · rw [su_j (by omega), su_j (by omega)]; exact s2
          · rw [su_j (by omega), su_s, eK]; rfl
        · rw [if_neg c5] at eK
          rw [if_pos (fun q => c5 (h59.mp q)), needs_n _ (by rw [su_j (by omega)]; exact s2)]
          simp only [obp, ol]
          refine ⟨_, rfl, (((o1.su (j := 20) (by omega) _).su (j := 22) (by omega) _).su (j := 23) (by omega) _).su (j := 18) (by omega) _, ?_, ?_, Or.inl ⟨eK, ?_, ?_⟩⟩
          · rw [su_j (by omega), su_j (by omega), su_j (by omega), su_j (by omega)]; exact s9
          · rw [su_s, su_j (by omega), su_j (by omega), su_j (by omega), s8, nI_1, eE]
          · rw [su_j (by omega), su_j (by omega), su_s]
          · rw [su_j (by omega), su_s, su_j (by omega)]; exact s9
  · have cp : ¬ pL a n (tS a n p) = true := fun q => c3 (of_decide_eq_true q).1
    have dp : ¬ pD a n (tS a n p) = true := fun q => c3 (of_decide_eq_true q).1
    have eE : tE a n p = tS a n p := by unfold tE; rw [if_neg cp, if_neg dp, if_neg c3]
    have eK : tK a n p = 0 := by unfold tK; rw [if_neg cp, if_neg dp, if_neg c3]
    rw [if_neg c3, if_neg (by decide)]
    refine ⟨_, rfl, o1.su (j := 20) (by omega) _, ?_, ?_, Or.inr ⟨by omega, ?_, ?_, fun q => by omega⟩⟩
    · rw [su_j (by omega)]; exact s9
    · rw [su_j (by omega), s8, eE]
    · rw [su_j (by omega)]; exact s2
    · rw [su_s, eK]; rfl
theorem next_f {ρ : S0} {f : Nat} (h1 : 1 ≤ f) (h2 : f ≤ 6) (e : ρ 98 22 = nI f) : fX11_next ρ = some (0, ρ) := by
  unfold fX11_next
  rw [if_neg (show ¬ ρ 98 22 ≤ 0 from by rw [e]; exact nI_nle (by omega) (by omega))]
end
section
/-! THE TEXT: names -/
def Wd (i : Nat) : List Nat := ([[104, 111, 117, 115, 101, 115], [103, 97, 112], [98, 101, 108, 108], [116, 117, 110, 101], [102, 101, 117, 100], [104, 97, 108, 102], [115, 104, 117, 116]] : List (List Nat)).getD i []
theorem len_0 (σ : S0) : fJ0_length_8abf5 σ 0 = some (nI 6, σ) := by
  unfold fJ0_length_8abf5 fJ0_coder_7d493
  rw [if_neg (by decide)]
  simp only [obp]
  rw [show (Int32.ofNat (lenS.getD 0 0)) >>> ((0 : Int32) &&& 31) = nI 6 from by decide]
theorem chr_0_0 (σ : S0) : fJ0_charAt_5068e σ 0 (nI 0) = some (nI 104, σ) := rfl
theorem chr_0_1 (σ : S0) : fJ0_charAt_5068e σ 0 (nI 1) = some (nI 111, σ) := rfl
theorem chr_0_2 (σ : S0) : fJ0_charAt_5068e σ 0 (nI 2) = some (nI 117, σ) := rfl
theorem chr_0_3 (σ : S0) : fJ0_charAt_5068e σ 0 (nI 3) = some (nI 115, σ) := rfl
theorem chr_0_4 (σ : S0) : fJ0_charAt_5068e σ 0 (nI 4) = some (nI 101, σ) := rfl
theorem chr_0_5 (σ : S0) : fJ0_charAt_5068e σ 0 (nI 5) = some (nI 115, σ) := rfl
theorem len_1 (σ : S0) : fJ0_length_8abf5 σ 1 = some (nI 3, σ) := by
  unfold fJ0_length_8abf5 fJ0_coder_7d493
  rw [if_neg (by decide)]
  simp only [obp]
  rw [show (Int32.ofNat (lenS.getD 1 0)) >>> ((0 : Int32) &&& 31) = nI 3 from by decide]
theorem chr_1_0 (σ : S0) : fJ0_charAt_5068e σ 1 (nI 0) = some (nI 103, σ) := rfl
theorem chr_1_1 (σ : S0) : fJ0_charAt_5068e σ 1 (nI 1) = some (nI 97, σ) := rfl
theorem chr_1_2 (σ : S0) : fJ0_charAt_5068e σ 1 (nI 2) = some (nI 112, σ) := rfl
theorem len_2 (σ : S0) : fJ0_length_8abf5 σ 2 = some (nI 4, σ) := by
  unfold fJ0_length_8abf5 fJ0_coder_7d493
  rw [if_neg (by decide)]
  simp only [obp]
  rw [show (Int32.ofNat (lenS.getD 2 0)) >>> ((0 : Int32) &&& 31) = nI 4 from by decide]
theorem chr_2_0 (σ : S0) : fJ0_charAt_5068e σ 2 (nI 0) = some (nI 98, σ) := rfl
theorem chr_2_1 (σ : S0) : fJ0_charAt_5068e σ 2 (nI 1) = some (nI 101, σ) := rfl
theorem chr_2_2 (σ : S0) : fJ0_charAt_5068e σ 2 (nI 2) = some (nI 108, σ) := rfl
theorem chr_2_3 (σ : S0) : fJ0_charAt_5068e σ 2 (nI 3) = some (nI 108, σ) := rfl
theorem len_3 (σ : S0) : fJ0_length_8abf5 σ 3 = some (nI 4, σ) := by
  unfold fJ0_length_8abf5 fJ0_coder_7d493
  rw [if_neg (by decide)]
  simp only [obp]
  rw [show (Int32.ofNat (lenS.getD 3 0)) >>> ((0 : Int32) &&& 31) = nI 4 from by decide]
theorem chr_3_0 (σ : S0) : fJ0_charAt_5068e σ 3 (nI 0) = some (nI 116, σ) := rfl
theorem chr_3_1 (σ : S0) : fJ0_charAt_5068e σ 3 (nI 1) = some (nI 117, σ) := rfl
theorem chr_3_2 (σ : S0) : fJ0_charAt_5068e σ 3 (nI 2) = some (nI 110, σ) := rfl
theorem chr_3_3 (σ : S0) : fJ0_charAt_5068e σ 3 (nI 3) = some (nI 101, σ) := rfl
theorem len_4 (σ : S0) : fJ0_length_8abf5 σ 4 = some (nI 4, σ) := by
  unfold fJ0_length_8abf5 fJ0_coder_7d493
  rw [if_neg (by decide)]
  simp only [obp]
  rw [show (Int32.ofNat (lenS.getD 4 0)) >>> ((0 : Int32) &&& 31) = nI 4 from by decide]
theorem chr_4_0 (σ : S0) : fJ0_charAt_5068e σ 4 (nI 0) = some (nI 102, σ) := rfl
theorem chr_4_1 (σ : S0) : fJ0_charAt_5068e σ 4 (nI 1) = some (nI 101, σ) := rfl
theorem chr_4_2 (σ : S0) : fJ0_charAt_5068e σ 4 (nI 2) = some (nI 117, σ) := rfl
theorem chr_4_3 (σ : S0) : fJ0_charAt_5068e σ 4 (nI 3) = some (nI 100, σ) := rfl
theorem len_5 (σ : S0) : fJ0_length_8abf5 σ 5 = some (nI 4, σ) := by
  unfold fJ0_length_8abf5 fJ0_coder_7d493
  rw [if_neg (by decide)]
  simp only [obp]
  rw [show (Int32.ofNat (lenS.getD 5 0)) >>> ((0 : Int32) &&& 31) = nI 4 from by decide]
theorem chr_5_0 (σ : S0) : fJ0_charAt_5068e σ 5 (nI 0) = some (nI 104, σ) := rfl
theorem chr_5_1 (σ : S0) : fJ0_charAt_5068e σ 5 (nI 1) = some (nI 97, σ) := rfl
theorem chr_5_2 (σ : S0) : fJ0_charAt_5068e σ 5 (nI 2) = some (nI 108, σ) := rfl
theorem chr_5_3 (σ : S0) : fJ0_charAt_5068e σ 5 (nI 3) = some (nI 102, σ) := rfl
theorem len_6 (σ : S0) : fJ0_length_8abf5 σ 6 = some (nI 4, σ) := by
  unfold fJ0_length_8abf5 fJ0_coder_7d493
  rw [if_neg (by decide)]
  simp only [obp]
  rw [show (Int32.ofNat (lenS.getD 6 0)) >>> ((0 : Int32) &&& 31) = nI 4 from by decide]
theorem chr_6_0 (σ : S0) : fJ0_charAt_5068e σ 6 (nI 0) = some (nI 115, σ) := rfl
theorem chr_6_1 (σ : S0) : fJ0_charAt_5068e σ 6 (nI 1) = some (nI 104, σ) := rfl
theorem chr_6_2 (σ : S0) : fJ0_charAt_5068e σ 6 (nI 2) = some (nI 117, σ) := rfl
theorem chr_6_3 (σ : S0) : fJ0_charAt_5068e σ 6 (nI 3) = some (nI 116, σ) := rfl
def okW (i : Nat) : Prop := (Wd i).length ≤ 6 ∧ (∀ j, j < (Wd i).length → (Wd i).getD j 0 < 128) ∧ (∀ σ, fJ0_length_8abf5 σ i = some (nI (Wd i).length, σ)) ∧ ∀ j, j < (Wd i).length → ∀ σ, fJ0_charAt_5068e σ i (nI j) = some (nI ((Wd i).getD j 0), σ)
theorem okW_0 : okW 0 := ⟨by decide, by decide, len_0, fun j hj σ => by
  have hj2 : j < 6 := hj
  rcases (show j = 0 ∨ j = 1 ∨ j = 2 ∨ j = 3 ∨ j = 4 ∨ j = 5 by omega) with rfl | rfl | rfl | rfl | rfl | rfl
  · exact chr_0_0 σ
  · exact chr_0_1 σ
  · exact chr_0_2 σ
  · exact chr_0_3 σ
  · exact chr_0_4 σ
  · exact chr_0_5 σ⟩
theorem okW_1 : okW 1 := ⟨by decide, by decide, len_1, fun j hj σ => by
  have hj2 : j < 3 := hj
  rcases (show j = 0 ∨ j = 1 ∨ j = 2 by omega) with rfl | rfl | rfl
  · exact chr_1_0 σ
  · exact chr_1_1 σ
  · exact chr_1_2 σ⟩
theorem okW_2 : okW 2 := ⟨by decide, by decide, len_2, fun j hj σ => by
  have hj2 : j < 4 := hj
  rcases (show j = 0 ∨ j = 1 ∨ j = 2 ∨ j = 3 by omega) with rfl | rfl | rfl | rfl
  · exact chr_2_0 σ
  · exact chr_2_1 σ
  · exact chr_2_2 σ
  · exact chr_2_3 σ⟩
theorem okW_3 : okW 3 := ⟨by decide, by decide, len_3, fun j hj σ => by
  have hj2 : j < 4 := hj
  rcases (show j = 0 ∨ j = 1 ∨ j = 2 ∨ j = 3 by omega) with rfl | rfl | rfl | rfl
  · exact chr_3_0 σ
  · exact chr_3_1 σ
  · exact chr_3_2 σ
  · exact chr_3_3 σ⟩
theorem okW_4 : okW 4 := ⟨by decide, by decide, len_4, fun j hj σ => by
  have hj2 : j < 4 := hj
  rcases (show j = 0 ∨ j = 1 ∨ j = 2 ∨ j = 3 by omega) with rfl | rfl | rfl | rfl
  · exact chr_4_0 σ
  · exact chr_4_1 σ
  · exact chr_4_2 σ
  · exact chr_4_3 σ⟩
theorem okW_5 : okW 5 := ⟨by decide, by decide, len_5, fun j hj σ => by
  have hj2 : j < 4 := hj
  rcases (show j = 0 ∨ j = 1 ∨ j = 2 ∨ j = 3 by omega) with rfl | rfl | rfl | rfl
  · exact chr_5_0 σ
  · exact chr_5_1 σ
  · exact chr_5_2 σ
  · exact chr_5_3 σ⟩
theorem okW_6 : okW 6 := ⟨by decide, by decide, len_6, fun j hj σ => by
  have hj2 : j < 4 := hj
  rcases (show j = 0 ∨ j = 1 ∨ j = 2 ∨ j = 3 by omega) with rfl | rfl | rfl | rfl
  · exact chr_6_0 σ
  · exact chr_6_1 σ
  · exact chr_6_2 σ
  · exact chr_6_3 σ⟩
def mw (a : Nat → Nat) (s e i : Nat) : Prop := e - s = (Wd i).length ∧ ∀ j, j < (Wd i).length → a (s + j) = (Wd i).getD j 0
theorem sbc_t : ∀ x : Fin 256, (sbt x.1).toInt = if x.1 < 128 then (x.1 : Int) else (x.1 : Int) - 256 := by decide +kernel
theorem sbc_n {x c : Nat} (hx : x < 256) (hc : c < 128) : sbt x = nI c ↔ x = c := by
  rw [i3_eq, ir (by omega)]
  have h := sbc_t ⟨x, hx⟩
  simp only at h
  rw [h]
  by_cases q : x < 128
  · rw [if_pos q]; omega
  · rw [if_neg q]; omega
theorem isName_l {a : Nat → Nat} {n s i : Nat} (ok : okW i) {σ : S0} (tp : TpX a n σ) (e4 : σ 1 4 = nI s) (hs : s + (Wd i).length ≤ n) : ∀ (d j m : Nat), (Wd i).length - j = d → j ≤ (Wd i).length → d < m → ∃ r, fX8_isName_h28 m σ i (nI j) = some (r, σ) ∧ (r = 0 ∨ r = 1) ∧ (r = 1 ↔ ∀ k, j ≤ k → k < (Wd i).length → a (s + k) = (Wd i).getD k 0) := by
  obtain ⟨w1, w2, w3, w4⟩ := ok
  have hn := tp.1
  intro d
  induction d with
  | zero =>
    intro j m h1 h2 h3
    obtain ⟨m, rfl⟩ : ∃ q, m = q + 1 := ⟨m - 1, by omega⟩
    refine ⟨1, ?_, Or.inr rfl, ⟨fun _ k a b => by omega, fun _ => rfl⟩⟩
    show fX8_isName_b28 _ _ _ _ = _
    unfold fX8_isName_b28
    rw [w3]
    simp only [obp]
    rw [if_pos (nI_le (by omega) (by omega))]
  | succ d ih =>
    intro j m h1 h2 h3
    obtain ⟨m, rfl⟩ : ∃ q, m = q + 1 := ⟨m - 1, by omega⟩
    obtain ⟨r, r1, r2, r3⟩ := ih (j + 1) m (by omega) (by omega) (by omega)
    obtain ⟨t1, t2⟩ := tp.2.2 (s + j) (by omega)
    have hb := sbc_n t1 (w2 j (by omega))
    have e1 : fX8_isName_h28 (m + 1) σ i (nI j) = if sbt (a (s + j)) = nI ((Wd i).getD j 0) then fX8_isName_h28 m σ i (nI (j + 1)) else some (0, σ) := by
      show fX8_isName_b28 _ _ _ _ = _
      unfold fX8_isName_b28
      rw [w3]
      simp only [obp]
      rw [if_neg (nI_ge (by omega) (by omega)), e4, nI_add]
      simp only [ol]
      rw [og_t (ix_ok (by omega) (by omega)), nI_clamp (by omega), t2, w4 j (by omega)]
      simp only
      rw [nI_1]
    rw [e1]
    by_cases c : a (s + j) = (Wd i).getD j 0
    · rw [if_pos (hb.mpr c)]
      refine ⟨r, r1, r2, r3.trans ⟨fun q k x y => ?_, fun q k x y => q k (by omega) y⟩⟩
      by_cases z : k = j
      · subst z; exact c
      · exact q k (by omega) y
    · rw [if_neg (fun q => c (hb.mp q))]
      exact ⟨0, rfl, Or.inl rfl, ⟨fun q => absurd q (by decide), fun q => absurd (q j (Nat.le_refl _) (by omega)) c⟩⟩
theorem isName_s {a : Nat → Nat} {n s e k i : Nat} (ok : okW i) {σ : S0} (tp : TpX a n σ) (e4 : σ 1 4 = nI s) (e2 : σ 1 2 = nI e) (e3 : σ 1 3 = nI k) (hk : k ≤ 4) (hse : s ≤ e) (hen : e ≤ n) : ∃ r, fX8_isName σ i = some (r, σ) ∧ (r = 0 ∨ r = 1) ∧ (r = 1 ↔ k = 1 ∧ mw a s e i) := by
  have hn := tp.1
  have w1 := ok.1
  have hk1 : σ 1 3 = 1 ↔ k = 1 := by rw [e3]; exact nI_eq (b := 1) (by omega) (by omega)
  unfold fX8_isName
  by_cases c1 : k = 1
  · rw [if_neg (fun q => q (hk1.mpr c1)), ok.2.2.1]
    simp only [obp]
    have hl : (σ 1 2 - σ 1 4 = nI (Wd i).length) ↔ e - s = (Wd i).length := by
      rw [e2, e4, pk_sub hse]
      exact nI_eq (by omega) (by omega)
    by_cases c2 : e - s = (Wd i).length
    · rw [if_pos (hl.mpr c2)]
      obtain ⟨r, r1, r2, r3⟩ := isName_l ok tp e4 (by omega) (Wd i).length 0 400 (by omega) (by omega) (by omega)
      exact ⟨r, r1, r2, r3.trans ⟨fun q => ⟨c1, c2, fun j hj => q j (by omega) hj⟩, fun q j _ hj => q.2.2 j hj⟩⟩
    · rw [if_neg (fun q => c2 (hl.mp q))]
      exact ⟨0, rfl, Or.inl rfl, ⟨fun q => absurd q (by decide), fun q => absurd q.2.1 c2⟩⟩
  · rw [if_pos (fun q => c1 (hk1.mp q))]
    exact ⟨0, rfl, Or.inl rfl, ⟨fun q => absurd q (by decide), fun q => absurd q.1 c1⟩⟩
theorem is_s {a : Nat → Nat} {n s e l c0 c1 c2 c3 : Nat} {ρ : S0} (tp : TpM a n ρ) (e9 : ρ 98 19 = nI s) (e8 : ρ 98 18 = nI e) (hse : s ≤ e) (hen : e ≤ n) (hl : 3 ≤ l ∧ l ≤ 6) (h0 : c0 < 256) (h1 : c1 < 256) (h2 : c2 < 256) (h3 : c3 < 256) : ∃ r, fX11_is ρ (nI l) (nI c0) (nI c1) (nI c2) (nI c3) = some (r, ρ) ∧ (r = 0 ∨ r = 1) ∧ (r = 1 ↔ e - s = l ∧ a s = c0 ∧ a (s + 1) = c1 ∧ a (s + 2) = c2 ∧ (l < 4 ∨ a (s + 3) = c3)) := by
  have hn := tp.1
  have no : ∀ P : Prop, ¬ P → ((0 : Int32) = 0 ∨ (0 : Int32) = 1) ∧ ((0 : Int32) = 1 ↔ P) := fun P hP => ⟨Or.inl rfl, ⟨fun q => absurd q (by decide), fun q => absurd q hP⟩⟩
  have hl1 : (ρ 98 18 - ρ 98 19 = nI l) ↔ e - s = l := by
    rw [e8, e9, pk_sub hse]
    exact nI_eq (by omega) (by omega)
  unfold fX11_is fX11_is_b74
  by_cases q1 : e - s = l
  · have g0 : a s < 256 := (tp.2.2 s (by omega)).1
    have g1 : a (s + 1) < 256 := (tp.2.2 (s + 1) (by omega)).1
    have g2 : a (s + 2) < 256 := (tp.2.2 (s + 2) (by omega)).1
    have i0 : nI (a s) = nI c0 ↔ a s = c0 := nI_eq (by omega) (by omega)
    have i1 : nI (a (s + 1)) = nI c1 ↔ a (s + 1) = c1 := nI_eq (by omega) (by omega)
    have i2 : nI (a (s + 2)) = nI c2 ↔ a (s + 2) = c2 := nI_eq (by omega) (by omega)
    rw [if_neg (fun q => q (hl1.mpr q1)), e9, look_s tp (by omega), if_pos (by omega)]
    simp only [obp]
    by_cases q2 : a s = c0
    · rw [if_neg (fun q => q (i0.mpr q2)), e9, show (1 : Int32) = nI 1 from rfl, nI_add, look_s tp (by omega), if_pos (by omega)]
      simp only
      by_cases q3 : a (s + 1) = c1
      · rw [if_neg (fun q => q (i1.mpr q3)), e9, show (2 : Int32) = nI 2 from rfl, nI_add, look_s tp (by omega), if_pos (by omega)]
        simp only
        by_cases q4 : a (s + 2) = c2
        · rw [if_neg (fun q => q (i2.mpr q4))]
          have hl4 : nI l < 4 ↔ l < 4 := nI_ltI (b := 4) (by omega) (by omega)
          by_cases q5 : l < 4
          · rw [if_pos (hl4.mpr q5)]
            exact ⟨1, rfl, Or.inr rfl, ⟨fun _ => ⟨q1, q2, q3, q4, Or.inl q5⟩, fun _ => rfl⟩⟩
          · have g3 : a (s + 3) < 256 := (tp.2.2 (s + 3) (by omega)).1
            have i3 : nI (a (s + 3)) = nI c3 ↔ a (s + 3) = c3 := nI_eq (by omega) (by omega)
            rw [if_neg (fun q => q5 (hl4.mp q)), e9, show (3 : Int32) = nI 3 from rfl, nI_add, look_s tp (by omega), if_pos (by omega)]
            simp only
            by_cases q6 : a (s + 3) = c3
            · rw [if_neg (fun q => q (i3.mpr q6))]
              exact ⟨1, rfl, Or.inr rfl, ⟨fun _ => ⟨q1, q2, q3, q4, Or.inr q6⟩, fun _ => rfl⟩⟩
            · rw [if_pos (fun q => q6 (i3.mp q))]
              exact ⟨0, rfl, no _ (fun q => q.2.2.2.2.elim q5 q6)⟩
        · rw [if_pos (fun q => q4 (i2.mp q))]
          exact ⟨0, rfl, no _ (fun q => q4 q.2.2.2.1)⟩
      · rw [if_pos (fun q => q3 (i1.mp q))]
        exact ⟨0, rfl, no _ (fun q => q3 q.2.2.1)⟩
    · rw [if_pos (fun q => q2 (i0.mp q))]
      exact ⟨0, rfl, no _ (fun q => q2 q.2.1)⟩
  · rw [if_pos (fun q => q1 (hl1.mp q))]
    exact ⟨0, rfl, no _ (fun q => q1 q.1)⟩
theorem mw_2 (a : Nat → Nat) (s e : Nat) : mw a s e 2 ↔ e - s = 4 ∧ a s = 98 ∧ a (s + 1) = 101 ∧ a (s + 2) = 108 ∧ (4 < 4 ∨ a (s + 3) = 108) := by
  constructor
  · intro q
    exact ⟨q.1, q.2 0 (by decide), q.2 1 (by decide), q.2 2 (by decide), Or.inr (q.2 3 (by decide))⟩
  · intro q
    obtain ⟨q1, q2, q3, q4, q5⟩ := q
    refine ⟨q1, fun j hj => ?_⟩
    have hj2 : j < 4 := hj
    have q6 := q5.resolve_left (by omega)
    rcases (show j = 0 ∨ j = 1 ∨ j = 2 ∨ j = 3 by omega) with rfl | rfl | rfl | rfl
    · exact q2
    · exact q3
    · exact q4
    · exact q6
theorem mw_3 (a : Nat → Nat) (s e : Nat) : mw a s e 3 ↔ e - s = 4 ∧ a s = 116 ∧ a (s + 1) = 117 ∧ a (s + 2) = 110 ∧ (4 < 4 ∨ a (s + 3) = 101) := by
  constructor
  · intro q
    exact ⟨q.1, q.2 0 (by decide), q.2 1 (by decide), q.2 2 (by decide), Or.inr (q.2 3 (by decide))⟩
  · intro q
    obtain ⟨q1, q2, q3, q4, q5⟩ := q
    refine ⟨q1, fun j hj => ?_⟩
    have hj2 : j < 4 := hj
    have q6 := q5.resolve_left (by omega)
    rcases (show j = 0 ∨ j = 1 ∨ j = 2 ∨ j = 3 by omega) with rfl | rfl | rfl | rfl
    · exact q2
    · exact q3
    · exact q4
    · exact q6
theorem mw_4 (a : Nat → Nat) (s e : Nat) : mw a s e 4 ↔ e - s = 4 ∧ a s = 102 ∧ a (s + 1) = 101 ∧ a (s + 2) = 117 ∧ (4 < 4 ∨ a (s + 3) = 100) := by
  constructor
  · intro q
    exact ⟨q.1, q.2 0 (by decide), q.2 1 (by decide), q.2 2 (by decide), Or.inr (q.2 3 (by decide))⟩
  · intro q
    obtain ⟨q1, q2, q3, q4, q5⟩ := q
    refine ⟨q1, fun j hj => ?_⟩
    have hj2 : j < 4 := hj
    have q6 := q5.resolve_left (by omega)
    rcases (show j = 0 ∨ j = 1 ∨ j = 2 ∨ j = 3 by omega) with rfl | rfl | rfl | rfl
    · exact q2
    · exact q3
    · exact q4
    · exact q6
theorem mw_5 (a : Nat → Nat) (s e : Nat) : mw a s e 5 ↔ e - s = 4 ∧ a s = 104 ∧ a (s + 1) = 97 ∧ a (s + 2) = 108 ∧ (4 < 4 ∨ a (s + 3) = 102) := by
  constructor
  · intro q
    exact ⟨q.1, q.2 0 (by decide), q.2 1 (by decide), q.2 2 (by decide), Or.inr (q.2 3 (by decide))⟩
  · intro q
    obtain ⟨q1, q2, q3, q4, q5⟩ := q
    refine ⟨q1, fun j hj => ?_⟩
    have hj2 : j < 4 := hj
    have q6 := q5.resolve_left (by omega)
    rcases (show j = 0 ∨ j = 1 ∨ j = 2 ∨ j = 3 by omega) with rfl | rfl | rfl | rfl
    · exact q2
    · exact q3
    · exact q4
    · exact q6
theorem mw_6 (a : Nat → Nat) (s e : Nat) : mw a s e 6 ↔ e - s = 4 ∧ a s = 115 ∧ a (s + 1) = 104 ∧ a (s + 2) = 117 ∧ (4 < 4 ∨ a (s + 3) = 116) := by
  constructor
  · intro q
    exact ⟨q.1, q.2 0 (by decide), q.2 1 (by decide), q.2 2 (by decide), Or.inr (q.2 3 (by decide))⟩
  · intro q
    obtain ⟨q1, q2, q3, q4, q5⟩ := q
    refine ⟨q1, fun j hj => ?_⟩
    have hj2 : j < 4 := hj
    have q6 := q5.resolve_left (by omega)
    rcases (show j = 0 ∨ j = 1 ∨ j = 2 ∨ j = 3 by omega) with rfl | rfl | rfl | rfl
    · exact q2
    · exact q3
    · exact q4
    · exact q6
theorem mw_1 (a : Nat → Nat) (s e : Nat) : mw a s e 1 ↔ e - s = 3 ∧ a s = 103 ∧ a (s + 1) = 97 ∧ a (s + 2) = 112 ∧ (3 < 4 ∨ a (s + 3) = 0) := by
  constructor
  · intro q
    exact ⟨q.1, q.2 0 (by decide), q.2 1 (by decide), q.2 2 (by decide), Or.inl (by omega)⟩
  · intro q
    obtain ⟨q1, q2, q3, q4, q5⟩ := q
    refine ⟨q1, fun j hj => ?_⟩
    have hj2 : j < 3 := hj
    rcases (show j = 0 ∨ j = 1 ∨ j = 2 by omega) with rfl | rfl | rfl
    · exact q2
    · exact q3
    · exact q4
theorem mw_0 (a : Nat → Nat) (s e : Nat) : mw a s e 0 ↔ (e - s = 6 ∧ a s = 104 ∧ a (s + 1) = 111 ∧ a (s + 2) = 117 ∧ (6 < 4 ∨ a (s + 3) = 115)) ∧ a (s + 4) = 101 ∧ a (s + 5) = 115 := by
  constructor
  · intro q
    exact ⟨⟨q.1, q.2 0 (by decide), q.2 1 (by decide), q.2 2 (by decide), Or.inr (q.2 3 (by decide))⟩, q.2 4 (by decide), q.2 5 (by decide)⟩
  · intro q
    obtain ⟨⟨q1, q2, q3, q4, q5⟩, q7, q8⟩ := q
    refine ⟨q1, fun j hj => ?_⟩
    have hj2 : j < 6 := hj
    have q6 := q5.resolve_left (by omega)
    rcases (show j = 0 ∨ j = 1 ∨ j = 2 ∨ j = 3 ∨ j = 4 ∨ j = 5 by omega) with rfl | rfl | rfl | rfl | rfl | rfl
    · exact q2
    · exact q3
    · exact q4
    · exact q6
    · exact q7
    · exact q8
/-- the first name that fits, or none -/
def nmR (a : Nat → Nat) (s e : Nat) (r : Int32) : Prop := (r = -4 ∧ ∀ i, i < 5 → ¬ mw a s e i) ∨ ∃ i, i < 5 ∧ r = nI i ∧ mw a s e i ∧ ∀ j, j < i → ¬ mw a s e j
theorem nameNow_s {a : Nat → Nat} {n s e : Nat} {ρ : S0} (tp : TpM a n ρ) (e9 : ρ 98 19 = nI s) (e8 : ρ 98 18 = nI e) (hse : s ≤ e) (hen : e ≤ n) : ∃ r, fX11_nameNow ρ = some (r, ρ) ∧ nmR a s e r := by
  have hn := tp.1
  have hone : ¬ (1 : Int32) = 0 := by decide
  have hzo : ¬ (0 : Int32) = 1 := by decide
  obtain ⟨r0, p0, o0, m0⟩ := is_s (l := 6) (c0 := 104) (c1 := 111) (c2 := 117) (c3 := 115) tp e9 e8 hse hen (by omega) (by omega) (by omega) (by omega) (by omega)
  obtain ⟨r1, p1, o1, m1⟩ := is_s (l := 3) (c0 := 103) (c1 := 97) (c2 := 112) (c3 := 0) tp e9 e8 hse hen (by omega) (by omega) (by omega) (by omega) (by omega)
  obtain ⟨r2, p2, o2, m2⟩ := is_s (l := 4) (c0 := 98) (c1 := 101) (c2 := 108) (c3 := 108) tp e9 e8 hse hen (by omega) (by omega) (by omega) (by omega) (by omega)
  obtain ⟨r3, p3, o3, m3⟩ := is_s (l := 4) (c0 := 116) (c1 := 117) (c2 := 110) (c3 := 101) tp e9 e8 hse hen (by omega) (by omega) (by omega) (by omega) (by omega)
  obtain ⟨r4, p4, o4, m4⟩ := is_s (l := 4) (c0 := 102) (c1 := 101) (c2 := 117) (c3 := 100) tp e9 e8 hse hen (by omega) (by omega) (by omega) (by omega) (by omega)
  rw [← mw_1] at m1
  rw [← mw_2] at m2
  rw [← mw_3] at m3
  rw [← mw_4] at m4
  have z0 := p0
  have p0' : fX11_is ρ 6 104 111 117 115 = some (r0, ρ) := p0
  have p1' : fX11_is ρ 3 103 97 112 0 = some (r1, ρ) := p1
  have p2' : fX11_is ρ 4 98 101 108 108 = some (r2, ρ) := p2
  have p3' : fX11_is ρ 4 116 117 110 101 = some (r3, ρ) := p3
  have p4' : fX11_is ρ 4 102 101 117 100 = some (r4, ρ) := p4
  have nz : ∀ {r : Int32}, (r = 0 ∨ r = 1) → ¬ r = 0 → r = 1 := fun h q => h.resolve_left q
  have rest : ¬ mw a s e 0 → ∃ r, fX11_nameNow_b49 ρ = some (r, ρ) ∧ nmR a s e r := fun n0 => by
    unfold fX11_nameNow_b49
    rw [p1']
    simp only [obp]
    by_cases c1 : r1 = 0
    · have n1 : ¬ mw a s e 1 := fun q => hzo (c1.symm.trans (m1.mpr q))
      rw [if_pos c1, p2']
      simp only
      by_cases c2 : r2 = 0
      · have n2 : ¬ mw a s e 2 := fun q => hzo (c2.symm.trans (m2.mpr q))
        rw [if_pos c2, p3']
        simp only
        by_cases c3 : r3 = 0
        · have n3 : ¬ mw a s e 3 := fun q => hzo (c3.symm.trans (m3.mpr q))
          rw [if_pos c3, p4']
          simp only
          by_cases c4 : r4 = 0
          · have n4 : ¬ mw a s e 4 := fun q => hzo (c4.symm.trans (m4.mpr q))
            rw [if_pos c4]
            refine ⟨-4, rfl, Or.inl ⟨rfl, fun i hi => ?_⟩⟩
            rcases (show i = 0 ∨ i = 1 ∨ i = 2 ∨ i = 3 ∨ i = 4 by omega) with rfl | rfl | rfl | rfl | rfl <;> assumption
          · rw [if_neg c4]
            refine ⟨4, rfl, Or.inr ⟨4, by omega, rfl, m4.mp (nz o4 c4), fun i hi => ?_⟩⟩
            rcases (show i = 0 ∨ i = 1 ∨ i = 2 ∨ i = 3 by omega) with rfl | rfl | rfl | rfl <;> assumption
        · rw [if_neg c3]
          refine ⟨3, rfl, Or.inr ⟨3, by omega, rfl, m3.mp (nz o3 c3), fun i hi => ?_⟩⟩
          rcases (show i = 0 ∨ i = 1 ∨ i = 2 by omega) with rfl | rfl | rfl <;> assumption
      · rw [if_neg c2]
        refine ⟨2, rfl, Or.inr ⟨2, by omega, rfl, m2.mp (nz o2 c2), fun i hi => ?_⟩⟩
        rcases (show i = 0 ∨ i = 1 by omega) with rfl | rfl <;> assumption
    · rw [if_neg c1]
      refine ⟨1, rfl, Or.inr ⟨1, by omega, rfl, m1.mp (nz o1 c1), fun i hi => ?_⟩⟩
      rcases (show i = 0 by omega) with rfl
      assumption
  unfold fX11_nameNow
  rw [p0']
  simp only [obp]
  by_cases c0 : r0 = 0
  · rw [if_pos c0]
    exact rest (fun q => hzo (c0.symm.trans (m0.mpr ((mw_0 a s e).mp q).1)))
  · have h0 := m0.mp (nz o0 c0)
    have g4 : a (s + 4) < 256 := (tp.2.2 (s + 4) (by omega)).1
    have g5 : a (s + 5) < 256 := (tp.2.2 (s + 5) (by omega)).1
    have i4 : nI (a (s + 4)) = 101 ↔ a (s + 4) = 101 := nI_eq (b := 101) (by omega) (by omega)
    have i5 : nI (a (s + 5)) = 115 ↔ a (s + 5) = 115 := nI_eq (b := 115) (by omega) (by omega)
    rw [if_neg c0, e9, show (4 : Int32) = nI 4 from rfl, nI_add, look_s tp (by omega), if_pos (by omega)]
    simp only
    by_cases c4 : a (s + 4) = 101
    · rw [if_neg (fun q => q (i4.mpr c4)), e9, show (5 : Int32) = nI 5 from rfl, nI_add, look_s tp (by omega), if_pos (by omega)]
      simp only
      by_cases c5 : a (s + 5) = 115
      · rw [if_neg (fun q => q (i5.mpr c5))]
        exact ⟨0, rfl, Or.inr ⟨0, by omega, rfl, (mw_0 a s e).mpr ⟨h0, c4, c5⟩, fun i hi => by omega⟩⟩
      · rw [if_pos (fun q => c5 (i5.mp q))]
        exact rest (fun q => c5 ((mw_0 a s e).mp q).2.2)
    · rw [if_pos (fun q => c4 (i4.mp q))]
      exact rest (fun q => c4 ((mw_0 a s e).mp q).2.1)
theorem withNow_s {a : Nat → Nat} {n s e : Nat} {ρ : S0} (tp : TpM a n ρ) (e9 : ρ 98 19 = nI s) (e8 : ρ 98 18 = nI e) (hse : s ≤ e) (hen : e ≤ n) : ∃ r, fX11_withNow ρ = some (r, ρ) ∧ ((r = 10 ∧ mw a s e 5) ∨ (r = 11 ∧ ¬ mw a s e 5 ∧ mw a s e 6) ∨ (r = -4 ∧ ¬ mw a s e 5 ∧ ¬ mw a s e 6)) := by
  have hzo : ¬ (0 : Int32) = 1 := by decide
  obtain ⟨r5, p5, o5, m5⟩ := is_s (l := 4) (c0 := 104) (c1 := 97) (c2 := 108) (c3 := 102) tp e9 e8 hse hen (by omega) (by omega) (by omega) (by omega) (by omega)
  obtain ⟨r6, p6, o6, m6⟩ := is_s (l := 4) (c0 := 115) (c1 := 104) (c2 := 117) (c3 := 116) tp e9 e8 hse hen (by omega) (by omega) (by omega) (by omega) (by omega)
  rw [← mw_5] at m5
  rw [← mw_6] at m6
  have p5' : fX11_is ρ 4 104 97 108 102 = some (r5, ρ) := p5
  have p6' : fX11_is ρ 4 115 104 117 116 = some (r6, ρ) := p6
  unfold fX11_withNow
  rw [p5']
  simp only [obp]
  by_cases c5 : r5 = 0
  · have n5 : ¬ mw a s e 5 := fun q => hzo (c5.symm.trans (m5.mpr q))
    rw [if_pos c5, p6']
    simp only
    by_cases c6 : r6 = 0
    · have n6 : ¬ mw a s e 6 := fun q => hzo (c6.symm.trans (m6.mpr q))
      rw [if_pos c6]
      exact ⟨-4, rfl, Or.inr (Or.inr ⟨rfl, n5, n6⟩)⟩
    · rw [if_neg c6]
      exact ⟨11, rfl, Or.inr (Or.inl ⟨rfl, n5, m6.mp (o6.resolve_left c6)⟩)⟩
  · rw [if_neg c5]
    exact ⟨10, rfl, Or.inl ⟨rfl, m5.mp (o5.resolve_left c5)⟩⟩
end
