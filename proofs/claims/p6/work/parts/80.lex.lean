/-! THE TEXT: tokens. a: the bytes, n of them -/
def sbt (x : Nat) : Int32 := (nI x).toInt8.toInt32
theorem sbt_t : ∀ x : Fin 256, (sbt x.1 = 32 ↔ x.1 = 32) ∧ (sbt x.1 = 59 ↔ x.1 = 59) ∧ ((97 ≤ x.1 ∧ x.1 ≤ 122) ↔ (¬ sbt x.1 < 97 ∧ ¬ (122 : Int32) < sbt x.1)) ∧ ((48 ≤ x.1 ∧ x.1 ≤ 57) ↔ (¬ sbt x.1 < 48 ∧ ¬ (57 : Int32) < sbt x.1)) ∧ (x.1 < 128 → sbt x.1 = nI x.1) := by decide +kernel
theorem sbt_n {x : Nat} (h : x < 256) : (sbt x = 32 ↔ x = 32) ∧ (sbt x = 59 ↔ x = 59) ∧ ((97 ≤ x ∧ x ≤ 122) ↔ (¬ sbt x < 97 ∧ ¬ (122 : Int32) < sbt x)) ∧ ((48 ≤ x ∧ x ≤ 57) ↔ (¬ sbt x < 48 ∧ ¬ (57 : Int32) < sbt x)) ∧ (x < 128 → sbt x = nI x) := sbt_t ⟨x, h⟩
def TpX (a : Nat → Nat) (n : Nat) (σ : S0) : Prop := n ≤ 320 ∧ σ 1 1 = nI n ∧ ∀ j, j < n → a j < 256 ∧ σ 2 j = sbt (a j)
def TpM (a : Nat → Nat) (n : Nat) (ρ : S0) : Prop := n ≤ 320 ∧ ρ 98 17 = nI n ∧ ∀ j, j < n → a j < 256 ∧ ρ 104 j = nI (a j)
def pB (a : Nat → Nat) (n p : Nat) : Bool := decide (p < n ∧ a p = 32)
def pL (a : Nat → Nat) (n p : Nat) : Bool := decide (p < n ∧ 97 ≤ a p ∧ a p ≤ 122)
def pD (a : Nat → Nat) (n p : Nat) : Bool := decide (p < n ∧ 48 ≤ a p ∧ a p ≤ 57)
def sk (P : Nat → Bool) : Nat → Nat → Nat
  | 0, p => p
  | d + 1, p => if P p = true then sk P d (p + 1) else p
theorem sk_le (P : Nat → Bool) : ∀ d p, p ≤ sk P d p ∧ sk P d p ≤ p + d
  | 0, p => ⟨Nat.le_refl _, Nat.le_refl _⟩
  | d + 1, p => by
    have ih := sk_le P d (p + 1)
    unfold sk
    by_cases c : P p = true
    · rw [if_pos c]; omega
    · rw [if_neg c]; omega
theorem sk_y {P : Nat → Bool} {d p : Nat} (h : P p = true) : sk P (d + 1) p = sk P d (p + 1) := by
  show (if _ then _ else _) = _
  rw [if_pos h]
theorem sk_n {P : Nat → Bool} {d p : Nat} (h : ¬ P p = true) : sk P d p = p := by
  cases d with
  | zero => rfl
  | succ d =>
    show (if _ then _ else _) = _
    rw [if_neg h]
theorem sk_st {P : Nat → Bool} {n : Nat} (hP : ∀ p, n ≤ p → ¬ P p = true) : ∀ d p, n - p ≤ d → ¬ P (sk P d p) = true
  | 0, p, h => hP p (by omega)
  | d + 1, p, h => by
    by_cases c : P p = true
    · rw [sk_y c]; exact sk_st hP d (p + 1) (by omega)
    · rw [sk_n c]; exact c
abbrev tS (a : Nat → Nat) (n p : Nat) : Nat := sk (pB a n) (n - p) p
abbrev tL (a : Nat → Nat) (n s : Nat) : Nat := sk (pL a n) (n - s) s
abbrev tD (a : Nat → Nat) (n s : Nat) : Nat := sk (pD a n) (n - s) s
def tE (a : Nat → Nat) (n p : Nat) : Nat := if pL a n (tS a n p) = true then tL a n (tS a n p) else if pD a n (tS a n p) = true then tD a n (tS a n p) else if tS a n p < n then tS a n p + 1 else tS a n p
def tK (a : Nat → Nat) (n p : Nat) : Nat := if pL a n (tS a n p) = true then 1 else if pD a n (tS a n p) = true then (if tD a n (tS a n p) - tS a n p ≤ 2 then 2 else 4) else if tS a n p < n then (if a (tS a n p) = 59 then 3 else 4) else 0
def tV (a : Nat → Nat) (n p : Nat) : Nat := if tD a n (tS a n p) - tS a n p = 1 then a (tS a n p) - 48 else (a (tS a n p) - 48) * 10 + (a (tS a n p + 1) - 48)
/-- the class's number -/
def dnum (P : Nat → Bool) (a : Nat → Nat) : Nat → Int32 → Nat → Int32
  | 0, acc, _ => acc
  | d + 1, acc, p => if P p = true then dnum P a d (acc * 10 + sbt (a p) - 48) (p + 1) else acc
theorem dnum_0 {P : Nat → Bool} {a : Nat → Nat} {d p : Nat} {acc : Int32} (h : sk P d p = p) : dnum P a d acc p = acc := by
  cases d with
  | zero => rfl
  | succ d =>
    by_cases c : P p = true
    · rw [sk_y c] at h
      have := (sk_le P d (p + 1)).1
      omega
    · show (if _ then _ else _) = _
      rw [if_neg c]
/-- the reference's number -/
def rnum (P : Nat → Bool) (a : Nat → Nat) (s : Nat) : Nat → Int32 → Nat → Int32
  | 0, acc, _ => acc
  | d + 1, acc, p => if P p = true then rnum P a s d (if 2 ≤ p - s then acc else 10 * acc + nI (a p) - 48) (p + 1) else acc
theorem rnum_0 {P : Nat → Bool} {a : Nat → Nat} {s d p : Nat} {acc : Int32} (h : sk P d p = p) : rnum P a s d acc p = acc := by
  cases d with
  | zero => rfl
  | succ d =>
    by_cases c : P p = true
    · rw [sk_y c] at h
      have := (sk_le P d (p + 1)).1
      omega
    · show (if _ then _ else _) = _
      rw [if_neg c]
theorem pD_y {a : Nat → Nat} {n p : Nat} (h : pD a n p = true) : p < n ∧ 48 ≤ a p ∧ a p ≤ 57 := of_decide_eq_true h
theorem num_2 {a : Nat → Nat} {n s : Nat} (ha : ∀ j, j < n → a j < 256) (h : pD a n s = true) (h2 : tD a n s - s ≤ 2) : ∃ v, v < 100 ∧ v = (if tD a n s - s = 1 then a s - 48 else (a s - 48) * 10 + (a (s + 1) - 48)) ∧ dnum (pD a n) a (n - s) 0 s = nI v ∧ rnum (pD a n) a s (n - s) 0 s = nI v := by
  obtain ⟨h3, h4, h5⟩ := pD_y h
  obtain ⟨d, hd⟩ : ∃ d, n - s = d + 1 := ⟨n - s - 1, by omega⟩
  have hle := sk_le (pD a n) d (s + 1)
  have e1 : tD a n s = sk (pD a n) d (s + 1) := by unfold tD; rw [hd, sk_y h]
  have x1 : (0 : Int32) * 10 + sbt (a s) - 48 = nI (a s - 48) := by
    rw [(sbt_n (ha s h3)).2.2.2.2 (by omega), Int32.zero_mul, Int32.zero_add, show (48 : Int32) = nI 48 from rfl, pk_sub h4]
  have y1 : (10 : Int32) * 0 + nI (a s) - 48 = nI (a s - 48) := by
    rw [Int32.mul_zero, Int32.zero_add, show (48 : Int32) = nI 48 from rfl, pk_sub h4]
  have ed : dnum (pD a n) a (n - s) 0 s = dnum (pD a n) a d (nI (a s - 48)) (s + 1) := by
    rw [hd]
    show (if _ then _ else _) = _
    rw [if_pos h, x1]
  have er : rnum (pD a n) a s (n - s) 0 s = rnum (pD a n) a s d (nI (a s - 48)) (s + 1) := by
    rw [hd]
    show (if _ then _ else _) = _
    rw [if_pos h, if_neg (show ¬ 2 ≤ s - s by omega), y1]
  rw [ed, er, e1]
  rw [e1] at h2
  by_cases c : sk (pD a n) d (s + 1) = s + 1
  · refine ⟨a s - 48, by omega, by rw [if_pos (by omega)], dnum_0 c, rnum_0 c⟩
  · by_cases c2 : pD a n (s + 1) = true
    · obtain ⟨h6, h7, h8⟩ := pD_y c2
      obtain ⟨d', hd'⟩ : ∃ d', d = d' + 1 := ⟨d - 1, by omega⟩
      subst hd'
      rw [sk_y c2] at h2 c ⊢
      have hle2 := sk_le (pD a n) d' (s + 1 + 1)
      have c3 : sk (pD a n) d' (s + 1 + 1) = s + 1 + 1 := by omega
      have x2 : nI (a s - 48) * 10 + sbt (a (s + 1)) - 48 = nI ((a s - 48) * 10 + (a (s + 1) - 48)) := by
        rw [(sbt_n (ha _ h6)).2.2.2.2 (by omega), show (10 : Int32) = nI 10 from rfl, pk_mul, nI_add, show (48 : Int32) = nI 48 from rfl, pk_sub (by omega)]
        congr 1
        omega
      have y2 : (10 : Int32) * nI (a s - 48) + nI (a (s + 1)) - 48 = nI ((a s - 48) * 10 + (a (s + 1) - 48)) := by
        rw [show (10 : Int32) = nI 10 from rfl, pk_mul, nI_add, show (48 : Int32) = nI 48 from rfl, pk_sub (by omega)]
        congr 1
        omega
      refine ⟨(a s - 48) * 10 + (a (s + 1) - 48), by omega, by rw [if_neg (by omega)], ?_, ?_⟩
      · show (if _ then _ else _) = _
        rw [if_pos c2, x2, dnum_0 c3]
      · show (if _ then _ else _) = _
        rw [if_pos c2, if_neg (show ¬ 2 ≤ s + 1 - s by omega), y2, rnum_0 c3]
    · exact absurd (sk_n c2) c
/-! the class reads a token -/
theorem su_o (σ : S0) (k j : Nat) : su σ k j (σ k j) = σ := by
  funext x y
  rw [su_at]
  by_cases h : x = k
  · rw [if_pos h]
    by_cases h2 : y = j
    · rw [if_pos h2, h, h2]
    · rw [if_neg h2, h]
  · rw [if_neg h]
theorem su_2 (σ : S0) (k j : Nat) (u v : Int32) : su (su σ k j u) k j v = su σ k j v := by
  funext x y
  by_cases hx : x = k
  · subst hx
    by_cases hy : y = j
    · subst hy
      rw [su_s, su_s]
    · rw [su_j hy, su_j hy, su_j hy]
  · rw [su_ne hx, su_ne hx, su_ne hx]
theorem su_sw (σ : S0) (k : Nat) {i j : Nat} (h : i ≠ j) (u v : Int32) : su (su σ k i u) k j v = su (su σ k j v) k i u := by
  funext x y
  by_cases hx : x = k
  · subst hx
    by_cases hy : y = j
    · subst hy
      rw [su_s, su_j (fun q => h q.symm), su_s]
    · rw [su_j hy]
      by_cases hy2 : y = i
      · subst hy2
        rw [su_s, su_s]
      · rw [su_j hy2, su_j hy2, su_j hy]
  · rw [su_ne hx, su_ne hx, su_ne hx, su_ne hx]
theorem su_e {σ : S0} {k j : Nat} {v : Int32} (h : σ k j = v) : su σ k j v = σ := by rw [← h, su_o]
theorem TpX.c {a : Nat → Nat} {n : Nat} {σ τ : S0} (h : TpX a n σ) (h1 : τ 1 1 = σ 1 1) (h2 : τ 2 = σ 2) : TpX a n τ := by
  unfold TpX
  rw [h1, h2]
  exact h
theorem tokB_l {a : Nat → Nat} {n : Nat} : ∀ (d p m : Nat) (σ : S0), n - p = d → p ≤ n → d < m → TpX a n σ → σ 1 2 = nI p → fX8_readToken_h0 m σ = fX8_readToken_b38 (su σ 1 2 (nI (sk (pB a n) d p))) := by
  intro d
  induction d with
  | zero =>
    intro p m σ h1 h2 h3 tp e
    obtain ⟨m, rfl⟩ : ∃ q, m = q + 1 := ⟨m - 1, by omega⟩
    have : p = n := by omega
    subst this
    have hn := tp.1
    show fX8_readToken_b0 _ _ = _
    unfold fX8_readToken_b0
    rw [if_pos (show σ 1 1 ≤ σ 1 2 from by rw [tp.2.1, e]; exact nI_le (Nat.le_refl _) (by omega))]
    show _ = fX8_readToken_b38 (su σ 1 2 (nI p))
    exact (congrArg _ (su_e e)).symm
  | succ d ih =>
    intro p m σ h1 h2 h3 tp e
    obtain ⟨m, rfl⟩ : ∃ q, m = q + 1 := ⟨m - 1, by omega⟩
    have hn := tp.1
    obtain ⟨t1, t2⟩ := tp.2.2 p (by omega)
    have hg := ix_ok (j := p) (n := 320) (by omega) (by omega)
    have hc : (nI p).toNatClampNeg = p := nI_clamp (by omega)
    have hg2 : ¬ (nI p < 0 ∨ 320 ≤ p) := fun q => hg (by rw [hc]; exact q)
    show fX8_readToken_b0 _ _ = _
    unfold fX8_readToken_b0
    rw [if_neg (show ¬ (σ 1 1 ≤ σ 1 2) from by rw [tp.2.1, e]; exact nI_ge (by omega) (by omega))]
    simp only [ol, e, og_t hg, og_t hg2, hc, t2, nI_1]
    by_cases c : a p = 32
    · have cp : pB a n p = true := decide_eq_true ⟨by omega, c⟩
      rw [if_neg (fun q => q ((sbt_n t1).1.mpr c)), ih (p + 1) m (su σ 1 2 (nI (p + 1))) (by omega) (by omega) (by omega) (tp.c (su_j (by omega)) (su_ne (by omega))) su_s, sk_y cp, su_2]
    · have cp : ¬ pB a n p = true := fun q => c (of_decide_eq_true q).2
      rw [if_pos (fun q => c ((sbt_n t1).1.mp q)), sk_n cp, su_e e]
theorem tokL_l {a : Nat → Nat} {n : Nat} : ∀ (d p m : Nat) (σ : S0), n - p = d → p ≤ n → d < m → TpX a n σ → σ 1 2 = nI p → fX8_readToken_h51 m σ = fX8_readToken_b103 (su σ 1 2 (nI (sk (pL a n) d p))) := by
  intro d
  induction d with
  | zero =>
    intro p m σ h1 h2 h3 tp e
    obtain ⟨m, rfl⟩ : ∃ q, m = q + 1 := ⟨m - 1, by omega⟩
    have : p = n := by omega
    subst this
    have hn := tp.1
    show fX8_readToken_b51 _ _ = _
    unfold fX8_readToken_b51
    rw [if_pos (show σ 1 1 ≤ σ 1 2 from by rw [tp.2.1, e]; exact nI_le (Nat.le_refl _) (by omega))]
    show _ = fX8_readToken_b103 (su σ 1 2 (nI p))
    exact (congrArg _ (su_e e)).symm
  | succ d ih =>
    intro p m σ h1 h2 h3 tp e
    obtain ⟨m, rfl⟩ : ∃ q, m = q + 1 := ⟨m - 1, by omega⟩
    have hn := tp.1
    obtain ⟨t1, t2⟩ := tp.2.2 p (by omega)
    have hg := ix_ok (j := p) (n := 320) (by omega) (by omega)
    have hc : (nI p).toNatClampNeg = p := nI_clamp (by omega)
    have hg2 : ¬ (nI p < 0 ∨ 320 ≤ p) := fun q => hg (by rw [hc]; exact q)
    have hb := (sbt_n t1).2.2.1
    show fX8_readToken_b51 _ _ = _
    unfold fX8_readToken_b51
    rw [if_neg (show ¬ (σ 1 1 ≤ σ 1 2) from by rw [tp.2.1, e]; exact nI_ge (by omega) (by omega))]
    simp only [ol, e, og_t hg, og_t hg2, hc, t2, nI_1]
    by_cases c : 97 ≤ a p ∧ a p ≤ 122
    · have cp : pL a n p = true := decide_eq_true ⟨by omega, c⟩
      rw [if_neg (hb.mp c).1, if_neg (hb.mp c).2, ih (p + 1) m (su σ 1 2 (nI (p + 1))) (by omega) (by omega) (by omega) (tp.c (su_j (by omega)) (su_ne (by omega))) su_s, sk_y cp, su_2]
    · have cp : ¬ pL a n p = true := fun q => c (of_decide_eq_true q).2
      rw [sk_n cp, su_e e]
      by_cases c1 : sbt (a p) < 97
      · rw [if_pos c1]
      · rw [if_neg c1, if_pos (Classical.byContradiction fun c2 => c (hb.mpr ⟨c1, c2⟩))]
theorem tokD_l {a : Nat → Nat} {n : Nat} : ∀ (d p m : Nat) (σ : S0), n - p = d → p ≤ n → d < m → TpX a n σ → σ 1 2 = nI p → fX8_readToken_h120 m σ = fX8_readToken_b196 (su (su σ 1 2 (nI (sk (pD a n) d p))) 1 5 (dnum (pD a n) a d (σ 1 5) p)) := by
  intro d
  induction d with
  | zero =>
    intro p m σ h1 h2 h3 tp e
    obtain ⟨m, rfl⟩ : ∃ q, m = q + 1 := ⟨m - 1, by omega⟩
    have : p = n := by omega
    subst this
    have hn := tp.1
    show fX8_readToken_b120 _ _ = _
    unfold fX8_readToken_b120
    rw [if_pos (show σ 1 1 ≤ σ 1 2 from by rw [tp.2.1, e]; exact nI_le (Nat.le_refl _) (by omega))]
    show _ = fX8_readToken_b196 (su (su σ 1 2 (nI p)) 1 5 (σ 1 5))
    rw [su_e e, su_o]
  | succ d ih =>
    intro p m σ h1 h2 h3 tp e
    obtain ⟨m, rfl⟩ : ∃ q, m = q + 1 := ⟨m - 1, by omega⟩
    have hn := tp.1
    obtain ⟨t1, t2⟩ := tp.2.2 p (by omega)
    have hg := ix_ok (j := p) (n := 320) (by omega) (by omega)
    have hc : (nI p).toNatClampNeg = p := nI_clamp (by omega)
    have hg2 : ¬ (nI p < 0 ∨ 320 ≤ p) := fun q => hg (by rw [hc]; exact q)
    have hb := (sbt_n t1).2.2.2.1
    have e2 : ∀ v : Int32, su σ 1 5 v 1 2 = nI p := fun v => by rw [su_j (by omega)]; exact e
    show fX8_readToken_b120 _ _ = _
    unfold fX8_readToken_b120
    rw [if_neg (show ¬ (σ 1 1 ≤ σ 1 2) from by rw [tp.2.1, e]; exact nI_ge (by omega) (by omega))]
    simp only [ol, e, og_t hg, og_t hg2, hc, t2, nI_1, e2]
    by_cases c : 48 ≤ a p ∧ a p ≤ 57
    · have cp : pD a n p = true := decide_eq_true ⟨by omega, c⟩
      have edn : dnum (pD a n) a (d + 1) (σ 1 5) p = dnum (pD a n) a d (σ 1 5 * 10 + sbt (a p) - 48) (p + 1) := by
        show (if _ then _ else _) = _
        rw [if_pos cp]
      rw [if_neg (hb.mp c).1, if_neg (hb.mp c).2, ih (p + 1) m (su (su σ 1 5 (σ 1 5 * 10 + sbt (a p) - 48)) 1 2 (nI (p + 1))) (by omega) (by omega) (by omega) (tp.c (by rw [su_j (by omega), su_j (by omega)]) (by rw [su_ne (by omega), su_ne (by omega)])) su_s, sk_y cp, edn, su_j (by omega), su_s, su_2, su_sw _ _ (by omega), su_2]
      exact congrArg _ (su_sw _ _ (by omega) _ _)
    · have cp : ¬ pD a n p = true := fun q => c (of_decide_eq_true q).2
      have edn : dnum (pD a n) a (d + 1) (σ 1 5) p = σ 1 5 := by
        show (if _ then _ else _) = _
        rw [if_neg cp]
      rw [sk_n cp, edn, su_e e, su_o]
      by_cases c1 : sbt (a p) < 48
      · rw [if_pos c1]
      · rw [if_neg c1, if_pos (Classical.byContradiction fun c2 => c (hb.mpr ⟨c1, c2⟩))]
/-- what the class holds behind a token read from p on -/
def tkX (a : Nat → Nat) (n p : Nat) (σ : S0) : Prop := σ 1 4 = nI (tS a n p) ∧ σ 1 2 = nI (tE a n p) ∧ σ 1 3 = nI (tK a n p) ∧ (tK a n p = 2 → σ 1 5 = nI (tV a n p))
def on1 (σ τ : S0) : Prop := ∀ k j, ¬ (k = 1 ∧ 2 ≤ j ∧ j ≤ 5) → τ k j = σ k j
theorem on1.tr {a b c : S0} (h1 : on1 a b) (h2 : on1 b c) : on1 a c := fun k j h => (h2 k j h).trans (h1 k j h)
theorem on1.rf (a : S0) : on1 a a := fun _ _ _ => rfl
theorem on1.su {a b : S0} (h : on1 a b) {j : Nat} (hj : 2 ≤ j ∧ j ≤ 5) (v : Int32) : on1 a (su b 1 j v) := fun k i q => by
  rw [← h k i q]
  by_cases hk : k = 1
  · subst hk; exact su_j (fun z => q ⟨rfl, by omega⟩)
  · rw [su_ne hk]
theorem on1.c {a b : S0} (h : on1 a b) {k : Nat} (hk : k ≠ 1) : b k = a k := funext fun j => h k j (fun q => hk q.1)
theorem rtok_s {a : Nat → Nat} {n p : Nat} {σ : S0} (tp : TpX a n σ) (hp : p ≤ n) (e : σ 1 2 = nI p) : ∃ τ, fX8_readToken σ = some (0, τ) ∧ on1 σ τ ∧ tkX a n p τ := by
  have hn := tp.1
  have hs := sk_le (pB a n) (n - p) p
  have hsn : tS a n p ≤ n := by unfold tS; omega
  have hl := sk_le (pL a n) (n - tS a n p) (tS a n p)
  have hd := sk_le (pD a n) (n - tS a n p) (tS a n p)
  have hl2 : tL a n (tS a n p) ≤ n := by show sk _ _ _ ≤ n; omega
  have hd2 : tD a n (tS a n p) ≤ n := by show sk _ _ _ ≤ n; omega
  have b1 := tokB_l (n - p) p 400 σ rfl hp (by omega) tp e
  have b1' : fX8_readToken σ = fX8_readToken_b38 (su σ 1 2 (nI (tS a n p))) := b1
  have o1 : on1 σ (su (su (su σ 1 2 (nI (tS a n p))) 1 4 (nI (tS a n p))) 1 5 0) := ((on1.rf σ).su (by omega) _).su (by omega) _ |>.su (by omega) _
  have b2 : fX8_readToken σ = fX8_readToken_b103 (su (su (su (su σ 1 2 (nI (tS a n p))) 1 4 (nI (tS a n p))) 1 5 0) 1 2 (nI (tL a n (tS a n p)))) := by
    rw [b1']
    unfold fX8_readToken_b38
    simp only [ol]
    rw [su_s]
    exact tokL_l (n - tS a n p) (tS a n p) 400 _ rfl hsn (by omega) (tp.c (o1 1 1 (by omega)) (o1.c (by omega))) (by rw [su_j (by omega), su_j (by omega), su_s])
  generalize hσ1 : su (su (su σ 1 2 (nI (tS a n p))) 1 4 (nI (tS a n p))) 1 5 0 = σ1 at b2 o1
  have s4 : σ1 1 4 = nI (tS a n p) := by rw [← hσ1, su_j (by omega), su_s]
  have s5 : σ1 1 5 = 0 := by rw [← hσ1, su_s]
  have s2 : σ1 1 2 = nI (tS a n p) := by rw [← hσ1, su_j (by omega), su_j (by omega), su_s]
  have t1 : TpX a n σ1 := tp.c (o1 1 1 (by omega)) (o1.c (by omega))
  rw [b2]
  unfold fX8_readToken_b103
  rw [su_s, su_j (show 4 ≠ 2 by omega), s4]
  by_cases cL : pL a n (tS a n p) = true
  · have hlt : tS a n p < tL a n (tS a n p) := by
      obtain ⟨q1, -⟩ := of_decide_eq_true cL
      obtain ⟨d, hd'⟩ : ∃ d, n - tS a n p = d + 1 := ⟨n - tS a n p - 1, by omega⟩
      have := (sk_le (pL a n) d (tS a n p + 1)).1
      show tS a n p < sk (pL a n) (n - tS a n p) (tS a n p)
      rw [hd', sk_y cL]
      omega
    have eE : tE a n p = tL a n (tS a n p) := by unfold tE; rw [if_pos cL]
    have eK : tK a n p = 1 := by unfold tK; rw [if_pos cL]
    rw [if_neg (nI_ge hlt (by omega))]
    refine ⟨_, rfl, ((o1.su (j := 2) (by omega) _).su (j := 3) (by omega) _), ?_, ?_, ?_, fun q => by omega⟩
    · rw [su_j (by omega), su_j (by omega)]; exact s4
    · rw [su_j (by omega), su_s, eE]
    · rw [su_s, eK]; rfl
  · have eL : tL a n (tS a n p) = tS a n p := sk_n cL
    rw [eL, if_pos (nI_le (Nat.le_refl _) (by omega)), su_e s2]
    rw [tokD_l (n - tS a n p) (tS a n p) 400 σ1 rfl hsn (by omega) t1 s2, s5]
    unfold fX8_readToken_b196 fX8_readToken_b226 fX8_readToken_b267
    rw [su_j (show 2 ≠ 5 by omega), su_s, su_j (show 4 ≠ 5 by omega), su_j (show 4 ≠ 2 by omega), s4]
    by_cases cD : pD a n (tS a n p) = true
    · obtain ⟨q1, q2⟩ := pD_y cD
      have hlt : tS a n p < tD a n (tS a n p) := by
        obtain ⟨d, hd'⟩ : ∃ d, n - tS a n p = d + 1 := ⟨n - tS a n p - 1, by omega⟩
        have := (sk_le (pD a n) d (tS a n p + 1)).1
        show tS a n p < sk (pD a n) (n - tS a n p) (tS a n p)
        rw [hd', sk_y cD]
        omega
      have eE : tE a n p = tD a n (tS a n p) := by unfold tE; rw [if_neg cL, if_pos cD]
      have eK : tK a n p = if tD a n (tS a n p) - tS a n p ≤ 2 then 2 else 4 := by unfold tK; rw [if_neg cL, if_pos cD]
      have esub : nI (tD a n (tS a n p)) - nI (tS a n p) = nI (tD a n (tS a n p) - tS a n p) := pk_sub (by omega)
      rw [if_neg (show ¬ nI (sk (pD a n) (n - tS a n p) (tS a n p)) ≤ nI (tS a n p) from nI_ge hlt (by omega))]
      have h2 : (nI (tD a n (tS a n p)) - nI (tS a n p) ≤ 2) ↔ tD a n (tS a n p) - tS a n p ≤ 2 := by
        rw [esub]
        exact nI_leI (b := 2) (by omega) (by omega)
      simp only [ol]
      by_cases c2 : tD a n (tS a n p) - tS a n p ≤ 2
      · rw [if_pos c2] at eK
        rw [if_pos (h2.mpr c2)]
        obtain ⟨v, v1, v2, v3, v4⟩ := num_2 (fun j hj => (tp.2.2 j hj).1) cD c2
        refine ⟨_, rfl, ((o1.su (j := 2) (by omega) _).su (j := 5) (by omega) _).su (j := 3) (by omega) _, ?_, ?_, ?_, fun _ => ?_⟩
        · rw [su_j (by omega), su_j (by omega), su_j (by omega)]; exact s4
        · rw [su_j (by omega), su_j (by omega), su_s, eE]
        · rw [su_s, eK]; rfl
        · rw [su_j (by omega), su_s, v3]
          unfold tV
          rw [← v2]
      · rw [if_neg c2] at eK
        rw [if_neg (fun q => c2 (h2.mp q))]
        refine ⟨_, rfl, ((o1.su (j := 2) (by omega) _).su (j := 5) (by omega) _).su (j := 3) (by omega) _, ?_, ?_, ?_, fun q => by omega⟩
        · rw [su_j (by omega), su_j (by omega), su_j (by omega)]; exact s4
        · rw [su_j (by omega), su_j (by omega), su_s, eE]
        · rw [su_s, eK]; rfl
    · have eD : sk (pD a n) (n - tS a n p) (tS a n p) = tS a n p := sk_n cD
      have edn : dnum (pD a n) a (n - tS a n p) 0 (tS a n p) = 0 := dnum_0 eD
      rw [eD, edn, if_pos (nI_le (Nat.le_refl _) (by omega)), su_e s2, su_e s5, t1.2.1]
      by_cases c3 : tS a n p < n
      · obtain ⟨u1, u2⟩ := t1.2.2 (tS a n p) c3
        have hb := (sbt_n u1).2.1
        have eE : tE a n p = tS a n p + 1 := by unfold tE; rw [if_neg cL, if_neg cD, if_pos c3]
        have eK : tK a n p = if a (tS a n p) = 59 then 3 else 4 := by unfold tK; rw [if_neg cL, if_neg cD, if_pos c3]
        rw [if_pos (nI_lt c3 (by omega))]
        simp only [ol, og_t (ix_ok (j := tS a n p) (n := 320) (by omega) (by omega))]
        rw [nI_clamp (by omega), u2]
        have fin : ∀ k : Nat, tK a n p = k → k ≠ 2 → ∃ τ, some ((0 : Int32), su (su σ1 1 3 (nI k)) 1 2 (su σ1 1 3 (nI k) 1 2 + 1)) = some (0, τ) ∧ on1 σ τ ∧ tkX a n p τ := fun k hk hk2 => by
          refine ⟨_, rfl, (o1.su (j := 3) (by omega) _).su (j := 2) (by omega) _, ?_, ?_, ?_, fun q => absurd (hk.symm.trans q) hk2⟩
          · rw [su_j (by omega), su_j (by omega)]; exact s4
          · rw [su_s, su_j (by omega), s2, nI_1, eE]
          · rw [su_j (by omega), su_s, hk]
        by_cases c5 : a (tS a n p) = 59
        · rw [if_neg (fun q => q (hb.mpr c5))]
          rw [if_pos c5] at eK
          exact fin 3 eK (by omega)
        · rw [if_pos (fun q => c5 (hb.mp q))]
          rw [if_neg c5] at eK
          exact fin 4 eK (by omega)
      · have eE : tE a n p = tS a n p := by unfold tE; rw [if_neg cL, if_neg cD, if_neg c3]
        have eK : tK a n p = 0 := by unfold tK; rw [if_neg cL, if_neg cD, if_neg c3]
        rw [if_neg (nI_nlt (by omega) (by omega))]
        refine ⟨_, rfl, o1.su (j := 3) (by omega) _, ?_, ?_, ?_, fun q => by omega⟩
        · rw [su_j (by omega)]; exact s4
        · rw [su_j (by omega), s2, eE]
        · rw [su_s, eK]; rfl
