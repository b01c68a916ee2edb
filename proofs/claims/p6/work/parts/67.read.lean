/-! READ -/
theorem c66b : ¬ (((66 : Int32)) < 0 ∨ 240 ≤ 66) := by decide
def rfa (la y : Int32) (sz : Nat) (z : Int32) (j : Nat) : Int32 := if la = -4 then 1 else if la = y then (if 0 ≤ z.toInt + j ∧ z.toInt + j < sz then 0 else 2) else 3
theorem rfa_p {la y : Int32} {sz : Nat} {z : Int32} {j : Nat} (h : rfa la y sz z j = 0) (hs : sz ≤ 40) (hj : j ≤ 12) : ∃ p, p < sz ∧ z + nI j = nI p := by
  unfold rfa at h
  by_cases c1 : la = -4
  · rw [if_pos c1] at h; exact absurd h (by decide)
  · rw [if_neg c1] at h
    by_cases c2 : la = y
    · rw [if_pos c2] at h
      by_cases c3 : 0 ≤ z.toInt + j ∧ z.toInt + j < sz
      · refine ⟨(z.toInt + j).toNat, by omega, ?_⟩
        rw [← Int32.toInt_inj, i3_add (by rw [ir (by omega)]; omega) (by rw [ir (by omega)]; omega), ir (by omega), ir (by omega)]
        omega
      · rw [if_neg c3] at h; exact absurd h (by decide)
    · rw [if_neg c2] at h; exact absurd h (by decide)
theorem faultAt_s {σ : S0} {q : Nat} {la y : Int32} {sz : Nat} (z : Int32) {j : Nat} (hs : sz ≤ 40) (hj : j ≤ 12) (h : (la = -4 ∧ σ q 0 = -1) ∨ ∃ l, l < 3 ∧ la = nI l ∧ σ q 0 = nI l ∧ σ q 1 = nI sz) : fX7_faultAt σ q y (z + nI j) = some (rfa la y sz z j, σ) := by
  unfold fX7_faultAt fX7_faultAt_b31 fX7_isNothing rfa
  rcases h with ⟨a1, a2⟩ | ⟨l, l1, l2, l3, l4⟩
  · rw [if_neg (fun q => q a2), if_pos a1]
    rfl
  · have hm : ¬ nI l = -1 := by
      rcases (show l = 0 ∨ l = 1 ∨ l = 2 by omega) with rfl | rfl | rfl <;> decide
    rw [l3, if_pos hm, l2, if_neg (nI_m4 (by omega))]
    simp only [obp]
    rw [if_pos trivial, l3, l4]
    by_cases c : nI l = y
    · rw [if_pos c.symm, if_pos c]
      have zb := i3_bd z
      have hz : (z + nI j).toInt = if z.toInt + j < 2147483648 then z.toInt + j else z.toInt + j - 4294967296 := by
        by_cases q : z.toInt + j < 2147483648
        · rw [if_pos q, i3_add (by rw [ir (by omega)]; omega) (by rw [ir (by omega)]; omega), ir (by omega)]
        · rw [if_neg q, Int32.toInt_add, ir (by omega)]
          rw [Int.bmod_def]
          have : (z.toInt + (j : Int)) % ((2 ^ 32 : Nat) : Int) = z.toInt + j := Int.emod_eq_of_lt (by omega) (by omega)
          rw [this, if_neg (by omega)]
          omega
      simp only [i3_lt, hz]
      rw [ir (by omega)]
      have e0 : (0 : Int32).toInt = 0 := rfl
      rw [e0]
      by_cases q : z.toInt + j < 2147483648
      · simp only [if_pos q]
        by_cases q2 : z.toInt + j < 0
        · rw [if_pos q2, if_neg (by omega)]
        · rw [if_neg q2]
          by_cases q3 : z.toInt + j < sz
          · rw [if_pos q3, if_pos (by omega)]
          · rw [if_neg q3, if_neg (by omega)]
      · simp only [if_neg q]
        rw [if_pos (by omega), if_neg (by omega)]
    · rw [if_neg (fun q => c q.symm), if_neg c]
abbrev hbl (B : Nat) (v : Int32) : Prop := v = -4 ∨ (0 ≤ v.toInt ∧ v.toInt < (B : Int))
def rdo (F V : Nat → Int32) (B n0 : Nat) : Nat → Nat → Sum (Nat × Int32) Int32
  | 0, j => .inl (j, 0)
  | d + 1, j => if F j = 0 then (if hbl B (V j) then (if n0 + j < 12 then rdo F V B n0 d (j + 1) else .inr (-3)) else .inr (-20 - nI j)) else .inl (j, F j)
theorem rdo_p {F V : Nat → Int32} {B n0 : Nat} : ∀ (d j c : Nat) (e : Int32), n0 + j ≤ 12 → rdo F V B n0 d j = .inl (c, e) → j ≤ c ∧ n0 + c ≤ 12 ∧ c ≤ j + d ∧ ∀ i, j ≤ i → i < c → F i = 0 ∧ hbl B (V i)
  | 0, j, c, e, hj, h => by
    unfold rdo at h
    cases h
    exact ⟨Nat.le_refl _, hj, by omega, fun i h1 h2 => by omega⟩
  | d + 1, j, c, e, hj, h => by
    unfold rdo at h
    by_cases c1 : F j = 0
    · rw [if_pos c1] at h
      by_cases c2 : hbl B (V j)
      · rw [if_pos c2] at h
        by_cases c3 : n0 + j < 12
        · rw [if_pos c3] at h
          obtain ⟨p1, p2, p3, p4⟩ := rdo_p d (j + 1) c e (by omega) h
          refine ⟨by omega, p2, by omega, fun i h1 h2 => ?_⟩
          by_cases q : i = j
          · subst q; exact ⟨c1, c2⟩
          · exact p4 i (by omega) h2
        · rw [if_neg c3] at h; cases h
      · rw [if_neg c2] at h; cases h
    · rw [if_neg c1] at h
      cases h
      exact ⟨Nat.le_refl _, hj, by omega, fun i h1 h2 => by omega⟩
/-- the class adds what was found fit -/
theorem addAll_l {z e : Int32} {q n0 c : Nat} (hq : 39 < q) (hc : n0 + c ≤ 12) {p : Nat → Nat} (hp : ∀ i, i < c → p i < 40 ∧ z + nI i = nI (p i)) : ∀ (d j m : Nat) (σ : S0), c - j = d → j ≤ c → d < m → σ 32 7 = nI (n0 + j) → ∃ τ, fX10_read_h128 m σ z q e (nI c) (nI j) = some (nI c, τ) ∧ (∀ x, x ≠ 0 → x ≠ 32 → x ≠ 39 → τ x = σ x) ∧ (∀ i, i ≠ 12 → τ 0 i = σ 0 i) ∧ τ 0 12 = e ∧ (∀ i, i ≠ 7 → τ 32 i = σ 32 i) ∧ τ 32 7 = nI (n0 + c) ∧ (∀ i, i < n0 + j → τ 39 i = σ 39 i) ∧ ∀ i, j ≤ i → i < c → τ 39 (n0 + i) = σ (q + 1) (p i) := by
  intro d
  induction d with
  | zero =>
    intro j m σ h1 h2 h3 h7
    obtain ⟨m, rfl⟩ : ∃ q, m = q + 1 := ⟨m - 1, by omega⟩
    have : j = c := by omega
    subst this
    refine ⟨su σ 0 12 e, ?_, fun x h1 h2 h3 => su_ne h1, fun i hi => su_j hi, su_s, fun i hi => by rw [su_ne (by omega)], by rw [su_ne (by omega)]; exact h7, fun i hi => by rw [su_ne (by omega)], fun i h1 h2 => by omega⟩
    show fX10_read_b128 _ _ _ _ _ _ _ = _
    unfold fX10_read_b128
    rw [if_pos (nI_le (Nat.le_refl _) (by omega))]
    rfl
  | succ d ih =>
    intro j m σ h1 h2 h3 h7
    obtain ⟨m, rfl⟩ : ∃ q, m = q + 1 := ⟨m - 1, by omega⟩
    obtain ⟨p1, p2⟩ := hp j (by omega)
    have ha := addHeard_y σ 32 (σ (q + 1) (p j)) h7 (by omega) (by omega)
    obtain ⟨τ, t1, t2, t3, t4, t5, t6, t7, t8⟩ := ih (j + 1) m (su (su σ (32 + 7) (n0 + j) (σ (q + 1) (p j))) 32 7 (nI (n0 + j + 1))) (by omega) (by omega) (by omega) su_s
    refine ⟨τ, ?_, fun x h1 h2 h3 => ?_, fun i hi => ?_, t4, fun i hi => ?_, t6, fun i hi => ?_, fun i h1 h2 => ?_⟩
    · show fX10_read_b128 _ _ _ _ _ _ _ = _
      unfold fX10_read_b128
      rw [if_neg (nI_ge (by omega) (by omega))]
      simp only [ol]
      rw [p2, og_t (ix_ok p1 (by omega)), nI_clamp (by omega), ha]
      simp only [obp]
      rw [nI_1]
      exact t1
    · rw [t2 x h1 h2 h3, su_ne h2, su_ne (by omega)]
    · rw [t3 i hi, su_ne (by omega), su_ne (by omega)]
    · rw [t5 i hi, su_j hi, su_ne (by omega)]
    · rw [t7 i (by omega), su_ne (by omega), su_j (by omega)]
    · by_cases hi : i = j
      · subst hi
        rw [t7 (n0 + i) (by omega), su_ne (by omega), su_s]
      · rw [t8 i (by omega) h2, su_ne (by omega), su_ne (by omega)]
/-- the class looks first -/
theorem lookAll_l {σ : S0} {la y z : Int32} {q sz n n0 B : Nat} (hs : sz ≤ 40) (hn : n ≤ 12) (hB : B ≤ 12) (e0 : σ 32 0 = nI B) (h7 : σ 32 7 = nI n0) (h0 : n0 ≤ 12) (hl : (la = -4 ∧ σ q 0 = -1) ∨ ∃ l, l < 3 ∧ la = nI l ∧ σ q 0 = nI l ∧ σ q 1 = nI sz) : ∀ (d j m : Nat), n - j = d → j ≤ n → d < m → (∀ c e, rdo (rfa la y sz z) (fun j => σ (q + 1) (z + nI j).toNatClampNeg) B n0 d j = .inl (c, e) → fX10_read_h45 m σ y z (nI n) q 0 (nI j) (nI j) = fX10_read_h128 400 σ z q e (nI c) 0) ∧ (∀ r, rdo (rfa la y sz z) (fun j => σ (q + 1) (z + nI j).toNatClampNeg) B n0 d j = .inr r → fX10_read_h45 m σ y z (nI n) q 0 (nI j) (nI j) = some (r, σ)) := by
  intro d
  have hone : ¬ (1 : Int32) = 0 := by decide
  induction d with
  | zero =>
    intro j m h1 h2 h3
    obtain ⟨m, rfl⟩ : ∃ q, m = q + 1 := ⟨m - 1, by omega⟩
    have : j = n := by omega
    subst this
    refine ⟨fun c e h => ?_, fun r h => ?_⟩
    · unfold rdo at h
      cases h
      show fX10_read_b45 _ _ _ _ _ _ _ _ _ = _
      unfold fX10_read_b45 fX10_read_b125
      rw [if_pos (nI_le (Nat.le_refl _) (by omega))]
    · unfold rdo at h
      cases h
  | succ d ih =>
    intro j m h1 h2 h3
    obtain ⟨m, rfl⟩ : ∃ q, m = q + 1 := ⟨m - 1, by omega⟩
    have e1 : fX10_read_h45 (m + 1) σ y z (nI n) q 0 (nI j) (nI j) = if rfa la y sz z j = 0 then (og (¬ (z + nI j < 0 ∨ 40 ≤ (z + nI j).toNatClampNeg)) (if hbl B (σ (q + 1) (z + nI j).toNatClampNeg) then (if n0 + j < 12 then fX10_read_h45 m σ y z (nI n) q (rfa la y sz z j) (nI (j + 1)) (nI (j + 1)) else some (-3, σ)) else some (-20 - nI j, σ))) else fX10_read_h128 400 σ z q (rfa la y sz z j) (nI j) 0 := by
      show fX10_read_b45 _ _ _ _ _ _ _ _ _ = _
      unfold fX10_read_b45 fX10_read_b125
      rw [if_neg (nI_ge (by omega) (by omega)), faultAt_s z hs (by omega) hl]
      simp only [obp, ol]
      by_cases c1 : rfa la y sz z j = 0
      · rw [if_pos c1, if_pos c1, cbh_s σ 32 _ e0 hB]
        simp only
        congr 1
        by_cases c2 : hbl B (σ (q + 1) (z + nI j).toNatClampNeg)
        · simp only [if_pos c2]
          rw [if_pos hone, h7, nI_add, nI_1]
          by_cases c3 : n0 + j < 12
          · rw [if_pos c3, if_pos (show nI (n0 + j) < 12 from nI_lt (b := 12) c3 (by omega))]
          · rw [if_neg c3, if_neg (show ¬ nI (n0 + j) < 12 from fun q => c3 ((nI_ltI (b := 12) (by omega) (by omega)).mp q))]
        · simp only [if_neg c2]
          rw [if_neg (fun q => q trivial)]
      · rw [if_neg c1, if_neg c1]
    rw [e1]
    unfold rdo
    by_cases c1 : rfa la y sz z j = 0
    · obtain ⟨p, p1, p2⟩ := rfa_p c1 hs (by omega)
      have hg : ¬ (z + nI j < 0 ∨ 40 ≤ (z + nI j).toNatClampNeg) := by rw [p2]; exact ix_ok (by omega) (by omega)
      rw [if_pos c1, if_pos c1, og_t hg, c1]
      by_cases c2 : hbl B (σ (q + 1) (z + nI j).toNatClampNeg)
      · simp only [if_pos c2]
        by_cases c3 : n0 + j < 12
        · simp only [if_pos c3]
          exact ih (j + 1) m (by omega) (by omega) (by omega)
        · simp only [if_neg c3]
          exact ⟨fun c e h => (nomatch h), fun r h => by rw [← Sum.inr.inj h]⟩
      · simp only [if_neg c2]
        exact ⟨fun c e h => (nomatch h), fun r h => by rw [← Sum.inr.inj h]⟩
    · rw [if_neg c1, if_neg c1]
      exact ⟨fun c e h => (by cases h; rfl), fun r h => by cases h⟩
theorem hear_y {σ : S0} {v : Int32} {B : Nat} (e : σ 98 4 = nI B) (hB : B ≤ 12) : fX11_hear σ v = if hbl B v then fX11_hear_b16 σ v else some (-1, σ) := by
  unfold fX11_hear
  by_cases h4 : v = -4
  · rw [if_pos h4, if_pos (Or.inl h4)]
  · rw [if_neg h4, isBell_s σ v (by rw [e, ir (by omega)]; omega), e, ir (by omega)]
    by_cases c : 0 ≤ v.toInt ∧ v.toInt < (B : Int)
    · rw [if_pos c, if_pos (Or.inr c)]; rfl
    · rw [if_neg c, if_neg (fun q => q.elim h4 c)]; rfl
theorem w_s (z : Int32) {j : Nat} (hj : j ≤ 12) : (z.toInt64 + (nI j).toInt64).toInt = z.toInt + j := by
  have zb := i3_bd z
  rw [Int64.toInt_add, Int32.toInt_toInt64, Int32.toInt_toInt64, ir (by omega)]
  exact Int.bmod_eq_of_le (by omega) (by omega)
theorem rdM_b {sf : S0 → Int32 → Int32 → Int32 → Int32 → Int32 → Int32 → Int32 → Int32 → Option (Int32 × S0)} {σ : S0} {k j n sz : Nat} {y z x5 x7 : Int32} (hk : k < 4) (hj : j < n) (hn : n ≤ 12) (hs : sz ≤ 40) (hl : σ 108 k = -4 ∨ σ 109 k = nI sz) : fX11_read_b41 sf σ (nI k) y z (nI n) x5 0 x7 (nI j) = fX11_read_b115 sf σ (nI k) y z (nI n) x5 x7 (nI j) (rfa (σ 108 k) y sz z j) := by
  have hg := ix_ok (j := k) (n := 4) (by omega) (by omega)
  have hc : (nI k).toNatClampNeg = k := nI_clamp (by omega)
  have hg2 : ¬ (nI k < 0 ∨ 4 ≤ k) := fun q => hg (by rw [hc]; exact q)
  unfold fX11_read_b41 fX11_read_b110 rfa
  rw [if_neg (nI_ge (by omega) (by omega)), if_neg (fun q => q rfl)]
  simp only [og_t hg, og_t hg2, hc, ol]
  by_cases c1 : σ 108 k = -4
  · rw [if_neg (fun q => q c1), if_pos c1]
  · rw [if_pos c1, if_neg c1]
    have hz := hl.resolve_left c1
    by_cases c2 : σ 108 k = y
    · rw [if_pos c2, if_pos c2, hz]
      simp only [lg_cmp_lt, Int64.lt_iff_toInt_lt, w_s z (show j ≤ 12 by omega), Int32.toInt_toInt64, ir (show sz < 2 ^ 31 by omega)]
      have e0 : (0 : Int64).toInt = 0 := rfl
      rw [e0]
      by_cases q : z.toInt + j < 0
      · rw [if_pos q, if_neg (by omega)]
      · rw [if_neg q]
        by_cases q3 : z.toInt + j < sz
        · rw [if_pos q3, if_pos (by omega)]
        · rw [if_neg q3, if_neg (by omega)]
    · rw [if_neg c2, if_neg c2]
theorem rdM_e {m : Nat} {σ : S0} {y z x4 x5 x7 x8 e : Int32} {k : Nat} (he : ¬ e = 0) : fX11_read_h41 (m + 1) σ (nI k) y z x4 x5 e x7 x8 = some (x7, su σ 98 39 e) := by
  show fX11_read_b41 _ _ _ _ _ _ _ _ _ _ = _
  unfold fX11_read_b41 fX11_read_b182
  by_cases c : x4 ≤ x8
  · rw [if_pos c]; rfl
  · rw [if_neg c, if_pos he]; rfl
theorem readM_l {la y z : Int32} {k sz n n0 B : Nat} {V : Nat → Int32} (hk : k < 4) (hs : sz ≤ 40) (hn : n ≤ 12) (hB : B ≤ 12) (h0 : n0 ≤ 12) : ∀ (d j m : Nat) (σ : S0), n - j = d → j ≤ n → d + 1 < m → n0 + j ≤ 12 → σ 108 k = la → (la = -4 ∨ σ 109 k = nI sz) → σ 98 4 = nI B → σ 99 66 = nI (n0 + j) → (∀ i, V i = σ 110 (40 * k + (z + nI i).toNatClampNeg)) → ∃ r τ, fX11_read_h41 m σ (nI k) y z (nI n) (nI n0) 0 (nI j) (nI j) = some (r, τ) ∧ (∀ x, x ≠ 98 → x ≠ 99 → τ x = σ x) ∧ (∀ i, i ≠ 39 → τ 98 i = σ 98 i) ∧ (∀ i, i < 66 ∨ 79 ≤ i → τ 99 i = σ 99 i) ∧ (∀ i, i < n0 + j → τ 99 (67 + i) = σ 99 (67 + i)) ∧ (∀ c e, rdo (rfa la y sz z) V B n0 d j = .inl (c, e) → r = nI c ∧ τ 98 39 = e ∧ τ 99 66 = nI (n0 + c) ∧ ∀ i, j ≤ i → i < c → τ 99 (67 + n0 + i) = V i) ∧ (∀ r', rdo (rfa la y sz z) V B n0 d j = .inr r' → r = r' ∧ τ 98 39 = σ 98 39 ∧ τ 99 66 = nI n0) := by
  intro d
  induction d with
  | zero =>
    intro j m σ h1 h2 h3 h4 hla hsz h98 h66 hV
    obtain ⟨m, rfl⟩ : ∃ q, m = q + 1 := ⟨m - 1, by omega⟩
    have : j = n := by omega
    subst this
    refine ⟨nI j, su σ 98 39 0, ?_, fun x h1 h2 => su_ne h1, fun i hi => su_j hi, fun i hi => by rw [su_ne (by omega)], fun i hi => by rw [su_ne (by omega)], fun c e h => ?_, fun r h => ?_⟩
    · show fX11_read_b41 _ _ _ _ _ _ _ _ _ _ = _
      unfold fX11_read_b41 fX11_read_b182
      rw [if_pos (nI_le (Nat.le_refl _) (by omega))]; rfl
    · unfold rdo at h
      cases h
      exact ⟨rfl, su_s, by rw [su_ne (by omega)]; exact h66, fun i h1 h2 => by omega⟩
    · unfold rdo at h
      cases h
  | succ d ih =>
    intro j m σ h1 h2 h3 h4 hla hsz h98 h66 hV
    obtain ⟨m, rfl⟩ : ∃ q, m = q + 1 := ⟨m - 1, by omega⟩
    have e1 : fX11_read_h41 (m + 1) σ (nI k) y z (nI n) (nI n0) 0 (nI j) (nI j) = fX11_read_b115 (fX11_read_h41 m) σ (nI k) y z (nI n) (nI n0) (nI j) (nI j) (rfa la y sz z j) := by
      rw [← hla]
      exact rdM_b hk (by omega) hn hs (by rw [hla]; exact hsz)
    rw [e1]
    unfold rdo
    by_cases c1 : rfa la y sz z j = 0
    · obtain ⟨p, p1, p2⟩ := rfa_p c1 hs (by omega)
      have hp : (40 : Int32) * nI k + z + nI j = nI (40 * k + p) := by rw [Int32.add_assoc, p2, show (40 : Int32) = nI 40 from rfl, pk_mul, nI_add]
      have hVj : V j = σ 110 (40 * k + p) := by rw [hV j, p2, nI_clamp (by omega)]
      have e2 : fX11_read_b115 (fX11_read_h41 m) σ (nI k) y z (nI n) (nI n0) (nI j) (nI j) (rfa la y sz z j) = obp (fX11_hear σ (V j)) (fun r5 σ6 => if 0 ≤ r5 then fX11_read_h41 m σ6 (nI k) y z (nI n) (nI n0) 0 (nI (j + 1)) (nI (j + 1)) else (if ¬ r5 = -1 then some (-3, su σ6 99 66 (nI n0)) else some (-20 - nI j, su σ6 99 66 (nI n0)))) := by
        rw [c1]
        unfold fX11_read_b115 fX11_read_b176
        rw [if_neg (fun q => q rfl)]
        simp only [ol, hp]
        rw [og_t (ix_ok (by omega) (by omega)), nI_clamp (by omega), ← hVj]
        simp only [og_t c66, v66, nI_1, og_t c66b]
      rw [e2, if_pos c1, hear_y h98 hB]
      by_cases c2 : hbl B (V j)
      · rw [if_pos c2]
        simp only [if_pos c2]
        by_cases c3 : n0 + j < 12
        · rw [hear_m σ _ h66 c3]
          simp only [if_pos c3, obp]
          rw [if_pos (show (0 : Int32) ≤ nI (n0 + j + 1) from nI_le (a := 0) (by omega) (by omega))]
          obtain ⟨r, τ, t1, t2, t3, t4, t5, t6, t7⟩ := ih (j + 1) m (su (su σ 99 (67 + (n0 + j)) (V j)) 99 66 (nI (n0 + j + 1))) (by omega) (by omega) (by omega) (by omega) (by rw [su_ne (by omega), su_ne (by omega)]; exact hla) (by rw [su_ne (by omega), su_ne (by omega)]; exact hsz) (by rw [su_ne (by omega), su_ne (by omega)]; exact h98) su_s (fun i => by rw [su_ne (by omega), su_ne (by omega)]; exact hV i)
          refine ⟨r, τ, t1, fun x h1 h2 => ?_, fun i hi => ?_, fun i hi => ?_, fun i hi => ?_, fun c e h => ?_, fun r' h => ?_⟩
          · rw [t2 x h1 h2, su_ne h2, su_ne h2]
          · rw [t3 i hi, su_ne (by omega), su_ne (by omega)]
          · rw [t4 i hi, su_j (by omega), su_j (by omega)]
          · rw [t5 i (by omega), su_j (by omega), su_j (by omega)]
          · obtain ⟨q1, q2, q3, q4⟩ := t6 c e h
            refine ⟨q1, q2, q3, fun i h1 h2 => ?_⟩
            by_cases hi : i = j
            · subst hi
              rw [show 67 + n0 + i = 67 + (n0 + i) by omega, t5 (n0 + i) (by omega), su_j (by omega), su_s]
            · exact q4 i (by omega) h2
          · obtain ⟨q1, q2, q3⟩ := t7 r' h
            exact ⟨q1, by rw [q2, su_ne (by omega), su_ne (by omega)], q3⟩
        · have h12 : n0 + j = 12 := by omega
          rw [hear_f σ _ (by rw [h66, h12])]
          simp only [if_neg c3, obp]
          rw [if_neg (by decide), if_pos (by decide)]
          refine ⟨-3, su σ 99 66 (nI n0), rfl, fun x h1 h2 => su_ne h2, fun i hi => by rw [su_ne (by omega)], fun i hi => su_j (by omega), fun i hi => su_j (by omega), fun c e h => (nomatch h), fun r' h => ?_⟩
          rw [← Sum.inr.inj h]
          exact ⟨rfl, by rw [su_ne (by omega)], su_s⟩
      · rw [if_neg c2]
        simp only [if_neg c2, obp]
        rw [if_neg (by decide), if_neg (by decide)]
        refine ⟨-20 - nI j, su σ 99 66 (nI n0), rfl, fun x h1 h2 => su_ne h2, fun i hi => by rw [su_ne (by omega)], fun i hi => su_j (by omega), fun i hi => su_j (by omega), fun c e h => (nomatch h), fun r' h => ?_⟩
        rw [← Sum.inr.inj h]
        exact ⟨rfl, by rw [su_ne (by omega)], su_s⟩
    · rw [if_neg c1]
      obtain ⟨m, rfl⟩ : ∃ q, m = q + 1 := ⟨m - 1, by omega⟩
      refine ⟨nI j, su σ 98 39 (rfa la y sz z j), ?_, fun x h1 h2 => su_ne h1, fun i hi => su_j hi, fun i hi => by rw [su_ne (by omega)], fun i hi => by rw [su_ne (by omega)], fun c e h => ?_, fun r h => by cases h⟩
      · unfold fX11_read_b115 fX11_read_b176
        rw [if_pos c1]
        simp only [ol]
        exact rdM_e c1
      · cases h
        exact ⟨rfl, su_s, by rw [su_ne (by omega)]; exact h66, fun i h1 h2 => by omega⟩
theorem R_torn {σ τ : S0} {H G B T : Nat} (h : Rall σ H G B T) (ta : ∀ x, x ≠ 0 → x ≠ 98 → τ x = σ x) (tb : ∀ i, i ≠ 39 → τ 98 i = σ 98 i) (tc : τ 0 12 = τ 98 39) : Rall τ H G B T := by
  obtain ⟨hn, hk, hm, ht, hi, hp, hs, hf, hq⟩ := h
  have hB := hn.1.2.2.2.1
  have hT := hn.1.2.2.2.2
  exact ⟨hn.c (tb _ (by omega)) (tb _ (by omega)) (tb _ (by omega)) (tb _ (by omega)) (ta 22 (by omega) (by omega)), hk.c (fun d hd => ta _ (by omega) (by omega)) (fun i h1 h2 => by rw [ta 99 (by omega) (by omega)]) hB, hm.c (fun i h1 h2 => by rw [ta 99 (by omega) (by omega)]) hB, ht.c (ta _ (by omega) (by omega)) (ta _ (by omega) (by omega)) (ta _ (by omega) (by omega)) (fun t h => ta _ (by omega) (by omega)), hi.c (ta _ (by omega) (by omega)) (ta _ (by omega) (by omega)) (fun x h1 h2 => ta _ (by omega) (by omega)) (fun i h1 h2 => by rw [ta 99 (by omega) (by omega)]) hB, hp.c (by rw [ta 1 (by omega) (by omega)]) (tb _ (by omega)) (ta _ (by omega) (by omega)) (ta _ (by omega) (by omega)), hs.c (ta _ (by omega) (by omega)) (ta _ (by omega) (by omega)) (ta _ (by omega) (by omega)) (fun x h1 h2 => ta _ (by omega) (by omega)), by rw [ta 3 (by omega) (by omega), tb _ (by omega)]; exact hf, tc⟩
theorem rdo_c {F V V' : Nat → Int32} {B n0 J : Nat} (hV : ∀ j, j < J → F j = 0 → V j = V' j) : ∀ (d j : Nat), j + d ≤ J → rdo F V B n0 d j = rdo F V' B n0 d j
  | 0, j, _ => rfl
  | d + 1, j, h => by
    unfold rdo
    by_cases c : F j = 0
    · rw [if_pos c, if_pos c, hV j (by omega) c, rdo_c hV d (j + 1) (by omega)]
    · rw [if_neg c, if_neg c]
theorem hbl_e {B : Nat} {v : Int32} (hB : B ≤ 12) (h : hbl B v) : v = -4 ∨ ∃ b, b < B ∧ v = nI b := by
  rcases h with q | q
  · exact Or.inl q
  · rcases ixc v B (by omega) with q2 | q2
    · exact Or.inr q2
    · omega
theorem sim_read (x y z w : Int32) : Sim (fun σ => fX10_read σ x y z w) (fun σ => fX11_read σ x y z w) := by
  refine Sim.of2 (fun σ ρ => rx_fX10_read ρ σ x y z w) (fun σ ρ => rm_fX11_read σ ρ x y z w) (fun σ hR => ?_)
  show Two (fX10_read σ x y z w) (fX11_read σ x y z w) _
  obtain ⟨H, G, B, T, h⟩ := id hR
  obtain ⟨⟨b1, b2, b3, b4, b5⟩, ⟨e1, e2, e5, e6⟩, e3, e4, e7⟩ := h.1
  have hone : ¬ (1 : Int32) = 0 := by decide
  have l0 : (w < 0) ↔ w.toInt < 0 := i3_lt w 0
  have l12 : (w ≤ 12) ↔ w.toInt ≤ 12 := i3_le w 12
  by_cases hv : (0 ≤ x.toInt ∧ x.toInt < 4) ∧ (0 ≤ y.toInt ∧ y.toInt < 3)
  · by_cases hw : 0 ≤ w.toInt ∧ w.toInt ≤ 12
    · obtain ⟨k, hk, rfl⟩ : ∃ j, j < 4 ∧ x = nI j := by
        rcases ixc x 4 (by omega) with q | q
        · exact q
        · omega
      obtain ⟨n, hn, rfl⟩ : ∃ j, j < 13 ∧ w = nI j := by
        rcases ixc w 13 (by omega) with q | q
        · exact q
        · omega
      obtain ⟨⟨n0, n1, n2, n3⟩, -⟩ := id h.2.2.1
      simp only [Nat.zero_add] at n2 n3
      have h7 : σ 32 7 = nI n0 := h.2.1.2.2.2.1.trans n2
      have hX : fX10_read σ (nI k) y z (nI n) = fX10_read_h45 400 σ y z (nI n) (90 + 2 * k) 0 0 0 := by
        unfold fX10_read
        rw [xs_s, if_pos hv.1]
        simp only [obp]
        rw [if_neg hone, xl_s, if_pos hv.2]
        simp only [ol]
        rw [if_neg hone, if_neg (by rw [l0]; omega), if_pos (by rw [l12]; omega), og_t (ix_ok (by omega) (by omega)), nI_clamp (by omega)]
      have hM : fX11_read σ (nI k) y z (nI n) = fX11_read_h41 400 σ (nI k) y z (nI n) (nI n0) 0 0 0 := by
        unfold fX11_read
        rw [ms_s, if_pos hv]
        simp only [obp]
        rw [if_neg hone, in_i σ (nI n) 0 12 0 12 rfl rfl, if_pos hw]
        simp only [ol]
        rw [if_pos hone, og_t c66, v66, n2]
      obtain ⟨hs1, hs2⟩ := h.2.2.2.2.2.2.1 k hk
      obtain ⟨sz, z1, z2, z3⟩ : ∃ sz, sz ≤ 40 ∧ ((σ 108 k = -4 ∧ σ (90 + 2 * k) 0 = -1) ∨ ∃ l, l < 3 ∧ σ 108 k = nI l ∧ σ (90 + 2 * k) 0 = nI l ∧ σ (90 + 2 * k) 1 = nI sz) ∧ (σ 108 k = -4 ∨ σ 109 k = nI sz) := by
        rcases hs1 with q | ⟨l, m, q1, q2, q3, q4, q5, q6⟩
        · exact ⟨0, by omega, Or.inl q, Or.inl q.1⟩
        · exact ⟨m, q2, Or.inr ⟨l, q1, q3, q4, q6⟩, Or.inr q5⟩
      have hVe : ∀ j, j < n → rfa (σ 108 k) y sz z j = 0 → (fun j => σ (90 + 2 * k + 1) (z + nI j).toNatClampNeg) j = (fun j => σ 110 (40 * k + (z + nI j).toNatClampNeg)) j := fun j hj hf => by
        obtain ⟨p, p1, p2⟩ := rfa_p hf z1 (by omega)
        show σ (90 + 2 * k + 1) _ = σ 110 _
        rw [p2, nI_clamp (by omega), show 90 + 2 * k + 1 = 91 + 2 * k by omega]
        exact hs2 p (by omega)
      have hre := rdo_c (B := B) (n0 := n0) hVe n 0 (by omega)
      obtain ⟨l1, l2⟩ := lookAll_l (y := y) (z := z) (n := n) z1 (by omega) b4 h.2.1.1 h7 n1 z2 n 0 400 (by omega) (by omega) (by omega)
      obtain ⟨r, ρ, m1, m2, m3, m4, m5, m6, m7⟩ := readM_l (la := σ 108 k) (y := y) (z := z) (n := n) (n0 := n0) (V := fun j => σ 110 (40 * k + (z + nI j).toNatClampNeg)) hk z1 (by omega) b4 n1 n 0 400 σ (by omega) (by omega) (by omega) (by omega) rfl z3 e5 n2 (fun i => rfl)
      rw [hX, hM]
      rcases hc : rdo (rfa (σ 108 k) y sz z) (fun j => σ 110 (40 * k + (z + nI j).toNatClampNeg)) B n0 n 0 with ⟨c, e⟩ | r'
      · obtain ⟨q1, q2, q3, q4⟩ := m6 c e hc
        obtain ⟨-, p2, p3, p4⟩ := rdo_p n 0 c e (by omega) hc
        have hx := l1 c e (hre.trans hc)
        have hp : ∀ i, i < c → (z + nI i).toNatClampNeg < 40 ∧ z + nI i = nI (z + nI i).toNatClampNeg := fun i hi => by
          obtain ⟨p, u1, u2⟩ := rfa_p (p4 i (by omega) hi).1 z1 (by omega)
          rw [u2, nI_clamp (by omega)]
          exact ⟨by omega, rfl⟩
        obtain ⟨τ, t1, t2, t3, t4, t5, t6, t7, t8⟩ := addAll_l (z := z) (e := e) (q := 90 + 2 * k) (n0 := n0) (c := c) (by omega) p2 hp c 0 400 σ (by omega) (by omega) (by omega) h7
        have hx2 : fX10_read_h45 400 σ y z (nI n) (90 + 2 * k) 0 0 0 = some (nI c, τ) := hx.trans t1
        refine ⟨nI c, τ, r, ρ, hx2, m1, q1.symm, H, G, B, T, ?_⟩
        have ml : ∀ u, u < 98 → mix τ ρ u = τ u := fun u hu => mix_lo hu
        have mh : ∀ u, 98 ≤ u → mix τ ρ u = ρ u := fun u hu => mix_hi hu
        generalize mix τ ρ = ν at ml mh ⊢
        have h' : Rall (su (su ν 0 12 (σ 0 12)) 98 39 (σ 98 39)) H G B T := by
          refine R_heard (n := n0 + c) h p2 (fun u h1 h2 h3 => ?_) (fun i hi => ?_) ?_ ?_ (fun i hi => ?_) (fun j hj => ?_)
          · by_cases h8 : u = 98
            · subst h8
              funext i
              by_cases hi : i = 39
              · subst hi; rw [su_s]
              · rw [su_j hi, su_ne (by omega), mh 98 (by omega), m3 i hi]
            · rw [su_ne h8]
              by_cases h0 : u = 0
              · subst h0
                funext i
                by_cases hi : i = 12
                · subst hi; rw [su_s]
                · rw [su_j hi, ml 0 (by omega), t3 i hi]
              · rw [su_ne h0]
                by_cases hu : u < 98
                · rw [ml u hu, t2 u h0 h1 h2]
                · rw [mh u (by omega), m2 u h8 h3]
          · rw [su_ne (by omega), su_ne (by omega), ml 32 (by omega), t5 i hi]
          · rw [su_ne (by omega), su_ne (by omega), ml 32 (by omega), t6]
          · rw [su_ne (by omega), su_ne (by omega), mh 99 (by omega), q3]
          · rw [su_ne (by omega), su_ne (by omega), mh 99 (by omega), m4 i hi]
          · rw [su_ne (x := 39) (by omega), su_ne (x := 39) (by omega), su_ne (x := 99) (by omega), su_ne (x := 99) (by omega), ml 39 (by omega), mh 99 (by omega)]
            by_cases hjn : j < n0
            · rw [t7 j (by omega), m5 j (by omega)]
              have hl : nI j < σ 99 (0 + 66) := by show nI j < σ 99 66; rw [n2]; exact nI_lt (by omega) (by omega)
              have k5 := h.2.1.2.2.2.2 j (by omega) hl
              rw [show 0 + 67 + j = 67 + j by omega] at k5
              exact ⟨k5, n3 j hjn⟩
            · obtain ⟨i, rfl⟩ : ∃ i, j = n0 + i := ⟨j - n0, by omega⟩
              have u1 := q4 i (by omega) (by omega)
              have u2 := t8 i (by omega) (by omega)
              have u3 := hVe i (by omega) (p4 i (by omega) (by omega)).1
              have u4 := (p4 i (by omega) (by omega)).2
              simp only at u1 u2 u3 u4
              rw [u2, show 67 + (n0 + i) = 67 + n0 + i by omega, u1, u3]
              exact ⟨rfl, hbl_e b4 u4⟩
        refine R_torn h' (fun u h1 h2 => by rw [su_ne h2, su_ne h1]) (fun i hi => by rw [su_j hi, su_ne (by omega)]) ?_
        rw [ml 0 (by omega), mh 98 (by omega), t4, q2]
      · obtain ⟨q1, q2, q3⟩ := m7 r' hc
        have hx := l2 r' (hre.trans hc)
        refine ⟨r', σ, r, ρ, hx, m1, q1.symm, H, G, B, T, ?_⟩
        have ml : ∀ u, u < 98 → mix σ ρ u = σ u := fun u hu => mix_lo hu
        have mh : ∀ u, 98 ≤ u → mix σ ρ u = ρ u := fun u hu => mix_hi hu
        generalize mix σ ρ = ν at ml mh ⊢
        refine R_heard (n := n0) h n1 (fun u h1 h2 h3 => ?_) (fun i hi => ?_) ?_ ?_ (fun i hi => ?_) (fun j hj => ?_)
        · by_cases h8 : u = 98
          · subst h8
            funext i
            by_cases hi : i = 39
            · subst hi; rw [mh 98 (by omega), q2]
            · rw [mh 98 (by omega), m3 i hi]
          · by_cases hu : u < 98
            · rw [ml u hu]
            · rw [mh u (by omega), m2 u h8 h3]
        · rw [ml 32 (by omega)]
        · rw [ml 32 (by omega), h7]
        · rw [mh 99 (by omega), q3]
        · rw [mh 99 (by omega), m4 i hi]
        · rw [ml 39 (by omega), mh 99 (by omega), m5 j (by omega)]
          have hl : nI j < σ 99 (0 + 66) := by show nI j < σ 99 66; rw [n2]; exact nI_lt (by omega) (by omega)
          have k5 := h.2.1.2.2.2.2 j (by omega) hl
          rw [show 0 + 67 + j = 67 + j by omega] at k5
          exact ⟨k5, n3 j hj⟩
    · have eX : fX10_read σ x y z w = some (-1, σ) := by
        unfold fX10_read
        rw [xs_s, if_pos hv.1]
        simp only [obp]
        rw [if_neg hone, xl_s, if_pos hv.2]
        simp only
        rw [if_neg hone]
        by_cases q : w < 0
        · rw [if_pos q]
        · rw [if_neg q, if_neg (by rw [l12]; rw [l0] at q; omega)]
      have eM : fX11_read σ x y z w = some (-1, σ) := by
        unfold fX11_read
        rw [ms_s, if_pos hv]
        simp only [obp]
        rw [if_neg hone, in_i σ w 0 12 0 12 rfl rfl, if_neg hw]
        rfl
      rw [eX, eM]
      exact Two.mk ⟨rfl, hR⟩
  · have eX : fX10_read σ x y z w = some (-1, σ) := by
      unfold fX10_read
      rw [xs_s]
      by_cases h1 : 0 ≤ x.toInt ∧ x.toInt < 4
      · rw [if_pos h1]
        simp only [obp]
        rw [if_neg hone, xl_s, if_neg (by omega)]
        rfl
      · rw [if_neg h1]
        rfl
    have eM : fX11_read σ x y z w = some (-1, σ) := by
      unfold fX11_read
      rw [ms_s, if_neg hv]
      rfl
    rw [eX, eM]
    exact Two.mk ⟨rfl, hR⟩
