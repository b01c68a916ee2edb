/-! THE TEXT: the reference reads a token -/
theorem TpM.c {a : Nat → Nat} {n : Nat} {σ τ : S0} (h : TpM a n σ) (h1 : τ 98 17 = σ 98 17) (h2 : τ 104 = σ 104) : TpM a n τ := by
  unfold TpM
  rw [h1, h2]
  exact h
theorem look_s {a : Nat → Nat} {n : Nat} {ρ : S0} (tp : TpM a n ρ) {p : Nat} (hp : p < 2 ^ 30) : fX11_look ρ (nI p) = some (if p < n then nI (a p) else -1, ρ) := by
  have hn := tp.1
  unfold fX11_look
  rw [tp.2.1]
  by_cases c : p < n
  · rw [if_neg (nI_ge c (by omega)), og_t (ix_ok (by omega) (by omega)), nI_clamp (by omega), if_pos c, (tp.2.2 p c).2]
    rfl
  · rw [if_pos (nI_le (by omega) (by omega)), if_neg c]
def nxtB (σ2 : S0) : Option (Int32 × S0) := ol (σ2 98 18) (fun v5 => ol (su σ2 98 19 v5) (fun σ6 => obp (fX11_look σ6 (σ6 98 18)) (fun r7 σ8 => if 0 ≤ r7 then (obp (fX11_in σ8 r7.toInt64 ((97 : Int64)) ((122 : Int64))) (fun r11 σ12 => if r11 = 0 then (obp (fX11_in σ12 r7.toInt64 ((48 : Int64)) ((57 : Int64))) (fun r15 σ16 => if r15 = 0 then (ol (su σ16 98 20 3) (fun σ19 => if ¬ r7 = 59 then (fX11_next_b260 σ19 0) else (fX11_next_b260 σ19 1))) else (ol (su σ16 98 20 2) (fun σ21 => ol (su σ21 98 21 0) (fun σ22 => fX11_next_h140 400 σ22))))) else (ol (su σ12 98 20 1) (fun σ23 => fX11_next_h82 400 σ23)))) else (ol (su σ8 98 20 0) (fun σ24 => some (0, σ24))))))
theorem b8_e (sf : S0 → Option (Int32 × S0)) (σ : S0) : fX11_next_b8 sf σ = obp (fX11_look σ (σ 98 18)) (fun r1 σ2 => if ¬ r1 = 32 then nxtB σ2 else (ol ((σ2 98 18) + 1) (fun v25 => ol (su σ2 98 18 v25) (fun σ26 => sf σ26)))) := rfl
theorem nI32 {x : Nat} (h : x < 256) : nI x = 32 ↔ x = 32 := nI_eq (b := 32) (by omega) (by omega)
theorem nxtS_l {a : Nat → Nat} {n : Nat} : ∀ (d p m : Nat) (ρ : S0), n - p = d → p ≤ n → d < m → TpM a n ρ → ρ 98 18 = nI p → fX11_next_h8 m ρ = nxtB (su ρ 98 18 (nI (sk (pB a n) d p))) := by
  intro d
  induction d with
  | zero =>
    intro p m ρ h1 h2 h3 tp e
    obtain ⟨m, rfl⟩ : ∃ q, m = q + 1 := ⟨m - 1, by omega⟩
    have hn := tp.1
    show fX11_next_b8 _ _ = _
    rw [b8_e, e, look_s tp (by omega), if_neg (by omega)]
    simp only [obp]
    rw [if_pos (by decide)]
    show _ = nxtB (su ρ 98 18 (nI p))
    rw [su_e e]
  | succ d ih =>
    intro p m ρ h1 h2 h3 tp e
    obtain ⟨m, rfl⟩ : ∃ q, m = q + 1 := ⟨m - 1, by omega⟩
    have hn := tp.1
    have hpn : p < n := by omega
    obtain ⟨t1, t2⟩ := tp.2.2 p hpn
    show fX11_next_b8 _ _ = _
    rw [b8_e, e, look_s tp (by omega), if_pos hpn]
    simp only [obp, ol]
    by_cases c : a p = 32
    · have cp : pB a n p = true := decide_eq_true ⟨hpn, c⟩
      rw [if_neg (fun q => q ((nI32 t1).mpr c)), e, nI_1, ih (p + 1) m (su ρ 98 18 (nI (p + 1))) (by omega) (by omega) (by omega) (tp.c (su_j (by omega)) (su_ne (by omega))) su_s, sk_y cp, su_2]
    · have cp : ¬ pB a n p = true := fun q => c (of_decide_eq_true q).2
      rw [if_pos (fun q => c ((nI32 t1).mp q)), sk_n cp, su_e e]
theorem in_c {σ : S0} {x l h : Nat} (hx : x < 256) {lo hi : Int64} (hl : lo.toInt = l) (hh : hi.toInt = h) : fX11_in σ ((nI x).toInt64) lo hi = some (if l ≤ x ∧ x ≤ h then 1 else 0, σ) := by
  rw [in_i σ (nI x) lo hi l h hl hh, ir (by omega)]
  by_cases c : l ≤ x ∧ x ≤ h
  · rw [if_pos c, if_pos (by omega)]
  · rw [if_neg c, if_neg (by omega)]
theorem in_m1 {σ : S0} {l h : Nat} {lo hi : Int64} (hl : lo.toInt = l) (hh : hi.toInt = h) : fX11_in σ ((-1 : Int32).toInt64) lo hi = some (0, σ) := by
  rw [in_i σ (-1) lo hi l h hl hh, if_neg (fun q => by have e : (-1 : Int32).toInt = -1 := rfl; omega)]
theorem nxtL_l {a : Nat → Nat} {n : Nat} : ∀ (d p m : Nat) (ρ : S0), n - p = d → p ≤ n → d < m → TpM a n ρ → ρ 98 18 = nI p → fX11_next_h82 m ρ = some (0, su ρ 98 18 (nI (sk (pL a n) d p))) := by
  intro d
  induction d with
  | zero =>
    intro p m ρ h1 h2 h3 tp e
    obtain ⟨m, rfl⟩ : ∃ q, m = q + 1 := ⟨m - 1, by omega⟩
    have hn := tp.1
    show fX11_next_b82 _ _ = _
    unfold fX11_next_b82
    rw [e, look_s tp (by omega), if_neg (by omega)]
    simp only [obp]
    rw [in_m1 (l := 97) (h := 122) rfl rfl]
    show some (0, ρ) = some (0, su ρ 98 18 (nI p))
    rw [su_e e]
  | succ d ih =>
    intro p m ρ h1 h2 h3 tp e
    obtain ⟨m, rfl⟩ : ∃ q, m = q + 1 := ⟨m - 1, by omega⟩
    have hn := tp.1
    have hpn : p < n := by omega
    obtain ⟨t1, t2⟩ := tp.2.2 p hpn
    show fX11_next_b82 _ _ = _
    unfold fX11_next_b82
    rw [e, look_s tp (by omega), if_pos hpn]
    simp only [obp]
    rw [in_c t1 (l := 97) (h := 122) rfl rfl]
    simp only [ol]
    by_cases c : 97 ≤ a p ∧ a p ≤ 122
    · have cp : pL a n p = true := decide_eq_true ⟨hpn, c⟩
      rw [if_pos c, if_neg (by decide), e, nI_1, ih (p + 1) m (su ρ 98 18 (nI (p + 1))) (by omega) (by omega) (by omega) (tp.c (su_j (by omega)) (su_ne (by omega))) su_s, sk_y cp, su_2]
    · have cp : ¬ pL a n p = true := fun q => c (of_decide_eq_true q).2
      rw [if_neg c, if_pos rfl, sk_n cp, su_e e]
theorem nxtD_l {a : Nat → Nat} {n s : Nat} : ∀ (d p m : Nat) (ρ : S0), n - p = d → s ≤ p → p ≤ n → d < m → TpM a n ρ → ρ 98 18 = nI p → ρ 98 19 = nI s → fX11_next_h140 m ρ = fX11_next_b236 (su (su ρ 98 18 (nI (sk (pD a n) d p))) 98 21 (rnum (pD a n) a s d (ρ 98 21) p)) (if sk (pD a n) d p - s ≤ 2 then 1 else 0) := by
  intro d
  induction d with
  | zero =>
    intro p m ρ h1 hs h2 h3 tp e e9
    obtain ⟨m, rfl⟩ : ∃ q, m = q + 1 := ⟨m - 1, by omega⟩
    have hn := tp.1
    show fX11_next_b140 _ _ = _
    unfold fX11_next_b140
    rw [e, look_s tp (by omega), if_neg (by omega)]
    simp only [obp]
    rw [in_m1 (l := 48) (h := 57) rfl rfl]
    simp only
    rw [if_pos (by decide)]
    show _ = fX11_next_b236 (su (su ρ 98 18 (nI p)) 98 21 (ρ 98 21)) (if p - s ≤ 2 then 1 else 0)
    rw [su_e e, su_o]
    have h2l : (2 : Int32) < ρ 98 18 - ρ 98 19 ↔ 2 < p - s := by rw [e, e9, pk_sub hs]; exact nI_ltI (a := 2) (by omega) (by omega)
    by_cases c : p - s ≤ 2
    · rw [if_neg (fun q => by have := h2l.mp q; omega), if_pos c]
    · rw [if_pos (h2l.mpr (by omega)), if_neg c]
  | succ d ih =>
    intro p m ρ h1 hs h2 h3 tp e e9
    obtain ⟨m, rfl⟩ : ∃ q, m = q + 1 := ⟨m - 1, by omega⟩
    have hn := tp.1
    have hpn : p < n := by omega
    obtain ⟨t1, t2⟩ := tp.2.2 p hpn
    have h2l : (2 : Int32) < ρ 98 18 - ρ 98 19 ↔ 2 < p - s := by rw [e, e9, pk_sub hs]; exact nI_ltI (a := 2) (by omega) (by omega)
    have h2e : (2 : Int32) ≤ ρ 98 18 - ρ 98 19 ↔ 2 ≤ p - s := by rw [e, e9, pk_sub hs]; exact nI_leI (a := 2) (by omega) (by omega)
    show fX11_next_b140 _ _ = _
    unfold fX11_next_b140 fX11_next_b201
    rw [e, look_s tp (by omega), if_pos hpn]
    simp only [obp]
    rw [in_c t1 (l := 48) (h := 57) rfl rfl]
    simp only [ol]
    by_cases c : 48 ≤ a p ∧ a p ≤ 57
    · have cp : pD a n p = true := decide_eq_true ⟨hpn, c⟩
      have ern : rnum (pD a n) a s (d + 1) (ρ 98 21) p = rnum (pD a n) a s d (if 2 ≤ p - s then ρ 98 21 else 10 * ρ 98 21 + nI (a p) - 48) (p + 1) := by
        show (if _ then _ else _) = _
        rw [if_pos cp]
      have go : ∀ v : Int32, fX11_next_h140 m (su (su ρ 98 21 v) 98 18 (su ρ 98 21 v 98 18 + 1)) = fX11_next_b236 (su (su ρ 98 18 (nI (sk (pD a n) (d + 1) p))) 98 21 (rnum (pD a n) a s d v (p + 1))) (if sk (pD a n) (d + 1) p - s ≤ 2 then 1 else 0) := fun v => by
        rw [su_j (show 18 ≠ 21 by omega), e, nI_1, ih (p + 1) m (su (su ρ 98 21 v) 98 18 (nI (p + 1))) (by omega) (by omega) (by omega) (by omega) (tp.c (by rw [su_j (by omega), su_j (by omega)]) (by rw [su_ne (by omega), su_ne (by omega)])) su_s (by rw [su_j (by omega), su_j (by omega)]; exact e9), su_j (show 21 ≠ 18 by omega), su_s, sk_y cp, su_2, su_sw _ _ (show 21 ≠ 18 by omega), su_2]
      rw [if_pos c, if_neg (by decide), ern]
      by_cases c2 : 2 ≤ p - s
      · rw [if_pos (h2e.mpr c2), if_pos c2]
        exact go _
      · rw [if_neg (fun q => c2 (h2e.mp q)), if_neg c2, e, look_s tp (by omega), if_pos hpn]
        exact go _
    · have cp : ¬ pD a n p = true := fun q => c (of_decide_eq_true q).2
      have ern : rnum (pD a n) a s (d + 1) (ρ 98 21) p = ρ 98 21 := by
        show (if _ then _ else _) = _
        rw [if_neg cp]
      rw [if_neg c, if_pos rfl, sk_n cp, ern, su_e e, su_o]
      by_cases c2 : p - s ≤ 2
      · rw [if_neg (fun q => by have := h2l.mp q; omega), if_pos c2]
      · rw [if_pos (h2l.mpr (by omega)), if_neg c2]
/-- what the reference holds behind a token read from p on -/
def tkM (a : Nat → Nat) (n p : Nat) (ρ : S0) : Prop := ρ 98 19 = nI (tS a n p) ∧ ρ 98 18 = nI (tE a n p) ∧ ((tK a n p = 4 ∧ ρ 98 22 = 1 ∧ ρ 98 23 = nI (tS a n p)) ∨ (tK a n p ≤ 3 ∧ ρ 98 22 = 0 ∧ ρ 98 20 = nI (tK a n p) ∧ (tK a n p = 2 → ρ 98 21 = nI (tV a n p))))
def on8 (σ τ : S0) : Prop := ∀ k j, ¬ (k = 98 ∧ 18 ≤ j ∧ j ≤ 23) → τ k j = σ k j
theorem on8.tr {a b c : S0} (h1 : on8 a b) (h2 : on8 b c) : on8 a c := fun k j h => (h2 k j h).trans (h1 k j h)
theorem on8.rf (a : S0) : on8 a a := fun _ _ _ => rfl
theorem on8.su {a b : S0} (h : on8 a b) {j : Nat} (hj : 18 ≤ j ∧ j ≤ 23) (v : Int32) : on8 a (su b 98 j v) := fun k i q => by
  rw [← h k i q]
  by_cases hk : k = 98
  · subst hk; exact su_j (fun z => q ⟨rfl, by omega⟩)
  · rw [su_ne hk]
theorem on8.c {a b : S0} (h : on8 a b) {k : Nat} (hk : k ≠ 98) : b k = a k := funext fun j => h k j (fun q => hk q.1)
theorem needs_y {ρ : S0} {v : Int32} (c : Int32) (h : ¬ v = 0) : fX11_needs ρ v c = some (0, ρ) := by
  unfold fX11_needs
  rw [if_pos h]
theorem needs_f {ρ : S0} (v c : Int32) (h : ¬ ρ 98 22 = 0) : fX11_needs ρ v c = some (0, ρ) := by
  unfold fX11_needs
  by_cases q : v = 0
  · rw [if_neg (fun z => z q), if_pos h]
  · rw [if_pos q]
theorem needs_n {ρ : S0} (c : Int32) (h : ρ 98 22 = 0) : fX11_needs ρ 0 c = some (0, su (su ρ 98 22 c) 98 23 (ρ 98 19)) := by
  unfold fX11_needs
  rw [if_neg (fun z => z rfl), if_neg (fun z => z h)]
  simp only [ol]
  rw [su_j (by omega)]
theorem tK_4 (a : Nat → Nat) (n p : Nat) : tK a n p ≤ 4 := by
  unfold tK
  by_cases c1 : pL a n (tS a n p) = true
  · rw [if_pos c1]; omega
  · rw [if_neg c1]
    by_cases c2 : pD a n (tS a n p) = true
    · rw [if_pos c2]
      by_cases c3 : tD a n (tS a n p) - tS a n p ≤ 2
      · rw [if_pos c3]; omega
      · rw [if_neg c3]; omega
    · rw [if_neg c2]
      by_cases c3 : tS a n p < n
      · rw [if_pos c3]
        by_cases c4 : a (tS a n p) = 59
        · rw [if_pos c4]; omega
        · rw [if_neg c4]; omega
      · rw [if_neg c3]; omega
theorem next_s {a : Nat → Nat} {n p : Nat} {ρ : S0} (tp : TpM a n ρ) (hp : p ≤ n) (e : ρ 98 18 = nI p) (e22 : ρ 98 22 = 0) : ∃ μ, fX11_next ρ = some (0, μ) ∧ on8 ρ μ ∧ tkM a n p μ := by
  have hn := tp.1
  have hs := sk_le (pB a n) (n - p) p
  have hsn : tS a n p ≤ n := by show sk _ _ _ ≤ n; omega
  have hl := sk_le (pL a n) (n - tS a n p) (tS a n p)
  have hd := sk_le (pD a n) (n - tS a n p) (tS a n p)
  have hd2 : tD a n (tS a n p) ≤ n := by show sk _ _ _ ≤ n; omega
  have b1 : fX11_next ρ = nxtB (su ρ 98 18 (nI (tS a n p))) := by
    unfold fX11_next
    rw [if_pos (show ρ 98 22 ≤ 0 from by rw [e22]; decide)]
    exact nxtS_l (n - p) p 400 ρ rfl hp (by omega) tp e
  have o1 : on8 ρ (su (su ρ 98 18 (nI (tS a n p))) 98 19 (nI (tS a n p))) := ((on8.rf ρ).su (by omega) _).su (by omega) _
  have s9 : su (su ρ 98 18 (nI (tS a n p))) 98 19 (nI (tS a n p)) 98 19 = nI (tS a n p) := su_s
  have s8 : su (su ρ 98 18 (nI (tS a n p))) 98 19 (nI (tS a n p)) 98 18 = nI (tS a n p) := by rw [su_j (by omega), su_s]
  have s2 : su (su ρ 98 18 (nI (tS a n p))) 98 19 (nI (tS a n p)) 98 22 = 0 := by rw [su_j (by omega), su_j (by omega)]; exact e22
  rw [b1]
  unfold nxtB
  simp only [ol]
  rw [su_s]
  generalize su (su ρ 98 18 (nI (tS a n p))) 98 19 (nI (tS a n p)) = ρ1 at o1 s9 s8 s2
  have t1 : TpM a n ρ1 := tp.c (o1 98 17 (by omega)) (o1.c (by omega))
  rw [s8, look_s t1 (by omega)]
  simp only [obp]
  by_cases c3 : tS a n p < n
  · obtain ⟨u1, u2⟩ := t1.2.2 (tS a n p) c3
    rw [if_pos c3, if_pos (nI_pos' (by omega)), in_c u1 (l := 97) (h := 122) rfl rfl]
    simp only
    by_cases cL : 97 ≤ a (tS a n p) ∧ a (tS a n p) ≤ 122
    · have cp : pL a n (tS a n p) = true := decide_eq_true ⟨c3, cL⟩
      have eE : tE a n p = tL a n (tS a n p) := by unfold tE; rw [if_pos cp]
      have eK : tK a n p = 1 := by unfold tK; rw [if_pos cp]
      rw [if_pos cL, if_neg (by decide), nxtL_l (n - tS a n p) (tS a n p) 400 (su ρ1 98 20 1) rfl hsn (by omega) (t1.c (su_j (by omega)) (su_ne (by omega))) (by rw [su_j (by omega)]; exact s8)]
      refine ⟨_, rfl, (o1.su (j := 20) (by omega) _).su (j := 18) (by omega) _, ?_, ?_, Or.inr ⟨by omega, ?_, ?_, fun q => by omega⟩⟩
      · rw [su_j (by omega), su_j (by omega)]; exact s9
      · rw [su_s, eE]
      · rw [su_j (by omega), su_j (by omega)]; exact s2
      · rw [su_j (by omega), su_s, eK]; rfl
    · have cp : ¬ pL a n (tS a n p) = true := fun q => cL (of_decide_eq_true q).2
      rw [if_neg cL, if_pos rfl, in_c u1 (l := 48) (h := 57) rfl rfl]
      simp only
      by_cases cD : 48 ≤ a (tS a n p) ∧ a (tS a n p) ≤ 57
      · have dp : pD a n (tS a n p) = true := decide_eq_true ⟨c3, cD⟩
        have eE : tE a n p = tD a n (tS a n p) := by unfold tE; rw [if_neg cp, if_pos dp]
        have eK : tK a n p = if tD a n (tS a n p) - tS a n p ≤ 2 then 2 else 4 := by unfold tK; rw [if_neg cp, if_pos dp]
        rw [if_pos cD, if_neg (by decide), nxtD_l (s := tS a n p) (n - tS a n p) (tS a n p) 400 (su (su ρ1 98 20 2) 98 21 0) rfl (Nat.le_refl _) hsn (by omega) (t1.c (by rw [su_j (by omega), su_j (by omega)]) (by rw [su_ne (by omega), su_ne (by omega)])) (by rw [su_j (by omega), su_j (by omega)]; exact s8) (by rw [su_j (by omega), su_j (by omega)]; exact s9), su_s]
        unfold fX11_next_b236
        by_cases c2 : tD a n (tS a n p) - tS a n p ≤ 2
        · obtain ⟨v, v1, v2, v3, v4⟩ := num_2 (fun j hj => (tp.2.2 j hj).1) dp c2
          have c2' : sk (pD a n) (n - tS a n p) (tS a n p) - tS a n p ≤ 2 := c2
          rw [if_pos c2] at eK
          rw [if_pos c2', needs_y _ (by decide)]
          simp only [obp]
          refine ⟨_, rfl, (((o1.su (j := 20) (by omega) _).su (j := 21) (by omega) _).su (j := 18) (by omega) _).su (j := 21) (by omega) _, ?_, ?_, Or.inr ⟨by omega, ?_, ?_, fun _ => ?_⟩⟩
          · rw [su_j (by omega), su_j (by omega), su_j (by omega), su_j (by omega)]; exact s9
          · rw [su_j (by omega), su_s, eE]
          · rw [su_j (by omega), su_j (by omega), su_j (by omega), su_j (by omega)]; exact s2
          · rw [su_j (by omega), su_j (by omega), su_j (by omega), su_s, eK]; rfl
          · rw [su_s, v4]
            unfold tV
            rw [← v2]
        · have c2' : ¬ sk (pD a n) (n - tS a n p) (tS a n p) - tS a n p ≤ 2 := c2
          rw [if_neg c2] at eK
          rw [if_neg c2', needs_n _ (by rw [su_j (by omega), su_j (by omega), su_j (by omega), su_j (by omega)]; exact s2)]
          simp only [obp]
          refine ⟨_, rfl, (((((o1.su (j := 20) (by omega) _).su (j := 21) (by omega) _).su (j := 18) (by omega) _).su (j := 21) (by omega) _).su (j := 22) (by omega) _).su (j := 23) (by omega) _, ?_, ?_, Or.inl ⟨eK, ?_, ?_⟩⟩
          · rw [su_j (by omega), su_j (by omega), su_j (by omega), su_j (by omega), su_j (by omega), su_j (by omega)]; exact s9
          · rw [su_j (by omega), su_j (by omega), su_j (by omega), su_s, eE]
          · rw [su_j (by omega), su_s]
          · rw [su_s, su_j (by omega), su_j (by omega), su_j (by omega), su_j (by omega)]; exact s9
      · have dp : ¬ pD a n (tS a n p) = true := fun q => cD (of_decide_eq_true q).2
        have eE : tE a n p = tS a n p + 1 := by unfold tE; rw [if_neg cp, if_neg dp, if_pos c3]
        have eK : tK a n p = if a (tS a n p) = 59 then 3 else 4 := by unfold tK; rw [if_neg cp, if_neg dp, if_pos c3]
        have h59 : nI (a (tS a n p)) = 59 ↔ a (tS a n p) = 59 := nI_eq (b := 59) (by omega) (by omega)
        rw [if_neg cD, if_pos rfl]
        unfold fX11_next_b260
        by_cases c5 : a (tS a n p) = 59
        · rw [if_pos c5] at eK
          rw [if_neg (fun q => q (h59.mpr c5)), needs_y _ (by decide)]
          simp only [obp, ol]
          refine ⟨_, rfl, (o1.su (j := 20) (by omega) _).su (j := 18) (by omega) _, ?_, ?_, Or.inr ⟨by omega, ?_, ?_, fun q => by omega⟩⟩
          · rw [su_j (by omega), su_j (by omega)]; exact s9
          · rw [su_s, su_j (by omega), s8, nI_1, eE]
          · rw [su_j (by omega), su_j (by omega)]; exact s2
          · rw [su_j (by omega), su_s, eK]; rfl
        · rw [if_neg c5] at eK
          rw [if_pos (fun q => c5 (h59.mp q)), needs_n _ (by rw [su_j (by omega)]; exact s2)]
          simp only [obp, ol]
          refine ⟨_, rfl, (((o1.su (j := 20) (by omega) _).su (j := 22) (by omega) _).su (j := 23) (by omega) _).su (j := 18) (by omega) _, ?_, ?_, Or.inl ⟨eK, ?_, ?_⟩⟩
          · rw [su_j (by omega), su_j (by omega), su_j (by omega), su_j (by omega)]; exact s9
          · rw [su_s, su_j (by omega), su_j (by omega), su_j (by omega), s8, nI_1, eE]
          · rw [su_j (by omega), su_j (by omega), su_s]
          · rw [su_j (by omega), su_s, su_j (by omega)]; exact s9
  · have cp : ¬ pL a n (tS a n p) = true := fun q => c3 (of_decide_eq_true q).1
    have dp : ¬ pD a n (tS a n p) = true := fun q => c3 (of_decide_eq_true q).1
    have eE : tE a n p = tS a n p := by unfold tE; rw [if_neg cp, if_neg dp, if_neg c3]
    have eK : tK a n p = 0 := by unfold tK; rw [if_neg cp, if_neg dp, if_neg c3]
    rw [if_neg c3, if_neg (by decide)]
    refine ⟨_, rfl, o1.su (j := 20) (by omega) _, ?_, ?_, Or.inr ⟨by omega, ?_, ?_, fun q => by omega⟩⟩
    · rw [su_j (by omega)]; exact s9
    · rw [su_j (by omega), s8, eE]
    · rw [su_j (by omega)]; exact s2
    · rw [su_s, eK]; rfl
theorem next_f {ρ : S0} {f : Nat} (h1 : 1 ≤ f) (h2 : f ≤ 6) (e : ρ 98 22 = nI f) : fX11_next ρ = some (0, ρ) := by
  unfold fX11_next
  rw [if_neg (show ¬ ρ 98 22 ≤ 0 from by rw [e]; exact nI_nle (by omega) (by omega))]
