/-! PURE SIDE: total answers -/
def An (o : Option (Int32 × S0)) (P : Int32 → S0 → Prop) : Prop := ∃ (r : Int32) (σ : S0), o = some (r, σ) ∧ P r σ
theorem An.mk {r : Int32} {σ : S0} {P : Int32 → S0 → Prop} (h : P r σ) : An (some (r, σ)) P := ⟨r, σ, rfl, h⟩
theorem An.ite {c : Prop} [Decidable c] {a b : Option (Int32 × S0)} {P : Int32 → S0 → Prop} (ha : c → An a P) (hb : ¬ c → An b P) : An (if c then a else b) P := by
  by_cases h : c
  · rw [if_pos h]; exact ha h
  · rw [if_neg h]; exact hb h
theorem An.og {c : Prop} [Decidable c] {k : Option (Int32 × S0)} {P : Int32 → S0 → Prop} (hc : c) (hk : An k P) : An (og c k) P := by
  obtain ⟨r, σ, e, h⟩ := hk
  exact ⟨r, σ, (if_pos hc).trans e, h⟩
theorem An.obp {o : Option (Int32 × S0)} {k : Int32 → S0 → Option (Int32 × S0)} {P : Int32 → S0 → Prop} (h : An o (fun r σ => An (k r σ) P)) : An (obp o k) P := by
  obtain ⟨r, σ, rfl, h⟩ := h
  exact h
theorem An.mono {o : Option (Int32 × S0)} {P Q : Int32 → S0 → Prop} (h : An o P) (hq : ∀ r σ, P r σ → Q r σ) : An o Q := by
  obtain ⟨r, σ, e, h⟩ := h
  exact ⟨r, σ, e, hq r σ h⟩
theorem i3_lt (a b : Int32) : a < b ↔ a.toInt < b.toInt := Int32.lt_iff_toInt_lt
theorem i3_le (a b : Int32) : a ≤ b ↔ a.toInt ≤ b.toInt := Int32.le_iff_toInt_le
theorem i3_eq (a b : Int32) : a = b ↔ a.toInt = b.toInt := Int32.toInt_inj.symm
theorem i3_add {a b : Int32} (h1 : -2147483648 ≤ a.toInt + b.toInt) (h2 : a.toInt + b.toInt < 2147483648) : (a + b).toInt = a.toInt + b.toInt := by
  rw [Int32.toInt_add]
  exact Int.bmod_eq_of_le (by omega) (by omega)
theorem i3_sub {a b : Int32} (h1 : -2147483648 ≤ a.toInt - b.toInt) (h2 : a.toInt - b.toInt < 2147483648) : (a - b).toInt = a.toInt - b.toInt := by
  rw [Int32.toInt_sub]
  exact Int.bmod_eq_of_le (by omega) (by omega)
theorem i3_mul {a b : Int32} (h1 : -2147483648 ≤ a.toInt * b.toInt) (h2 : a.toInt * b.toInt < 2147483648) : (a * b).toInt = a.toInt * b.toInt := by
  rw [Int32.toInt_mul]
  exact Int.bmod_eq_of_le (by omega) (by omega)
theorem i3_cl (a : Int32) : a.toNatClampNeg = a.toInt.toNat := rfl
theorem i3_bd (a : Int32) : -2147483648 ≤ a.toInt ∧ a.toInt < 2147483648 := ⟨Int32.le_toInt a, Int32.toInt_lt a⟩
theorem su_at (σ : S0) (k j : Nat) (v : Int32) (a b : Nat) : su σ k j v a b = if a = k then (if b = j then v else σ k b) else σ a b := by
  unfold su va_up upd
  by_cases h : a = k
  · rw [if_pos h, if_pos h]
  · rw [if_neg h, if_neg h]
theorem in_spec (σ : S0) (a b c : Int64) : fX11_in σ a b c = some (if b ≤ a ∧ a ≤ c then 1 else 0, σ) := by
  unfold fX11_in
  simp only [lg_cmp_lt, lg_cmp_gt]
  by_cases h1 : a < b
  · have : ¬ (b ≤ a ∧ a ≤ c) := fun h => absurd h1 (Int64.not_lt.mpr h.1)
    simp [h1, this]
  · by_cases h2 : c < a
    · have : ¬ (b ≤ a ∧ a ≤ c) := fun h => absurd h2 (Int64.not_lt.mpr h.2)
      simp [h1, h2, this]
    · have : b ≤ a ∧ a ≤ c := ⟨Int64.not_lt.mp h1, Int64.not_lt.mp h2⟩
      simp [h1, h2, this]
theorem i64_le (a b : Int32) : a.toInt64 ≤ b.toInt64 ↔ a.toInt ≤ b.toInt := by
  rw [Int64.le_iff_toInt_le, Int32.toInt_toInt64, Int32.toInt_toInt64]
/-- in(v, low, high) of ints -/
theorem in_i (σ : S0) (a : Int32) (lo hi : Int64) (l h : Int) (hl : lo.toInt = l) (hh : hi.toInt = h) : fX11_in σ a.toInt64 lo hi = some (if l ≤ a.toInt ∧ a.toInt ≤ h then 1 else 0, σ) := by
  rw [in_spec]
  simp only [Int64.le_iff_toInt_le, Int32.toInt_toInt64, hl, hh]
theorem isBell_s (σ : S0) (b : Int32) (h0 : 0 ≤ (σ 98 4).toInt) : fX11_isBell σ b = some (if 0 ≤ b.toInt ∧ b.toInt < (σ 98 4).toInt then 1 else 0, σ) := by
  unfold fX11_isBell
  have hs : ((σ 98 4) - 1).toInt = (σ 98 4).toInt - 1 := i3_sub (by have : (1 : Int32).toInt = 1 := rfl; omega) (by have : (1 : Int32).toInt = 1 := rfl; have := i3_bd (σ 98 4); omega)
  rw [in_i σ b 0 _ 0 ((σ 98 4).toInt - 1) rfl (by rw [Int32.toInt_toInt64, hs])]
  have e : (0 ≤ b.toInt ∧ b.toInt ≤ (σ 98 4).toInt - 1) ↔ (0 ≤ b.toInt ∧ b.toInt < (σ 98 4).toInt) := by omega
  simp only [e]
  by_cases h : 0 ≤ b.toInt ∧ b.toInt < (σ 98 4).toInt
  · simp [obp, og, h]
  · simp [obp, og, h]
theorem hasBell_s (σ : S0) (k : Nat) (b : Int32) : fX1_hasBell σ k b = some (if 0 ≤ b.toInt ∧ b.toInt < (σ k 0).toInt then 1 else 0, σ) := by
  unfold fX1_hasBell
  simp only [i3_lt, i3_le]
  have e0 : (0 : Int32).toInt = 0 := rfl
  rw [e0]
  by_cases h1 : b.toInt < 0
  · have : ¬ (0 ≤ b.toInt ∧ b.toInt < (σ k 0).toInt) := by omega
    simp [h1, this]
  · by_cases h2 : (σ k 0).toInt ≤ b.toInt
    · have : ¬ (0 ≤ b.toInt ∧ b.toInt < (σ k 0).toInt) := by omega
      simp [h1, h2, this]
    · have : 0 ≤ b.toInt ∧ b.toInt < (σ k 0).toInt := by omega
      simp [h1, h2, this]
theorem of_s (σ : S0) (b : Nat) (w : Nat) (hb : b < 12) (hw : w < 5) : fX11_of σ (nI b) (nI w) = some (σ 99 (5 * b + w), σ) := by
  unfold fX11_of
  have e : (5 : Int32) * nI b + nI w = nI (5 * b + w) := by
    rw [show (5 : Int32) = nI 5 from rfl, pk_mul, nI_add]
  have hc : (nI (5 * b + w)).toNatClampNeg = 5 * b + w := nI_clamp (by omega)
  have hp : ¬ (nI (5 * b + w) < 0 ∨ 240 ≤ (nI (5 * b + w)).toNatClampNeg) := nI_in (c := 5 * b + w) (N := 240) (by omega) (by omega)
  simp only [ol, og, e]
  rw [if_pos hp, hc]
