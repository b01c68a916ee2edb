section
/-! PURE SIDE: total answers -/
def An (o : Option (Int32 × S0)) (P : Int32 → S0 → Prop) : Prop := ∃ (r : Int32) (σ : S0), o = some (r, σ) ∧ P r σ
theorem An.mk {r : Int32} {σ : S0} {P : Int32 → S0 → Prop} (h : P r σ) : An (some (r, σ)) P := ⟨r, σ, rfl, h⟩
theorem An.ite {c : Prop} [Decidable c] {a b : Option (Int32 × S0)} {P : Int32 → S0 → Prop} (ha : c → An a P) (hb : ¬ c → An b P) : An (if c then a else b) P := by
  by_cases h : c
  · rw [if_pos h]; exact ha h
  · rw [if_neg h]; exact hb h
theorem An.og {c : Prop} [Decidable c] {k : Option (Int32 × S0)} {P : Int32 → S0 → Prop} (hc : c) (hk : An k P) : An (og c k) P := by
  obtain ⟨r, σ, e, h⟩ := hk
  exact ⟨r, σ, (if_pos hc).trans e, h⟩
theorem An.obp {o : Option (Int32 × S0)} {k : Int32 → S0 → Option (Int32 × S0)} {P : Int32 → S0 → Prop} (h : An o (fun r σ => An (k r σ) P)) : An (obp o k) P := by
  obtain ⟨r, σ, rfl, h⟩ := h
  exact h
theorem An.mono {o : Option (Int32 × S0)} {P Q : Int32 → S0 → Prop} (h : An o P) (hq : ∀ r σ, P r σ → Q r σ) : An o Q := by
  obtain ⟨r, σ, e, h⟩ := h
  exact ⟨r, σ, e, hq r σ h⟩
theorem i3_lt (a b : Int32) : a < b ↔ a.toInt < b.toInt := Int32.lt_iff_toInt_lt
theorem i3_le (a b : Int32) : a ≤ b ↔ a.toInt ≤ b.toInt := Int32.le_iff_toInt_le
theorem i3_eq (a b : Int32) : a = b ↔ a.toInt = b.toInt := Int32.toInt_inj.symm
theorem i3_add {a b : Int32} (h1 : -2147483648 ≤ a.toInt + b.toInt) (h2 : a.toInt + b.toInt < 2147483648) : (a + b).toInt = a.toInt + b.toInt := by
  rw [Int32.toInt_add]
  exact Int.bmod_eq_of_le (by omega) (by omega)
theorem i3_sub {a b : Int32} (h1 : -2147483648 ≤ a.toInt - b.toInt) (h2 : a.toInt - b.toInt < 2147483648) : (a - b).toInt = a.toInt - b.toInt := by
  rw [Int32.toInt_sub]
  exact Int.bmod_eq_of_le (by omega) (by omega)
theorem i3_mul {a b : Int32} (h1 : -2147483648 ≤ a.toInt * b.toInt) (h2 : a.toInt * b.toInt < 2147483648) : (a * b).toInt = a.toInt * b.toInt := by
  rw [Int32.toInt_mul]
  exact Int.bmod_eq_of_le (by omega) (by omega)
theorem i3_cl (a : Int32) : a.toNatClampNeg = a.toInt.toNat := rfl
theorem i3_bd (a : Int32) : -2147483648 ≤ a.toInt ∧ a.toInt < 2147483648 := ⟨Int32.le_toInt a, Int32.toInt_lt a⟩
theorem su_at (σ : S0) (k j : Nat) (v : Int32) (a b : Nat) : su σ k j v a b = if a = k then (if b = j then v else σ k b) else σ a b := by
  unfold su va_up upd
  by_cases h : a = k
  · rw [if_pos h, if_pos h]
  · rw [if_neg h, if_neg h]
theorem in_spec (σ : S0) (a b c : Int64) : fX11_in σ a b c = some (if b ≤ a ∧ a ≤ c then 1 else 0, σ) := by
  unfold fX11_in
  simp only [lg_cmp_lt, lg_cmp_gt]
  by_cases h1 : a < b
  · have : ¬ (b ≤ a ∧ a ≤ c) := fun h => absurd h1 (Int64.not_lt.mpr h.1)
    simp [h1, this]
  · by_cases h2 : c < a
    · have : ¬ (b ≤ a ∧ a ≤ c) := fun h => absurd h2 (Int64.not_lt.mpr h.2)
      simp [h1, h2, this]
    · have : b ≤ a ∧ a ≤ c := ⟨Int64.not_lt.mp h1, Int64.not_lt.mp h2⟩
      simp [h1, h2, this]
theorem i64_le (a b : Int32) : a.toInt64 ≤ b.toInt64 ↔ a.toInt ≤ b.toInt := by
  rw [Int64.le_iff_toInt_le, Int32.toInt_toInt64, Int32.toInt_toInt64]
/-- in(v, low, high) of ints -/
theorem in_i (σ : S0) (a : Int32) (lo hi : Int64) (l h : Int) (hl : lo.toInt = l) (hh : hi.toInt = h) : fX11_in σ a.toInt64 lo hi = some (if l ≤ a.toInt ∧ a.toInt ≤ h then 1 else 0, σ) := by
  rw [in_spec]
  simp only [Int64.le_iff_toInt_le, Int32.toInt_toInt64, hl, hh]
theorem isBell_s (σ : S0) (b : Int32) (h0 : 0 ≤ (σ 98 4).toInt) : fX11_isBell σ b = some (if 0 ≤ b.toInt ∧ b.toInt < (σ 98 4).toInt then 1 else 0, σ) := by
  unfold fX11_isBell
  have hs : ((σ 98 4) - 1).toInt = (σ 98 4).toInt - 1 := i3_sub (by have : (1 : Int32).toInt = 1 := rfl; omega) (by have : (1 : Int32).toInt = 1 := rfl; have := i3_bd (σ 98 4); omega)
  rw [in_i σ b 0 _ 0 ((σ 98 4).toInt - 1) rfl (by rw [Int32.toInt_toInt64, hs])]
  have e : (0 ≤ b.toInt ∧ b.toInt ≤ (σ 98 4).toInt - 1) ↔ (0 ≤ b.toInt ∧ b.toInt < (σ 98 4).toInt) := by omega
  simp only [e]
  by_cases h : 0 ≤ b.toInt ∧ b.toInt < (σ 98 4).toInt
  · simp [obp, og, h]
  · simp [obp, og, h]
theorem hasBell_s (σ : S0) (k : Nat) (b : Int32) : fX1_hasBell σ k b = some (if 0 ≤ b.toInt ∧ b.toInt < (σ k 0).toInt then 1 else 0, σ) := by
  unfold fX1_hasBell
  simp only [i3_lt, i3_le]
  have e0 : (0 : Int32).toInt = 0 := rfl
  rw [e0]
  by_cases h1 : b.toInt < 0
  · have : ¬ (0 ≤ b.toInt ∧ b.toInt < (σ k 0).toInt) := by omega
    simp [h1, this]
  · by_cases h2 : (σ k 0).toInt ≤ b.toInt
    · have : ¬ (0 ≤ b.toInt ∧ b.toInt < (σ k 0).toInt) := by omega
      simp [h1, h2, this]
    · have : 0 ≤ b.toInt ∧ b.toInt < (σ k 0).toInt := by omega
      simp [h1, h2, this]
theorem of_s (σ : S0) (b : Nat) (w : Nat) (hb : b < 12) (hw : w < 5) : fX11_of σ (nI b) (nI w) = some (σ 99 (5 * b + w), σ) := by
  unfold fX11_of
  have e : (5 : Int32) * nI b + nI w = nI (5 * b + w) := by
    rw [show (5 : Int32) = nI 5 from rfl, pk_mul, nI_add]
  have hc : (nI (5 * b + w)).toNatClampNeg = 5 * b + w := nI_clamp (by omega)
  have hp : ¬ (nI (5 * b + w) < 0 ∨ 240 ≤ (nI (5 * b + w)).toNatClampNeg) := nI_in (c := 5 * b + w) (N := 240) (by omega) (by omega)
  simp only [ol, og, e]
  rw [if_pos hp, hc]
end
section
/-! THE RELATION of class cells and reference cells in one state -/
def Rk (σ : S0) (k c o B : Nat) : Prop := σ k 0 = nI B ∧ (∀ b, b < B → σ (k + 1) b = σ c (o + 5 * b) ∧ σ (k + 2) b = σ c (o + 5 * b + 1) ∧ σ (k + 3) b = σ c (o + 5 * b + 2) ∧ σ (k + 4) b = σ c (o + 5 * b + 3) ∧ σ (k + 5) b = σ c (o + 5 * b + 4)) ∧ (∀ h, h < 6 → σ (k + 6) h = σ c (o + 60 + h)) ∧ σ k 7 = σ c (o + 66) ∧ ∀ j, j < 12 → nI j < σ c (o + 66) → σ (k + 7) j = σ c (o + 67 + j)
def Mk (σ : S0) (c o H B : Nat) : Prop := (∃ n, n ≤ 12 ∧ σ c (o + 66) = nI n ∧ ∀ j, j < n → (σ c (o + 67 + j) = -4 ∨ ∃ b, b < B ∧ σ c (o + 67 + j) = nI b)) ∧
  (∀ b, b < B → (∃ w, w < H ∧ σ c (o + 5 * b) = nI w) ∧ (∃ f, f ≤ 20 ∧ σ c (o + 5 * b + 1) = nI f) ∧ (∃ f, f ≤ 9 ∧ σ c (o + 5 * b + 2) = nI f) ∧ (σ c (o + 5 * b + 3) = 0 ∨ σ c (o + 5 * b + 3) = 1) ∧ (σ c (o + 5 * b + 4) = -4 ∨ ∃ h, h < H ∧ σ c (o + 5 * b + 4) = nI h)) ∧
  ∃ fo : Nat → Nat, (∀ h, h < 6 → fo h < 2 ^ H ∧ σ c (o + 60 + h) = nI (fo h)) ∧ (∀ a b, a < 6 → b < 6 → (fo a).testBit b = (fo b).testBit a) ∧ (∀ a, a < 6 → (fo a).testBit a = false) ∧ ∀ a, H ≤ a → a < 6 → fo a = 0
def Rt (σ : S0) (T B : Nat) : Prop := ∀ t, t < T → ∃ n, 1 ≤ n ∧ n ≤ 12 ∧ σ 101 (14 * t + 1) = nI n ∧ σ 24 t = nI n ∧ σ 23 t = σ 101 (14 * t) ∧ (∃ w, w ≤ 99 ∧ σ 101 (14 * t) = nI w) ∧ ∀ i, i < n → ∃ b, b < B ∧ σ 101 (14 * t + 2 + i) = nI b ∧ σ (26 + t) i = nI b
def Ri (σ : S0) (H B : Nat) : Prop := ∀ k, k < 2 → (σ 100 k = 0 ∧ σ 72 k = 0) ∨ (σ 100 k = 1 ∧ σ 72 k = 1 ∧ Rk σ (74 + 8 * k) 99 (80 * (k + 1)) B ∧ Mk σ 99 (80 * (k + 1)) H B)
def Rp (σ : S0) : Prop := ∃ n, n ≤ 320 ∧ σ 1 1 = nI n ∧ σ 98 17 = nI n ∧ ∀ j, j < n → ∃ x, x < 256 ∧ σ 104 j = nI x ∧ σ 2 j = (nI x).toInt8.toInt32
def Rs (σ : S0) : Prop := ∀ k, k < 4 → ((σ 108 k = -4 ∧ σ (90 + 2 * k) 0 = -1) ∨ ∃ l n, l < 3 ∧ n ≤ 40 ∧ σ 108 k = nI l ∧ σ (90 + 2 * k) 0 = nI l ∧ σ 109 k = nI n ∧ σ (90 + 2 * k) 1 = nI n) ∧ ∀ j, j < 40 → σ (91 + 2 * k) j = σ 110 (40 * k + j)
/-- faults: both none or both some -/
def fr (x y : Int32) : Prop := x = 0 ↔ y = 0
def Rn (σ : S0) (H G B T : Nat) : Prop := (1 ≤ H ∧ H ≤ 6 ∧ G ≤ 9 ∧ B ≤ 12 ∧ T ≤ 6) ∧ (σ 98 2 = nI H ∧ σ 98 3 = nI G ∧ σ 98 4 = nI B ∧ σ 98 5 = nI T) ∧ σ 22 0 = nI H ∧ σ 22 1 = nI G ∧ σ 22 2 = nI T
def Rall (σ : S0) (H G B T : Nat) : Prop := Rn σ H G B T ∧ Rk σ 32 99 0 B ∧ Mk σ 99 0 H B ∧ Rt σ T B ∧ Ri σ H B ∧ Rp σ ∧ Rs σ ∧ fr (σ 3 5) (σ 98 22) ∧ σ 0 12 = σ 98 39
def R (σ : S0) : Prop := ∃ H G B T, Rall σ H G B T
/-- cells that the relation speaks of -/
def rel (k j : Nat) : Bool := decide ((k = 0 ∧ j = 12) ∨ (k = 1 ∧ j = 1) ∨ k = 2 ∨ (k = 3 ∧ j = 5) ∨ k = 22 ∨ k = 23 ∨ k = 24 ∨ (26 ≤ k ∧ k ≤ 39) ∨ k = 72 ∨ (74 ≤ k ∧ k ≤ 97) ∨ (k = 98 ∧ (j = 2 ∨ j = 3 ∨ j = 4 ∨ j = 5 ∨ j = 17 ∨ j = 22 ∨ j = 39)) ∨ (99 ≤ k ∧ k ≤ 101) ∨ k = 104 ∨ (108 ≤ k ∧ k ≤ 110))
def eqv (σ τ : S0) : Prop := ∀ k j, rel k j = true → τ k j = σ k j
theorem eqv.rf (σ : S0) : eqv σ σ := fun _ _ _ => rfl
theorem eqv.tr {a b c : S0} (h1 : eqv a b) (h2 : eqv b c) : eqv a c := fun k j h => (h2 k j h).trans (h1 k j h)
theorem eqv.su {a b : S0} (h : eqv a b) {k j : Nat} (hr : rel k j = false) (v : Int32) : eqv a (su b k j v) := fun x y hx => by
  rw [su_at]
  by_cases e : x = k
  · rw [if_pos e]
    by_cases e2 : y = j
    · subst e; subst e2
      rw [hr] at hx; cases hx
    · rw [if_neg e2]; subst e; exact h x y hx
  · rw [if_neg e]; exact h x y hx
/-- a whole cell that is none of the relation's -/
theorem eqv.up {a b : S0} (h : eqv a b) {k : Nat} (hr : ∀ j, rel k j = false) (f : Nat → Int32) : eqv a (va_up b k f) := fun x y hx => by
  unfold va_up
  by_cases e : x = k
  · subst e; rw [hr y] at hx; cases hx
  · rw [if_neg e]; exact h x y hx
theorem Rk.cg {σ τ : S0} {k c o B : Nat} (e : eqv σ τ) (h : Rk σ k c o B) (hk : 26 ≤ k ∧ k + 7 ≤ 39 ∨ 74 ≤ k ∧ k + 7 ≤ 97) (hc : c = 99) : Rk τ k c o B := by
  have e1 : ∀ d j, d ≤ 7 → τ (k + d) j = σ (k + d) j := fun d j hd => e _ _ (by unfold rel; exact decide_eq_true (by omega))
  have e2 : ∀ j, τ c j = σ c j := fun j => e _ _ (by unfold rel; exact decide_eq_true (by omega))
  obtain ⟨h1, h2, h3, h4, h5⟩ := h
  refine ⟨(e1 0 0 (by omega)).trans h1, fun b hb => ?_, fun x hx => ?_, ?_, fun j hj hl => ?_⟩
  · obtain ⟨a1, a2, a3, a4, a5⟩ := h2 b hb
    refine ⟨?_, ?_, ?_, ?_, ?_⟩ <;> rw [e1 _ _ (by omega), e2] <;> assumption
  · rw [e1 6 x (by omega), e2]; exact h3 x hx
  · rw [show τ k 7 = σ k 7 from e1 0 7 (by omega), e2]; exact h4
  · rw [e2] at hl
    rw [e1 7 j (by omega), e2]; exact h5 j hj hl
theorem Mk.cg {σ τ : S0} {c o H B : Nat} (e : eqv σ τ) (h : Mk σ c o H B) (hc : c = 99) : Mk τ c o H B := by
  have e2 : ∀ j, τ c j = σ c j := fun j => e _ _ (by unfold rel; exact decide_eq_true (by omega))
  unfold Mk at h ⊢
  simp only [e2]
  exact h
theorem Rall.cg {σ τ : S0} {H G B T : Nat} (e : eqv σ τ) (h : Rall σ H G B T) : Rall τ H G B T := by
  obtain ⟨hn, hk, hm, ht, hi, hp, hs, hf, hq⟩ := h
  refine ⟨?_, hk.cg e (Or.inl ⟨by omega, by omega⟩) rfl, hm.cg e rfl, ?_, ?_, ?_, ?_, ?_, ?_⟩
  · unfold Rn at hn ⊢
    rw [e 98 2 rfl, e 98 3 rfl, e 98 4 rfl, e 98 5 rfl, e 22 0 rfl, e 22 1 rfl, e 22 2 rfl]
    exact hn
  · intro t htT
    obtain ⟨n, a1, a2, a3, a4, a5, a6, a7⟩ := ht t htT
    refine ⟨n, a1, a2, (e 101 _ rfl).trans a3, (e 24 _ rfl).trans a4, ?_, ?_, fun i hi => ?_⟩
    · rw [e 23 t rfl, e 101 _ rfl]; exact a5
    · rw [e 101 _ rfl]; exact a6
    · obtain ⟨b, b1, b2, b3⟩ := a7 i hi
      refine ⟨b, b1, (e 101 _ rfl).trans b2, (e (26 + t) i ?_).trans b3⟩
      unfold rel
      by_cases h : t ≤ 13
      · exact decide_eq_true (by omega)
      · have := hn.1.2.2.2.2
        omega
  · intro k hk2
    rcases hi k hk2 with ⟨a1, a2⟩ | ⟨a1, a2, a3, a4⟩
    · exact Or.inl ⟨(e 100 k rfl).trans a1, (e 72 k rfl).trans a2⟩
    · exact Or.inr ⟨(e 100 k rfl).trans a1, (e 72 k rfl).trans a2, a3.cg e (Or.inr ⟨by omega, by omega⟩) rfl, a4.cg e rfl⟩
  · obtain ⟨n, a1, a2, a3, a4⟩ := hp
    refine ⟨n, a1, (e 1 1 rfl).trans a2, (e 98 17 rfl).trans a3, fun j hj => ?_⟩
    obtain ⟨x, b1, b2, b3⟩ := a4 j hj
    exact ⟨x, b1, (e 104 j rfl).trans b2, (e 2 j rfl).trans b3⟩
  · intro k hk4
    have r90 : ∀ j, τ (90 + 2 * k) j = σ (90 + 2 * k) j := fun j => e _ _ (by unfold rel; exact decide_eq_true (by omega))
    have r91 : ∀ j, τ (91 + 2 * k) j = σ (91 + 2 * k) j := fun j => e _ _ (by unfold rel; exact decide_eq_true (by omega))
    have := hs k hk4
    simp only [r90, r91, e 108 k rfl, e 109 k rfl]
    refine ⟨this.1, fun j hj => ?_⟩
    rw [e 110 _ rfl]
    exact this.2 j hj
  · rw [e 3 5 rfl, e 98 22 rfl]; exact hf
  · rw [e 0 12 rfl, e 98 39 rfl]; exact hq
theorem R.cg {σ τ : S0} (e : eqv σ τ) (h : R σ) : R τ := by
  obtain ⟨H, G, B, T, h⟩ := h
  exact ⟨H, G, B, T, h.cg e⟩
/-- one call on both sides: both answer alike, the relation holds again -/
def Sim (fx fm : S0 → Option (Int32 × S0)) : Prop := ∀ σ, R σ → An (fx σ) (fun r τ => An (fm τ) (fun q ρ => r = q ∧ R ρ))
end
section
theorem su_ne {σ : S0} {k j : Nat} {v : Int32} {x : Nat} (h : x ≠ k) : su σ k j v x = σ x := by
  unfold su va_up
  rw [if_neg h]
theorem su_j {σ : S0} {k j : Nat} {v : Int32} {y : Nat} (h : y ≠ j) : su σ k j v k y = σ k y := by
  rw [su_at, if_pos rfl, if_neg h]
theorem su_s {σ : S0} {k j : Nat} {v : Int32} : su σ k j v k j = v := by
  rw [su_at, if_pos rfl, if_pos rfl]
theorem og_t {α : Type} {c : Prop} [Decidable c] {k : Option α} (h : c) : og c k = k := if_pos h
theorem ix_ok {j n : Nat} (h : j < n) (hn : n < 2 ^ 31) : ¬ (nI j < 0 ∨ n ≤ (nI j).toNatClampNeg) := nI_in h hn
theorem Rk.c {σ τ : S0} {k c o B : Nat} (h : Rk σ k c o B) (hk : ∀ d, d ≤ 7 → τ (k + d) = σ (k + d)) (hc : ∀ i, o ≤ i → i < o + 80 → τ c i = σ c i) (hB : B ≤ 12) : Rk τ k c o B := by
  obtain ⟨h1, h2, h3, h4, h5⟩ := h
  have e0 : τ k = σ k := hk 0 (by omega)
  refine ⟨by rw [e0]; exact h1, fun b hb => ?_, fun x hx => ?_, ?_, fun j hj hl => ?_⟩
  · obtain ⟨a1, a2, a3, a4, a5⟩ := h2 b hb
    refine ⟨?_, ?_, ?_, ?_, ?_⟩ <;> rw [hk _ (by omega), hc _ (by omega) (by omega)] <;> assumption
  · rw [hk 6 (by omega), hc _ (by omega) (by omega)]; exact h3 x hx
  · rw [e0, hc _ (by omega) (by omega)]; exact h4
  · rw [hc _ (by omega) (by omega)] at hl
    rw [hk 7 (by omega), hc _ (by omega) (by omega)]; exact h5 j hj hl
theorem Mk.c {σ τ : S0} {c o H B : Nat} (h : Mk σ c o H B) (hc : ∀ i, o ≤ i → i < o + 80 → τ c i = σ c i) (hB : B ≤ 12) : Mk τ c o H B := by
  obtain ⟨⟨n, n1, n2, n3⟩, h2, fo, f1, f2, f3, f4⟩ := h
  refine ⟨⟨n, n1, by rw [hc _ (by omega) (by omega)]; exact n2, fun j hj => ?_⟩, fun b hb => ?_, fo, fun x hx => ⟨(f1 x hx).1, by rw [hc _ (by omega) (by omega)]; exact (f1 x hx).2⟩, f2, f3, f4⟩
  · rw [hc _ (by omega) (by omega)]; exact n3 j hj
  · have := h2 b hb
    rw [hc _ (by omega) (by omega), hc _ (by omega) (by omega), hc _ (by omega) (by omega), hc _ (by omega) (by omega), hc _ (by omega) (by omega)]
    exact this
theorem Rt.c {σ τ : S0} {T B : Nat} (h : Rt σ T B) (h1 : τ 101 = σ 101) (h2 : τ 24 = σ 24) (h3 : τ 23 = σ 23) (h4 : ∀ t, t < T → τ (26 + t) = σ (26 + t)) : Rt τ T B := by
  intro t ht
  rw [h1, h2, h3, h4 t ht]
  exact h t ht
theorem Ri.c {σ τ : S0} {H B : Nat} (h : Ri σ H B) (h1 : τ 100 = σ 100) (h2 : τ 72 = σ 72) (h3 : ∀ d, 74 ≤ d → d ≤ 89 → τ d = σ d) (h4 : ∀ i, 80 ≤ i → i < 240 → τ 99 i = σ 99 i) (hB : B ≤ 12) : Ri τ H B := by
  intro k hk
  rw [h1, h2]
  rcases h k hk with a | ⟨a1, a2, a3, a4⟩
  · exact Or.inl a
  · exact Or.inr ⟨a1, a2, a3.c (fun d hd => h3 _ (by omega) (by omega)) (fun i h5 h6 => h4 i (by omega) (by omega)) hB, a4.c (fun i h5 h6 => h4 i (by omega) (by omega)) hB⟩
theorem Rp.c {σ τ : S0} (h : Rp σ) (h1 : τ 1 1 = σ 1 1) (h2 : τ 98 17 = σ 98 17) (h3 : τ 104 = σ 104) (h4 : τ 2 = σ 2) : Rp τ := by
  unfold Rp
  rw [h1, h2, h3, h4]
  exact h
theorem Rs.c {σ τ : S0} (h : Rs σ) (h1 : τ 108 = σ 108) (h2 : τ 109 = σ 109) (h3 : τ 110 = σ 110) (h4 : ∀ d, 90 ≤ d → d ≤ 97 → τ d = σ d) : Rs τ := by
  intro k hk
  rw [h1, h2, h3, h4 (90 + 2 * k) (by omega) (by omega), h4 (91 + 2 * k) (by omega) (by omega)]
  exact h k hk
theorem Rn.c {σ τ : S0} {H G B T : Nat} (h : Rn σ H G B T) (h1 : τ 98 2 = σ 98 2) (h2 : τ 98 3 = σ 98 3) (h3 : τ 98 4 = σ 98 4) (h4 : τ 98 5 = σ 98 5) (h5 : τ 22 = σ 22) : Rn τ H G B T := by
  unfold Rn
  rw [h1, h2, h3, h4, h5]
  exact h
/-- what a field of a bell may hold: 0 owner, 1 fee, 2 flat, 3 shut, 4 half -/
def bOk (H d : Nat) (v : Int32) : Prop := (d = 0 → ∃ w, w < H ∧ v = nI w) ∧ (d = 1 → ∃ f, f ≤ 20 ∧ v = nI f) ∧ (d = 2 → ∃ f, f ≤ 9 ∧ v = nI f) ∧ (d = 3 → v = 0 ∨ v = 1) ∧ (d = 4 → v = -4 ∨ ∃ h, h < H ∧ v = nI h)
/-- a field of a bell written on both sides -/
theorem R_bell {σ : S0} {H G B T : Nat} (h : Rall σ H G B T) {j d : Nat} (hj : j < B) (hd : d < 5) {v : Int32} (hv : bOk H d v) : Rall (su (su σ (33 + d) j v) 99 (5 * j + d) v) H G B T := by
  obtain ⟨hn, hk, hm, ht, hi, hp, hs, hf, hq⟩ := h
  have hB := hn.1.2.2.2.1
  have hT := hn.1.2.2.2.2
  have ta : ∀ x, x ≠ 33 + d → x ≠ 99 → su (su σ (33 + d) j v) 99 (5 * j + d) v x = σ x := fun x h1 h2 => by rw [su_ne h2, su_ne h1]
  have tb : ∀ i, i ≠ 5 * j + d → su (su σ (33 + d) j v) 99 (5 * j + d) v 99 i = σ 99 i := fun i h1 => by rw [su_j h1, su_ne (by omega)]
  have tc : su (su σ (33 + d) j v) 99 (5 * j + d) v 99 (5 * j + d) = v := su_s
  have td : su (su σ (33 + d) j v) 99 (5 * j + d) v (33 + d) j = v := by rw [su_ne (by omega), su_s]
  have te : ∀ i, i ≠ j → su (su σ (33 + d) j v) 99 (5 * j + d) v (33 + d) i = σ (33 + d) i := fun i h1 => by rw [su_ne (by omega), su_j h1]
  generalize su (su σ (33 + d) j v) 99 (5 * j + d) v = τ at ta tb tc td te
  obtain ⟨k1, k2, k3, k4, k5⟩ := hk
  obtain ⟨⟨n, n1, n2, n3⟩, m2, fo, f1, f2, f3, f4⟩ := hm
  refine ⟨hn.c (by rw [ta 98 (by omega) (by omega)]) (by rw [ta 98 (by omega) (by omega)]) (by rw [ta 98 (by omega) (by omega)]) (by rw [ta 98 (by omega) (by omega)]) (ta 22 (by omega) (by omega)), ?_, ?_, ht.c (ta _ (by omega) (by omega)) (ta _ (by omega) (by omega)) (ta _ (by omega) (by omega)) (fun t h => ta _ (by omega) (by omega)), hi.c (ta _ (by omega) (by omega)) (ta _ (by omega) (by omega)) (fun x h1 h2 => ta _ (by omega) (by omega)) (fun i h1 h2 => tb i (by omega)) hB, hp.c (by rw [ta 1 (by omega) (by omega)]) (by rw [ta 98 (by omega) (by omega)]) (ta _ (by omega) (by omega)) (ta _ (by omega) (by omega)), hs.c (ta _ (by omega) (by omega)) (ta _ (by omega) (by omega)) (ta _ (by omega) (by omega)) (fun x h1 h2 => ta _ (by omega) (by omega)), by rw [ta 3 (by omega) (by omega), ta 98 (by omega) (by omega)]; exact hf, by rw [ta 0 (by omega) (by omega), ta 98 (by omega) (by omega)]; exact hq⟩
  · refine ⟨by rw [ta 32 (by omega) (by omega)]; exact k1, fun b hb => ?_, fun x hx => ?_, ?_, fun i hi2 hl => ?_⟩
    · have key : ∀ e, e < 5 → σ (33 + e) b = σ 99 (0 + 5 * b + e) → τ (33 + e) b = τ 99 (0 + 5 * b + e) := fun e he hh => by
        by_cases c1 : e = d
        · subst c1
          by_cases c2 : b = j
          · subst c2; rw [td, show 0 + 5 * b + e = 5 * b + e by omega, tc]
          · rw [te b c2, tb _ (by omega)]; exact hh
        · rw [ta _ (by omega) (by omega), tb _ (by omega)]; exact hh
      obtain ⟨a1, a2, a3, a4, a5⟩ := k2 b hb
      exact ⟨key 0 (by omega) a1, key 1 (by omega) a2, key 2 (by omega) a3, key 3 (by omega) a4, key 4 (by omega) a5⟩
    · rw [ta _ (by omega) (by omega), tb _ (by omega)]; exact k3 x hx
    · rw [ta _ (by omega) (by omega), tb _ (by omega)]; exact k4
    · rw [tb _ (by omega)] at hl
      rw [ta _ (by omega) (by omega), tb _ (by omega)]; exact k5 i hi2 hl
  · refine ⟨⟨n, n1, by rw [tb _ (by omega)]; exact n2, fun i hi2 => by rw [tb _ (by omega)]; exact n3 i hi2⟩, fun b hb => ?_, fo, fun x hx => ⟨(f1 x hx).1, by rw [tb _ (by omega)]; exact (f1 x hx).2⟩, f2, f3, f4⟩
    obtain ⟨a1, a2, a3, a4, a5⟩ := m2 b hb
    have key : ∀ e (P : Int32 → Prop), e < 5 → P (σ 99 (0 + 5 * b + e)) → (e = d → P v) → P (τ 99 (0 + 5 * b + e)) := fun e P he hh hv2 => by
      by_cases c1 : e = d ∧ b = j
      · obtain ⟨c1, c2⟩ := c1
        subst c1; subst c2
        rw [show 0 + 5 * b + e = 5 * b + e by omega, tc]; exact hv2 rfl
      · rw [tb _ (by omega)]; exact hh
    exact ⟨key 0 (fun x => ∃ w, w < H ∧ x = nI w) (by omega) a1 (fun q => hv.1 q.symm), key 1 (fun x => ∃ f, f ≤ 20 ∧ x = nI f) (by omega) a2 (fun q => hv.2.1 q.symm), key 2 (fun x => ∃ f, f ≤ 9 ∧ x = nI f) (by omega) a3 (fun q => hv.2.2.1 q.symm), key 3 (fun x => x = 0 ∨ x = 1) (by omega) a4 (fun q => hv.2.2.2.1 q.symm), key 4 (fun x => x = -4 ∨ ∃ h, h < H ∧ x = nI h) (by omega) a5 (fun q => hv.2.2.2.2 q.symm)⟩
end
section
/-- a number is one of the first n, or none of them -/
theorem ixc (x : Int32) (n : Nat) (hn : n < 2 ^ 31) : (∃ j, j < n ∧ x = nI j) ∨ (x.toInt < 0 ∨ (n : Int) ≤ x.toInt) := by
  rcases pk_ix x hn with h | h | h
  · exact Or.inr (Or.inl ((i3_lt _ _).mp h))
  · refine Or.inr (Or.inr ?_)
    have := (i3_le _ _).mp h
    rwa [nI_toInt hn] at this
  · exact Or.inl h
theorem ir {k : Nat} (h : k < 2 ^ 31) : (nI k).toInt = k := nI_toInt h
section V
variable {σ : S0} {k H B T : Nat} {x : Int32}
theorem hb_y (e : σ k 0 = nI B) (hB : B ≤ 12) {j : Nat} (hj : j < B) : fX1_hasBell σ k (nI j) = some (1, σ) := by
  rw [hasBell_s, e, ir (by omega), ir (by omega), if_pos (by omega)]
theorem hb_n (e : σ k 0 = nI B) (hB : B ≤ 12) (h : x.toInt < 0 ∨ (B : Int) ≤ x.toInt) : fX1_hasBell σ k x = some (0, σ) := by
  rw [hasBell_s, e, ir (by omega), if_neg (by omega)]
theorem ib_y (e : σ 98 4 = nI B) (hB : B ≤ 12) {j : Nat} (hj : j < B) : fX11_isBell σ (nI j) = some (1, σ) := by
  rw [isBell_s σ _ (by rw [e, ir (by omega)]; omega), e, ir (by omega), ir (by omega), if_pos (by omega)]
theorem ib_n (e : σ 98 4 = nI B) (hB : B ≤ 12) (h : x.toInt < 0 ∨ (B : Int) ≤ x.toInt) : fX11_isBell σ x = some (0, σ) := by
  rw [isBell_s σ _ (by rw [e, ir (by omega)]; omega), e, ir (by omega), if_neg (by omega)]
theorem hh_s (σ : S0) (k : Nat) (b : Int32) : fX9_hasHouse σ k b = some (if 0 ≤ b.toInt ∧ b.toInt < (σ k 0).toInt then 1 else 0, σ) := hasBell_s σ k b
theorem hh_y (e : σ k 0 = nI H) (hB : H ≤ 12) {j : Nat} (hj : j < H) : fX9_hasHouse σ k (nI j) = some (1, σ) := hb_y e hB hj
theorem hh_n (e : σ k 0 = nI H) (hB : H ≤ 12) (h : x.toInt < 0 ∨ (H : Int) ≤ x.toInt) : fX9_hasHouse σ k x = some (0, σ) := hb_n e hB h
theorem isR_s (σ : S0) (q : Nat) (f : S0 → Int32 → Option (Int32 × S0)) (hf : ∀ b, f σ b = obp (fX11_in σ b.toInt64 ((0 : Int64)) (((σ 98 q) - 1).toInt64)) (fun r1 σ2 => og (r1 = 0 ∨ r1 = 1) (some (r1, σ2)))) (b : Int32) (h0 : 0 ≤ (σ 98 q).toInt) : f σ b = some (if 0 ≤ b.toInt ∧ b.toInt < (σ 98 q).toInt then 1 else 0, σ) := by
  rw [hf]
  have hs : ((σ 98 q) - 1).toInt = (σ 98 q).toInt - 1 := i3_sub (by have : (1 : Int32).toInt = 1 := rfl; omega) (by have : (1 : Int32).toInt = 1 := rfl; have := i3_bd (σ 98 q); omega)
  rw [in_i σ b 0 _ 0 ((σ 98 q).toInt - 1) rfl (by rw [Int32.toInt_toInt64, hs])]
  have e : (0 ≤ b.toInt ∧ b.toInt ≤ (σ 98 q).toInt - 1) ↔ (0 ≤ b.toInt ∧ b.toInt < (σ 98 q).toInt) := by omega
  simp only [e]
  by_cases h : 0 ≤ b.toInt ∧ b.toInt < (σ 98 q).toInt
  · simp [obp, og, h]
  · simp [obp, og, h]
theorem ih_y (e : σ 98 2 = nI H) (hB : H ≤ 12) {j : Nat} (hj : j < H) : fX11_isHouse σ (nI j) = some (1, σ) := by
  rw [isR_s σ 2 fX11_isHouse (fun _ => rfl) _ (by rw [e, ir (by omega)]; omega), e, ir (by omega), ir (by omega), if_pos (by omega)]
theorem ih_n (e : σ 98 2 = nI H) (hB : H ≤ 12) (h : x.toInt < 0 ∨ (H : Int) ≤ x.toInt) : fX11_isHouse σ x = some (0, σ) := by
  rw [isR_s σ 2 fX11_isHouse (fun _ => rfl) _ (by rw [e, ir (by omega)]; omega), e, ir (by omega), if_neg (by omega)]
theorem it_y (e : σ 98 5 = nI T) (hB : T ≤ 12) {j : Nat} (hj : j < T) : fX11_isTune σ (nI j) = some (1, σ) := by
  rw [isR_s σ 5 fX11_isTune (fun _ => rfl) _ (by rw [e, ir (by omega)]; omega), e, ir (by omega), ir (by omega), if_pos (by omega)]
theorem it_n (e : σ 98 5 = nI T) (hB : T ≤ 12) (h : x.toInt < 0 ∨ (T : Int) ≤ x.toInt) : fX11_isTune σ x = some (0, σ) := by
  rw [isR_s σ 5 fX11_isTune (fun _ => rfl) _ (by rw [e, ir (by omega)]; omega), e, ir (by omega), if_neg (by omega)]
theorem ht_s (σ : S0) (k : Nat) (b : Int32) : fX9_hasTune σ k b = some (if 0 ≤ b.toInt ∧ b.toInt < (σ k 2).toInt then 1 else 0, σ) := by
  unfold fX9_hasTune
  simp only [i3_lt, i3_le]
  have e0 : (0 : Int32).toInt = 0 := rfl
  rw [e0]
  by_cases h1 : b.toInt < 0
  · have : ¬ (0 ≤ b.toInt ∧ b.toInt < (σ k 2).toInt) := by omega
    simp [h1, this]
  · by_cases h2 : (σ k 2).toInt ≤ b.toInt
    · have : ¬ (0 ≤ b.toInt ∧ b.toInt < (σ k 2).toInt) := by omega
      simp [h1, h2, this]
    · have : 0 ≤ b.toInt ∧ b.toInt < (σ k 2).toInt := by omega
      simp [h1, h2, this]
theorem ht_y (e : σ k 2 = nI T) (hB : T ≤ 12) {j : Nat} (hj : j < T) : fX9_hasTune σ k (nI j) = some (1, σ) := by
  rw [ht_s, e, ir (by omega), ir (by omega), if_pos (by omega)]
theorem ht_n (e : σ k 2 = nI T) (hB : T ≤ 12) (h : x.toInt < 0 ∨ (T : Int) ≤ x.toInt) : fX9_hasTune σ k x = some (0, σ) := by
  rw [ht_s, e, ir (by omega), if_neg (by omega)]
end V
theorem Sim.ro {fx fm : S0 → Option (Int32 × S0)} (h : ∀ σ, R σ → ∃ a, fx σ = some (a, σ) ∧ fm σ = some (a, σ)) : Sim fx fm := fun σ hR => by
  obtain ⟨a, h1, h2⟩ := h σ hR
  exact ⟨a, σ, h1, a, σ, h2, rfl, hR⟩
theorem sim_torn : Sim fX10_torn fX11_torn := Sim.ro (fun σ hR => by
  obtain ⟨H, G, B, T, h⟩ := hR
  exact ⟨σ 0 12, rfl, by unfold fX11_torn; rw [h.2.2.2.2.2.2.2.2]⟩)
theorem sim_rule (x : Int32) : Sim (fun σ => fX10_rule σ x) (fun σ => fX11_rule σ x) := Sim.ro (fun σ hR => by
  obtain ⟨H, G, B, T, h⟩ := hR
  obtain ⟨-, ⟨e1, e2, -, -⟩, e3, e4, -⟩ := h.1
  unfold fX10_rule fX11_rule
  by_cases h0 : x = 0
  · exact ⟨nI H, by rw [if_pos h0, e3], by rw [if_neg (by simp [h0]), e1]⟩
  · by_cases h1 : x = 1
    · exact ⟨nI G, by rw [if_neg h0, if_pos h1, e4], by rw [if_pos h0, if_neg (by simp [h1]), e2]⟩
    · exact ⟨-1, by rw [if_neg h0, if_neg h1], by rw [if_pos h0, if_pos h1]⟩)
theorem sim_feuds (x : Int32) : Sim (fun σ => fX10_feuds σ x) (fun σ => fX11_feuds σ x) := Sim.ro (fun σ hR => by
  obtain ⟨H, G, B, T, h⟩ := hR
  obtain ⟨⟨b1, b2, b3, b4, b5⟩, ⟨e1, e2, -, -⟩, e3, e4, -⟩ := h.1
  unfold fX10_feuds fX11_feuds
  rcases ixc x H (by omega) with ⟨j, hj, rfl⟩ | hx
  · refine ⟨σ 38 j, ?_, ?_⟩
    · rw [hh_y e3 (by omega) hj]
      simp only [obp, ol]
      rw [if_neg (by decide), og_t (ix_ok (by omega) (by omega)), nI_clamp (by omega)]
    · rw [ih_y e1 (by omega) hj]
      simp only [obp, ol]
      rw [if_neg (by decide), show (60 : Int32) + nI j = nI (60 + j) from nI_add 60 j, og_t (ix_ok (by omega) (by omega)), nI_clamp (by omega)]
      have := h.2.1.2.2.1 j (by omega)
      rw [this, show 0 + 60 + j = 60 + j by omega]
  · refine ⟨-1, ?_, ?_⟩
    · rw [hh_n e3 (by omega) hx]; rfl
    · rw [ih_n e1 (by omega) hx]; rfl)
theorem of_l (σ : S0) {b w : Nat} (hb : b < 12) (hw : w < 5) {x : Int32} (hx : x = nI w) : fX11_of σ (nI b) x = some (σ 99 (5 * b + w), σ) := by rw [hx]; exact of_s σ b w hb hw
theorem x5 (b w : Nat) {x : Int32} (hx : x = nI w) : (5 : Int32) * nI b + x = nI (5 * b + w) := by
  rw [hx, show (5 : Int32) = nI 5 from rfl, pk_mul, nI_add]
theorem sim_bell (x y : Int32) : Sim (fun σ => fX10_bell σ x y) (fun σ => fX11_bell σ x y) := Sim.ro (fun σ hR => by
  obtain ⟨H, G, B, T, h⟩ := hR
  obtain ⟨⟨b1, b2, b3, b4, b5⟩, ⟨e1, e2, e5, -⟩, e3, e4, -⟩ := h.1
  have ek := h.2.1.1
  unfold fX10_bell fX11_bell
  rcases ixc x B (by omega) with ⟨j, hj, rfl⟩ | hx
  · rw [hb_y ek b4 hj, ib_y e5 b4 hj]
    obtain ⟨a0, a1, a2, a3, a4⟩ := h.2.1.2.1 j hj
    simp only [Nat.zero_add] at a0 a1 a2 a3 a4
    have hg := ix_ok (j := j) (n := 12) (by omega) (by omega)
    have hc : (nI j).toNatClampNeg = j := nI_clamp (by omega)
    have hg2 : ¬ (nI j < 0 ∨ 12 ≤ j) := fun q => hg (by rw [hc]; exact q)
    rcases ixc y 5 (by omega) with ⟨w, hw, rfl⟩ | hy
    · refine ⟨σ (33 + w) j, ?_, ?_⟩
      · simp only [obp, ol]
        rw [if_pos (by decide), if_neg (by rw [ir (by omega)]; omega)]
        simp only [og_t hg, og_t hg2, hc]
        rcases (show w = 0 ∨ w = 1 ∨ w = 2 ∨ w = 3 ∨ w = 4 by omega) with rfl | rfl | rfl | rfl | rfl <;> rfl
      · simp only [obp]
        rw [if_neg (by decide), in_i σ (nI w) 0 4 0 4 rfl rfl, ir (by omega), if_pos (by omega)]
        simp only [obp]
        rw [if_neg (by decide), of_s σ j w (by omega) hw]
        rcases (show w = 0 ∨ w = 1 ∨ w = 2 ∨ w = 3 ∨ w = 4 by omega) with rfl | rfl | rfl | rfl | rfl <;> simp [a0, a1, a2, a3, a4]
    · refine ⟨-1, ?_, ?_⟩
      · simp only [obp, ol]
        rw [if_pos (by decide), if_pos (by omega)]
      · simp only [obp]
        rw [if_neg (by decide), in_i σ y 0 4 0 4 rfl rfl, if_neg (by omega)]
        rfl
  · refine ⟨-1, ?_, ?_⟩
    · rw [hb_n ek b4 hx]; rfl
    · rw [ib_n e5 b4 hx]; rfl)
theorem isFee_y {σ : S0} {f : Nat} (h : f ≤ 20) : fX10_isFee σ (nI f) = some (1, σ) := by
  unfold fX10_isFee
  rw [if_neg (nI_pos (by omega)), if_neg (show ¬ ((20 : Int32) < nI f) from nI_nlt (a := 20) h (by omega))]
theorem isFee_n {σ : S0} {x : Int32} (h : x.toInt < 0 ∨ (21 : Int) ≤ x.toInt) : fX10_isFee σ x = some (0, σ) := by
  unfold fX10_isFee
  simp only [i3_lt]
  have e0 : (0 : Int32).toInt = 0 := rfl
  have e1 : (20 : Int32).toInt = 20 := rfl
  rw [e0, e1]
  by_cases h1 : x.toInt < 0
  · rw [if_pos h1]
  · rw [if_neg h1, if_pos (by omega)]
/-- how a call that writes a field of a bell goes, in the good case -/
theorem Sim.bell {o : Option (Int32 × S0)} (fm : S0 → Option (Int32 × S0)) {σ : S0} {H G B T j d : Nat} {v a : Int32} (h : Rall σ H G B T) (hj : j < B) (hd : d < 5) (hv : bOk H d v) (h1 : o = some (a, su σ (33 + d) j v)) (h2 : fm (su σ (33 + d) j v) = some (a, su (su σ (33 + d) j v) 99 (5 * j + d) v)) : An o (fun r τ => An (fm τ) (fun q ρ => r = q ∧ R ρ)) := ⟨a, _, h1, a, _, h2, rfl, H, G, B, T, R_bell h hj hd hv⟩
theorem Sim.same {o : Option (Int32 × S0)} (fm : S0 → Option (Int32 × S0)) {σ : S0} {a : Int32} (hR : R σ) (h1 : o = some (a, σ)) (h2 : fm σ = some (a, σ)) : An o (fun r τ => An (fm τ) (fun q ρ => r = q ∧ R ρ)) := ⟨a, σ, h1, a, σ, h2, rfl, hR⟩
theorem sim_fee (x y : Int32) : Sim (fun σ => fX10_fee σ x y) (fun σ => fX11_fee σ x y) := by
  intro σ hR
  show An (fX10_fee σ x y) (fun r τ => An (fX11_fee τ x y) (fun q ρ => r = q ∧ R ρ))
  obtain ⟨H, G, B, T, h⟩ := id hR
  obtain ⟨⟨b1, b2, b3, b4, b5⟩, ⟨e1, e2, e5, -⟩, e3, e4, -⟩ := h.1
  have ek := h.2.1.1
  rcases ixc x B (by omega) with ⟨j, hj, rfl⟩ | hx
  · obtain ⟨a0, a1, a2, a3, a4⟩ := h.2.1.2.1 j hj
    simp only [Nat.zero_add] at a0 a1 a2 a3 a4
    have hg := ix_ok (j := j) (n := 12) (by omega) (by omega)
    have hc : (nI j).toNatClampNeg = j := nI_clamp (by omega)
    have hg2 : ¬ (nI j < 0 ∨ 12 ≤ j) := fun q => hg (by rw [hc]; exact q)
    rcases ixc y 21 (by omega) with ⟨w, hw, rfl⟩ | hy
    · refine Sim.bell (fun τ => fX11_fee τ (nI j) (nI w)) (d := 1) (v := nI w) (a := σ 34 j) h hj (by omega) ⟨by omega, fun _ => ⟨w, by omega, rfl⟩, by omega, by omega, by omega⟩ ?_ ?_
      · unfold fX10_fee
        rw [hb_y ek b4 hj]
        simp only [obp, ol]
        rw [if_neg (by decide), isFee_y (by omega)]
        simp only [obp, ol, og_t hg, og_t hg2, hc]
        rw [if_pos (by decide)]
      · show fX11_fee _ _ _ = _
        unfold fX11_fee
        rw [ib_y (by rw [su_ne (by omega)]; exact e5) b4 hj]
        simp only [obp, ol]
        rw [if_neg (by decide), in_i _ (nI w) 0 20 0 20 rfl rfl, ir (by omega), if_pos (by omega)]
        simp only [obp, ol]
        rw [if_pos (by decide), of_l _ (b := j) (w := 1) (x := 1) (by omega) (by omega) rfl]
        simp only [obp, ol]
        rw [x5 j 1 (x := 1) rfl, og_t (ix_ok (by omega) (by omega)), nI_clamp (by omega), su_ne (by omega), a1]
    · refine Sim.same (fun τ => fX11_fee τ (nI j) y) (a := -1) hR ?_ ?_
      · unfold fX10_fee
        rw [hb_y ek b4 hj]
        simp only [obp]
        rw [if_neg (by decide), isFee_n (by omega)]
        rfl
      · show fX11_fee _ _ _ = _
        unfold fX11_fee
        rw [ib_y e5 b4 hj]
        simp only [obp]
        rw [if_neg (by decide), in_i _ y 0 20 0 20 rfl rfl, if_neg (by omega)]
        rfl
  · refine Sim.same (fun τ => fX11_fee τ x y) (a := -1) hR ?_ ?_
    · unfold fX10_fee; rw [hb_n ek b4 hx]; rfl
    · show fX11_fee _ _ _ = _
      unfold fX11_fee; rw [ib_n e5 b4 hx]; rfl
theorem sim_shut (x y : Int32) : Sim (fun σ => fX10_shut σ x y) (fun σ => fX11_shut σ x y) := by
  intro σ hR
  show An (fX10_shut σ x y) (fun r τ => An (fX11_shut τ x y) (fun q ρ => r = q ∧ R ρ))
  obtain ⟨H, G, B, T, h⟩ := id hR
  obtain ⟨⟨b1, b2, b3, b4, b5⟩, ⟨e1, e2, e5, -⟩, e3, e4, -⟩ := h.1
  have ek := h.2.1.1
  rcases ixc x B (by omega) with ⟨j, hj, rfl⟩ | hx
  · obtain ⟨a0, a1, a2, a3, a4⟩ := h.2.1.2.1 j hj
    simp only [Nat.zero_add] at a0 a1 a2 a3 a4
    have hg := ix_ok (j := j) (n := 12) (by omega) (by omega)
    have hc : (nI j).toNatClampNeg = j := nI_clamp (by omega)
    have hg2 : ¬ (nI j < 0 ∨ 12 ≤ j) := fun q => hg (by rw [hc]; exact q)
    have main : ∀ v : Int32, (v = 0 ∨ v = 1) → (y = 0 ∧ v = 0 ∨ ¬ y = 0 ∧ v = 1) → An (fX10_shut σ (nI j) y) (fun r τ => An (fX11_shut τ (nI j) y) (fun q ρ => r = q ∧ R ρ)) := fun v hv hy => by
      refine Sim.bell (fun τ => fX11_shut τ (nI j) y) (d := 3) (v := v) (a := σ 36 j) h hj (by omega) ⟨by omega, by omega, by omega, fun _ => hv, by omega⟩ ?_ ?_
      · show fX10_shut σ (nI j) y = _
        unfold fX10_shut
        rw [hb_y ek b4 hj]
        simp only [obp, ol, og_t hg, og_t hg2, hc]
        rw [if_pos (by decide)]
        rcases hy with ⟨hy, rfl⟩ | ⟨hy, rfl⟩
        · rw [if_pos hy]
          unfold fX10_shut_b40
          simp only [ol, og_t hg, og_t hg2, hc]
        · rw [if_neg hy]
          unfold fX10_shut_b40
          simp only [ol, og_t hg, og_t hg2, hc]
      · show fX11_shut _ (nI j) y = _
        unfold fX11_shut
        rw [ib_y (by rw [su_ne (by omega)]; exact e5) b4 hj]
        simp only [obp, ol]
        rw [if_pos (by decide), of_l _ (b := j) (w := 3) (x := 3) (by omega) (by omega) rfl]
        have hfl : ∀ τ : S0, fX11_flag τ y = some (v, τ) := fun τ => by
          unfold fX11_flag
          rcases hy with ⟨hy, rfl⟩ | ⟨hy, rfl⟩
          · rw [if_pos hy]
          · rw [if_neg hy]
        simp only [obp, ol, hfl]
        rw [x5 j 3 (x := 3) rfl, og_t (ix_ok (by omega) (by omega)), nI_clamp (by omega), su_ne (by omega), a3]
    by_cases hy : y = 0
    · exact main 0 (Or.inl rfl) (Or.inl ⟨hy, rfl⟩)
    · exact main 1 (Or.inr rfl) (Or.inr ⟨hy, rfl⟩)
  · refine Sim.same (fun τ => fX11_shut τ x y) (a := -1) hR ?_ ?_
    · unfold fX10_shut; rw [hb_n ek b4 hx]; rfl
    · show fX11_shut _ _ _ = _
      unfold fX11_shut; rw [ib_n e5 b4 hx]; rfl
end
section
theorem su_comm {σ : S0} {k j k2 j2 : Nat} {v v2 : Int32} (h : k ≠ k2) : su (su σ k j v) k2 j2 v2 = su (su σ k2 j2 v2) k j v := by
  funext x y
  simp only [su_at]
  by_cases h1 : x = k2
  · have h2 : ¬ x = k := by omega
    have h3 : ¬ k2 = k := by omega
    simp [h1, h3]
  · by_cases h2 : x = k
    · have h3 : ¬ k = k2 := h
      simp [h2, h3]
    · simp [h1, h2]
theorem su_id {σ : S0} {k j : Nat} {v : Int32} (h : σ k j = v) : su σ k j v = σ := by
  funext x y
  rw [su_at]
  by_cases h1 : x = k
  · rw [if_pos h1]
    by_cases h2 : y = j
    · rw [if_pos h2, ← h, h1, h2]
    · rw [if_neg h2, h1]
  · rw [if_neg h1]
theorem nI_ne {a b : Nat} (h : a ≠ b) (ha : a < 2 ^ 31) (hb : b < 2 ^ 31) : ¬ nI a = nI b := fun e => h ((nI_eq ha hb).mp e)
theorem nI_m4 {a : Nat} (ha : a < 2 ^ 31) : ¬ nI a = -4 := fun e => by
  have h1 := congrArg Int32.toInt e
  rw [ir ha] at h1
  have h2 : (-4 : Int32).toInt = -4 := rfl
  omega
/-- sell(), the good case: owner h, the half w -/
theorem R_sell {σ : S0} {H G B T : Nat} (h : Rall σ H G B T) {j w : Nat} (hj : j < B) (hw : w < H) {u : Int32} (hu : u = -4 ∨ ∃ h, h < H ∧ u = nI h) : Rall (su (su (su (su σ 33 j (nI w)) 37 j u) 99 (5 * j) (nI w)) 99 (5 * j + 4) u) H G B T := by
  have h1 := R_bell h (j := j) (d := 0) hj (by omega) (v := nI w) ⟨fun _ => ⟨w, hw, rfl⟩, by omega, by omega, by omega, by omega⟩
  have h2 := R_bell h1 (j := j) (d := 4) hj (by omega) (v := u) ⟨by omega, by omega, by omega, by omega, fun _ => hu⟩
  simp only [Nat.add_zero] at h2
  rw [su_comm (k := 37) (k2 := 99) (by omega)]
  exact h2
theorem sim_sell (x y : Int32) : Sim (fun σ => fX10_sell σ x y) (fun σ => fX11_sell σ x y) := by
  intro σ hR
  show An (fX10_sell σ x y) (fun r τ => An (fX11_sell τ x y) (fun q ρ => r = q ∧ R ρ))
  obtain ⟨H, G, B, T, h⟩ := id hR
  obtain ⟨⟨b1, b2, b3, b4, b5⟩, ⟨e1, e2, e5, -⟩, e3, e4, -⟩ := h.1
  have ek := h.2.1.1
  rcases ixc x B (by omega) with ⟨j, hj, rfl⟩ | hx
  · obtain ⟨a0, a1, a2, a3, a4⟩ := h.2.1.2.1 j hj
    obtain ⟨⟨w0, hw0, m0⟩, -, -, -, m4⟩ := h.2.2.1.2.1 j hj
    simp only [Nat.zero_add] at a0 a1 a2 a3 a4 m0 m4
    have hg := ix_ok (j := j) (n := 12) (by omega) (by omega)
    have hc : (nI j).toNatClampNeg = j := nI_clamp (by omega)
    have hg2 : ¬ (nI j < 0 ∨ 12 ≤ j) := fun q => hg (by rw [hc]; exact q)
    rcases ixc y H (by omega) with ⟨w, hw, rfl⟩ | hy
    · by_cases hs : σ 33 j = nI w
      · refine Sim.same (fun τ => fX11_sell τ (nI j) (nI w)) (a := -2) hR ?_ ?_
        · unfold fX10_sell
          rw [hb_y ek b4 hj]
          simp only [obp, ol]
          rw [if_neg (by decide), hh_y e3 (by omega) hw]
          simp only [obp, ol, og_t hg, og_t hg2, hc]
          rw [if_pos (by decide), if_neg (by simp [hs])]
        · show fX11_sell _ _ _ = _
          unfold fX11_sell
          rw [ib_y e5 b4 hj]
          simp only [obp, ol]
          rw [if_neg (by decide), ih_y e1 (by omega) hw]
          simp only [obp, ol]
          rw [if_pos (by decide), of_l _ (b := j) (w := 0) (x := 0) (by omega) (by omega) rfl]
          simp only [obp, ol, Nat.add_zero]
          rw [← a0, if_neg (by simp [hs])]
      · have main : ∀ u : Int32, (u = -4 ∨ ∃ h, h < H ∧ u = nI h) → (if σ 37 j = nI w then -4 else σ 37 j) = u → An (fX10_sell σ (nI j) (nI w)) (fun r τ => An (fX11_sell τ (nI j) (nI w)) (fun q ρ => r = q ∧ R ρ)) := fun u hu he => by
          refine ⟨σ 33 j, su (su σ 33 j (nI w)) 37 j u, ?_, σ 33 j, _, ?_, rfl, H, G, B, T, R_sell h hj hw hu⟩
          · unfold fX10_sell
            rw [hb_y ek b4 hj]
            simp only [obp, ol]
            rw [if_neg (by decide), hh_y e3 (by omega) hw]
            simp only [obp, ol, og_t hg, og_t hg2, hc]
            rw [if_pos (by decide), if_pos hs, su_ne (by omega)]
            by_cases h4 : σ 37 j = nI w
            · rw [if_pos h4] at he
              rw [if_neg (by simp [h4]), he]
            · rw [if_neg h4] at he
              rw [if_pos h4, su_id (k := 37) (by rw [su_ne (by omega)]; exact he)]
          · unfold fX11_sell
            have q98 : su (su σ 33 j (nI w)) 37 j u 98 = σ 98 := by rw [su_ne (by omega), su_ne (by omega)]
            have q99 : su (su σ 33 j (nI w)) 37 j u 99 = σ 99 := by rw [su_ne (by omega), su_ne (by omega)]
            generalize su (su σ 33 j (nI w)) 37 j u = τ at q98 q99
            rw [ib_y (by rw [q98]; exact e5) b4 hj]
            simp only [obp, ol]
            rw [if_neg (by decide), ih_y (by rw [q98]; exact e1) (by omega) hw]
            simp only [obp, ol]
            rw [if_pos (by decide), of_l _ (b := j) (w := 0) (x := 0) (by omega) (by omega) rfl]
            simp only [obp, ol, Nat.add_zero]
            rw [q99, ← a0, if_pos hs, x5 j 0 (x := 0) rfl, og_t (ix_ok (by omega) (by omega)), nI_clamp (by omega), Nat.add_zero, of_l _ (b := j) (w := 4) (x := 4) (by omega) (by omega) rfl]
            simp only [obp, ol]
            rw [su_j (by omega), q99, ← a4]
            by_cases h4 : σ 37 j = nI w
            · rw [if_pos h4] at he
              rw [if_neg (by simp [h4])]
              unfold fX11_sell_b74
              simp only [ol]
              rw [x5 j 4 (x := 4) rfl, og_t (ix_ok (by omega) (by omega)), nI_clamp (by omega), he]
            · rw [if_neg h4] at he
              rw [if_pos h4, of_l _ (b := j) (w := 4) (x := 4) (by omega) (by omega) rfl]
              simp only [obp, ol]
              unfold fX11_sell_b74
              simp only [ol]
              rw [x5 j 4 (x := 4) rfl, og_t (ix_ok (by omega) (by omega)), nI_clamp (by omega), su_j (by omega), q99, ← a4, he]
        by_cases h4 : σ 37 j = nI w
        · exact main (-4) (Or.inl rfl) (if_pos h4)
        · exact main (σ 37 j) (by rw [a4]; exact m4) (if_neg h4)
    · refine Sim.same (fun τ => fX11_sell τ (nI j) y) (a := -1) hR ?_ ?_
      · unfold fX10_sell
        rw [hb_y ek b4 hj]
        simp only [obp]
        rw [if_neg (by decide), hh_n e3 (by omega) hy]
        rfl
      · show fX11_sell _ _ _ = _
        unfold fX11_sell
        rw [ib_y e5 b4 hj]
        simp only [obp]
        rw [if_neg (by decide), ih_n e1 (by omega) hy]
        rfl
  · refine Sim.same (fun τ => fX11_sell τ x y) (a := -1) hR ?_ ?_
    · unfold fX10_sell; rw [hb_n ek b4 hx]; rfl
    · show fX11_sell _ _ _ = _
      unfold fX11_sell; rw [ib_n e5 b4 hx]; rfl
end
section
theorem sim_half (x y : Int32) : Sim (fun σ => fX10_half σ x y) (fun σ => fX11_half σ x y) := by
  intro σ hR
  show An (fX10_half σ x y) (fun r τ => An (fX11_half τ x y) (fun q ρ => r = q ∧ R ρ))
  obtain ⟨H, G, B, T, h⟩ := id hR
  obtain ⟨⟨b1, b2, b3, b4, b5⟩, ⟨e1, e2, e5, -⟩, e3, e4, -⟩ := h.1
  have ek := h.2.1.1
  rcases ixc x B (by omega) with ⟨j, hj, rfl⟩ | hx
  · obtain ⟨a0, a1, a2, a3, a4⟩ := h.2.1.2.1 j hj
    obtain ⟨⟨w0, hw0, m0⟩, -, -, -, m4⟩ := h.2.2.1.2.1 j hj
    simp only [Nat.zero_add] at a0 a1 a2 a3 a4 m0 m4
    have hg := ix_ok (j := j) (n := 12) (by omega) (by omega)
    have hc : (nI j).toNatClampNeg = j := nI_clamp (by omega)
    have hg2 : ¬ (nI j < 0 ∨ 12 ≤ j) := fun q => hg (by rw [hc]; exact q)
    have core : (y = -4 ∨ ∃ w, w < H ∧ y = nI w) → An (fX10_half_b30 σ (nI j) y) (fun r τ => An (fX11_half_b24 τ (nI j) y) (fun q ρ => r = q ∧ R ρ)) := fun hy => by
      by_cases hs : σ 33 j = y
      · refine Sim.same (fun τ => fX11_half_b24 τ (nI j) y) (a := -2) hR ?_ ?_
        · unfold fX10_half_b30
          simp only [ol, og_t hg, og_t hg2, hc]
          rw [if_neg (by simp [hs])]
        · show fX11_half_b24 _ _ _ = _
          unfold fX11_half_b24
          rw [of_l _ (b := j) (w := 0) (x := 0) (by omega) (by omega) rfl]
          simp only [obp, Nat.add_zero]
          have hs2 : σ 99 (5 * j) = y := a0.symm.trans hs
          rw [if_neg (by simp [hs2])]
      · refine Sim.bell (fun τ => fX11_half_b24 τ (nI j) y) (d := 4) (v := y) (a := σ 37 j) h hj (by omega) ⟨by omega, by omega, by omega, by omega, fun _ => hy⟩ ?_ ?_
        · unfold fX10_half_b30
          simp only [ol, og_t hg, og_t hg2, hc]
          rw [if_pos hs]
        · show fX11_half_b24 _ _ _ = _
          unfold fX11_half_b24
          rw [of_l _ (b := j) (w := 0) (x := 0) (by omega) (by omega) rfl]
          simp only [obp, Nat.add_zero]
          have hs2 : ¬ su σ (33 + 4) j y 99 (5 * j) = y := by rw [su_ne (by omega)]; exact fun q => hs (a0.trans q)
          rw [if_pos hs2, of_l _ (b := j) (w := 4) (x := 4) (by omega) (by omega) rfl]
          simp only [obp, ol]
          rw [x5 j 4 (x := 4) rfl, og_t (ix_ok (by omega) (by omega)), nI_clamp (by omega), su_ne (by omega), ← a4]
    have hX : ∀ τ : S0, τ 32 = σ 32 → τ 22 = σ 22 → fX10_half τ (nI j) y = if y = -4 ∨ (0 ≤ y.toInt ∧ y.toInt < (H : Int)) then fX10_half_b30 τ (nI j) y else some (-1, τ) := fun τ t1 t2 => by
      unfold fX10_half
      rw [hb_y (by rw [t1]; exact ek) b4 hj]
      simp only [obp]
      rw [if_neg (by decide)]
      by_cases h4 : y = -4
      · rw [if_pos h4, if_pos (Or.inl h4)]
      · rw [if_neg h4, hh_s, t2, e3, ir (by omega)]
        by_cases h5 : 0 ≤ y.toInt ∧ y.toInt < (H : Int)
        · simp [h5]
        · simp [h5, h4]
    have hM : ∀ τ : S0, τ 98 = σ 98 → fX11_half τ (nI j) y = if y = -4 ∨ (0 ≤ y.toInt ∧ y.toInt < (H : Int)) then fX11_half_b24 τ (nI j) y else some (-1, τ) := fun τ t1 => by
      unfold fX11_half
      rw [ib_y (by rw [t1]; exact e5) b4 hj]
      simp only [obp]
      rw [if_neg (by decide)]
      by_cases h4 : y = -4
      · rw [if_pos h4, if_pos (Or.inl h4)]
      · rw [if_neg h4, isR_s τ 2 fX11_isHouse (fun _ => rfl) _ (by rw [t1, e1, ir (by omega)]; omega), t1, e1, ir (by omega)]
        by_cases h5 : 0 ≤ y.toInt ∧ y.toInt < (H : Int)
        · simp [h5]
        · simp [h5, h4]
    by_cases hy : y = -4 ∨ (0 ≤ y.toInt ∧ y.toInt < (H : Int))
    · have hy2 : y = -4 ∨ ∃ w, w < H ∧ y = nI w := by
        rcases hy with q | q
        · exact Or.inl q
        · rcases ixc y H (by omega) with q2 | q2
          · exact Or.inr q2
          · omega
      obtain ⟨r, τ, g1, q, ρ, g2, g3⟩ := core hy2
      refine ⟨r, τ, by rw [hX σ rfl rfl, if_pos hy]; exact g1, q, ρ, ?_, g3⟩
      have ht : τ 98 = σ 98 := by
        by_cases hs : σ 33 j = y
        · have : fX10_half_b30 σ (nI j) y = some (-2, σ) := by
            unfold fX10_half_b30
            simp only [ol, og_t hg, og_t hg2, hc]
            rw [if_neg (by simp [hs])]
          rw [this] at g1
          rw [(os_e g1).2]
        · have : fX10_half_b30 σ (nI j) y = some (σ 37 j, su σ 37 j y) := by
            unfold fX10_half_b30
            simp only [ol, og_t hg, og_t hg2, hc]
            rw [if_pos hs]
          rw [this] at g1
          rw [(os_e g1).2, su_ne (by omega)]
      rw [hM τ ht, if_pos hy]
      exact g2
    · refine Sim.same (fun τ => fX11_half τ (nI j) y) (a := -1) hR ?_ ?_
      · rw [hX σ rfl rfl, if_neg hy]
      · show fX11_half _ _ _ = _
        rw [hM σ rfl, if_neg hy]
  · refine Sim.same (fun τ => fX11_half τ x y) (a := -1) hR ?_ ?_
    · unfold fX10_half; rw [hb_n ek b4 hx]; rfl
    · show fX11_half _ _ _ = _
      unfold fX11_half; rw [ib_n e5 b4 hx]; rfl
/-- what is heard is written on both sides: n strokes from now on, the last one v where there is one more -/
theorem R_heard {σ τ : S0} {H G B T n : Nat} (h : Rall σ H G B T) (hn : n ≤ 12) (t1 : ∀ x, x ≠ 32 → x ≠ 39 → x ≠ 99 → τ x = σ x) (t2 : ∀ i, i ≠ 7 → τ 32 i = σ 32 i) (t3 : τ 32 7 = nI n) (t4 : τ 99 66 = nI n) (t5 : ∀ i, i < 66 ∨ 79 ≤ i → τ 99 i = σ 99 i) (t6 : ∀ j, j < n → τ 39 j = τ 99 (67 + j) ∧ (τ 99 (67 + j) = -4 ∨ ∃ b, b < B ∧ τ 99 (67 + j) = nI b)) : Rall τ H G B T := by
  obtain ⟨hn0, hk, hm, ht, hi, hp, hs, hf, hq⟩ := h
  have hB := hn0.1.2.2.2.1
  have hT := hn0.1.2.2.2.2
  obtain ⟨k1, k2, k3, k4, k5⟩ := hk
  obtain ⟨-, m2, fo, f1, f2, f3, f4⟩ := hm
  have ta : ∀ x, x ≠ 32 → x ≠ 39 → x ≠ 99 → τ x = σ x := t1
  refine ⟨hn0.c (by rw [ta 98 (by omega) (by omega) (by omega)]) (by rw [ta 98 (by omega) (by omega) (by omega)]) (by rw [ta 98 (by omega) (by omega) (by omega)]) (by rw [ta 98 (by omega) (by omega) (by omega)]) (ta 22 (by omega) (by omega) (by omega)), ?_, ?_, ht.c (ta _ (by omega) (by omega) (by omega)) (ta _ (by omega) (by omega) (by omega)) (ta _ (by omega) (by omega) (by omega)) (fun t h => ta _ (by omega) (by omega) (by omega)), hi.c (ta _ (by omega) (by omega) (by omega)) (ta _ (by omega) (by omega) (by omega)) (fun x h1 h2 => ta _ (by omega) (by omega) (by omega)) (fun i h1 h2 => t5 i (by omega)) hB, hp.c (by rw [ta 1 (by omega) (by omega) (by omega)]) (by rw [ta 98 (by omega) (by omega) (by omega)]) (ta _ (by omega) (by omega) (by omega)) (ta _ (by omega) (by omega) (by omega)), hs.c (ta _ (by omega) (by omega) (by omega)) (ta _ (by omega) (by omega) (by omega)) (ta _ (by omega) (by omega) (by omega)) (fun x h1 h2 => ta _ (by omega) (by omega) (by omega)), by rw [ta 3 (by omega) (by omega) (by omega), ta 98 (by omega) (by omega) (by omega)]; exact hf, by rw [ta 0 (by omega) (by omega) (by omega), ta 98 (by omega) (by omega) (by omega)]; exact hq⟩
  · refine ⟨by rw [t2 0 (by omega)]; exact k1, fun b hb => ?_, fun x hx => ?_, ?_, fun i hi2 hl => ?_⟩
    · obtain ⟨a1, a2, a3, a4, a5⟩ := k2 b hb
      refine ⟨?_, ?_, ?_, ?_, ?_⟩ <;> rw [ta _ (by omega) (by omega) (by omega), t5 _ (by omega)] <;> assumption
    · rw [ta _ (by omega) (by omega) (by omega), t5 _ (by omega)]; exact k3 x hx
    · rw [t3]; exact t4.symm
    · rw [show 0 + 66 = 66 from rfl, t4] at hl
      have hin : i < n := (nI_ltI (by omega) (by omega)).mp hl
      rw [show 0 + 67 + i = 67 + i by omega]
      exact (t6 i hin).1
  · refine ⟨⟨n, hn, t4, fun j hj => by rw [show 0 + 67 + j = 67 + j by omega]; exact (t6 j hj).2⟩, fun b hb => ?_, fo, fun x hx => ⟨(f1 x hx).1, by rw [t5 _ (by omega)]; exact (f1 x hx).2⟩, f2, f3, f4⟩
    have := m2 b hb
    rw [t5 _ (by omega), t5 _ (by omega), t5 _ (by omega), t5 _ (by omega), t5 _ (by omega)]
    exact this
theorem c66 : ¬ (((66 : Int32)) < 0 ∨ 240 ≤ ((66 : Int32)).toNatClampNeg) := by decide
theorem v66 : ((66 : Int32)).toNatClampNeg = 66 := by decide
theorem sim_hush : Sim fX10_hush fX11_hush := by
  intro σ hR
  obtain ⟨H, G, B, T, h⟩ := id hR
  have e := h.2.1.2.2.2.1
  refine ⟨σ 32 7, su σ 32 7 0, rfl, σ 32 7, su (su σ 32 7 0) 99 66 0, ?_, rfl, H, G, B, T, R_heard (n := 0) h (by omega) (fun x h1 h2 h3 => by rw [su_ne h3, su_ne h1]) (fun i hi => by rw [su_ne (by omega), su_j hi]) (by rw [su_ne (by omega), su_s]; rfl) (by rw [su_s]; rfl) (fun i hi => by rw [su_j (by omega), su_ne (by omega)]) (fun j hj => absurd hj (by omega))⟩
  unfold fX11_hush
  simp only [og_t c66, ol]
  simp only [v66]
  rw [su_ne (by omega), e]
theorem cbh_s (σ : S0) (k : Nat) (x : Int32) {B : Nat} (e : σ k 0 = nI B) (hB : B ≤ 12) : fX1_canBeHeard σ k x = some (if x = -4 ∨ (0 ≤ x.toInt ∧ x.toInt < (B : Int)) then 1 else 0, σ) := by
  unfold fX1_canBeHeard fX1_canBeHeard_b14
  by_cases h : x = -4
  · simp [h]
  · rw [if_neg h, hasBell_s, e, ir (by omega)]
    by_cases h2 : 0 ≤ x.toInt ∧ x.toInt < (B : Int)
    · simp [obp, h2]
    · simp [obp, h2, h]
theorem addHeard_y (σ : S0) (k : Nat) (x : Int32) {n : Nat} (e : σ k 7 = nI n) (hn : n < 12) (hk : k ≠ k + 7) : fX1_addHeard σ k x = some (0, su (su σ (k + 7) n x) k 7 (nI (n + 1))) := by
  unfold fX1_addHeard
  rw [e, if_neg (show ¬ ((12 : Int32) ≤ nI n) from nI_ge (b := 12) hn (by omega))]
  simp only [ol]
  rw [og_t (ix_ok hn (by omega)), nI_clamp (by omega), su_ne hk, e, nI_1]
theorem hear_m (σ : S0) (x : Int32) {n : Nat} (e : σ 99 66 = nI n) (hn : n < 12) : fX11_hear_b16 σ x = some (nI (n + 1), su (su σ 99 (67 + n) x) 99 66 (nI (n + 1))) := by
  unfold fX11_hear_b16
  simp only [og_t c66, ol]
  simp only [v66]
  have h1 : ¬ σ 99 66 = 12 := by rw [e]; exact nI_ne (b := 12) (by omega) (by omega) (by omega)
  rw [if_pos h1]
  have e2 : (67 : Int32) + σ 99 66 = nI (67 + n) := by rw [e]; exact nI_add 67 n
  have hq : su σ 99 (67 + n) x 99 66 = nI n := by rw [su_j (by omega)]; exact e
  rw [e2, og_t (ix_ok (by omega) (by omega)), nI_clamp (by omega), su_s, hq, nI_1]
theorem hear_f (σ : S0) (x : Int32) (e : σ 99 66 = nI 12) : fX11_hear_b16 σ x = some (-3, σ) := by
  unfold fX11_hear_b16
  simp only [og_t c66, ol]
  simp only [v66]
  rw [if_neg (by rw [e]; decide)]
theorem sim_hear (x : Int32) : Sim (fun σ => fX10_hear σ x) (fun σ => fX11_hear σ x) := by
  intro σ hR
  show An (fX10_hear σ x) (fun r τ => An (fX11_hear τ x) (fun q ρ => r = q ∧ R ρ))
  obtain ⟨H, G, B, T, h⟩ := id hR
  obtain ⟨⟨b1, b2, b3, b4, b5⟩, ⟨e1, e2, e5, -⟩, e3, e4, -⟩ := h.1
  have ek := h.2.1.1
  obtain ⟨n, n1, n2, n3⟩ := h.2.2.1.1
  have eh : σ 32 7 = nI n := h.2.1.2.2.2.1.trans n2
  have n2 : σ 99 66 = nI n := n2
  by_cases hv : x = -4 ∨ (0 ≤ x.toInt ∧ x.toInt < (B : Int))
  · have hv2 : x = -4 ∨ ∃ b, b < B ∧ x = nI b := by
      rcases hv with q | q
      · exact Or.inl q
      · rcases ixc x B (by omega) with q2 | q2
        · exact Or.inr q2
        · omega
    have hm : ∀ τ : S0, τ 98 = σ 98 → fX11_hear τ x = fX11_hear_b16 τ x := fun τ t1 => by
      unfold fX11_hear
      by_cases h4 : x = -4
      · rw [if_pos h4]
      · rw [if_neg h4, isBell_s τ x (by rw [t1, e5, ir (by omega)]; omega), t1, e5, ir (by omega), if_pos (hv.resolve_left h4)]
        rfl
    by_cases hn : n < 12
    · refine ⟨nI (n + 1), su (su σ 39 n x) 32 7 (nI (n + 1)), ?_, nI (n + 1), su (su (su (su σ 39 n x) 32 7 (nI (n + 1))) 99 (67 + n) x) 99 66 (nI (n + 1)), ?_, rfl, H, G, B, T, ?_⟩
      · unfold fX10_hear
        rw [cbh_s σ 32 x ek b4, if_pos hv]
        simp only [obp]
        have hlt : σ 32 7 < 12 := by rw [eh]; exact nI_lt (b := 12) hn (by omega)
        rw [if_pos (by decide), if_pos hlt, addHeard_y σ 32 x eh hn (by omega)]
        simp only [obp]
        rw [su_s]
      · rw [hm _ (by rw [su_ne (by omega), su_ne (by omega)]), hear_m _ x (n := n) (by rw [su_ne (by omega), su_ne (by omega)]; exact n2) hn]
      · refine R_heard (n := n + 1) h (by omega) (fun y h1 h2 h3 => by rw [su_ne h3, su_ne h3, su_ne h1, su_ne h2]) (fun i hi => by rw [su_ne (by omega), su_ne (by omega), su_j hi, su_ne (by omega)]) (by rw [su_ne (by omega), su_ne (by omega), su_s]) su_s (fun i hi => by rw [su_j (by omega), su_j (by omega), su_ne (by omega), su_ne (by omega)]) (fun j hj => ?_)
        have g1 : ∀ i, i ≠ n → su (su (su (su σ 39 n x) 32 7 (nI (n + 1))) 99 (67 + n) x) 99 66 (nI (n + 1)) 39 i = σ 39 i := fun i hi => by rw [su_ne (by omega), su_ne (by omega), su_ne (by omega), su_j hi]
        by_cases hjn : j = n
        · subst hjn
          rw [su_j (by omega), su_s, su_ne (by omega), su_ne (by omega), su_ne (by omega), su_s]
          exact ⟨rfl, hv2⟩
        · rw [g1 j hjn, su_j (by omega), su_j (by omega), su_ne (by omega), su_ne (by omega)]
          have hl : nI j < σ 99 (0 + 66) := by show nI j < σ 99 66; rw [n2]; exact nI_lt (by omega) (by omega)
          have k5 := h.2.1.2.2.2.2 j (by omega) hl
          rw [show 0 + 67 + j = 67 + j by omega] at k5
          refine ⟨k5, ?_⟩
          have := n3 j (by omega)
          rw [show 0 + 67 + j = 67 + j by omega] at this
          exact this
    · have hn12 : n = 12 := by omega
      subst hn12
      refine Sim.same (fun τ => fX11_hear τ x) (a := -3) hR ?_ ?_
      · unfold fX10_hear
        rw [cbh_s σ 32 x ek b4, if_pos hv]
        simp only [obp]
        have hlt : ¬ σ 32 7 < 12 := by rw [eh]; decide
        rw [if_pos (by decide), if_neg hlt]
      · show fX11_hear _ _ = _
        rw [hm σ rfl, hear_f σ x n2]
  · refine Sim.same (fun τ => fX11_hear τ x) (a := -1) hR ?_ ?_
    · unfold fX10_hear
      rw [cbh_s σ 32 x ek b4, if_neg hv]
      rfl
    · show fX11_hear _ _ = _
      unfold fX11_hear
      rw [if_neg (fun q => hv (Or.inl q)), isBell_s σ x (by rw [e5, ir (by omega)]; omega), e5, ir (by omega), if_neg (fun q => hv (Or.inr q))]
      rfl
end
section
/-- the sheets alone have changed -/
theorem R_sh {σ τ : S0} {H G B T : Nat} (h : Rall σ H G B T) (hs2 : Rs τ) (ta : ∀ x, x < 90 ∨ (97 < x ∧ x < 108) → τ x = σ x) : Rall τ H G B T := by
  obtain ⟨hn, hk, hm, ht, hi, hp, -, hf, hq⟩ := h
  have hB := hn.1.2.2.2.1
  have hT := hn.1.2.2.2.2
  exact ⟨hn.c (by rw [ta 98 (by omega)]) (by rw [ta 98 (by omega)]) (by rw [ta 98 (by omega)]) (by rw [ta 98 (by omega)]) (ta 22 (by omega)), hk.c (fun d hd => ta _ (by omega)) (fun i h1 h2 => by rw [ta 99 (by omega)]) hB, hm.c (fun i h1 h2 => by rw [ta 99 (by omega)]) hB, ht.c (ta _ (by omega)) (ta _ (by omega)) (ta _ (by omega)) (fun t h => ta _ (by omega)), hi.c (ta _ (by omega)) (ta _ (by omega)) (fun x h1 h2 => ta _ (by omega)) (fun i h1 h2 => by rw [ta 99 (by omega)]) hB, hp.c (by rw [ta 1 (by omega)]) (by rw [ta 98 (by omega)]) (ta _ (by omega)) (ta _ (by omega)), hs2, by rw [ta 3 (by omega), ta 98 (by omega)]; exact hf, by rw [ta 0 (by omega), ta 98 (by omega)]; exact hq⟩
/-- the tape alone has changed -/
theorem R_tp {σ τ : S0} {H G B T : Nat} (h : Rall σ H G B T) (hp2 : Rp τ) (ta : ∀ x, x ≠ 1 → x ≠ 2 → x ≠ 98 → x ≠ 104 → τ x = σ x) (tb : ∀ i, i ≠ 17 → τ 98 i = σ 98 i) : Rall τ H G B T := by
  obtain ⟨hn, hk, hm, ht, hi, hp, hs, hf, hq⟩ := h
  have hB := hn.1.2.2.2.1
  have hT := hn.1.2.2.2.2
  exact ⟨hn.c (tb _ (by omega)) (tb _ (by omega)) (tb _ (by omega)) (tb _ (by omega)) (ta 22 (by omega) (by omega) (by omega) (by omega)), hk.c (fun d hd => ta _ (by omega) (by omega) (by omega) (by omega)) (fun i h1 h2 => by rw [ta 99 (by omega) (by omega) (by omega) (by omega)]) hB, hm.c (fun i h1 h2 => by rw [ta 99 (by omega) (by omega) (by omega) (by omega)]) hB, ht.c (ta _ (by omega) (by omega) (by omega) (by omega)) (ta _ (by omega) (by omega) (by omega) (by omega)) (ta _ (by omega) (by omega) (by omega) (by omega)) (fun t h => ta _ (by omega) (by omega) (by omega) (by omega)), hi.c (ta _ (by omega) (by omega) (by omega) (by omega)) (ta _ (by omega) (by omega) (by omega) (by omega)) (fun x h1 h2 => ta _ (by omega) (by omega) (by omega) (by omega)) (fun i h1 h2 => by rw [ta 99 (by omega) (by omega) (by omega) (by omega)]) hB, hp2, hs.c (ta _ (by omega) (by omega) (by omega) (by omega)) (ta _ (by omega) (by omega) (by omega) (by omega)) (ta _ (by omega) (by omega) (by omega) (by omega)) (fun x h1 h2 => ta _ (by omega) (by omega) (by omega) (by omega)), by rw [ta 3 (by omega) (by omega) (by omega) (by omega), tb _ (by omega)]; exact hf, by rw [ta 0 (by omega) (by omega) (by omega) (by omega), tb _ (by omega)]; exact hq⟩
theorem sim_end (x : Int32) : Sim (fun σ => fX10_end σ x) (fun σ => fX11_end σ x) := by
  intro σ hR
  show An (fX10_end σ x) (fun r τ => An (fX11_end τ x) (fun q ρ => r = q ∧ R ρ))
  obtain ⟨H, G, B, T, h⟩ := id hR
  obtain ⟨n, n1, p1, p2, p3⟩ := h.2.2.2.2.2.1
  rcases ixc x (n + 1) (by omega) with ⟨j, hj, rfl⟩ | hx
  · refine ⟨nI n, su σ 1 1 (nI j), ?_, nI n, su (su σ 1 1 (nI j)) 98 17 (nI j), ?_, rfl, H, G, B, T, R_tp h ⟨j, by omega, by rw [su_ne (by omega), su_s], su_s, fun i hi => ?_⟩ (fun y h1 h2 h3 h4 => by rw [su_ne h3, su_ne h1]) (fun i hi => by rw [su_j hi, su_ne (by omega)])⟩
    · unfold fX10_end
      have hle : nI j ≤ σ 1 1 := by rw [p1]; exact nI_le (by omega) (by omega)
      rw [if_neg (nI_pos (by omega)), if_pos hle]
      simp only [ol]
      rw [p1]
    · unfold fX11_end
      rw [in_i _ (nI j) 0 _ 0 (n : Int) rfl (by rw [Int32.toInt_toInt64, su_ne (by omega), p2, ir (by omega)]), ir (by omega), if_pos (by omega)]
      simp only [obp, ol]
      rw [if_pos (by decide), su_ne (by omega), p2]
    · rw [su_ne (by omega), su_ne (by omega), su_ne (by omega), su_ne (by omega)]
      exact p3 i (by omega)
  · refine Sim.same (fun τ => fX11_end τ x) (a := -1) hR ?_ ?_
    · unfold fX10_end
      simp only [i3_lt, i3_le, p1]
      rw [ir (by omega)]
      have e0 : (0 : Int32).toInt = 0 := rfl
      rw [e0]
      by_cases h1 : x.toInt < 0
      · rw [if_pos h1]
      · rw [if_neg h1, if_neg (by omega)]
    · show fX11_end _ _ = _
      unfold fX11_end
      rw [in_i _ x 0 _ 0 (n : Int) rfl (by rw [Int32.toInt_toInt64, p2, ir (by omega)]), if_neg (by omega)]
      rfl
def flld (σ : S0) (k i n : Nat) (v : Int32) : S0 := fun x y => if x = k ∧ i ≤ y ∧ y < n then v else σ x y
theorem flld_su (σ : S0) (k i n : Nat) (v : Int32) (h : i < n) : flld (su σ k i v) k (i + 1) n v = flld σ k i n v := by
  funext x y
  unfold flld
  rw [su_at]
  by_cases hx : x = k
  · subst hx
    by_cases hy : y = i
    · subst hy
      simp [h]
    · by_cases h2 : i + 1 ≤ y ∧ y < n
      · rw [if_pos ⟨rfl, h2⟩, if_pos ⟨rfl, by omega, h2.2⟩]
      · rw [if_neg (by omega), if_pos rfl, if_neg hy, if_neg (by omega)]
  · simp [hx]
theorem flld_ne {σ : S0} {k i n : Nat} {v : Int32} {x : Nat} (h : x ≠ k) : flld σ k i n v x = σ x := by
  funext y
  unfold flld
  rw [if_neg (fun q => h q.1)]
theorem flld_in {σ : S0} {k i n : Nat} {v : Int32} {y : Nat} (h1 : i ≤ y) (h2 : y < n) : flld σ k i n v k y = v := if_pos ⟨rfl, h1, h2⟩
theorem flld_out {σ : S0} {k i n : Nat} {v : Int32} {y : Nat} (h : ¬ (i ≤ y ∧ y < n)) : flld σ k i n v k y = σ k y := if_neg (fun q => h q.2)
theorem flld_0 (σ : S0) (k n : Nat) (v : Int32) : flld σ k n n v = σ := by
  funext x y
  unfold flld
  rw [if_neg (by omega)]
theorem fill_s (k n : Nat) (v : Int32) (hn : n < 2 ^ 31) : ∀ (d i m : Nat) (σ : S0), n - i = d → i ≤ n → d < m → fJ7_fill_53178_h5 m σ n k v (nI i) (nI n) = some (0, flld σ k i n v) := by
  intro d
  induction d with
  | zero =>
    intro i m σ h1 h2 h3
    obtain ⟨m, rfl⟩ : ∃ q, m = q + 1 := ⟨m - 1, by omega⟩
    have : i = n := by omega
    subst this
    show fJ7_fill_53178_b5 _ _ _ _ _ _ _ = _
    unfold fJ7_fill_53178_b5
    rw [if_pos (nI_le (Nat.le_refl _) hn), flld_0]
  | succ d ih =>
    intro i m σ h1 h2 h3
    obtain ⟨m, rfl⟩ : ∃ q, m = q + 1 := ⟨m - 1, by omega⟩
    show fJ7_fill_53178_b5 _ _ _ _ _ _ _ = _
    unfold fJ7_fill_53178_b5
    rw [if_neg (nI_ge (by omega) hn), og_t (ix_ok (by omega) hn)]
    simp only [ol]
    rw [nI_clamp (by omega), nI_1, ih (i + 1) m _ (by omega) (by omega) (by omega), flld_su σ k i n v (by omega)]
theorem fill_all (σ : S0) (k n : Nat) (v : Int32) (hn : n < 400) : fJ7_fill_53178 σ n k v = some (0, flld σ k 0 n v) := by
  unfold fJ7_fill_53178
  exact fill_s k n v (by omega) n 0 400 σ (by omega) (by omega) hn
/-- the reference's row of cells of a sheet, emptied -/
theorem sheetm_s (k : Nat) (hk : k < 4) : ∀ (d i m : Nat) (σ : S0), 40 - i = d → i ≤ 40 → d < m → fX11_sheet_h40 m σ (nI k) (nI i) = some (1, flld σ 110 (40 * k + i) (40 * k + 40) 0) := by
  intro d
  induction d with
  | zero =>
    intro i m σ h1 h2 h3
    obtain ⟨m, rfl⟩ : ∃ q, m = q + 1 := ⟨m - 1, by omega⟩
    have : i = 40 := by omega
    subst this
    show fX11_sheet_b40 _ _ _ _ = _
    unfold fX11_sheet_b40
    rw [if_pos (show (40 : Int32) ≤ nI 40 from by decide), flld_0]
  | succ d ih =>
    intro i m σ h1 h2 h3
    obtain ⟨m, rfl⟩ : ∃ q, m = q + 1 := ⟨m - 1, by omega⟩
    show fX11_sheet_b40 _ _ _ _ = _
    unfold fX11_sheet_b40
    rw [if_neg (show ¬ ((40 : Int32) ≤ nI i) from nI_ge (b := 40) (by omega) (by omega))]
    simp only [ol]
    have e : (40 : Int32) * nI k + nI i = nI (40 * k + i) := by rw [show (40 : Int32) = nI 40 from rfl, pk_mul, nI_add]
    rw [e, og_t (ix_ok (by omega) (by omega)), nI_clamp (by omega), nI_1, ih (i + 1) m _ (by omega) (by omega) (by omega), ← Nat.add_assoc, flld_su σ 110 (40 * k + i) (40 * k + 40) 0 (by omega)]
theorem xs_s (σ : S0) (x : Int32) : fX10_isSheet σ x = some (if 0 ≤ x.toInt ∧ x.toInt < 4 then 1 else 0, σ) := by
  unfold fX10_isSheet
  simp only [i3_lt, i3_le]
  have e0 : (0 : Int32).toInt = 0 := rfl
  have e4 : (4 : Int32).toInt = 4 := rfl
  rw [e0, e4]
  by_cases h1 : x.toInt < 0
  · rw [if_pos h1, if_neg (by omega)]
  · by_cases h2 : 4 ≤ x.toInt
    · rw [if_neg h1, if_pos h2, if_neg (by omega)]
    · rw [if_neg h1, if_neg h2, if_pos (by omega)]
theorem xl_s (σ : S0) (x : Int32) : fX10_isLane σ x = some (if 0 ≤ x.toInt ∧ x.toInt < 3 then 1 else 0, σ) := by
  unfold fX10_isLane
  simp only [i3_lt, i3_le]
  have e0 : (0 : Int32).toInt = 0 := rfl
  have e4 : (3 : Int32).toInt = 3 := rfl
  rw [e0, e4]
  by_cases h1 : x.toInt < 0
  · rw [if_pos h1, if_neg (by omega)]
  · by_cases h2 : 3 ≤ x.toInt
    · rw [if_neg h1, if_pos h2, if_neg (by omega)]
    · rw [if_neg h1, if_neg h2, if_pos (by omega)]
theorem xi_s (σ : S0) (x : Int32) : fX10_isImage σ x = some (if 0 ≤ x.toInt ∧ x.toInt < 2 then 1 else 0, σ) := by
  unfold fX10_isImage
  simp only [i3_lt, i3_le]
  have e0 : (0 : Int32).toInt = 0 := rfl
  have e4 : (2 : Int32).toInt = 2 := rfl
  rw [e0, e4]
  by_cases h1 : x.toInt < 0
  · rw [if_pos h1, if_neg (by omega)]
  · by_cases h2 : 2 ≤ x.toInt
    · rw [if_neg h1, if_pos h2, if_neg (by omega)]
    · rw [if_neg h1, if_neg h2, if_pos (by omega)]
theorem ms_s (σ : S0) (x y : Int32) : fX11_isSheet σ x y = some (if (0 ≤ x.toInt ∧ x.toInt < 4) ∧ (0 ≤ y.toInt ∧ y.toInt < 3) then 1 else 0, σ) := by
  unfold fX11_isSheet
  rw [in_i σ x 0 3 0 3 rfl rfl]
  by_cases h1 : 0 ≤ x.toInt ∧ x.toInt < 4
  · rw [if_pos (by omega)]
    simp only [obp]
    rw [if_neg (by decide), in_i σ y 0 2 0 2 rfl rfl]
    by_cases h2 : 0 ≤ y.toInt ∧ y.toInt < 3
    · rw [if_pos (by omega), if_pos ⟨h1, h2⟩]; rfl
    · rw [if_neg (by omega), if_neg (by omega)]; rfl
  · rw [if_neg (by omega), if_neg (by omega)]; rfl
theorem sim_sheet (x y w : Int32) : Sim (fun σ => fX10_sheet σ x y w) (fun σ => fX11_sheet σ x y w) := by
  intro σ hR
  show An (fX10_sheet σ x y w) (fun r τ => An (fX11_sheet τ x y w) (fun q ρ => r = q ∧ R ρ))
  obtain ⟨H, G, B, T, h⟩ := id hR
  by_cases hv : (0 ≤ x.toInt ∧ x.toInt < 4) ∧ (0 ≤ y.toInt ∧ y.toInt < 3)
  · obtain ⟨k, hk, rfl⟩ : ∃ j, j < 4 ∧ x = nI j := by
      rcases ixc x 4 (by omega) with q | q
      · exact q
      · omega
    obtain ⟨l, hl, rfl⟩ : ∃ j, j < 3 ∧ y = nI j := by
      rcases ixc y 3 (by omega) with q | q
      · exact q
      · omega
    have hg := ix_ok (j := k) (n := 4) (by omega) (by omega)
    have hc : (nI k).toNatClampNeg = k := nI_clamp (by omega)
    have hX : fX10_sheet σ (nI k) (nI l) w = if w ≤ 40 then (if 0 ≤ w then obp (fX7_renew σ (90 + 2 * k) (nI l) w) (fun r13 σ14 => some (1, σ14)) else some (-14, σ)) else some (-1, σ) := by
      unfold fX10_sheet
      rw [xs_s, if_pos hv.1]
      simp only [obp]
      rw [if_neg (by decide), xl_s, if_pos hv.2]
      simp only [obp, ol, og_t hg]
      rw [if_neg (by decide), hc]
    have hM : ∀ τ : S0, fX11_sheet τ (nI k) (nI l) w = if w ≤ 40 then (if 0 ≤ w then fX11_sheet_h40 400 (su (su τ 108 k (nI l)) 109 k w) (nI k) 0 else some (-14, τ)) else some (-1, τ) := fun τ => by
      unfold fX11_sheet
      rw [ms_s, if_pos hv]
      simp only [obp, ol, og_t hg]
      rw [if_neg (by decide), hc]
    by_cases h40 : w ≤ 40
    · by_cases h00 : 0 ≤ w
      · obtain ⟨n, hn, rfl⟩ : ∃ j, j < 41 ∧ w = nI j := by
          rcases ixc w 41 (by omega) with q | q
          · exact q
          · have a1 := (i3_le _ _).mp h40
            have a2 := (i3_le _ _).mp h00
            have e0 : (0 : Int32).toInt = 0 := rfl
            have e4 : (40 : Int32).toInt = 40 := rfl
            omega
        have r1 : fX7_renew σ (90 + 2 * k) (nI l) (nI n) = some (0, flld (su (su σ (90 + 2 * k) 0 (nI l)) (90 + 2 * k) 1 (nI n)) (90 + 2 * k + 1) 0 40 0) := by
          unfold fX7_renew
          simp only [ol]
          rw [fill_all _ _ _ _ (by omega)]
          rfl
        refine ⟨1, flld (su (su σ (90 + 2 * k) 0 (nI l)) (90 + 2 * k) 1 (nI n)) (90 + 2 * k + 1) 0 40 0, by rw [hX, if_pos h40, if_pos h00, r1]; rfl, 1, _, by rw [hM, if_pos h40, if_pos h00]; exact sheetm_s k hk 40 0 400 _ (by omega) (by omega) (by omega), rfl, H, G, B, T, ?_⟩
        refine R_sh h ?_ (fun z hz => ?_)
        · intro i hi
          have hs := h.2.2.2.2.2.2.1 i hi
          by_cases hik : i = k
          · subst hik
            refine ⟨Or.inr ⟨l, n, hl, by omega, ?_, ?_, ?_, ?_⟩, fun j hj => ?_⟩
            · rw [flld_ne (by omega), su_ne (by omega), su_s]
            · rw [flld_ne (by omega), su_ne (by omega), su_ne (by omega), flld_ne (by omega), su_j (by omega), su_s]
            · rw [flld_ne (by omega), su_s]
            · rw [flld_ne (by omega), su_ne (by omega), su_ne (by omega), flld_ne (by omega), su_s]
            · rw [flld_in (by omega) (by omega), flld_ne (by omega), su_ne (by omega), su_ne (by omega), show 91 + 2 * i = 90 + 2 * i + 1 by omega, flld_in (by omega) hj]
          · rw [show ∀ (τ : S0), flld (su (su τ 108 k (nI l)) 109 k (nI n)) 110 (40 * k + 0) (40 * k + 40) 0 (90 + 2 * i) = τ (90 + 2 * i) from fun τ => by rw [flld_ne (by omega), su_ne (by omega), su_ne (by omega)], show ∀ (τ : S0), flld (su (su τ 108 k (nI l)) 109 k (nI n)) 110 (40 * k + 0) (40 * k + 40) 0 (91 + 2 * i) = τ (91 + 2 * i) from fun τ => by rw [flld_ne (by omega), su_ne (by omega), su_ne (by omega)], show ∀ (τ : S0), flld (su (su τ 108 k (nI l)) 109 k (nI n)) 110 (40 * k + 0) (40 * k + 40) 0 108 i = τ 108 i from fun τ => by rw [flld_ne (by omega), su_ne (by omega), su_j hik], show ∀ (τ : S0), flld (su (su τ 108 k (nI l)) 109 k (nI n)) 110 (40 * k + 0) (40 * k + 40) 0 109 i = τ 109 i from fun τ => by rw [flld_ne (by omega), su_j hik, su_ne (by omega)]]
            rw [flld_ne (x := 90 + 2 * i) (by omega), su_ne (x := 90 + 2 * i) (by omega), su_ne (x := 90 + 2 * i) (by omega), flld_ne (x := 91 + 2 * i) (by omega), su_ne (x := 91 + 2 * i) (by omega), su_ne (x := 91 + 2 * i) (by omega), flld_ne (x := 108) (by omega), su_ne (x := 108) (by omega), su_ne (x := 108) (by omega), flld_ne (x := 109) (by omega), su_ne (x := 109) (by omega), su_ne (x := 109) (by omega)]
            refine ⟨hs.1, fun j hj => ?_⟩
            rw [flld_out (by omega), su_ne (by omega), su_ne (by omega), flld_ne (by omega), su_ne (by omega), su_ne (by omega)]
            exact hs.2 j hj
        · rw [flld_ne (by omega), su_ne (by omega), su_ne (by omega), flld_ne (by omega), su_ne (by omega), su_ne (by omega)]
      · refine Sim.same (fun τ => fX11_sheet τ (nI k) (nI l) w) (a := -14) hR (by rw [hX, if_pos h40, if_neg h00]) ?_
        show fX11_sheet _ _ _ _ = _
        rw [hM, if_pos h40, if_neg h00]
    · refine Sim.same (fun τ => fX11_sheet τ (nI k) (nI l) w) (a := -1) hR (by rw [hX, if_neg h40]) ?_
      show fX11_sheet _ _ _ _ = _
      rw [hM, if_neg h40]
  · refine Sim.same (fun τ => fX11_sheet τ x y w) (a := -1) hR ?_ ?_
    · unfold fX10_sheet
      rw [xs_s]
      by_cases h1 : 0 ≤ x.toInt ∧ x.toInt < 4
      · rw [if_pos h1]
        simp only [obp]
        rw [if_neg (by decide), xl_s, if_neg (by omega)]
        rfl
      · rw [if_neg h1]
        rfl
    · show fX11_sheet _ _ _ _ = _
      unfold fX11_sheet
      rw [ms_s, if_neg hv]
      rfl
end
