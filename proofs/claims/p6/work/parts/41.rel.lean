/-! THE RELATION of class cells and reference cells in one state -/
def Rk (σ : S0) (k c o B : Nat) : Prop := σ k 0 = nI B ∧ (∀ b, b < B → σ (k + 1) b = σ c (o + 5 * b) ∧ σ (k + 2) b = σ c (o + 5 * b + 1) ∧ σ (k + 3) b = σ c (o + 5 * b + 2) ∧ σ (k + 4) b = σ c (o + 5 * b + 3) ∧ σ (k + 5) b = σ c (o + 5 * b + 4)) ∧ (∀ h, h < 6 → σ (k + 6) h = σ c (o + 60 + h)) ∧ σ k 7 = σ c (o + 66) ∧ ∀ j, j < 12 → nI j < σ c (o + 66) → σ (k + 7) j = σ c (o + 67 + j)
def Mk (σ : S0) (c o H B : Nat) : Prop := (∃ n, n ≤ 12 ∧ σ c (o + 66) = nI n ∧ ∀ j, j < n → (σ c (o + 67 + j) = -4 ∨ ∃ b, b < B ∧ σ c (o + 67 + j) = nI b)) ∧
  (∀ b, b < B → (∃ w, w < H ∧ σ c (o + 5 * b) = nI w) ∧ (∃ f, f ≤ 20 ∧ σ c (o + 5 * b + 1) = nI f) ∧ (∃ f, f ≤ 9 ∧ σ c (o + 5 * b + 2) = nI f) ∧ (σ c (o + 5 * b + 3) = 0 ∨ σ c (o + 5 * b + 3) = 1) ∧ (σ c (o + 5 * b + 4) = -4 ∨ ∃ h, h < H ∧ σ c (o + 5 * b + 4) = nI h)) ∧
  ∃ fo : Nat → Nat, (∀ h, h < 6 → fo h < 2 ^ H ∧ σ c (o + 60 + h) = nI (fo h)) ∧ (∀ a b, a < 6 → b < 6 → (fo a).testBit b = (fo b).testBit a) ∧ (∀ a, a < 6 → (fo a).testBit a = false) ∧ ∀ a, H ≤ a → a < 6 → fo a = 0
def Rt (σ : S0) (T B : Nat) : Prop := ∀ t, t < T → ∃ n, 1 ≤ n ∧ n ≤ 12 ∧ σ 101 (14 * t + 1) = nI n ∧ σ 24 t = nI n ∧ σ 23 t = σ 101 (14 * t) ∧ (∃ w, w ≤ 99 ∧ σ 101 (14 * t) = nI w) ∧ ∀ i, i < n → ∃ b, b < B ∧ σ 101 (14 * t + 2 + i) = nI b ∧ σ (26 + t) i = nI b
def Ri (σ : S0) (H B : Nat) : Prop := ∀ k, k < 2 → (σ 100 k = 0 ∧ σ 72 k = 0) ∨ (σ 100 k = 1 ∧ σ 72 k = 1 ∧ Rk σ (74 + 8 * k) 99 (80 * (k + 1)) B ∧ Mk σ 99 (80 * (k + 1)) H B)
def Rp (σ : S0) : Prop := ∃ n, n ≤ 320 ∧ σ 1 1 = nI n ∧ σ 98 17 = nI n ∧ ∀ j, j < n → ∃ x, x < 256 ∧ σ 104 j = nI x ∧ σ 2 j = (nI x).toInt8.toInt32
def Rs (σ : S0) : Prop := ∀ k, k < 4 → ((σ 108 k = -4 ∧ σ (90 + 2 * k) 0 = -1) ∨ ∃ l n, l < 3 ∧ n ≤ 40 ∧ σ 108 k = nI l ∧ σ (90 + 2 * k) 0 = nI l ∧ σ 109 k = nI n ∧ σ (90 + 2 * k) 1 = nI n) ∧ ∀ j, j < 40 → σ (91 + 2 * k) j = σ 110 (40 * k + j)
/-- faults: both none or both some -/
def fr (x y : Int32) : Prop := x = 0 ↔ y = 0
def Rn (σ : S0) (H G B T : Nat) : Prop := (1 ≤ H ∧ H ≤ 6 ∧ G ≤ 9 ∧ B ≤ 12 ∧ T ≤ 6) ∧ (σ 98 2 = nI H ∧ σ 98 3 = nI G ∧ σ 98 4 = nI B ∧ σ 98 5 = nI T) ∧ σ 22 0 = nI H ∧ σ 22 1 = nI G ∧ σ 22 2 = nI T
def Rall (σ : S0) (H G B T : Nat) : Prop := Rn σ H G B T ∧ Rk σ 32 99 0 B ∧ Mk σ 99 0 H B ∧ Rt σ T B ∧ Ri σ H B ∧ Rp σ ∧ Rs σ ∧ fr (σ 3 5) (σ 98 22) ∧ σ 0 12 = σ 98 39
def R (σ : S0) : Prop := ∃ H G B T, Rall σ H G B T
/-- cells that the relation speaks of -/
def rel (k j : Nat) : Bool := decide ((k = 0 ∧ j = 12) ∨ (k = 1 ∧ j = 1) ∨ k = 2 ∨ (k = 3 ∧ j = 5) ∨ k = 22 ∨ k = 23 ∨ k = 24 ∨ (26 ≤ k ∧ k ≤ 39) ∨ k = 72 ∨ (74 ≤ k ∧ k ≤ 97) ∨ (k = 98 ∧ (j = 2 ∨ j = 3 ∨ j = 4 ∨ j = 5 ∨ j = 17 ∨ j = 22 ∨ j = 39)) ∨ (99 ≤ k ∧ k ≤ 101) ∨ k = 104 ∨ (108 ≤ k ∧ k ≤ 110))
def eqv (σ τ : S0) : Prop := ∀ k j, rel k j = true → τ k j = σ k j
theorem eqv.rf (σ : S0) : eqv σ σ := fun _ _ _ => rfl
theorem eqv.tr {a b c : S0} (h1 : eqv a b) (h2 : eqv b c) : eqv a c := fun k j h => (h2 k j h).trans (h1 k j h)
theorem eqv.su {a b : S0} (h : eqv a b) {k j : Nat} (hr : rel k j = false) (v : Int32) : eqv a (su b k j v) := fun x y hx => by
  rw [su_at]
  by_cases e : x = k
  · rw [if_pos e]
    by_cases e2 : y = j
    · subst e; subst e2
      rw [hr] at hx; cases hx
    · rw [if_neg e2]; subst e; exact h x y hx
  · rw [if_neg e]; exact h x y hx
/-- a whole cell that is none of the relation's -/
theorem eqv.up {a b : S0} (h : eqv a b) {k : Nat} (hr : ∀ j, rel k j = false) (f : Nat → Int32) : eqv a (va_up b k f) := fun x y hx => by
  unfold va_up
  by_cases e : x = k
  · subst e; rw [hr y] at hx; cases hx
  · rw [if_neg e]; exact h x y hx
theorem Rk.cg {σ τ : S0} {k c o B : Nat} (e : eqv σ τ) (h : Rk σ k c o B) (hk : 26 ≤ k ∧ k + 7 ≤ 39 ∨ 74 ≤ k ∧ k + 7 ≤ 97) (hc : c = 99) : Rk τ k c o B := by
  have e1 : ∀ d j, d ≤ 7 → τ (k + d) j = σ (k + d) j := fun d j hd => e _ _ (by unfold rel; exact decide_eq_true (by omega))
  have e2 : ∀ j, τ c j = σ c j := fun j => e _ _ (by unfold rel; exact decide_eq_true (by omega))
  obtain ⟨h1, h2, h3, h4, h5⟩ := h
  refine ⟨(e1 0 0 (by omega)).trans h1, fun b hb => ?_, fun x hx => ?_, ?_, fun j hj hl => ?_⟩
  · obtain ⟨a1, a2, a3, a4, a5⟩ := h2 b hb
    refine ⟨?_, ?_, ?_, ?_, ?_⟩ <;> rw [e1 _ _ (by omega), e2] <;> assumption
  · rw [e1 6 x (by omega), e2]; exact h3 x hx
  · rw [show τ k 7 = σ k 7 from e1 0 7 (by omega), e2]; exact h4
  · rw [e2] at hl
    rw [e1 7 j (by omega), e2]; exact h5 j hj hl
theorem Mk.cg {σ τ : S0} {c o H B : Nat} (e : eqv σ τ) (h : Mk σ c o H B) (hc : c = 99) : Mk τ c o H B := by
  have e2 : ∀ j, τ c j = σ c j := fun j => e _ _ (by unfold rel; exact decide_eq_true (by omega))
  unfold Mk at h ⊢
  simp only [e2]
  exact h
theorem Rall.cg {σ τ : S0} {H G B T : Nat} (e : eqv σ τ) (h : Rall σ H G B T) : Rall τ H G B T := by
  obtain ⟨hn, hk, hm, ht, hi, hp, hs, hf, hq⟩ := h
  refine ⟨?_, hk.cg e (Or.inl ⟨by omega, by omega⟩) rfl, hm.cg e rfl, ?_, ?_, ?_, ?_, ?_, ?_⟩
  · unfold Rn at hn ⊢
    rw [e 98 2 rfl, e 98 3 rfl, e 98 4 rfl, e 98 5 rfl, e 22 0 rfl, e 22 1 rfl, e 22 2 rfl]
    exact hn
  · intro t htT
    obtain ⟨n, a1, a2, a3, a4, a5, a6, a7⟩ := ht t htT
    refine ⟨n, a1, a2, (e 101 _ rfl).trans a3, (e 24 _ rfl).trans a4, ?_, ?_, fun i hi => ?_⟩
    · rw [e 23 t rfl, e 101 _ rfl]; exact a5
    · rw [e 101 _ rfl]; exact a6
    · obtain ⟨b, b1, b2, b3⟩ := a7 i hi
      refine ⟨b, b1, (e 101 _ rfl).trans b2, (e (26 + t) i ?_).trans b3⟩
      unfold rel
      by_cases h : t ≤ 13
      · exact decide_eq_true (by omega)
      · have := hn.1.2.2.2.2
        omega
  · intro k hk2
    rcases hi k hk2 with ⟨a1, a2⟩ | ⟨a1, a2, a3, a4⟩
    · exact Or.inl ⟨(e 100 k rfl).trans a1, (e 72 k rfl).trans a2⟩
    · exact Or.inr ⟨(e 100 k rfl).trans a1, (e 72 k rfl).trans a2, a3.cg e (Or.inr ⟨by omega, by omega⟩) rfl, a4.cg e rfl⟩
  · obtain ⟨n, a1, a2, a3, a4⟩ := hp
    refine ⟨n, a1, (e 1 1 rfl).trans a2, (e 98 17 rfl).trans a3, fun j hj => ?_⟩
    obtain ⟨x, b1, b2, b3⟩ := a4 j hj
    exact ⟨x, b1, (e 104 j rfl).trans b2, (e 2 j rfl).trans b3⟩
  · intro k hk4
    have r90 : ∀ j, τ (90 + 2 * k) j = σ (90 + 2 * k) j := fun j => e _ _ (by unfold rel; exact decide_eq_true (by omega))
    have r91 : ∀ j, τ (91 + 2 * k) j = σ (91 + 2 * k) j := fun j => e _ _ (by unfold rel; exact decide_eq_true (by omega))
    have := hs k hk4
    simp only [r90, r91, e 108 k rfl, e 109 k rfl]
    refine ⟨this.1, fun j hj => ?_⟩
    rw [e 110 _ rfl]
    exact this.2 j hj
  · rw [e 3 5 rfl, e 98 22 rfl]; exact hf
  · rw [e 0 12 rfl, e 98 39 rfl]; exact hq
theorem R.cg {σ τ : S0} (e : eqv σ τ) (h : R σ) : R τ := by
  obtain ⟨H, G, B, T, h⟩ := h
  exact ⟨H, G, B, T, h.cg e⟩
/-- one call on both sides: both answer alike, the relation holds again -/
def Sim (fx fm : S0 → Option (Int32 × S0)) : Prop := ∀ σ, R σ → An (fx σ) (fun r τ => An (fm τ) (fun q ρ => r = q ∧ R ρ))
