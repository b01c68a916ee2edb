theorem su_ne {σ : S0} {k j : Nat} {v : Int32} {x : Nat} (h : x ≠ k) : su σ k j v x = σ x := by
  unfold su va_up
  rw [if_neg h]
theorem su_j {σ : S0} {k j : Nat} {v : Int32} {y : Nat} (h : y ≠ j) : su σ k j v k y = σ k y := by
  rw [su_at, if_pos rfl, if_neg h]
theorem su_s {σ : S0} {k j : Nat} {v : Int32} : su σ k j v k j = v := by
  rw [su_at, if_pos rfl, if_pos rfl]
theorem og_t {α : Type} {c : Prop} [Decidable c] {k : Option α} (h : c) : og c k = k := if_pos h
theorem ix_ok {j n : Nat} (h : j < n) (hn : n < 2 ^ 31) : ¬ (nI j < 0 ∨ n ≤ (nI j).toNatClampNeg) := nI_in h hn
theorem Rk.c {σ τ : S0} {k c o B : Nat} (h : Rk σ k c o B) (hk : ∀ d, d ≤ 7 → τ (k + d) = σ (k + d)) (hc : ∀ i, o ≤ i → i < o + 80 → τ c i = σ c i) (hB : B ≤ 12) : Rk τ k c o B := by
  obtain ⟨h1, h2, h3, h4, h5⟩ := h
  have e0 : τ k = σ k := hk 0 (by omega)
  refine ⟨by rw [e0]; exact h1, fun b hb => ?_, fun x hx => ?_, ?_, fun j hj hl => ?_⟩
  · obtain ⟨a1, a2, a3, a4, a5⟩ := h2 b hb
    refine ⟨?_, ?_, ?_, ?_, ?_⟩ <;> rw [hk _ (by omega), hc _ (by omega) (by omega)] <;> assumption
  · rw [hk 6 (by omega), hc _ (by omega) (by omega)]; exact h3 x hx
  · rw [e0, hc _ (by omega) (by omega)]; exact h4
  · rw [hc _ (by omega) (by omega)] at hl
    rw [hk 7 (by omega), hc _ (by omega) (by omega)]; exact h5 j hj hl
theorem Mk.c {σ τ : S0} {c o H B : Nat} (h : Mk σ c o H B) (hc : ∀ i, o ≤ i → i < o + 80 → τ c i = σ c i) (hB : B ≤ 12) : Mk τ c o H B := by
  obtain ⟨⟨n, n1, n2, n3⟩, h2, fo, f1, f2, f3, f4⟩ := h
  refine ⟨⟨n, n1, by rw [hc _ (by omega) (by omega)]; exact n2, fun j hj => ?_⟩, fun b hb => ?_, fo, fun x hx => ⟨(f1 x hx).1, by rw [hc _ (by omega) (by omega)]; exact (f1 x hx).2⟩, f2, f3, f4⟩
  · rw [hc _ (by omega) (by omega)]; exact n3 j hj
  · have := h2 b hb
    rw [hc _ (by omega) (by omega), hc _ (by omega) (by omega), hc _ (by omega) (by omega), hc _ (by omega) (by omega), hc _ (by omega) (by omega)]
    exact this
theorem Rt.c {σ τ : S0} {T B : Nat} (h : Rt σ T B) (h1 : τ 101 = σ 101) (h2 : τ 24 = σ 24) (h3 : τ 23 = σ 23) (h4 : ∀ t, t < T → τ (26 + t) = σ (26 + t)) : Rt τ T B := by
  intro t ht
  rw [h1, h2, h3, h4 t ht]
  exact h t ht
theorem Ri.c {σ τ : S0} {H B : Nat} (h : Ri σ H B) (h1 : τ 100 = σ 100) (h2 : τ 72 = σ 72) (h3 : ∀ d, 74 ≤ d → d ≤ 89 → τ d = σ d) (h4 : ∀ i, 80 ≤ i → i < 240 → τ 99 i = σ 99 i) (hB : B ≤ 12) : Ri τ H B := by
  intro k hk
  rw [h1, h2]
  rcases h k hk with a | ⟨a1, a2, a3, a4⟩
  · exact Or.inl a
  · exact Or.inr ⟨a1, a2, a3.c (fun d hd => h3 _ (by omega) (by omega)) (fun i h5 h6 => h4 i (by omega) (by omega)) hB, a4.c (fun i h5 h6 => h4 i (by omega) (by omega)) hB⟩
theorem Rp.c {σ τ : S0} (h : Rp σ) (h1 : τ 1 1 = σ 1 1) (h2 : τ 98 17 = σ 98 17) (h3 : τ 104 = σ 104) (h4 : τ 2 = σ 2) : Rp τ := by
  unfold Rp
  rw [h1, h2, h3, h4]
  exact h
theorem Rs.c {σ τ : S0} (h : Rs σ) (h1 : τ 108 = σ 108) (h2 : τ 109 = σ 109) (h3 : τ 110 = σ 110) (h4 : ∀ d, 90 ≤ d → d ≤ 97 → τ d = σ d) : Rs τ := by
  intro k hk
  rw [h1, h2, h3, h4 (90 + 2 * k) (by omega) (by omega), h4 (91 + 2 * k) (by omega) (by omega)]
  exact h k hk
theorem Rn.c {σ τ : S0} {H G B T : Nat} (h : Rn σ H G B T) (h1 : τ 98 2 = σ 98 2) (h2 : τ 98 3 = σ 98 3) (h3 : τ 98 4 = σ 98 4) (h4 : τ 98 5 = σ 98 5) (h5 : τ 22 = σ 22) : Rn τ H G B T := by
  unfold Rn
  rw [h1, h2, h3, h4, h5]
  exact h
/-- what a field of a bell may hold: 0 owner, 1 fee, 2 flat, 3 shut, 4 half -/
def bOk (H d : Nat) (v : Int32) : Prop := (d = 0 → ∃ w, w < H ∧ v = nI w) ∧ (d = 1 → ∃ f, f ≤ 20 ∧ v = nI f) ∧ (d = 2 → ∃ f, f ≤ 9 ∧ v = nI f) ∧ (d = 3 → v = 0 ∨ v = 1) ∧ (d = 4 → v = -4 ∨ ∃ h, h < H ∧ v = nI h)
/-- a field of a bell written on both sides -/
theorem R_bell {σ : S0} {H G B T : Nat} (h : Rall σ H G B T) {j d : Nat} (hj : j < B) (hd : d < 5) {v : Int32} (hv : bOk H d v) : Rall (su (su σ (33 + d) j v) 99 (5 * j + d) v) H G B T := by
  obtain ⟨hn, hk, hm, ht, hi, hp, hs, hf, hq⟩ := h
  have hB := hn.1.2.2.2.1
  have hT := hn.1.2.2.2.2
  have ta : ∀ x, x ≠ 33 + d → x ≠ 99 → su (su σ (33 + d) j v) 99 (5 * j + d) v x = σ x := fun x h1 h2 => by rw [su_ne h2, su_ne h1]
  have tb : ∀ i, i ≠ 5 * j + d → su (su σ (33 + d) j v) 99 (5 * j + d) v 99 i = σ 99 i := fun i h1 => by rw [su_j h1, su_ne (by omega)]
  have tc : su (su σ (33 + d) j v) 99 (5 * j + d) v 99 (5 * j + d) = v := su_s
  have td : su (su σ (33 + d) j v) 99 (5 * j + d) v (33 + d) j = v := by rw [su_ne (by omega), su_s]
  have te : ∀ i, i ≠ j → su (su σ (33 + d) j v) 99 (5 * j + d) v (33 + d) i = σ (33 + d) i := fun i h1 => by rw [su_ne (by omega), su_j h1]
  generalize su (su σ (33 + d) j v) 99 (5 * j + d) v = τ at ta tb tc td te
  obtain ⟨k1, k2, k3, k4, k5⟩ := hk
  obtain ⟨⟨n, n1, n2, n3⟩, m2, fo, f1, f2, f3, f4⟩ := hm
  refine ⟨hn.c (by rw [ta 98 (by omega) (by omega)]) (by rw [ta 98 (by omega) (by omega)]) (by rw [ta 98 (by omega) (by omega)]) (by rw [ta 98 (by omega) (by omega)]) (ta 22 (by omega) (by omega)), ?_, ?_, ht.c (ta _ (by omega) (by omega)) (ta _ (by omega) (by omega)) (ta _ (by omega) (by omega)) (fun t h => ta _ (by omega) (by omega)), hi.c (ta _ (by omega) (by omega)) (ta _ (by omega) (by omega)) (fun x h1 h2 => ta _ (by omega) (by omega)) (fun i h1 h2 => tb i (by omega)) hB, hp.c (by rw [ta 1 (by omega) (by omega)]) (by rw [ta 98 (by omega) (by omega)]) (ta _ (by omega) (by omega)) (ta _ (by omega) (by omega)), hs.c (ta _ (by omega) (by omega)) (ta _ (by omega) (by omega)) (ta _ (by omega) (by omega)) (fun x h1 h2 => ta _ (by omega) (by omega)), by rw [ta 3 (by omega) (by omega), ta 98 (by omega) (by omega)]; exact hf, by rw [ta 0 (by omega) (by omega), ta 98 (by omega) (by omega)]; exact hq⟩
  · refine ⟨by rw [ta 32 (by omega) (by omega)]; exact k1, fun b hb => ?_, fun x hx => ?_, ?_, fun i hi2 hl => ?_⟩
    · have key : ∀ e, e < 5 → σ (33 + e) b = σ 99 (0 + 5 * b + e) → τ (33 + e) b = τ 99 (0 + 5 * b + e) := fun e he hh => by
        by_cases c1 : e = d
        · subst c1
          by_cases c2 : b = j
          · subst c2; rw [td, show 0 + 5 * b + e = 5 * b + e by omega, tc]
          · rw [te b c2, tb _ (by omega)]; exact hh
        · rw [ta _ (by omega) (by omega), tb _ (by omega)]; exact hh
      obtain ⟨a1, a2, a3, a4, a5⟩ := k2 b hb
      exact ⟨key 0 (by omega) a1, key 1 (by omega) a2, key 2 (by omega) a3, key 3 (by omega) a4, key 4 (by omega) a5⟩
    · rw [ta _ (by omega) (by omega), tb _ (by omega)]; exact k3 x hx
    · rw [ta _ (by omega) (by omega), tb _ (by omega)]; exact k4
    · rw [tb _ (by omega)] at hl
      rw [ta _ (by omega) (by omega), tb _ (by omega)]; exact k5 i hi2 hl
  · refine ⟨⟨n, n1, by rw [tb _ (by omega)]; exact n2, fun i hi2 => by rw [tb _ (by omega)]; exact n3 i hi2⟩, fun b hb => ?_, fo, fun x hx => ⟨(f1 x hx).1, by rw [tb _ (by omega)]; exact (f1 x hx).2⟩, f2, f3, f4⟩
    obtain ⟨a1, a2, a3, a4, a5⟩ := m2 b hb
    have key : ∀ e (P : Int32 → Prop), e < 5 → P (σ 99 (0 + 5 * b + e)) → (e = d → P v) → P (τ 99 (0 + 5 * b + e)) := fun e P he hh hv2 => by
      by_cases c1 : e = d ∧ b = j
      · obtain ⟨c1, c2⟩ := c1
        subst c1; subst c2
        rw [show 0 + 5 * b + e = 5 * b + e by omega, tc]; exact hv2 rfl
      · rw [tb _ (by omega)]; exact hh
    exact ⟨key 0 (fun x => ∃ w, w < H ∧ x = nI w) (by omega) a1 (fun q => hv.1 q.symm), key 1 (fun x => ∃ f, f ≤ 20 ∧ x = nI f) (by omega) a2 (fun q => hv.2.1 q.symm), key 2 (fun x => ∃ f, f ≤ 9 ∧ x = nI f) (by omega) a3 (fun q => hv.2.2.1 q.symm), key 3 (fun x => x = 0 ∨ x = 1) (by omega) a4 (fun q => hv.2.2.2.1 q.symm), key 4 (fun x => x = -4 ∨ ∃ h, h < H ∧ x = nI h) (by omega) a5 (fun q => hv.2.2.2.2 q.symm)⟩
