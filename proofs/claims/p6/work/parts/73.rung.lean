/-! noRung -/
def nr (σ : S0) (i : Nat) : S0 := fun x y => if x = 105 ∧ i ≤ y ∧ y < 6 then 0 else σ x y
theorem nr_su {σ : S0} {i : Nat} (h : i < 6) : nr (su σ 105 i 0) (i + 1) = nr σ i := by
  funext x y
  unfold nr
  by_cases hx : x = 105 ∧ i ≤ y ∧ y < 6
  · rw [if_pos hx]
    by_cases hy : y = i
    · rw [if_neg (by omega), hx.1, hy, su_s]
    · rw [if_pos (by omega)]
  · rw [if_neg hx, if_neg (by omega)]
    by_cases h9 : x = 105
    · rw [h9, su_j (by omega)]
    · rw [su_ne h9]
theorem nr_n (σ : S0) : nr σ 6 = σ := by
  funext x y
  unfold nr
  rw [if_neg (by omega)]
theorem noRung_l : ∀ (d i m : Nat) (σ : S0), 6 - i = d → i ≤ 6 → d < m → fX11_noRung_h2 m σ (nI i) = some (0, nr σ i) := by
  intro d
  induction d with
  | zero =>
    intro i m σ h1 h2 h3
    obtain ⟨m, rfl⟩ : ∃ q, m = q + 1 := ⟨m - 1, by omega⟩
    have : i = 6 := by omega
    subst this
    show fX11_noRung_b2 _ _ _ = _
    unfold fX11_noRung_b2
    rw [if_pos (show (6 : Int32) ≤ nI 6 from by decide), nr_n]
  | succ d ih =>
    intro i m σ h1 h2 h3
    obtain ⟨m, rfl⟩ : ∃ q, m = q + 1 := ⟨m - 1, by omega⟩
    show fX11_noRung_b2 _ _ _ = _
    unfold fX11_noRung_b2
    rw [if_neg (show ¬ ((6 : Int32) ≤ nI i) from nI_ge (b := 6) (by omega) (by omega))]
    simp only [ol]
    rw [og_t (ix_ok (by omega) (by omega)), nI_clamp (by omega), nI_1, ih (i + 1) m _ (by omega) (by omega) (by omega), nr_su (by omega)]
theorem noRung_s (σ : S0) : fX11_noRung σ = some (0, nr σ 0) := noRung_l 6 0 400 σ (by omega) (by omega) (by omega)
theorem nr_ne {σ : S0} {i x : Nat} (h : x ≠ 105) : nr σ i x = σ x := by
  funext y
  unfold nr
  rw [if_neg (fun q => h q.1)]
theorem nr_in {σ : S0} {j : Nat} (h : j < 6) : nr σ 0 105 j = 0 := by
  unfold nr
  rw [if_pos (by omega)]
