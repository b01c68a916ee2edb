/-! FEUDS: bits written -/
def wb (v : Int32) (m b : Nat) : Nat := if v = 0 then m &&& (63 ^^^ 2 ^ b) else m ||| 2 ^ b
theorem wb_o : ∀ m : Fin 64, ∀ b : Fin 6, nI m.1 ||| ((1 : Int32) <<< (nI b.1 &&& 31)) = nI (m.1 ||| 2 ^ b.1) := by decide
theorem wb_a : ∀ m : Fin 64, ∀ b : Fin 6, nI m.1 &&& (((1 : Int32) <<< (nI b.1 &&& 31)) ^^^ (-1)) = nI (m.1 &&& (63 ^^^ 2 ^ b.1)) := by decide
theorem wb_b : ∀ m : Fin 64, ∀ b : Fin 6, ∀ c : Fin 6, (m.1 ||| 2 ^ b.1).testBit c.1 = (m.1.testBit c.1 || decide (b.1 = c.1)) ∧ (m.1 &&& (63 ^^^ 2 ^ b.1)).testBit c.1 = (m.1.testBit c.1 && !decide (b.1 = c.1)) := by decide
theorem wb_t (v : Int32) {m b c : Nat} (hm : m < 64) (hb : b < 6) (hc : c < 6) : (wb v m b).testBit c = if b = c then decide (v ≠ 0) else m.testBit c := by
  obtain ⟨h1, h2⟩ := wb_b ⟨m, hm⟩ ⟨b, hb⟩ ⟨c, hc⟩
  simp only at h1 h2
  unfold wb
  by_cases hv : v = 0
  · rw [if_pos hv, h2]
    by_cases hbc : b = c
    · simp [hbc, hv]
    · simp [hbc]
  · rw [if_neg hv, h1]
    by_cases hbc : b = c
    · simp [hbc, hv]
    · simp [hbc]
theorem wb_l (v : Int32) {m b H : Nat} (hm : m < 2 ^ H) (hb : b < H) : wb v m b < 2 ^ H := by
  unfold wb
  by_cases hv : v = 0
  · rw [if_pos hv]
    exact Nat.lt_of_le_of_lt Nat.and_le_left hm
  · rw [if_neg hv]
    exact Nat.or_lt_two_pow hm (Nat.pow_lt_pow_right (by omega) hb)
theorem setFoes_s {σ : S0} {k a b : Nat} (v : Int32) {ma mb : Nat} (ha : a < 6) (hb : b < 6) (hab : a ≠ b) (hma : ma < 64) (hmb : mb < 64) (ea : σ (k + 6) a = nI ma) (eb : σ (k + 6) b = nI mb) : fX1_setFoes σ k (nI a) (nI b) v = some (0, su (su σ (k + 6) a (nI (wb v ma b))) (k + 6) b (nI (wb v mb a))) := by
  have hga := ix_ok (j := a) (n := 6) ha (by omega)
  have hca : (nI a).toNatClampNeg = a := nI_clamp (by omega)
  have hga2 : ¬ (nI a < 0 ∨ 6 ≤ a) := fun q => hga (by rw [hca]; exact q)
  have hgb := ix_ok (j := b) (n := 6) hb (by omega)
  have hcb : (nI b).toNatClampNeg = b := nI_clamp (by omega)
  have hgb2 : ¬ (nI b < 0 ∨ 6 ≤ b) := fun q => hgb (by rw [hcb]; exact q)
  unfold fX1_setFoes fX1_setFoes_b34 fX1_setFoes_b69 wb
  simp only [og_t hga, og_t hga2, hca, og_t hgb, og_t hgb2, hcb, ol]
  have o1 := wb_o ⟨ma, hma⟩ ⟨b, hb⟩
  have o2 := wb_o ⟨mb, hmb⟩ ⟨a, ha⟩
  have a1 := wb_a ⟨ma, hma⟩ ⟨b, hb⟩
  have a2 := wb_a ⟨mb, hmb⟩ ⟨a, ha⟩
  simp only at o1 o2 a1 a2
  by_cases hv : v = 0
  · simp only [if_pos hv]
    rw [su_j (fun q => hab q.symm), ea, eb, a1, a2]
  · simp only [if_neg hv]
    rw [su_j (fun q => hab q.symm), ea, eb, o1, o2]
