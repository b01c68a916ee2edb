/-! THE START: firstDraft, keepDraft, the relation of the new object -/
def z80 (σ : S0) (i : Nat) : S0 := fun x y => if x = 102 ∧ i ≤ y ∧ y < 80 then 0 else σ x y
theorem z80_su {σ : S0} {i : Nat} (h : i < 80) : z80 (su σ 102 i 0) (i + 1) = z80 σ i := by
  funext x y
  unfold z80
  by_cases hx : x = 102 ∧ i ≤ y ∧ y < 80
  · rw [if_pos hx]
    by_cases hy : y = i
    · rw [if_neg (by omega), hx.1, hy, su_s]
    · rw [if_pos (by omega)]
  · rw [if_neg hx, if_neg (by omega)]
    by_cases h9 : x = 102
    · rw [h9, su_j (by omega)]
    · rw [su_ne h9]
theorem z80_n (σ : S0) : z80 σ 80 = σ := by
  funext x y
  unfold z80
  rw [if_neg (by omega)]
def fdS (σ : S0) : S0 := su (su (su (su (su (su (su σ 98 9 3) 98 10 3) 98 11 0) 98 12 0) 98 13 (-4)) 98 14 (-4)) 98 15 0
theorem firstDraft_l : ∀ (d i m : Nat) (σ : S0), 80 - i = d → i ≤ 80 → d < m → fX11_firstDraft_h2 m σ (nI i) = some (0, fdS (z80 σ i)) := by
  intro d
  induction d with
  | zero =>
    intro i m σ h1 h2 h3
    obtain ⟨m, rfl⟩ : ∃ q, m = q + 1 := ⟨m - 1, by omega⟩
    have : i = 80 := by omega
    subst this
    show fX11_firstDraft_b2 _ _ _ = _
    unfold fX11_firstDraft_b2
    rw [if_pos (show (80 : Int32) ≤ nI 80 from by decide), z80_n]
    rfl
  | succ d ih =>
    intro i m σ h1 h2 h3
    obtain ⟨m, rfl⟩ : ∃ q, m = q + 1 := ⟨m - 1, by omega⟩
    show fX11_firstDraft_b2 _ _ _ = _
    unfold fX11_firstDraft_b2
    rw [if_neg (show ¬ ((80 : Int32) ≤ nI i) from nI_ge (b := 80) (by omega) (by omega))]
    simp only [ol]
    rw [og_t (ix_ok (by omega) (by omega)), nI_clamp (by omega), nI_1, ih (i + 1) m _ (by omega) (by omega) (by omega), z80_su (by omega)]
theorem firstDraft_s (σ : S0) : fX11_firstDraft σ = some (0, fdS (z80 σ 0)) := firstDraft_l 80 0 400 σ (by omega) (by omega) (by omega)
theorem fdS_ne {σ : S0} {x : Nat} (h : x ≠ 98) : fdS σ x = σ x := by
  unfold fdS
  simp (disch := omega) only [su_ne]
theorem fdS_j {σ : S0} {j : Nat} (h : j < 9 ∨ 15 < j) : fdS σ 98 j = σ 98 j := by
  unfold fdS
  simp (disch := omega) only [su_j]
theorem z80_ne {σ : S0} {i x : Nat} (h : x ≠ 102) : z80 σ i x = σ x := by
  funext y
  unfold z80
  rw [if_neg (fun q => h q.1)]
theorem z80_in {σ : S0} {j : Nat} (h : j < 80) : z80 σ 0 102 j = 0 := by
  unfold z80
  rw [if_pos (by omega)]
/-- what firstDraft leaves -/
theorem fd_facts (σ : S0) : (∀ x, x ≠ 98 → x ≠ 102 → fdS (z80 σ 0) x = σ x) ∧ (∀ j, j < 80 → fdS (z80 σ 0) 102 j = 0) ∧ (∀ j, j < 9 ∨ 15 < j → fdS (z80 σ 0) 98 j = σ 98 j) ∧ fdS (z80 σ 0) 98 9 = 3 ∧ fdS (z80 σ 0) 98 10 = 3 ∧ fdS (z80 σ 0) 98 11 = 0 ∧ fdS (z80 σ 0) 98 12 = 0 ∧ fdS (z80 σ 0) 98 13 = -4 ∧ fdS (z80 σ 0) 98 14 = -4 ∧ fdS (z80 σ 0) 98 15 = 0 := by
  refine ⟨fun x h1 h2 => by rw [fdS_ne h1, z80_ne h2], fun j hj => by rw [fdS_ne (by omega), z80_in hj], fun j hj => by rw [fdS_j hj, z80_ne (by omega)], ?_, ?_, ?_, ?_, ?_, ?_, ?_⟩ <;> unfold fdS <;> simp (disch := omega) only [su_s, su_j]
def k80 (σ : S0) (i : Nat) : S0 := fun x y => if x = 99 ∧ i ≤ y ∧ y < 80 then σ 102 y else σ x y
theorem k80_su {σ : S0} {i : Nat} (h : i < 80) : k80 (su σ 99 i (σ 102 i)) (i + 1) = k80 σ i := by
  funext x y
  unfold k80
  by_cases hx : x = 99 ∧ i ≤ y ∧ y < 80
  · rw [if_pos hx]
    by_cases hy : y = i
    · rw [if_neg (by omega), hx.1, hy, su_s]
    · rw [if_pos (by omega), su_ne (by omega)]
  · rw [if_neg hx, if_neg (by omega)]
    by_cases h9 : x = 99
    · rw [h9, su_j (by omega)]
    · rw [su_ne h9]
theorem k80_n (σ : S0) : k80 σ 80 = σ := by
  funext x y
  unfold k80
  rw [if_neg (by omega)]
def k84 (σ : S0) (i : Nat) : S0 := fun x y => if x = 101 ∧ i ≤ y ∧ y < 84 then σ 103 y else σ x y
theorem k84_su {σ : S0} {i : Nat} (h : i < 84) : k84 (su σ 101 i (σ 103 i)) (i + 1) = k84 σ i := by
  funext x y
  unfold k84
  by_cases hx : x = 101 ∧ i ≤ y ∧ y < 84
  · rw [if_pos hx]
    by_cases hy : y = i
    · rw [if_neg (by omega), hx.1, hy, su_s]
    · rw [if_pos (by omega), su_ne (by omega)]
  · rw [if_neg hx, if_neg (by omega)]
    by_cases h9 : x = 101
    · rw [h9, su_j (by omega)]
    · rw [su_ne h9]
theorem k84_n (σ : S0) : k84 σ 84 = σ := by
  funext x y
  unfold k84
  rw [if_neg (by omega)]
def kdS (σ : S0) : S0 := su (su (su (su (su (su σ 98 2 (σ 98 9)) 98 3 (σ 98 10)) 98 4 (σ 98 11)) 98 5 (σ 98 12)) 100 0 0) 100 1 0
theorem keepDraft_l2 : ∀ (d i m : Nat) (σ : S0), 84 - i = d → i ≤ 84 → d < m → fX11_keepDraft_h28 m σ (nI i) = some (0, kdS (k84 σ i)) := by
  intro d
  induction d with
  | zero =>
    intro i m σ h1 h2 h3
    obtain ⟨m, rfl⟩ : ∃ q, m = q + 1 := ⟨m - 1, by omega⟩
    have : i = 84 := by omega
    subst this
    show fX11_keepDraft_b28 _ _ _ = _
    unfold fX11_keepDraft_b28
    rw [if_pos (show (84 : Int32) ≤ nI 84 from by decide), k84_n]
    simp only [ol]
    rw [og_t (by decide), og_t (by decide)]
    simp (disch := omega) only [su_j]
    rfl
  | succ d ih =>
    intro i m σ h1 h2 h3
    obtain ⟨m, rfl⟩ : ∃ q, m = q + 1 := ⟨m - 1, by omega⟩
    show fX11_keepDraft_b28 _ _ _ = _
    unfold fX11_keepDraft_b28
    rw [if_neg (show ¬ ((84 : Int32) ≤ nI i) from nI_ge (b := 84) (by omega) (by omega))]
    simp only [ol]
    rw [og_t (ix_ok (by omega) (by omega)), og_t (ix_ok (by omega) (by omega)), nI_clamp (by omega), nI_1, ih (i + 1) m _ (by omega) (by omega) (by omega), k84_su (by omega)]
theorem keepDraft_l1 : ∀ (d i m : Nat) (σ : S0), 80 - i = d → i ≤ 80 → d < m → fX11_keepDraft_h2 m σ (nI i) = some (0, kdS (k84 (k80 σ i) 0)) := by
  intro d
  induction d with
  | zero =>
    intro i m σ h1 h2 h3
    obtain ⟨m, rfl⟩ : ∃ q, m = q + 1 := ⟨m - 1, by omega⟩
    have : i = 80 := by omega
    subst this
    show fX11_keepDraft_b2 _ _ _ = _
    unfold fX11_keepDraft_b2
    rw [if_pos (show (80 : Int32) ≤ nI 80 from by decide), k80_n]
    exact keepDraft_l2 84 0 400 σ (by omega) (by omega) (by omega)
  | succ d ih =>
    intro i m σ h1 h2 h3
    obtain ⟨m, rfl⟩ : ∃ q, m = q + 1 := ⟨m - 1, by omega⟩
    show fX11_keepDraft_b2 _ _ _ = _
    unfold fX11_keepDraft_b2
    rw [if_neg (show ¬ ((80 : Int32) ≤ nI i) from nI_ge (b := 80) (by omega) (by omega))]
    simp only [ol]
    rw [og_t (ix_ok (by omega) (by omega)), og_t (ix_ok (by omega) (by omega)), nI_clamp (by omega), nI_1, ih (i + 1) m _ (by omega) (by omega) (by omega), k80_su (by omega)]
theorem keepDraft_s (σ : S0) : fX11_keepDraft σ = some (0, kdS (k84 (k80 σ 0) 0)) := keepDraft_l1 80 0 400 σ (by omega) (by omega) (by omega)
theorem kdS_ne {σ : S0} {x : Nat} (h : x ≠ 98) (h2 : x ≠ 100) : kdS σ x = σ x := by
  unfold kdS
  simp (disch := omega) only [su_ne]
theorem k80_ne {σ : S0} {i x : Nat} (h : x ≠ 99) : k80 σ i x = σ x := by
  funext y
  unfold k80
  rw [if_neg (fun q => h q.1)]
theorem k84_ne {σ : S0} {i x : Nat} (h : x ≠ 101) : k84 σ i x = σ x := by
  funext y
  unfold k84
  rw [if_neg (fun q => h q.1)]
/-- what keepDraft leaves -/
theorem kd_facts (σ : S0) : (∀ x, x ≠ 98 → x ≠ 99 → x ≠ 100 → x ≠ 101 → kdS (k84 (k80 σ 0) 0) x = σ x) ∧ (∀ j, j < 80 → kdS (k84 (k80 σ 0) 0) 99 j = σ 102 j) ∧ (∀ j, 80 ≤ j → kdS (k84 (k80 σ 0) 0) 99 j = σ 99 j) ∧ (∀ j, j < 84 → kdS (k84 (k80 σ 0) 0) 101 j = σ 103 j) ∧ (∀ j, j < 2 ∨ 5 < j → kdS (k84 (k80 σ 0) 0) 98 j = σ 98 j) ∧ kdS (k84 (k80 σ 0) 0) 98 2 = σ 98 9 ∧ kdS (k84 (k80 σ 0) 0) 98 3 = σ 98 10 ∧ kdS (k84 (k80 σ 0) 0) 98 4 = σ 98 11 ∧ kdS (k84 (k80 σ 0) 0) 98 5 = σ 98 12 ∧ kdS (k84 (k80 σ 0) 0) 100 0 = 0 ∧ kdS (k84 (k80 σ 0) 0) 100 1 = 0 := by
  have e98 : k84 (k80 σ 0) 0 98 = σ 98 := by rw [k84_ne (by omega), k80_ne (by omega)]
  refine ⟨fun x h1 h2 h3 h4 => by rw [kdS_ne h1 h3, k84_ne h4, k80_ne h2], fun j hj => ?_, fun j hj => ?_, fun j hj => ?_, fun j hj => ?_, ?_, ?_, ?_, ?_, ?_, ?_⟩
  · rw [kdS_ne (by omega) (by omega), k84_ne (by omega)]
    unfold k80
    rw [if_pos (by omega)]
  · rw [kdS_ne (by omega) (by omega), k84_ne (by omega)]
    unfold k80
    rw [if_neg (by omega)]
  · rw [kdS_ne (by omega) (by omega)]
    unfold k84
    rw [if_pos (by omega), k80_ne (by omega)]
  · unfold kdS
    simp (disch := omega) only [su_ne, su_j]
    rw [e98]
  all_goals
    unfold kdS
    simp (disch := omega) only [su_ne, su_j, su_s]
    try rw [e98]
theorem sigI_o {k : Nat} (h : k ≠ 4 ∧ k ≠ 22 ∧ k ≠ 90 ∧ k ≠ 92 ∧ k ≠ 94 ∧ k ≠ 96 ∧ k ≠ 108) : sigI k = fun _ => 0 := by
  unfold sigI sigX sus
  simp (disch := omega) only [List.foldl_cons, List.foldl_nil, su_ne]
/-- the new object's state -/
def sig0 : S0 := kdS (k84 (k80 (fdS (z80 sigI 0)) 0) 0)
theorem s0_o {k : Nat} (h : k ≠ 4 ∧ k ≠ 22 ∧ k ≠ 90 ∧ k ≠ 92 ∧ k ≠ 94 ∧ k ≠ 96 ∧ k ≠ 108 ∧ k ≠ 98 ∧ k ≠ 99 ∧ k ≠ 100 ∧ k ≠ 101 ∧ k ≠ 102) (j : Nat) : sig0 k j = 0 := by
  unfold sig0
  rw [(kd_facts _).1 k (by omega) (by omega) (by omega) (by omega), (fd_facts _).1 k (by omega) (by omega), sigI_o (by omega)]
theorem s0_i {k : Nat} (h : k ≠ 98 ∧ k ≠ 99 ∧ k ≠ 100 ∧ k ≠ 101 ∧ k ≠ 102) : sig0 k = sigI k := by
  unfold sig0
  rw [(kd_facts _).1 k (by omega) (by omega) (by omega) (by omega), (fd_facts _).1 k (by omega) (by omega)]
theorem s0_99 {j : Nat} (hj : j < 80) : sig0 99 j = 0 := by
  unfold sig0
  rw [(kd_facts _).2.1 j hj, (fd_facts _).2.1 j hj]
theorem s0_98 {j : Nat} (hj : 15 < j) : sig0 98 j = 0 := by
  unfold sig0
  rw [(kd_facts _).2.2.2.2.1 j (by omega), (fd_facts _).2.2.1 j (by omega), sigI_o (by omega)]
theorem s0_n : sig0 98 2 = 3 ∧ sig0 98 3 = 3 ∧ sig0 98 4 = 0 ∧ sig0 98 5 = 0 ∧ sig0 100 0 = 0 ∧ sig0 100 1 = 0 := by
  unfold sig0
  obtain ⟨-, -, -, -, -, a1, a2, a3, a4, a5, a6⟩ := kd_facts (fdS (z80 sigI 0))
  obtain ⟨-, -, -, b1, b2, b3, b4, -⟩ := fd_facts sigI
  exact ⟨a1.trans b1, a2.trans b2, a3.trans b3, a4.trans b4, a5, a6⟩
theorem start_p : ∃ r1 r2 σ1, fX11_firstDraft sigI = some (r1, σ1) ∧ fX11_keepDraft σ1 = some (r2, sig0) := ⟨0, 0, _, firstDraft_s _, keepDraft_s _⟩
theorem R_start : Rall sig0 3 3 0 0 := by
  obtain ⟨a1, a2, a3, a4, a5, a6⟩ := s0_n
  refine ⟨⟨by omega, ⟨a1, a2, a3, a4⟩, ?_, ?_, ?_⟩, ⟨?_, fun b hb => absurd hb (by omega), fun h hh => ?_, ?_, fun j hj hl => ?_⟩, ⟨⟨0, by omega, ?_, fun j hj => absurd hj (by omega)⟩, fun b hb => absurd hb (by omega), fun _ => 0, fun h hh => ⟨show 0 < 2 ^ 3 by decide, ?_⟩, fun a b _ _ => (Nat.zero_testBit b).trans (Nat.zero_testBit a).symm, fun a _ => ?_, fun a _ _ => rfl⟩, fun t ht => absurd ht (by omega), fun k hk => Or.inl ⟨?_, ?_⟩, ⟨0, by omega, ?_, ?_, fun j hj => absurd hj (by omega)⟩, fun k hk => ⟨Or.inl ⟨?_, ?_⟩, fun j hj => ?_⟩, ?_, ?_⟩
  · rw [s0_i (by omega)]; rfl
  · rw [s0_i (by omega)]; rfl
  · rw [s0_i (by omega)]; rfl
  · rw [s0_o (by omega)]; rfl
  · rw [s0_o (by omega), s0_99 (by omega)]
  · rw [s0_o (by omega), s0_99 (by omega)]
  · rw [s0_o (by omega), s0_99 (by omega)]
  · rw [s0_99 (by omega)]; rfl
  · rw [s0_99 (by omega)]; rfl
  · simp
  · rcases (show k = 0 ∨ k = 1 by omega) with rfl | rfl
    · exact a5
    · exact a6
  · rw [s0_o (by omega)]
  · rw [s0_o (by omega)]; rfl
  · rw [s0_98 (by omega)]; rfl
  · rw [s0_i (by omega)]
    rcases (show k = 0 ∨ k = 1 ∨ k = 2 ∨ k = 3 by omega) with rfl | rfl | rfl | rfl <;> rfl
  · rw [s0_i (by omega)]
    rcases (show k = 0 ∨ k = 1 ∨ k = 2 ∨ k = 3 by omega) with rfl | rfl | rfl | rfl <;> rfl
  · rw [s0_o (by omega), s0_o (by omega)]
  · unfold fr
    rw [s0_o (by omega), s0_98 (by omega)]
  · rw [s0_o (by omega), s0_98 (by omega)]
