/-! THE TEXT: names -/
def Wd (i : Nat) : List Nat := ([[104, 111, 117, 115, 101, 115], [103, 97, 112], [98, 101, 108, 108], [116, 117, 110, 101], [102, 101, 117, 100], [104, 97, 108, 102], [115, 104, 117, 116]] : List (List Nat)).getD i []
theorem len_0 (σ : S0) : fJ0_length_8abf5 σ 0 = some (nI 6, σ) := by
  unfold fJ0_length_8abf5 fJ0_coder_7d493
  rw [if_neg (by decide)]
  simp only [obp]
  rw [show (Int32.ofNat (lenS.getD 0 0)) >>> ((0 : Int32) &&& 31) = nI 6 from by decide]
theorem chr_0_0 (σ : S0) : fJ0_charAt_5068e σ 0 (nI 0) = some (nI 104, σ) := rfl
theorem chr_0_1 (σ : S0) : fJ0_charAt_5068e σ 0 (nI 1) = some (nI 111, σ) := rfl
theorem chr_0_2 (σ : S0) : fJ0_charAt_5068e σ 0 (nI 2) = some (nI 117, σ) := rfl
theorem chr_0_3 (σ : S0) : fJ0_charAt_5068e σ 0 (nI 3) = some (nI 115, σ) := rfl
theorem chr_0_4 (σ : S0) : fJ0_charAt_5068e σ 0 (nI 4) = some (nI 101, σ) := rfl
theorem chr_0_5 (σ : S0) : fJ0_charAt_5068e σ 0 (nI 5) = some (nI 115, σ) := rfl
theorem len_1 (σ : S0) : fJ0_length_8abf5 σ 1 = some (nI 3, σ) := by
  unfold fJ0_length_8abf5 fJ0_coder_7d493
  rw [if_neg (by decide)]
  simp only [obp]
  rw [show (Int32.ofNat (lenS.getD 1 0)) >>> ((0 : Int32) &&& 31) = nI 3 from by decide]
theorem chr_1_0 (σ : S0) : fJ0_charAt_5068e σ 1 (nI 0) = some (nI 103, σ) := rfl
theorem chr_1_1 (σ : S0) : fJ0_charAt_5068e σ 1 (nI 1) = some (nI 97, σ) := rfl
theorem chr_1_2 (σ : S0) : fJ0_charAt_5068e σ 1 (nI 2) = some (nI 112, σ) := rfl
theorem len_2 (σ : S0) : fJ0_length_8abf5 σ 2 = some (nI 4, σ) := by
  unfold fJ0_length_8abf5 fJ0_coder_7d493
  rw [if_neg (by decide)]
  simp only [obp]
  rw [show (Int32.ofNat (lenS.getD 2 0)) >>> ((0 : Int32) &&& 31) = nI 4 from by decide]
theorem chr_2_0 (σ : S0) : fJ0_charAt_5068e σ 2 (nI 0) = some (nI 98, σ) := rfl
theorem chr_2_1 (σ : S0) : fJ0_charAt_5068e σ 2 (nI 1) = some (nI 101, σ) := rfl
theorem chr_2_2 (σ : S0) : fJ0_charAt_5068e σ 2 (nI 2) = some (nI 108, σ) := rfl
theorem chr_2_3 (σ : S0) : fJ0_charAt_5068e σ 2 (nI 3) = some (nI 108, σ) := rfl
theorem len_3 (σ : S0) : fJ0_length_8abf5 σ 3 = some (nI 4, σ) := by
  unfold fJ0_length_8abf5 fJ0_coder_7d493
  rw [if_neg (by decide)]
  simp only [obp]
  rw [show (Int32.ofNat (lenS.getD 3 0)) >>> ((0 : Int32) &&& 31) = nI 4 from by decide]
theorem chr_3_0 (σ : S0) : fJ0_charAt_5068e σ 3 (nI 0) = some (nI 116, σ) := rfl
theorem chr_3_1 (σ : S0) : fJ0_charAt_5068e σ 3 (nI 1) = some (nI 117, σ) := rfl
theorem chr_3_2 (σ : S0) : fJ0_charAt_5068e σ 3 (nI 2) = some (nI 110, σ) := rfl
theorem chr_3_3 (σ : S0) : fJ0_charAt_5068e σ 3 (nI 3) = some (nI 101, σ) := rfl
theorem len_4 (σ : S0) : fJ0_length_8abf5 σ 4 = some (nI 4, σ) := by
  unfold fJ0_length_8abf5 fJ0_coder_7d493
  rw [if_neg (by decide)]
  simp only [obp]
  rw [show (Int32.ofNat (lenS.getD 4 0)) >>> ((0 : Int32) &&& 31) = nI 4 from by decide]
theorem chr_4_0 (σ : S0) : fJ0_charAt_5068e σ 4 (nI 0) = some (nI 102, σ) := rfl
theorem chr_4_1 (σ : S0) : fJ0_charAt_5068e σ 4 (nI 1) = some (nI 101, σ) := rfl
theorem chr_4_2 (σ : S0) : fJ0_charAt_5068e σ 4 (nI 2) = some (nI 117, σ) := rfl
theorem chr_4_3 (σ : S0) : fJ0_charAt_5068e σ 4 (nI 3) = some (nI 100, σ) := rfl
theorem len_5 (σ : S0) : fJ0_length_8abf5 σ 5 = some (nI 4, σ) := by
  unfold fJ0_length_8abf5 fJ0_coder_7d493
  rw [if_neg (by decide)]
  simp only [obp]
  rw [show (Int32.ofNat (lenS.getD 5 0)) >>> ((0 : Int32) &&& 31) = nI 4 from by decide]
theorem chr_5_0 (σ : S0) : fJ0_charAt_5068e σ 5 (nI 0) = some (nI 104, σ) := rfl
theorem chr_5_1 (σ : S0) : fJ0_charAt_5068e σ 5 (nI 1) = some (nI 97, σ) := rfl
theorem chr_5_2 (σ : S0) : fJ0_charAt_5068e σ 5 (nI 2) = some (nI 108, σ) := rfl
theorem chr_5_3 (σ : S0) : fJ0_charAt_5068e σ 5 (nI 3) = some (nI 102, σ) := rfl
theorem len_6 (σ : S0) : fJ0_length_8abf5 σ 6 = some (nI 4, σ) := by
  unfold fJ0_length_8abf5 fJ0_coder_7d493
  rw [if_neg (by decide)]
  simp only [obp]
  rw [show (Int32.ofNat (lenS.getD 6 0)) >>> ((0 : Int32) &&& 31) = nI 4 from by decide]
theorem chr_6_0 (σ : S0) : fJ0_charAt_5068e σ 6 (nI 0) = some (nI 115, σ) := rfl
theorem chr_6_1 (σ : S0) : fJ0_charAt_5068e σ 6 (nI 1) = some (nI 104, σ) := rfl
theorem chr_6_2 (σ : S0) : fJ0_charAt_5068e σ 6 (nI 2) = some (nI 117, σ) := rfl
theorem chr_6_3 (σ : S0) : fJ0_charAt_5068e σ 6 (nI 3) = some (nI 116, σ) := rfl
def okW (i : Nat) : Prop := (Wd i).length ≤ 6 ∧ (∀ j, j < (Wd i).length → (Wd i).getD j 0 < 128) ∧ (∀ σ, fJ0_length_8abf5 σ i = some (nI (Wd i).length, σ)) ∧ ∀ j, j < (Wd i).length → ∀ σ, fJ0_charAt_5068e σ i (nI j) = some (nI ((Wd i).getD j 0), σ)
theorem okW_0 : okW 0 := ⟨by decide, by decide, len_0, fun j hj σ => by
  have hj2 : j < 6 := hj
  rcases (show j = 0 ∨ j = 1 ∨ j = 2 ∨ j = 3 ∨ j = 4 ∨ j = 5 by omega) with rfl | rfl | rfl | rfl | rfl | rfl
  · exact chr_0_0 σ
  · exact chr_0_1 σ
  · exact chr_0_2 σ
  · exact chr_0_3 σ
  · exact chr_0_4 σ
  · exact chr_0_5 σ⟩
theorem okW_1 : okW 1 := ⟨by decide, by decide, len_1, fun j hj σ => by
  have hj2 : j < 3 := hj
  rcases (show j = 0 ∨ j = 1 ∨ j = 2 by omega) with rfl | rfl | rfl
  · exact chr_1_0 σ
  · exact chr_1_1 σ
  · exact chr_1_2 σ⟩
theorem okW_2 : okW 2 := ⟨by decide, by decide, len_2, fun j hj σ => by
  have hj2 : j < 4 := hj
  rcases (show j = 0 ∨ j = 1 ∨ j = 2 ∨ j = 3 by omega) with rfl | rfl | rfl | rfl
  · exact chr_2_0 σ
  · exact chr_2_1 σ
  · exact chr_2_2 σ
  · exact chr_2_3 σ⟩
theorem okW_3 : okW 3 := ⟨by decide, by decide, len_3, fun j hj σ => by
  have hj2 : j < 4 := hj
  rcases (show j = 0 ∨ j = 1 ∨ j = 2 ∨ j = 3 by omega) with rfl | rfl | rfl | rfl
  · exact chr_3_0 σ
  · exact chr_3_1 σ
  · exact chr_3_2 σ
  · exact chr_3_3 σ⟩
theorem okW_4 : okW 4 := ⟨by decide, by decide, len_4, fun j hj σ => by
  have hj2 : j < 4 := hj
  rcases (show j = 0 ∨ j = 1 ∨ j = 2 ∨ j = 3 by omega) with rfl | rfl | rfl | rfl
  · exact chr_4_0 σ
  · exact chr_4_1 σ
  · exact chr_4_2 σ
  · exact chr_4_3 σ⟩
theorem okW_5 : okW 5 := ⟨by decide, by decide, len_5, fun j hj σ => by
  have hj2 : j < 4 := hj
  rcases (show j = 0 ∨ j = 1 ∨ j = 2 ∨ j = 3 by omega) with rfl | rfl | rfl | rfl
  · exact chr_5_0 σ
  · exact chr_5_1 σ
  · exact chr_5_2 σ
  · exact chr_5_3 σ⟩
theorem okW_6 : okW 6 := ⟨by decide, by decide, len_6, fun j hj σ => by
  have hj2 : j < 4 := hj
  rcases (show j = 0 ∨ j = 1 ∨ j = 2 ∨ j = 3 by omega) with rfl | rfl | rfl | rfl
  · exact chr_6_0 σ
  · exact chr_6_1 σ
  · exact chr_6_2 σ
  · exact chr_6_3 σ⟩
def mw (a : Nat → Nat) (s e i : Nat) : Prop := e - s = (Wd i).length ∧ ∀ j, j < (Wd i).length → a (s + j) = (Wd i).getD j 0
theorem sbc_t : ∀ x : Fin 256, (sbt x.1).toInt = if x.1 < 128 then (x.1 : Int) else (x.1 : Int) - 256 := by decide +kernel
theorem sbc_n {x c : Nat} (hx : x < 256) (hc : c < 128) : sbt x = nI c ↔ x = c := by
  rw [i3_eq, ir (by omega)]
  have h := sbc_t ⟨x, hx⟩
  simp only at h
  rw [h]
  by_cases q : x < 128
  · rw [if_pos q]; omega
  · rw [if_neg q]; omega
theorem isName_l {a : Nat → Nat} {n s i : Nat} (ok : okW i) {σ : S0} (tp : TpX a n σ) (e4 : σ 1 4 = nI s) (hs : s + (Wd i).length ≤ n) : ∀ (d j m : Nat), (Wd i).length - j = d → j ≤ (Wd i).length → d < m → ∃ r, fX8_isName_h28 m σ i (nI j) = some (r, σ) ∧ (r = 0 ∨ r = 1) ∧ (r = 1 ↔ ∀ k, j ≤ k → k < (Wd i).length → a (s + k) = (Wd i).getD k 0) := by
  obtain ⟨w1, w2, w3, w4⟩ := ok
  have hn := tp.1
  intro d
  induction d with
  | zero =>
    intro j m h1 h2 h3
    obtain ⟨m, rfl⟩ : ∃ q, m = q + 1 := ⟨m - 1, by omega⟩
    refine ⟨1, ?_, Or.inr rfl, ⟨fun _ k a b => by omega, fun _ => rfl⟩⟩
    show fX8_isName_b28 _ _ _ _ = _
    unfold fX8_isName_b28
    rw [w3]
    simp only [obp]
    rw [if_pos (nI_le (by omega) (by omega))]
  | succ d ih =>
    intro j m h1 h2 h3
    obtain ⟨m, rfl⟩ : ∃ q, m = q + 1 := ⟨m - 1, by omega⟩
    obtain ⟨r, r1, r2, r3⟩ := ih (j + 1) m (by omega) (by omega) (by omega)
    obtain ⟨t1, t2⟩ := tp.2.2 (s + j) (by omega)
    have hb := sbc_n t1 (w2 j (by omega))
    have e1 : fX8_isName_h28 (m + 1) σ i (nI j) = if sbt (a (s + j)) = nI ((Wd i).getD j 0) then fX8_isName_h28 m σ i (nI (j + 1)) else some (0, σ) := by
      show fX8_isName_b28 _ _ _ _ = _
      unfold fX8_isName_b28
      rw [w3]
      simp only [obp]
      rw [if_neg (nI_ge (by omega) (by omega)), e4, nI_add]
      simp only [ol]
      rw [og_t (ix_ok (by omega) (by omega)), nI_clamp (by omega), t2, w4 j (by omega)]
      simp only
      rw [nI_1]
    rw [e1]
    by_cases c : a (s + j) = (Wd i).getD j 0
    · rw [if_pos (hb.mpr c)]
      refine ⟨r, r1, r2, r3.trans ⟨fun q k x y => ?_, fun q k x y => q k (by omega) y⟩⟩
      by_cases z : k = j
      · subst z; exact c
      · exact q k (by omega) y
    · rw [if_neg (fun q => c (hb.mp q))]
      exact ⟨0, rfl, Or.inl rfl, ⟨fun q => absurd q (by decide), fun q => absurd (q j (Nat.le_refl _) (by omega)) c⟩⟩
theorem isName_s {a : Nat → Nat} {n s e k i : Nat} (ok : okW i) {σ : S0} (tp : TpX a n σ) (e4 : σ 1 4 = nI s) (e2 : σ 1 2 = nI e) (e3 : σ 1 3 = nI k) (hk : k ≤ 4) (hse : s ≤ e) (hen : e ≤ n) : ∃ r, fX8_isName σ i = some (r, σ) ∧ (r = 0 ∨ r = 1) ∧ (r = 1 ↔ k = 1 ∧ mw a s e i) := by
  have hn := tp.1
  have w1 := ok.1
  have hk1 : σ 1 3 = 1 ↔ k = 1 := by rw [e3]; exact nI_eq (b := 1) (by omega) (by omega)
  unfold fX8_isName
  by_cases c1 : k = 1
  · rw [if_neg (fun q => q (hk1.mpr c1)), ok.2.2.1]
    simp only [obp]
    have hl : (σ 1 2 - σ 1 4 = nI (Wd i).length) ↔ e - s = (Wd i).length := by
      rw [e2, e4, pk_sub hse]
      exact nI_eq (by omega) (by omega)
    by_cases c2 : e - s = (Wd i).length
    · rw [if_pos (hl.mpr c2)]
      obtain ⟨r, r1, r2, r3⟩ := isName_l ok tp e4 (by omega) (Wd i).length 0 400 (by omega) (by omega) (by omega)
      exact ⟨r, r1, r2, r3.trans ⟨fun q => ⟨c1, c2, fun j hj => q j (by omega) hj⟩, fun q j _ hj => q.2.2 j hj⟩⟩
    · rw [if_neg (fun q => c2 (hl.mp q))]
      exact ⟨0, rfl, Or.inl rfl, ⟨fun q => absurd q (by decide), fun q => absurd q.2.1 c2⟩⟩
  · rw [if_pos (fun q => c1 (hk1.mp q))]
    exact ⟨0, rfl, Or.inl rfl, ⟨fun q => absurd q (by decide), fun q => absurd q.1 c1⟩⟩
theorem is_s {a : Nat → Nat} {n s e l c0 c1 c2 c3 : Nat} {ρ : S0} (tp : TpM a n ρ) (e9 : ρ 98 19 = nI s) (e8 : ρ 98 18 = nI e) (hse : s ≤ e) (hen : e ≤ n) (hl : 3 ≤ l ∧ l ≤ 6) (h0 : c0 < 256) (h1 : c1 < 256) (h2 : c2 < 256) (h3 : c3 < 256) : ∃ r, fX11_is ρ (nI l) (nI c0) (nI c1) (nI c2) (nI c3) = some (r, ρ) ∧ (r = 0 ∨ r = 1) ∧ (r = 1 ↔ e - s = l ∧ a s = c0 ∧ a (s + 1) = c1 ∧ a (s + 2) = c2 ∧ (l < 4 ∨ a (s + 3) = c3)) := by
  have hn := tp.1
  have no : ∀ P : Prop, ¬ P → ((0 : Int32) = 0 ∨ (0 : Int32) = 1) ∧ ((0 : Int32) = 1 ↔ P) := fun P hP => ⟨Or.inl rfl, ⟨fun q => absurd q (by decide), fun q => absurd q hP⟩⟩
  have hl1 : (ρ 98 18 - ρ 98 19 = nI l) ↔ e - s = l := by
    rw [e8, e9, pk_sub hse]
    exact nI_eq (by omega) (by omega)
  unfold fX11_is fX11_is_b74
  by_cases q1 : e - s = l
  · have g0 : a s < 256 := (tp.2.2 s (by omega)).1
    have g1 : a (s + 1) < 256 := (tp.2.2 (s + 1) (by omega)).1
    have g2 : a (s + 2) < 256 := (tp.2.2 (s + 2) (by omega)).1
    have i0 : nI (a s) = nI c0 ↔ a s = c0 := nI_eq (by omega) (by omega)
    have i1 : nI (a (s + 1)) = nI c1 ↔ a (s + 1) = c1 := nI_eq (by omega) (by omega)
    have i2 : nI (a (s + 2)) = nI c2 ↔ a (s + 2) = c2 := nI_eq (by omega) (by omega)
    rw [if_neg (fun q => q (hl1.mpr q1)), e9, look_s tp (by omega), if_pos (by omega)]
    simp only [obp]
    by_cases q2 : a s = c0
    · rw [if_neg (fun q => q (i0.mpr q2)), e9, show (1 : Int32) = nI 1 from rfl, nI_add, look_s tp (by omega), if_pos (by omega)]
      simp only
      by_cases q3 : a (s + 1) = c1
      · rw [if_neg (fun q => q (i1.mpr q3)), e9, show (2 : Int32) = nI 2 from rfl, nI_add, look_s tp (by omega), if_pos (by omega)]
        simp only
        by_cases q4 : a (s + 2) = c2
        · rw [if_neg (fun q => q (i2.mpr q4))]
          have hl4 : nI l < 4 ↔ l < 4 := nI_ltI (b := 4) (by omega) (by omega)
          by_cases q5 : l < 4
          · rw [if_pos (hl4.mpr q5)]
            exact ⟨1, rfl, Or.inr rfl, ⟨fun _ => ⟨q1, q2, q3, q4, Or.inl q5⟩, fun _ => rfl⟩⟩
          · have g3 : a (s + 3) < 256 := (tp.2.2 (s + 3) (by omega)).1
            have i3 : nI (a (s + 3)) = nI c3 ↔ a (s + 3) = c3 := nI_eq (by omega) (by omega)
            rw [if_neg (fun q => q5 (hl4.mp q)), e9, show (3 : Int32) = nI 3 from rfl, nI_add, look_s tp (by omega), if_pos (by omega)]
            simp only
            by_cases q6 : a (s + 3) = c3
            · rw [if_neg (fun q => q (i3.mpr q6))]
              exact ⟨1, rfl, Or.inr rfl, ⟨fun _ => ⟨q1, q2, q3, q4, Or.inr q6⟩, fun _ => rfl⟩⟩
            · rw [if_pos (fun q => q6 (i3.mp q))]
              exact ⟨0, rfl, no _ (fun q => q.2.2.2.2.elim q5 q6)⟩
        · rw [if_pos (fun q => q4 (i2.mp q))]
          exact ⟨0, rfl, no _ (fun q => q4 q.2.2.2.1)⟩
      · rw [if_pos (fun q => q3 (i1.mp q))]
        exact ⟨0, rfl, no _ (fun q => q3 q.2.2.1)⟩
    · rw [if_pos (fun q => q2 (i0.mp q))]
      exact ⟨0, rfl, no _ (fun q => q2 q.2.1)⟩
  · rw [if_pos (fun q => q1 (hl1.mp q))]
    exact ⟨0, rfl, no _ (fun q => q1 q.1)⟩
theorem mw_2 (a : Nat → Nat) (s e : Nat) : mw a s e 2 ↔ e - s = 4 ∧ a s = 98 ∧ a (s + 1) = 101 ∧ a (s + 2) = 108 ∧ (4 < 4 ∨ a (s + 3) = 108) := by
  constructor
  · intro q
    exact ⟨q.1, q.2 0 (by decide), q.2 1 (by decide), q.2 2 (by decide), Or.inr (q.2 3 (by decide))⟩
  · intro q
    obtain ⟨q1, q2, q3, q4, q5⟩ := q
    refine ⟨q1, fun j hj => ?_⟩
    have hj2 : j < 4 := hj
    have q6 := q5.resolve_left (by omega)
    rcases (show j = 0 ∨ j = 1 ∨ j = 2 ∨ j = 3 by omega) with rfl | rfl | rfl | rfl
    · exact q2
    · exact q3
    · exact q4
    · exact q6
theorem mw_3 (a : Nat → Nat) (s e : Nat) : mw a s e 3 ↔ e - s = 4 ∧ a s = 116 ∧ a (s + 1) = 117 ∧ a (s + 2) = 110 ∧ (4 < 4 ∨ a (s + 3) = 101) := by
  constructor
  · intro q
    exact ⟨q.1, q.2 0 (by decide), q.2 1 (by decide), q.2 2 (by decide), Or.inr (q.2 3 (by decide))⟩
  · intro q
    obtain ⟨q1, q2, q3, q4, q5⟩ := q
    refine ⟨q1, fun j hj => ?_⟩
    have hj2 : j < 4 := hj
    have q6 := q5.resolve_left (by omega)
    rcases (show j = 0 ∨ j = 1 ∨ j = 2 ∨ j = 3 by omega) with rfl | rfl | rfl | rfl
    · exact q2
    · exact q3
    · exact q4
    · exact q6
theorem mw_4 (a : Nat → Nat) (s e : Nat) : mw a s e 4 ↔ e - s = 4 ∧ a s = 102 ∧ a (s + 1) = 101 ∧ a (s + 2) = 117 ∧ (4 < 4 ∨ a (s + 3) = 100) := by
  constructor
  · intro q
    exact ⟨q.1, q.2 0 (by decide), q.2 1 (by decide), q.2 2 (by decide), Or.inr (q.2 3 (by decide))⟩
  · intro q
    obtain ⟨q1, q2, q3, q4, q5⟩ := q
    refine ⟨q1, fun j hj => ?_⟩
    have hj2 : j < 4 := hj
    have q6 := q5.resolve_left (by omega)
    rcases (show j = 0 ∨ j = 1 ∨ j = 2 ∨ j = 3 by omega) with rfl | rfl | rfl | rfl
    · exact q2
    · exact q3
    · exact q4
    · exact q6
theorem mw_5 (a : Nat → Nat) (s e : Nat) : mw a s e 5 ↔ e - s = 4 ∧ a s = 104 ∧ a (s + 1) = 97 ∧ a (s + 2) = 108 ∧ (4 < 4 ∨ a (s + 3) = 102) := by
  constructor
  · intro q
    exact ⟨q.1, q.2 0 (by decide), q.2 1 (by decide), q.2 2 (by decide), Or.inr (q.2 3 (by decide))⟩
  · intro q
    obtain ⟨q1, q2, q3, q4, q5⟩ := q
    refine ⟨q1, fun j hj => ?_⟩
    have hj2 : j < 4 := hj
    have q6 := q5.resolve_left (by omega)
    rcases (show j = 0 ∨ j = 1 ∨ j = 2 ∨ j = 3 by omega) with rfl | rfl | rfl | rfl
    · exact q2
    · exact q3
    · exact q4
    · exact q6
theorem mw_6 (a : Nat → Nat) (s e : Nat) : mw a s e 6 ↔ e - s = 4 ∧ a s = 115 ∧ a (s + 1) = 104 ∧ a (s + 2) = 117 ∧ (4 < 4 ∨ a (s + 3) = 116) := by
  constructor
  · intro q
    exact ⟨q.1, q.2 0 (by decide), q.2 1 (by decide), q.2 2 (by decide), Or.inr (q.2 3 (by decide))⟩
  · intro q
    obtain ⟨q1, q2, q3, q4, q5⟩ := q
    refine ⟨q1, fun j hj => ?_⟩
    have hj2 : j < 4 := hj
    have q6 := q5.resolve_left (by omega)
    rcases (show j = 0 ∨ j = 1 ∨ j = 2 ∨ j = 3 by omega) with rfl | rfl | rfl | rfl
    · exact q2
    · exact q3
    · exact q4
    · exact q6
theorem mw_1 (a : Nat → Nat) (s e : Nat) : mw a s e 1 ↔ e - s = 3 ∧ a s = 103 ∧ a (s + 1) = 97 ∧ a (s + 2) = 112 ∧ (3 < 4 ∨ a (s + 3) = 0) := by
  constructor
  · intro q
    exact ⟨q.1, q.2 0 (by decide), q.2 1 (by decide), q.2 2 (by decide), Or.inl (by omega)⟩
  · intro q
    obtain ⟨q1, q2, q3, q4, q5⟩ := q
    refine ⟨q1, fun j hj => ?_⟩
    have hj2 : j < 3 := hj
    rcases (show j = 0 ∨ j = 1 ∨ j = 2 by omega) with rfl | rfl | rfl
    · exact q2
    · exact q3
    · exact q4
theorem mw_0 (a : Nat → Nat) (s e : Nat) : mw a s e 0 ↔ (e - s = 6 ∧ a s = 104 ∧ a (s + 1) = 111 ∧ a (s + 2) = 117 ∧ (6 < 4 ∨ a (s + 3) = 115)) ∧ a (s + 4) = 101 ∧ a (s + 5) = 115 := by
  constructor
  · intro q
    exact ⟨⟨q.1, q.2 0 (by decide), q.2 1 (by decide), q.2 2 (by decide), Or.inr (q.2 3 (by decide))⟩, q.2 4 (by decide), q.2 5 (by decide)⟩
  · intro q
    obtain ⟨⟨q1, q2, q3, q4, q5⟩, q7, q8⟩ := q
    refine ⟨q1, fun j hj => ?_⟩
    have hj2 : j < 6 := hj
    have q6 := q5.resolve_left (by omega)
    rcases (show j = 0 ∨ j = 1 ∨ j = 2 ∨ j = 3 ∨ j = 4 ∨ j = 5 by omega) with rfl | rfl | rfl | rfl | rfl | rfl
    · exact q2
    · exact q3
    · exact q4
    · exact q6
    · exact q7
    · exact q8
/-- the first name that fits, or none -/
def nmR (a : Nat → Nat) (s e : Nat) (r : Int32) : Prop := (r = -4 ∧ ∀ i, i < 5 → ¬ mw a s e i) ∨ ∃ i, i < 5 ∧ r = nI i ∧ mw a s e i ∧ ∀ j, j < i → ¬ mw a s e j
theorem nameNow_s {a : Nat → Nat} {n s e : Nat} {ρ : S0} (tp : TpM a n ρ) (e9 : ρ 98 19 = nI s) (e8 : ρ 98 18 = nI e) (hse : s ≤ e) (hen : e ≤ n) : ∃ r, fX11_nameNow ρ = some (r, ρ) ∧ nmR a s e r := by
  have hn := tp.1
  have hone : ¬ (1 : Int32) = 0 := by decide
  have hzo : ¬ (0 : Int32) = 1 := by decide
  obtain ⟨r0, p0, o0, m0⟩ := is_s (l := 6) (c0 := 104) (c1 := 111) (c2 := 117) (c3 := 115) tp e9 e8 hse hen (by omega) (by omega) (by omega) (by omega) (by omega)
  obtain ⟨r1, p1, o1, m1⟩ := is_s (l := 3) (c0 := 103) (c1 := 97) (c2 := 112) (c3 := 0) tp e9 e8 hse hen (by omega) (by omega) (by omega) (by omega) (by omega)
  obtain ⟨r2, p2, o2, m2⟩ := is_s (l := 4) (c0 := 98) (c1 := 101) (c2 := 108) (c3 := 108) tp e9 e8 hse hen (by omega) (by omega) (by omega) (by omega) (by omega)
  obtain ⟨r3, p3, o3, m3⟩ := is_s (l := 4) (c0 := 116) (c1 := 117) (c2 := 110) (c3 := 101) tp e9 e8 hse hen (by omega) (by omega) (by omega) (by omega) (by omega)
  obtain ⟨r4, p4, o4, m4⟩ := is_s (l := 4) (c0 := 102) (c1 := 101) (c2 := 117) (c3 := 100) tp e9 e8 hse hen (by omega) (by omega) (by omega) (by omega) (by omega)
  rw [← mw_1] at m1
  rw [← mw_2] at m2
  rw [← mw_3] at m3
  rw [← mw_4] at m4
  have z0 := p0
  have p0' : fX11_is ρ 6 104 111 117 115 = some (r0, ρ) := p0
  have p1' : fX11_is ρ 3 103 97 112 0 = some (r1, ρ) := p1
  have p2' : fX11_is ρ 4 98 101 108 108 = some (r2, ρ) := p2
  have p3' : fX11_is ρ 4 116 117 110 101 = some (r3, ρ) := p3
  have p4' : fX11_is ρ 4 102 101 117 100 = some (r4, ρ) := p4
  have nz : ∀ {r : Int32}, (r = 0 ∨ r = 1) → ¬ r = 0 → r = 1 := fun h q => h.resolve_left q
  have rest : ¬ mw a s e 0 → ∃ r, fX11_nameNow_b49 ρ = some (r, ρ) ∧ nmR a s e r := fun n0 => by
    unfold fX11_nameNow_b49
    rw [p1']
    simp only [obp]
    by_cases c1 : r1 = 0
    · have n1 : ¬ mw a s e 1 := fun q => hzo (c1.symm.trans (m1.mpr q))
      rw [if_pos c1, p2']
      simp only
      by_cases c2 : r2 = 0
      · have n2 : ¬ mw a s e 2 := fun q => hzo (c2.symm.trans (m2.mpr q))
        rw [if_pos c2, p3']
        simp only
        by_cases c3 : r3 = 0
        · have n3 : ¬ mw a s e 3 := fun q => hzo (c3.symm.trans (m3.mpr q))
          rw [if_pos c3, p4']
          simp only
          by_cases c4 : r4 = 0
          · have n4 : ¬ mw a s e 4 := fun q => hzo (c4.symm.trans (m4.mpr q))
            rw [if_pos c4]
            refine ⟨-4, rfl, Or.inl ⟨rfl, fun i hi => ?_⟩⟩
            rcases (show i = 0 ∨ i = 1 ∨ i = 2 ∨ i = 3 ∨ i = 4 by omega) with rfl | rfl | rfl | rfl | rfl <;> assumption
          · rw [if_neg c4]
            refine ⟨4, rfl, Or.inr ⟨4, by omega, rfl, m4.mp (nz o4 c4), fun i hi => ?_⟩⟩
            rcases (show i = 0 ∨ i = 1 ∨ i = 2 ∨ i = 3 by omega) with rfl | rfl | rfl | rfl <;> assumption
        · rw [if_neg c3]
          refine ⟨3, rfl, Or.inr ⟨3, by omega, rfl, m3.mp (nz o3 c3), fun i hi => ?_⟩⟩
          rcases (show i = 0 ∨ i = 1 ∨ i = 2 by omega) with rfl | rfl | rfl <;> assumption
      · rw [if_neg c2]
        refine ⟨2, rfl, Or.inr ⟨2, by omega, rfl, m2.mp (nz o2 c2), fun i hi => ?_⟩⟩
        rcases (show i = 0 ∨ i = 1 by omega) with rfl | rfl <;> assumption
    · rw [if_neg c1]
      refine ⟨1, rfl, Or.inr ⟨1, by omega, rfl, m1.mp (nz o1 c1), fun i hi => ?_⟩⟩
      rcases (show i = 0 by omega) with rfl
      assumption
  unfold fX11_nameNow
  rw [p0']
  simp only [obp]
  by_cases c0 : r0 = 0
  · rw [if_pos c0]
    exact rest (fun q => hzo (c0.symm.trans (m0.mpr ((mw_0 a s e).mp q).1)))
  · have h0 := m0.mp (nz o0 c0)
    have g4 : a (s + 4) < 256 := (tp.2.2 (s + 4) (by omega)).1
    have g5 : a (s + 5) < 256 := (tp.2.2 (s + 5) (by omega)).1
    have i4 : nI (a (s + 4)) = 101 ↔ a (s + 4) = 101 := nI_eq (b := 101) (by omega) (by omega)
    have i5 : nI (a (s + 5)) = 115 ↔ a (s + 5) = 115 := nI_eq (b := 115) (by omega) (by omega)
    rw [if_neg c0, e9, show (4 : Int32) = nI 4 from rfl, nI_add, look_s tp (by omega), if_pos (by omega)]
    simp only
    by_cases c4 : a (s + 4) = 101
    · rw [if_neg (fun q => q (i4.mpr c4)), e9, show (5 : Int32) = nI 5 from rfl, nI_add, look_s tp (by omega), if_pos (by omega)]
      simp only
      by_cases c5 : a (s + 5) = 115
      · rw [if_neg (fun q => q (i5.mpr c5))]
        exact ⟨0, rfl, Or.inr ⟨0, by omega, rfl, (mw_0 a s e).mpr ⟨h0, c4, c5⟩, fun i hi => by omega⟩⟩
      · rw [if_pos (fun q => c5 (i5.mp q))]
        exact rest (fun q => c5 ((mw_0 a s e).mp q).2.2)
    · rw [if_pos (fun q => c4 (i4.mp q))]
      exact rest (fun q => c4 ((mw_0 a s e).mp q).2.1)
theorem withNow_s {a : Nat → Nat} {n s e : Nat} {ρ : S0} (tp : TpM a n ρ) (e9 : ρ 98 19 = nI s) (e8 : ρ 98 18 = nI e) (hse : s ≤ e) (hen : e ≤ n) : ∃ r, fX11_withNow ρ = some (r, ρ) ∧ ((r = 10 ∧ mw a s e 5) ∨ (r = 11 ∧ ¬ mw a s e 5 ∧ mw a s e 6) ∨ (r = -4 ∧ ¬ mw a s e 5 ∧ ¬ mw a s e 6)) := by
  have hzo : ¬ (0 : Int32) = 1 := by decide
  obtain ⟨r5, p5, o5, m5⟩ := is_s (l := 4) (c0 := 104) (c1 := 97) (c2 := 108) (c3 := 102) tp e9 e8 hse hen (by omega) (by omega) (by omega) (by omega) (by omega)
  obtain ⟨r6, p6, o6, m6⟩ := is_s (l := 4) (c0 := 115) (c1 := 104) (c2 := 117) (c3 := 116) tp e9 e8 hse hen (by omega) (by omega) (by omega) (by omega) (by omega)
  rw [← mw_5] at m5
  rw [← mw_6] at m6
  have p5' : fX11_is ρ 4 104 97 108 102 = some (r5, ρ) := p5
  have p6' : fX11_is ρ 4 115 104 117 116 = some (r6, ρ) := p6
  unfold fX11_withNow
  rw [p5']
  simp only [obp]
  by_cases c5 : r5 = 0
  · have n5 : ¬ mw a s e 5 := fun q => hzo (c5.symm.trans (m5.mpr q))
    rw [if_pos c5, p6']
    simp only
    by_cases c6 : r6 = 0
    · have n6 : ¬ mw a s e 6 := fun q => hzo (c6.symm.trans (m6.mpr q))
      rw [if_pos c6]
      exact ⟨-4, rfl, Or.inr (Or.inr ⟨rfl, n5, n6⟩)⟩
    · rw [if_neg c6]
      exact ⟨11, rfl, Or.inr (Or.inl ⟨rfl, n5, m6.mp (o6.resolve_left c6)⟩)⟩
  · rw [if_neg c5]
    exact ⟨10, rfl, Or.inl ⟨rfl, m5.mp (o5.resolve_left c5)⟩⟩
