def wh (f g : Nat → Int32) (n : Nat) : Nat → Nat × Int32 × Int32 × Int32
  | 0 => (0, -4, -4, 63)
  | t + 1 => if ft f g t n = 0 then wh f g n t else ((wh f g n t).1 + 1, if (wh f g n t).1 = 0 then nI t else (wh f g n t).2.1, if (wh f g n t).1 = 0 then rfd f g t n else (wh f g n t).2.2.1, (wh f g n t).2.2.2 &&& rfd f g t n)
theorem wh_c (f g : Nat → Int32) (n : Nat) : ∀ t, (wh f g n t).1 ≤ t
  | 0 => Nat.le_refl _
  | t + 1 => by
    have := wh_c f g n t
    unfold wh
    by_cases c : ft f g t n = 0
    · rw [if_pos c]; omega
    · rw [if_neg c]; exact Nat.succ_le_succ this
theorem wh_0 (f g : Nat → Int32) (n : Nat) : ∀ t, (wh f g n t).1 = 0 → (wh f g n t).2.2.2 = 63
  | 0 => fun _ => rfl
  | t + 1 => by
    have := wh_0 f g n t
    unfold wh
    by_cases c : ft f g t n = 0
    · rw [if_pos c]; exact this
    · rw [if_neg c]; intro q; cases q
theorem rfd_b {f g : Nat → Int32} {t n : Nat} (ok : okT f g t n) : ∀ i, i ≤ n → ∃ m, m < 64 ∧ rfd f g t i = nI m
  | 0, _ => ⟨0, by omega, rfl⟩
  | i + 1, hi => by
    obtain ⟨m, m1, m2⟩ := rfd_b ok i (by omega)
    obtain ⟨b, w, hb, hw, g1, o1⟩ := ok.2.2 i (by omega)
    have hsb : stk g t i = b := by unfold stk; rw [g1]; exact nI_clamp (by omega)
    unfold rfd
    by_cases c : f (67 + i) = -4
    · rw [if_pos c, hsb, o1, m2]
      refine ⟨m ||| 2 ^ w, Nat.or_lt_two_pow (n := 6) m1 (Nat.pow_lt_pow_right (by omega) hw), wb_o ⟨m, m1⟩ ⟨w, hw⟩⟩
    · rw [if_neg c]; exact ⟨m, m1, m2⟩
theorem and63 : ∀ m : Fin 64, (63 : Int32) &&& nI m.1 = nI m.1 := by decide
theorem eq70 {σ τ : S0} (h : ∀ x, x ≠ 70 → τ x = σ x) : eqv σ τ := fun k j hr => by
  by_cases hk : k = 70
  · subst hk
    unfold rel at hr
    have := of_decide_eq_true hr
    omega
  · rw [h k hk]
def W70 (σ : S0) (n t : Nat) (τ : S0) : Prop := τ 70 2 = nI (wh (σ 99) (σ 101) n t).1 ∧ ((wh (σ 99) (σ 101) n t).1 ≠ 0 → τ 70 3 = (wh (σ 99) (σ 101) n t).2.1 ∧ τ 70 4 = (wh (σ 99) (σ 101) n t).2.2.1 ∧ τ 70 5 = (wh (σ 99) (σ 101) n t).2.2.2)
theorem cmp_l {H G B T n : Nat} (hn : n ≤ 12) : ∀ (d t m : Nat) (σ : S0), T - t = d → t ≤ T → d < m → Rall σ H G B T → σ 99 66 = nI n → W70 σ n t σ → ∃ τ, fX3_compareAll_h7 m σ (nI t) = some (0, τ) ∧ (∀ x, x ≠ 70 → τ x = σ x) ∧ W70 σ n T τ := by
  intro d
  induction d with
  | zero =>
    intro t m σ h1 h2 h3 h h66 hw
    obtain ⟨m, rfl⟩ : ∃ q, m = q + 1 := ⟨m - 1, by omega⟩
    have hT := h.1.1.2.2.2.2
    have : t = T := by omega
    subst this
    refine ⟨σ, ?_, fun _ _ => rfl, hw⟩
    show fX3_compareAll_b7 _ _ _ = _
    unfold fX3_compareAll_b7
    rw [if_pos (show σ 22 2 ≤ nI t from by rw [h.1.2.2.2.2]; exact nI_le (Nat.le_refl _) (by omega))]
  | succ d ih =>
    intro t m σ h1 h2 h3 h h66 hw
    obtain ⟨m, rfl⟩ : ∃ q, m = q + 1 := ⟨m - 1, by omega⟩
    have hT := h.1.1.2.2.2.2
    have hlt : t < T := by omega
    have e1 : fX3_compareAll_h7 (m + 1) σ (nI t) = if ft (σ 99) (σ 101) t n = 0 then fX3_compareAll_h7 m σ (nI (t + 1)) else obp (fX3_addFitting σ (nI t)) (fun _ σ7 => fX3_compareAll_h7 m σ7 (nI (t + 1))) := by
      show fX3_compareAll_b7 _ _ _ = _
      unfold fX3_compareAll_b7 fX3_compareAll_b31
      rw [if_neg (show ¬ (σ 22 2 ≤ nI t) from by rw [h.1.2.2.2.2]; exact nI_ge (by omega) (by omega)), canBe_s h hlt h66 hn]
      simp only [obp, ol, nI_1]
    rw [e1]
    by_cases c : ft (σ 99) (σ 101) t n = 0
    · rw [if_pos c]
      have hw2 : W70 σ n (t + 1) σ := by
        unfold W70 at hw ⊢
        rw [wh, if_pos c]; exact hw
      exact ih (t + 1) m σ (by omega) (by omega) (by omega) h h66 hw2
    · rw [if_neg c]
      have hln : ln (σ 101) t = n := by
        by_cases q : ln (σ 101) t = n
        · exact q
        · unfold ft at c; rw [if_neg q] at c; exact absurd rfl c
      obtain ⟨ok, okp, -, -⟩ := RT h hlt
      rw [hln] at ok okp
      have h7 : σ 32 7 = nI n := h.2.1.2.2.2.1.trans h66
      have h39 : ∀ j, j < n → σ 39 j = σ 99 (67 + j) := fun j hj => by
        have := h.2.1.2.2.2.2 j (by omega) (by show nI j < σ 99 66; rw [h66]; exact (nI_ltI (by omega) (by omega)).mpr hj)
        simpa using this
      have hr : fX3_refusedBy σ (nI t) = some (rfd (σ 99) (σ 101) t n, σ) := refusedBy_l (σ 99) (σ 101) (by omega) hn okp h7 h39 n 0 400 (by omega) (by omega) (by omega)
      obtain ⟨mm, mm1, mm2⟩ := rfd_b ok n (Nat.le_refl _)
      have hc := wh_c (σ 99) (σ 101) n t
      have key : ∃ τ, fX3_addFitting σ (nI t) = some (0, τ) ∧ (∀ x, x ≠ 70 → τ x = σ x) ∧ W70 σ n (t + 1) τ := by
        unfold fX3_addFitting fX3_addFitting_b28
        rw [hr]
        simp only [obp, ol]
        by_cases c0 : (wh (σ 99) (σ 101) n t).1 = 0
        · have z : σ 70 2 = 0 := by rw [hw.1, c0]; rfl
          rw [if_neg (fun q => q z)]
          refine ⟨_, rfl, fun x hx => ?_, ?_, fun _ => ⟨?_, ?_, ?_⟩⟩
          · rw [su_ne hx, su_ne hx, su_ne hx, su_ne hx, su_ne hx]
          · rw [su_s, wh, if_neg c, su_j (by omega), su_j (by omega), su_j (by omega), su_j (by omega), hw.1, nI_1]
          · rw [su_j (by omega), su_j (by omega), su_j (by omega), su_j (by omega), su_s, wh, if_neg c]
            simp only [if_pos c0]
          · rw [su_j (by omega), su_j (by omega), su_j (by omega), su_s, wh, if_neg c]
            simp only [if_pos c0]
          · rw [su_j (by omega), su_s, su_s, wh, if_neg c]
            simp only
            rw [wh_0 _ _ _ _ c0, mm2, Int32.and_self, and63 ⟨mm, mm1⟩]
        · have z : ¬ σ 70 2 = 0 := by rw [hw.1]; exact nI_ne (b := 0) c0 (by omega) (by omega)
          obtain ⟨w3, w4, w5⟩ := hw.2 c0
          rw [if_pos z]
          refine ⟨_, rfl, fun x hx => ?_, ?_, fun _ => ⟨?_, ?_, ?_⟩⟩
          · rw [su_ne hx, su_ne hx]
          · rw [su_s, wh, if_neg c, su_j (by omega), hw.1, nI_1]
          · rw [su_j (by omega), su_j (by omega), wh, if_neg c]
            simp only [if_neg c0]
            exact w3
          · rw [su_j (by omega), su_j (by omega), wh, if_neg c]
            simp only [if_neg c0]
            exact w4
          · rw [su_j (by omega), su_s, wh, if_neg c]
            simp only
            rw [w5]
      obtain ⟨τ, t1, t2, t3⟩ := key
      rw [t1]
      simp only [obp]
      have e99 := t2 99 (by omega)
      have e101 := t2 101 (by omega)
      obtain ⟨ν, v1, v2, v3⟩ := ih (t + 1) m τ (by omega) (by omega) (by omega) (h.cg (eq70 t2)) (by rw [e99]; exact h66) (by unfold W70 at t3 ⊢; rw [e99, e101]; exact t3)
      refine ⟨ν, v1, fun x hx => (v2 x hx).trans (t2 x hx), ?_⟩
      unfold W70 at v3 ⊢
      rw [e99, e101] at v3
      exact v3
def wsel (x : Int32) (w : Nat × Int32 × Int32 × Int32) : Int32 := if ¬ x = 0 then (if ¬ nI w.1 = 0 then (if ¬ x = 1 then (if ¬ x = 2 then w.2.2.2 else w.2.2.1) else w.2.1) else -4) else nI w.1
theorem whM_l {H G B T n : Nat} (hn : n ≤ 12) (x : Int32) : ∀ (d t m : Nat) (σ : S0), T - t = d → t ≤ T → d < m → Rall σ H G B T → σ 99 66 = nI n → ∃ τ, fX11_which_h43 m σ x (nI (wh (σ 99) (σ 101) n t).1) (wh (σ 99) (σ 101) n t).2.1 (wh (σ 99) (σ 101) n t).2.2.1 (wh (σ 99) (σ 101) n t).2.2.2 (nI t) = some (wsel x (wh (σ 99) (σ 101) n T), τ) ∧ onlyF σ τ := by
  intro d
  induction d with
  | zero =>
    intro t m σ h1 h2 h3 h h66
    obtain ⟨m, rfl⟩ : ∃ q, m = q + 1 := ⟨m - 1, by omega⟩
    have hT := h.1.1.2.2.2.2
    have : t = T := by omega
    subst this
    refine ⟨σ, ?_, fun _ _ _ => rfl⟩
    show fX11_which_b43 _ _ _ _ _ _ _ _ = _
    unfold fX11_which_b43 wsel
    rw [if_pos (show σ 98 5 ≤ nI t from by rw [h.1.2.1.2.2.2]; exact nI_le (Nat.le_refl _) (by omega))]
    by_cases c0 : x = 0
    · rw [if_neg (fun q => q c0), if_neg (fun q => q c0)]
    · rw [if_pos c0, if_pos c0]
      by_cases c1 : nI (wh (σ 99) (σ 101) n t).1 = 0
      · rw [if_neg (fun q => q c1), if_neg (fun q => q c1)]
      · rw [if_pos c1, if_pos c1]
        by_cases c2 : x = 1
        · rw [if_neg (fun q => q c2), if_neg (fun q => q c2)]
        · rw [if_pos c2, if_pos c2]
          by_cases c3 : x = 2
          · rw [if_neg (fun q => q c3), if_neg (fun q => q c3)]
          · rw [if_pos c3, if_pos c3]
  | succ d ih =>
    intro t m σ h1 h2 h3 h h66
    obtain ⟨m, rfl⟩ : ∃ q, m = q + 1 := ⟨m - 1, by omega⟩
    have hT := h.1.1.2.2.2.2
    have hlt : t < T := by omega
    obtain ⟨τ, t1, t2, t3⟩ := isFit_s h hlt h66 hn
    have e99 := t2.c (k := 99) (by omega)
    have e101 := t2.c (k := 101) (by omega)
    obtain ⟨ν, v1, v2⟩ := ih (t + 1) m τ (by omega) (by omega) (by omega) (h.cg t2.e) (by rw [e99]; exact h66)
    rw [e99, e101] at v1
    refine ⟨ν, ?_, t2.tr v2⟩
    show fX11_which_b43 _ _ _ _ _ _ _ _ = _
    unfold fX11_which_b43 fX11_which_b71 fX11_which_b85 fX11_which_b99
    rw [if_neg (show ¬ (σ 98 5 ≤ nI t) from by rw [h.1.2.1.2.2.2]; exact nI_ge (by omega) (by omega)), t1]
    simp only [obp, ol, nI_1]
    have hc := wh_c (σ 99) (σ 101) n t
    by_cases c : ft (σ 99) (σ 101) t n = 0
    · rw [if_pos c]
      rw [wh, if_pos c] at v1
      exact v1
    · rw [if_neg c, t3 c]
      rw [wh, if_neg c] at v1
      simp only at v1
      by_cases c0 : (wh (σ 99) (σ 101) n t).1 = 0
      · have z : nI (wh (σ 99) (σ 101) n t).1 = 0 := by rw [c0]; rfl
        simp only [if_neg (fun q : ¬ _ => q z)]
        simp only [if_pos c0] at v1
        exact v1
      · have z : ¬ nI (wh (σ 99) (σ 101) n t).1 = 0 := nI_ne (b := 0) c0 (by omega) (by omega)
        simp only [if_pos z]
        simp only [if_neg c0] at v1
        exact v1
theorem sim_which (x : Int32) : Sim (fun σ => fX10_which σ x) (fun σ => fX11_which σ x) := by
  intro σ hR
  show An (fX10_which σ x) (fun r τ => An (fX11_which τ x) (fun q ρ => r = q ∧ R ρ))
  obtain ⟨H, G, B, T, h⟩ := id hR
  obtain ⟨⟨b1, b2, b3, b4, b5⟩, ⟨e1, e2, e5, e6⟩, e3, e4, e7⟩ := h.1
  obtain ⟨⟨n, n1, n2, n3⟩, -⟩ := id h.2.2.1
  simp only [Nat.zero_add] at n2
  have h7 : σ 32 7 = nI n := h.2.1.2.2.2.1.trans n2
  have hone : ¬ (1 : Int32) = 0 := by decide
  have l0 : (x < 0) ↔ x.toInt < 0 := i3_lt x 0
  have l3 : (x ≤ 3) ↔ x.toInt ≤ 3 := i3_le x 3
  by_cases hx : 0 ≤ x.toInt ∧ x.toInt ≤ 3
  · have hX : fX10_which σ x = if ¬ σ 32 7 = 0 then obp (fX3_compareAll σ) (fun r4 σ5 => if ¬ x = 0 then (if ¬ (σ5 70 2) = 0 then (if ¬ x = 1 then (if ¬ x = 2 then (some (σ5 70 5, σ5)) else (some (σ5 70 4, σ5))) else (some (σ5 70 3, σ5))) else (some ((-4), σ5))) else (some (σ5 70 2, σ5))) else some (-2, σ) := by
      unfold fX10_which
      rw [if_neg (by rw [l0]; omega), if_pos (by rw [l3]; omega)]
    have hM : ∀ τ : S0, τ 99 66 = nI n → fX11_which τ x = if ¬ nI n = 0 then fX11_which_h43 400 τ x 0 (-4) (-4) 63 0 else some (-2, τ) := fun τ hτ => by
      unfold fX11_which
      rw [in_i τ x 0 3 0 3 rfl rfl, if_pos hx]
      simp only [obp, ol]
      rw [if_pos hone, og_t c66, v66, hτ]
    by_cases c : n = 0
    · refine Sim.same (fun τ => fX11_which τ x) (a := -2) hR ?_ ?_
      · rw [hX, if_neg (by rw [h7, c]; decide)]
      · show fX11_which _ _ = _
        rw [hM σ n2, if_neg (by rw [c]; decide)]
    · have hn0 : ¬ nI n = 0 := nI_ne (b := 0) c (by omega) (by omega)
      have s1 : ∀ y, y ≠ 70 → su σ 70 2 0 y = σ y := fun y hy => su_ne hy
      obtain ⟨τ, t1, t2, t3⟩ := cmp_l n1 T 0 400 (su σ 70 2 0) (by omega) (by omega) (by omega) (h.cg (eq70 s1)) (by rw [s1 99 (by omega)]; exact n2) ⟨su_s, fun q => absurd rfl q⟩
      have t4 : ∀ y, y ≠ 70 → τ y = σ y := fun y hy => (t2 y hy).trans (s1 y hy)
      have hτ := h.cg (eq70 t4)
      unfold W70 at t3
      rw [s1 99 (by omega), s1 101 (by omega)] at t3
      obtain ⟨ρ, r1, r2⟩ := whM_l n1 x T 0 400 τ (by omega) (by omega) (by omega) hτ (by rw [t4 99 (by omega)]; exact n2)
      rw [t4 99 (by omega), t4 101 (by omega)] at r1
      refine ⟨wsel x (wh (σ 99) (σ 101) n T), τ, ?_, wsel x (wh (σ 99) (σ 101) n T), ρ, ?_, rfl, H, G, B, T, hτ.cg r2.e⟩
      · have ec : fX3_compareAll σ = some (0, τ) := t1
        rw [hX, if_pos (by rw [h7]; exact hn0), ec]
        simp only [obp, t3.1]
        unfold wsel
        by_cases c0 : x = 0
        · rw [if_neg (fun q => q c0), if_neg (fun q => q c0)]
        · rw [if_pos c0, if_pos c0]
          by_cases c1 : (wh (σ 99) (σ 101) n T).1 = 0
          · have z : nI (wh (σ 99) (σ 101) n T).1 = 0 := by rw [c1]; rfl
            rw [if_neg (fun q => q z), if_neg (fun q => q z)]
          · have hc := wh_c (σ 99) (σ 101) n T
            have z : ¬ nI (wh (σ 99) (σ 101) n T).1 = 0 := nI_ne (b := 0) c1 (by omega) (by omega)
            obtain ⟨w3, w4, w5⟩ := t3.2 c1
            rw [if_pos z, if_pos z, w3, w4, w5]
            by_cases c2 : x = 1
            · rw [if_neg (fun q => q c2), if_neg (fun q => q c2)]
            · rw [if_pos c2, if_pos c2]
              by_cases c3 : x = 2
              · rw [if_neg (fun q => q c3), if_neg (fun q => q c3)]
              · rw [if_pos c3, if_pos c3]
      · show fX11_which _ _ = _
        rw [hM τ (by rw [t4 99 (by omega)]; exact n2), if_pos hn0]
        exact r1
  · refine Sim.same (fun τ => fX11_which τ x) (a := -1) hR ?_ ?_
    · unfold fX10_which
      by_cases q : x < 0
      · rw [if_pos q]
      · rw [if_neg q, if_neg (by rw [l3]; rw [l0] at q; omega)]
    · show fX11_which _ _ = _
      unfold fX11_which
      rw [in_i σ x 0 3 0 3 rfl rfl, if_neg hx]
      rfl
