/-! ASK, BEST, SETTLE, SETTLED -/
abbrev Fw (σ : S0) (G B T h : Nat) : Int32 → Int32 := fun a => wgh (fs (σ 99) h a B) (σ 101) (nI G) T h
theorem findBest_l {σ : S0} {H G B T h : Nat} (hr : Rall σ H G B T) (hh : h < H) : ∀ (d i m : Nat) (τ : S0), 21 - i = d → i ≤ 21 → d < m → onlyQ σ τ → ((i = 0 ∧ τ 98 30 = -4) ∨ ∃ j, i = j + 1 ∧ τ 98 30 = (bs (Fw σ G B T h) j).1 ∧ τ 98 31 = (bs (Fw σ G B T h) j).2) → ∃ ν, fX11_findBest_h13 m τ (nI h) (nI i) = some (0, ν) ∧ onlyQ σ ν ∧ ν 98 30 = (bs (Fw σ G B T h) 20).1 ∧ ν 98 31 = (bs (Fw σ G B T h) 20).2 := by
  intro d
  have hone : ¬ (1 : Int32) = 0 := by decide
  induction d with
  | zero =>
    intro i m τ h1 h2 h3 ho hc
    obtain ⟨m, rfl⟩ : ∃ q, m = q + 1 := ⟨m - 1, by omega⟩
    have : i = 21 := by omega
    subst this
    obtain ⟨j, j1, j2, j3⟩ := hc.resolve_left (fun q => by omega)
    have : j = 20 := by omega
    subst this
    refine ⟨τ, ?_, ho, j2, j3⟩
    show fX11_findBest_b13 _ _ _ _ = _
    unfold fX11_findBest_b13
    rw [if_pos (show (20 : Int32) < nI 21 from by decide)]
  | succ d ih =>
    intro i m τ h1 h2 h3 ho hc
    obtain ⟨m, rfl⟩ : ∃ q, m = q + 1 := ⟨m - 1, by omega⟩
    have hng : ¬ (20 : Int32) < nI i := fun q => by
      have := (nI_ltI (a := 20) (b := i) (by omega) (by omega)).mp q
      omega
    obtain ⟨ρ, r1, r2, r3, r4⟩ := askOf_s (a := i) (hr.cg ho.e) hh (by omega)
    rw [ho.c (k := 99) (by omega) (by omega) (by omega), ho.c (k := 101) (by omega) (by omega) (by omega)] at r1
    have htake : fX11_findBest_b43 (fX11_findBest_h13 m) ρ (nI h) (nI i) (Fw σ G B T h (nI i)) = fX11_findBest_h13 m (su (su ρ 98 30 (nI i)) 98 31 (Fw σ G B T h (nI i))) (nI h) (nI (i + 1)) := by
      unfold fX11_findBest_b43 fX11_findBest_b48 fX11_findBest_b64 fX11_findBest_b81
      rw [if_neg hone]
      simp only [ol, nI_1]
      rw [if_neg hone]
    have e1 : fX11_findBest_h13 (m + 1) τ (nI h) (nI i) = if ρ 98 30 = -4 then fX11_findBest_b43 (fX11_findBest_h13 m) ρ (nI h) (nI i) (Fw σ G B T h (nI i)) else if Fw σ G B T h (nI i) ≤ ρ 98 31 then fX11_findBest_h13 m (su (su ρ 98 30 (ρ 98 30)) 98 31 (ρ 98 31)) (nI h) (nI (i + 1)) else fX11_findBest_b43 (fX11_findBest_h13 m) ρ (nI h) (nI i) (Fw σ G B T h (nI i)) := by
      show fX11_findBest_b13 _ _ _ _ = _
      unfold fX11_findBest_b13
      rw [if_neg hng, r1]
      simp only [obp]
      unfold fX11_findBest_b48 fX11_findBest_b64 fX11_findBest_b81
      simp only [ol, nI_1, if_true]
      rw [su_j (by omega)]
    rw [e1]
    rcases hc with ⟨rfl, c1⟩ | ⟨j, rfl, j2, j3⟩
    · rw [if_pos (by rw [r3]; exact c1), htake]
      exact ih 1 m _ (by omega) (by omega) (by omega) (((ho.tr r2).su (by omega) _).su (by omega) _) (Or.inr ⟨0, rfl, by rw [su_j (by omega), su_s]; rfl, by rw [su_s]; rfl⟩)
    · obtain ⟨j0, q1, q2⟩ := bs_1 (Fw σ G B T h) j
      rw [if_neg (by rw [r3, j2, q2]; exact nI_m4 (by omega)), r4, j3]
      by_cases c : Fw σ G B T h (nI (j + 1)) ≤ (bs (Fw σ G B T h) j).2
      · rw [if_pos c]
        exact ih (j + 1 + 1) m _ (by omega) (by omega) (by omega) (((ho.tr r2).su (by omega) _).su (by omega) _) (Or.inr ⟨j + 1, rfl, by rw [su_j (by omega), su_s, r3, j2, bs, if_pos c], by rw [su_s, bs, if_pos c]⟩)
      · rw [if_neg c, htake]
        exact ih (j + 1 + 1) m _ (by omega) (by omega) (by omega) (((ho.tr r2).su (by omega) _).su (by omega) _) (Or.inr ⟨j + 1, rfl, by rw [su_j (by omega), su_s, bs, if_neg c], by rw [su_s, bs, if_neg c]⟩)
theorem findBest_s {σ : S0} {H G B T h : Nat} (hr : Rall σ H G B T) (hh : h < H) : ∃ ν, fX11_findBest σ (nI h) = some (0, ν) ∧ onlyQ σ ν ∧ ν 98 30 = (bs (Fw σ G B T h) 20).1 ∧ ν 98 31 = (bs (Fw σ G B T h) 20).2 := findBest_l hr hh 21 0 400 (su (su σ 98 30 (-4)) 98 31 0) (by omega) (by omega) (by omega) (((onlyQ.rf σ).su (by omega) _).su (by omega) _) (Or.inl ⟨rfl, by rw [su_j (by omega), su_s]⟩)
def wts (σ : S0) (G B T h : Nat) : Int32 := if (bs (Fw σ G B T h) 20).2 ≤ wgh (σ 99) (σ 101) (nI G) T h then 0 else 1
theorem changesM_s {σ : S0} {H G B T h : Nat} (hr : Rall σ H G B T) (hh : h < H) : ∃ ρ, fX11_changes σ (nI h) = some (wts σ G B T h, ρ) ∧ onlyQ σ ρ ∧ ρ 98 30 = (bs (Fw σ G B T h) 20).1 := by
  obtain ⟨ν, v1, v2, v3, v4⟩ := findBest_s hr hh
  obtain ⟨ρ, r1, r2⟩ := wageM_s (hr.cg v2.e) hh
  rw [v2.c (k := 99) (by omega) (by omega) (by omega), v2.c (k := 101) (by omega) (by omega) (by omega)] at r1
  refine ⟨ρ, ?_, v2.tr r2.q, by rw [r2 98 30 (by omega) (by omega)]; exact v3⟩
  unfold fX11_changes wts
  rw [v1]
  simp only [obp]
  rw [r1]
  simp only
  rw [v4]
  by_cases c : (bs (Fw σ G B T h) 20).2 ≤ wgh (σ 99) (σ 101) (nI G) T h
  · rw [if_pos c, if_pos c]
  · rw [if_neg c, if_neg c]
theorem wantsX_s {σ : S0} {H G B T h : Nat} (hr : Rall σ H G B T) (hh : h < H) : ∃ τ, fX0_wantsOther σ (nI h) = some (wts σ G B T h, τ) ∧ onlyW σ τ ∧ τ 41 7 = (bs (Fw σ G B T h) 20).1 := by
  obtain ⟨ν, v1, v2, v3, v4⟩ := choose_s hr hh
  obtain ⟨τ, r1, r2⟩ := wageX_w (hr.cg v2.e) hh
  rw [v2 99 (by omega), v2 101 (by omega)] at r1
  refine ⟨τ, ?_, v2.tr r2.w, by rw [r2 41 (by omega)]; exact v3⟩
  unfold fX0_wantsOther wts
  rw [v1]
  simp only [obp]
  rw [r1]
  simp only
  rw [v4]
  by_cases c : (bs (Fw σ G B T h) 20).2 ≤ wgh (σ 99) (σ 101) (nI G) T h
  · rw [if_pos c, if_pos c]
  · rw [if_neg c, if_neg c]
theorem eqv.mx {σ τ ρ : S0} (h1 : eqv σ τ) (h2 : eqv σ ρ) : eqv σ (mix τ ρ) := fun k j hk => by
  by_cases c : k < 98
  · rw [mix_lo c]; exact h1 k j hk
  · rw [mix_hi (by omega)]; exact h2 k j hk
theorem wants2 {σ : S0} {H G B T h : Nat} (hr : Rall σ H G B T) (hh : h < H) : Two (fX0_wantsOther σ (nI h)) (fX11_changes σ (nI h)) (fun a b ν => a = b ∧ Rall ν H G B T ∧ ∃ j, j ≤ 20 ∧ ν 41 7 = nI j ∧ ν 98 30 = nI j) := by
  obtain ⟨τ, t1, t2, t3⟩ := wantsX_s hr hh
  obtain ⟨ρ, r1, r2, r3⟩ := changesM_s hr hh
  obtain ⟨j, j1, j2⟩ := bs_1 (Fw σ G B T h) 20
  refine ⟨_, τ, _, ρ, t1, r1, rfl, hr.cg (t2.e.mx r2.e), j, j1, ?_, ?_⟩
  · rw [mix_lo (by omega), t3, j2]
  · rw [mix_hi (by omega), r3, j2]
theorem setFees_l {σ : S0} {h B : Nat} (a : Int32) (hB : B ≤ 12) (e0 : σ 32 0 = nI B) : ∀ (d i m : Nat) (τ : S0), B - i = d → i ≤ B → d < m → (∀ x, x ≠ 34 → τ x = σ x) → (∀ b, b < i → τ 34 b = if σ 33 b = nI h then a else σ 34 b) → (∀ b, i ≤ b → τ 34 b = σ 34 b) → ∃ ν, fX0_setFees_h2 m τ (nI h) a (nI i) = some (0, ν) ∧ (∀ x, x ≠ 34 → ν x = σ x) ∧ ∀ b, b < B → ν 34 b = if σ 33 b = nI h then a else σ 34 b := by
  intro d
  induction d with
  | zero =>
    intro i m τ h1 h2 h3 t1 t2 t3
    obtain ⟨m, rfl⟩ : ∃ q, m = q + 1 := ⟨m - 1, by omega⟩
    have : i = B := by omega
    subst this
    refine ⟨τ, ?_, t1, t2⟩
    show fX0_setFees_b2 _ _ _ _ _ = _
    unfold fX0_setFees_b2
    rw [if_pos (show τ 32 0 ≤ nI i from by rw [t1 32 (by omega), e0]; exact nI_le (Nat.le_refl _) (by omega))]
  | succ d ih =>
    intro i m τ h1 h2 h3 t1 t2 t3
    obtain ⟨m, rfl⟩ : ∃ q, m = q + 1 := ⟨m - 1, by omega⟩
    have hgi := ix_ok (j := i) (n := 12) (by omega) (by omega)
    have hci : (nI i).toNatClampNeg = i := nI_clamp (by omega)
    have hgi2 : ¬ (nI i < 0 ∨ 12 ≤ i) := fun q => hgi (by rw [hci]; exact q)
    show ∃ ν, fX0_setFees_b2 _ _ _ _ _ = _ ∧ _
    unfold fX0_setFees_b2 fX0_setFees_b36
    rw [if_neg (show ¬ (τ 32 0 ≤ nI i) from by rw [t1 32 (by omega), e0]; exact nI_ge (by omega) (by omega))]
    simp only [og_t hgi, og_t hgi2, hci, ol, nI_1, t1 33 (by omega)]
    by_cases c : σ 33 i = nI h
    · rw [if_neg (fun q => q c)]
      refine ih (i + 1) m (su τ 34 i a) (by omega) (by omega) (by omega) (fun x hx => by rw [su_ne hx]; exact t1 x hx) (fun b hb => ?_) (fun b hb => by rw [su_j (by omega)]; exact t3 b (by omega))
      by_cases q : b = i
      · subst q; rw [su_s, if_pos c]
      · rw [su_j q]; exact t2 b (by omega)
    · rw [if_pos c]
      refine ih (i + 1) m τ (by omega) (by omega) (by omega) t1 (fun b hb => ?_) (fun b hb => t3 b (by omega))
      by_cases q : b = i
      · subst q; rw [if_neg c]; exact t3 b (by omega)
      · exact t2 b (by omega)
theorem set2 {σ : S0} {H G B T h a : Nat} (hr : Rall σ H G B T) (ha : a ≤ 20) : Two (fX0_setFees σ (nI h) (nI a)) (fX11_asks σ (nI h) (nI a)) (fun _ _ ν => Rall ν H G B T) := by
  have hB := hr.1.1.2.2.2.1
  obtain ⟨τ, t1, t2, t3⟩ := setFees_l (σ := σ) (h := h) (nI a) hB hr.2.1.1 B 0 400 σ (by omega) (by omega) (by omega) (fun _ _ => rfl) (fun b hb => by omega) (fun _ _ => rfl)
  obtain ⟨ρ, r1, r2, r3⟩ := asks_s (σ := σ) (h := h) (nI a) hB hr.1.2.1.2.2.1
  refine ⟨0, τ, 0, ρ, t1, r1, R_fees (h := h) (a := a) hr ha (fun b hb => ?_) ?_ (fun x h1 h2 => ?_)⟩
  · obtain ⟨k1, k2, -⟩ := hr.2.1.2.1 b hb
    rw [Nat.zero_add] at k1 k2
    rw [mix_lo (by omega), t3 b hb, fs_1 hb]
    have k1 : σ 33 b = σ 99 (5 * b) := k1
    have k2 : σ 34 b = σ 99 (5 * b + 1) := k2
    rw [k1, k2]
  · rw [mix_hi (by omega), r2]
  · by_cases c : x < 98
    · rw [mix_lo c, t2 x h1]
    · rw [mix_hi (by omega), r3 x h2]
theorem obp_a {o : Option (Int32 × S0)} {k1 k2 : Int32 → S0 → Option (Int32 × S0)} : obp (obp o k1) k2 = obp o (fun r τ => obp (k1 r τ) k2) := by
  cases o <;> rfl
theorem obp_i {c : Prop} [Decidable c] {a b : Option (Int32 × S0)} {k : Int32 → S0 → Option (Int32 × S0)} : obp (if c then a else b) k = if c then obp a k else obp b k := by
  by_cases h : c
  · rw [if_pos h, if_pos h]
  · rw [if_neg h, if_neg h]
theorem settleI {H G B T : Nat} {sx sm : S0 → Int32 → Int32 → Option (Int32 × S0)} (fx : ∀ ρ (σ : S0) a0 a1, sx (mix σ ρ) a0 a1 = mo ρ (sx σ a0 a1)) (fm : ∀ σ (ρ : S0) a0 a1, sm (mix σ ρ) a0 a1 = mp σ (sm ρ a0 a1)) (x1 x2 : Int32)
    (hs : ∀ σ, Rall σ H G B T → Two (sx σ x1 (x2 + 1)) (sm σ x1 (x2 + 1)) (fun r s ν => r = s ∧ Rall ν H G B T)) : ∀ (d i m : Nat) (σ : S0) (c : Int32), H - i = d → i ≤ H → d < m → (c = 0 ∨ c = 1) → Rall σ H G B T → Two (obp (fX0_changeInRound_h4 m σ c (nI i)) (fun r2 σ3 => if ¬ r2 = 0 then sx σ3 x1 (x2 + 1) else some (x2, σ3))) (fX11_settle_h26 sm m σ x1 x2 c (nI i)) (fun r s ν => r = s ∧ Rall ν H G B T) := by
  intro d
  have hone : ¬ (1 : Int32) = 0 := by decide
  induction d with
  | zero =>
    intro i m σ c h1 h2 h3 hc hr
    obtain ⟨m, rfl⟩ : ∃ q, m = q + 1 := ⟨m - 1, by omega⟩
    have hH := hr.1.1.2.1
    have : i = H := by omega
    subst this
    show Two (obp (fX0_changeInRound_b4 _ _ _ _) _) (fX11_settle_b26 _ _ _ _ _ _ _) _
    unfold fX0_changeInRound_b4 fX11_settle_b26
    rw [if_pos (show σ 22 0 ≤ nI i from by rw [hr.1.2.2.1]; exact nI_le (Nat.le_refl _) (by omega)), if_pos (show σ 98 2 ≤ nI i from by rw [hr.1.2.1.1]; exact nI_le (Nat.le_refl _) (by omega)), og_t hc]
    simp only [obp, ol]
    by_cases q : c = 0
    · rw [if_neg (fun z => z q), if_neg (fun z => z q)]
      exact Two.mk ⟨rfl, hr⟩
    · rw [if_pos q, if_pos q]
      exact hs σ hr
  | succ d ih =>
    intro i m σ c h1 h2 h3 hc hr
    obtain ⟨m, rfl⟩ : ∃ q, m = q + 1 := ⟨m - 1, by omega⟩
    have hH := hr.1.1.2.1
    show Two (obp (fX0_changeInRound_b4 _ _ _ _) _) (fX11_settle_b26 _ _ _ _ _ _ _) _
    unfold fX0_changeInRound_b4 fX11_settle_b26 fX0_changeInRound_b34 fX11_settle_b56
    rw [if_neg (show ¬ (σ 22 0 ≤ nI i) from by rw [hr.1.2.2.1]; exact nI_ge (by omega) (by omega)), if_neg (show ¬ (σ 98 2 ≤ nI i) from by rw [hr.1.2.1.1]; exact nI_ge (by omega) (by omega))]
    simp only [ol, nI_1]
    rw [obp_a]
    have hX : ∀ (c : Int32), FX (fun σ => obp (fX0_changeInRound_h4 m σ c (nI (i + 1))) (fun r2 σ3 => if ¬ r2 = 0 then sx σ3 x1 (x2 + 1) else some (x2, σ3))) := fun c σ ρ => by
      show obp (fX0_changeInRound_h4 m (mix σ ρ) c (nI (i + 1))) _ = _
      simp only [rx_fX0_changeInRound_h4, obp_mo, mo_obp, mo_ite, mo_some, fx]
    have hM : ∀ (c : Int32), FM (fun σ => fX11_settle_h26 sm m σ x1 x2 c (nI (i + 1))) := fun c σ ρ => rm_fX11_settle_h26 σ sm (fm σ) m ρ _ _ _ _
    refine (wants2 hr (show i < H by omega)).bind (fun a σ ρ => ?_) (fun a σ ρ => ?_) (fun a b ν hν => ?_)
    · simp (disch := omega) only [obp_i, obp_a, rx_fX0_changeInRound_h4, rx_fX0_setFees, mix_lo, obp_mo, mo_obp, mo_ite, mo_some, fx]
    · have e := fun (ρ : S0) (a : Int32) => hM a σ ρ
      simp (disch := omega) only at e
      simp (disch := omega) only [e, rm_fX11_asks, mix_hi, obp_mp, mp_obp, mp_ite, mp_some]
    · obtain ⟨rfl, q2, j, j1, j2, j3⟩ := hν
      simp only [obp_i, obp_a]
      by_cases q : a = 0
      · rw [if_pos q, if_pos q]
        exact ih (i + 1) m ν c (by omega) (by omega) (by omega) hc q2
      · rw [if_neg q, if_neg q, j2, j3]
        exact (set2 (h := i) q2 j1).bind (fun _ => hX 1) (fun _ => hM 1) (fun _ _ ν hν => ih (i + 1) m ν 1 (by omega) (by omega) (by omega) (Or.inr rfl) hν)
theorem settleO {H G B T n : Nat} (hn : n ≤ 30) : ∀ (d i m : Nat) (σ : S0), n - i = d → i ≤ n → d < m → Rall σ H G B T → Two (fX10_settle_h15 m σ (nI n) (nI i)) (fX11_settle_h16 m σ (nI n) (nI i)) (fun r s ν => r = s ∧ Rall ν H G B T) := by
  intro d
  induction d with
  | zero =>
    intro i m σ h1 h2 h3 hr
    obtain ⟨m, rfl⟩ : ∃ q, m = q + 1 := ⟨m - 1, by omega⟩
    have : i = n := by omega
    subst this
    show Two (fX10_settle_b15 _ _ _ _) (fX11_settle_b16 _ _ _ _) _
    unfold fX10_settle_b15 fX11_settle_b16
    rw [if_pos (nI_le (Nat.le_refl _) (by omega)), if_pos (nI_le (Nat.le_refl _) (by omega))]
    exact Two.mk ⟨rfl, hr⟩
  | succ d ih =>
    intro i m σ h1 h2 h3 hr
    obtain ⟨m, rfl⟩ : ∃ q, m = q + 1 := ⟨m - 1, by omega⟩
    have hH := hr.1.1.2.1
    show Two (fX10_settle_b15 _ _ _ _) (fX11_settle_b16 _ _ _ _) _
    unfold fX10_settle_b15 fX11_settle_b16
    rw [if_neg (nI_ge (by omega) (by omega)), if_neg (nI_ge (by omega) (by omega))]
    simp only [ol]
    exact settleI (fun ρ σ a0 a1 => rx_fX10_settle_h15 ρ m σ a0 a1) (fun σ ρ a0 a1 => rm_fX11_settle_h16 σ m ρ a0 a1) (nI n) (nI i) (fun σ hr => by rw [nI_1]; exact ih (i + 1) m σ (by omega) (by omega) (by omega) hr) H 0 400 σ 0 (by omega) (by omega) (by omega) (Or.inl rfl) hr
theorem sim_settle (x : Int32) : Sim (fun σ => fX10_settle σ x) (fun σ => fX11_settle σ x) := by
  refine Sim.of2 (fun σ ρ => rx_fX10_settle ρ σ x) (fun σ ρ => rm_fX11_settle σ ρ x) (fun σ hR => ?_)
  show Two (fX10_settle σ x) (fX11_settle σ x) _
  obtain ⟨H, G, B, T, h⟩ := id hR
  have hone : ¬ (1 : Int32) = 0 := by decide
  have l1 : (x < 1) ↔ x.toInt < 1 := i3_lt x 1
  have l30 : (x ≤ 30) ↔ x.toInt ≤ 30 := i3_le x 30
  by_cases hx : 1 ≤ x.toInt ∧ x.toInt ≤ 30
  · obtain ⟨n, hn, rfl⟩ : ∃ j, j < 31 ∧ x = nI j := by
      rcases ixc x 31 (by omega) with q | q
      · exact q
      · omega
    have eX : fX10_settle σ (nI n) = fX10_settle_h15 400 σ (nI n) (nI 0) := by
      unfold fX10_settle
      rw [if_neg (by rw [l1]; omega), if_pos (by rw [l30]; omega)]
      rfl
    have eM : fX11_settle σ (nI n) = fX11_settle_h16 400 σ (nI n) (nI 0) := by
      unfold fX11_settle
      rw [in_i σ (nI n) 1 30 1 30 rfl rfl, if_pos hx]
      simp only [obp]
      rw [if_pos hone]
      rfl
    rw [eX, eM]
    exact (settleO (by omega) n 0 400 σ (by omega) (by omega) (by omega) h).mono (fun a b ν q => ⟨q.1, H, G, B, T, q.2⟩)
  · have eX : fX10_settle σ x = some (-1, σ) := by
      unfold fX10_settle
      by_cases q : x < 1
      · rw [if_pos q]
      · rw [if_neg q, if_neg (by rw [l30]; rw [l1] at q; omega)]
    have eM : fX11_settle σ x = some (-1, σ) := by
      unfold fX11_settle
      rw [in_i σ x 1 30 1 30 rfl rfl, if_neg hx]
      rfl
    rw [eX, eM]
    exact Two.mk ⟨rfl, hR⟩
theorem settled_1 {σ : S0} {H : Nat} (hH : H ≤ 6) (e : σ 98 2 = nI H) : ∀ (d i m : Nat), H - i = d → i ≤ H → d < m → fX11_settled_h4 m σ 1 (nI i) = some (0, σ) := by
  intro d
  have hone : ¬ (1 : Int32) = 0 := by decide
  induction d with
  | zero =>
    intro i m h1 h2 h3
    obtain ⟨m, rfl⟩ : ∃ q, m = q + 1 := ⟨m - 1, by omega⟩
    have : i = H := by omega
    subst this
    show fX11_settled_b4 _ _ _ _ = _
    unfold fX11_settled_b4 fX11_settled_b45 fX11_flag
    rw [if_pos (show σ 98 2 ≤ nI i from by rw [e]; exact nI_le (Nat.le_refl _) (by omega)), if_pos hone]
    rfl
  | succ d ih =>
    intro i m h1 h2 h3
    obtain ⟨m, rfl⟩ : ∃ q, m = q + 1 := ⟨m - 1, by omega⟩
    show fX11_settled_b4 _ _ _ _ = _
    unfold fX11_settled_b4 fX11_settled_b24 fX11_settled_b29
    rw [if_neg (show ¬ (σ 98 2 ≤ nI i) from by rw [e]; exact nI_ge (by omega) (by omega)), if_pos hone]
    simp only [ol, nI_1]
    exact ih (i + 1) m (by omega) (by omega) (by omega)
theorem settledO {H G B T : Nat} : ∀ (d i m : Nat) (σ : S0), H - i = d → i ≤ H → d < m → Rall σ H G B T → Two (fX10_settled_h2 m σ (nI i)) (fX11_settled_h4 m σ 0 (nI i)) (fun r s ν => r = s ∧ Rall ν H G B T) := by
  intro d
  have hone : ¬ (1 : Int32) = 0 := by decide
  induction d with
  | zero =>
    intro i m σ h1 h2 h3 hr
    obtain ⟨m, rfl⟩ : ∃ q, m = q + 1 := ⟨m - 1, by omega⟩
    have hH := hr.1.1.2.1
    have : i = H := by omega
    subst this
    show Two (fX10_settled_b2 _ _ _) (fX11_settled_b4 _ _ _ _) _
    unfold fX10_settled_b2 fX11_settled_b4 fX11_settled_b45 fX11_flag
    rw [if_pos (show σ 22 0 ≤ nI i from by rw [hr.1.2.2.1]; exact nI_le (Nat.le_refl _) (by omega)), if_pos (show σ 98 2 ≤ nI i from by rw [hr.1.2.1.1]; exact nI_le (Nat.le_refl _) (by omega)), if_neg (fun q => q rfl), if_neg hone]
    exact Two.mk ⟨rfl, hr⟩
  | succ d ih =>
    intro i m σ h1 h2 h3 hr
    obtain ⟨m, rfl⟩ : ∃ q, m = q + 1 := ⟨m - 1, by omega⟩
    have hH := hr.1.1.2.1
    show Two (fX10_settled_b2 _ _ _) (fX11_settled_b4 _ _ _ _) _
    unfold fX10_settled_b2 fX11_settled_b4 fX11_settled_b24 fX11_settled_b29
    rw [if_neg (show ¬ (σ 22 0 ≤ nI i) from by rw [hr.1.2.2.1]; exact nI_ge (by omega) (by omega)), if_neg (show ¬ (σ 98 2 ≤ nI i) from by rw [hr.1.2.1.1]; exact nI_ge (by omega) (by omega)), if_neg (fun q => q rfl)]
    simp only [ol, nI_1]
    refine (wants2 hr (show i < H by omega)).bind (fun a σ ρ => ?_) (fun a σ ρ => ?_) (fun a b ν hν => ?_)
    · simp (disch := omega) only [rx_fX10_settled_h2, mo_ite, mo_some]
    · simp (disch := omega) only [rm_fX11_settled_h4, mp_ite]
    · obtain ⟨rfl, q2, -⟩ := hν
      by_cases q : a = 0
      · rw [if_pos q, if_pos q]
        exact ih (i + 1) m ν (by omega) (by omega) (by omega) q2
      · rw [if_neg q, if_neg q, settled_1 hH q2.1.2.1.1 (H - (i + 1)) (i + 1) m (by omega) (by omega) (by omega)]
        exact Two.mk ⟨rfl, q2⟩
theorem sim_settled : Sim fX10_settled fX11_settled := by
  refine Sim.of2 (fun σ ρ => rx_fX10_settled ρ σ) (fun σ ρ => rm_fX11_settled σ ρ) (fun σ hR => ?_)
  obtain ⟨H, G, B, T, h⟩ := id hR
  have hH := h.1.1.2.1
  exact (settledO H 0 400 σ (by omega) (by omega) (by omega) h).mono (fun a b ν q => ⟨q.1, H, G, B, T, q.2⟩)
theorem sim_ask (x y : Int32) : Sim (fun σ => fX10_ask σ x y) (fun σ => fX11_ask σ x y) := by
  refine Sim.of2 (fun σ ρ => rx_fX10_ask ρ σ x y) (fun σ ρ => rm_fX11_ask σ ρ x y) (fun σ hR => ?_)
  show Two (fX10_ask σ x y) (fX11_ask σ x y) _
  obtain ⟨H, G, B, T, h⟩ := id hR
  obtain ⟨⟨b1, b2, b3, b4, b5⟩, ⟨e1, e2, e5, e6⟩, e3, e4, e7⟩ := h.1
  have hone : ¬ (1 : Int32) = 0 := by decide
  have l0 : (y < 0) ↔ y.toInt < 0 := i3_lt y 0
  have l20 : ((20 : Int32) < y) ↔ 20 < y.toInt := i3_lt 20 y
  rcases ixc x H (by omega) with ⟨j, hj, rfl⟩ | hx
  · by_cases hy : 0 ≤ y.toInt ∧ y.toInt ≤ 20
    · obtain ⟨a, ha, rfl⟩ : ∃ j, j < 21 ∧ y = nI j := by
        rcases ixc y 21 (by omega) with q | q
        · exact q
        · omega
      obtain ⟨τ, t1, t2, t3⟩ := weigh_s h hj
      have hb := brings_s (nI a) h t3 (by rw [t2 22 (by omega)]; exact e7)
      obtain ⟨ρ, r1, r2, -⟩ := askOf_s (a := a) h hj (by omega)
      refine ⟨wgh (fs (σ 99) j (nI a) B) (σ 101) (nI G) T j, τ, wgh (fs (σ 99) j (nI a) B) (σ 101) (nI G) T j, ρ, ?_, ?_, rfl, H, G, B, T, h.cg (t2.e.mx r2.e)⟩
      · unfold fX10_ask fX10_isFee
        rw [hh_y e3 (by omega) hj]
        simp only [obp]
        rw [if_neg hone, if_neg (by rw [l0]; omega), if_neg (by rw [l20]; omega)]
        simp only
        rw [if_pos hone, t1]
        simp only
        rw [hb]
      · unfold fX11_ask
        rw [ih_y e1 (by omega) hj]
        simp only [obp]
        rw [if_neg hone, in_i σ (nI a) 0 20 0 20 rfl rfl, if_pos hy]
        simp only
        rw [if_neg hone, r1]
    · have eX : fX10_ask σ (nI j) y = some (-1, σ) := by
        unfold fX10_ask fX10_isFee
        rw [hh_y e3 (by omega) hj]
        simp only [obp]
        rw [if_neg hone]
        by_cases q : y < 0
        · rw [if_pos q]; rfl
        · rw [if_neg q, if_pos (by rw [l20]; rw [l0] at q; omega)]; rfl
      have eM : fX11_ask σ (nI j) y = some (-1, σ) := by
        unfold fX11_ask
        rw [ih_y e1 (by omega) hj]
        simp only [obp]
        rw [if_neg hone, in_i σ y 0 20 0 20 rfl rfl, if_neg hy]
        rfl
      rw [eX, eM]
      exact Two.mk ⟨rfl, hR⟩
  · have eX : fX10_ask σ x y = some (-1, σ) := by
      unfold fX10_ask; rw [hh_n e3 (by omega) hx]; rfl
    have eM : fX11_ask σ x y = some (-1, σ) := by
      unfold fX11_ask; rw [ih_n e1 (by omega) hx]; rfl
    rw [eX, eM]
    exact Two.mk ⟨rfl, hR⟩
theorem sim_best (x y : Int32) : Sim (fun σ => fX10_best σ x y) (fun σ => fX11_best σ x y) := by
  refine Sim.of2 (fun σ ρ => rx_fX10_best ρ σ x y) (fun σ ρ => rm_fX11_best σ ρ x y) (fun σ hR => ?_)
  show Two (fX10_best σ x y) (fX11_best σ x y) _
  obtain ⟨H, G, B, T, h⟩ := id hR
  obtain ⟨⟨b1, b2, b3, b4, b5⟩, ⟨e1, e2, e5, e6⟩, e3, e4, e7⟩ := h.1
  have hone : ¬ (1 : Int32) = 0 := by decide
  have l0 : (y < 0) ↔ y.toInt < 0 := i3_lt y 0
  have l1 : (y ≤ 1) ↔ y.toInt ≤ 1 := i3_le y 1
  rcases ixc x H (by omega) with ⟨j, hj, rfl⟩ | hx
  · by_cases hy : 0 ≤ y.toInt ∧ y.toInt ≤ 1
    · obtain ⟨τ, t1, t2, t3, t4⟩ := choose_s h hj
      obtain ⟨ρ, r1, r2, r3, r4⟩ := findBest_s h hj
      refine ⟨if ¬ y = 0 then (bs (Fw σ G B T j) 20).2 else (bs (Fw σ G B T j) 20).1, τ, if ¬ y = 0 then (bs (Fw σ G B T j) 20).2 else (bs (Fw σ G B T j) 20).1, ρ, ?_, ?_, rfl, H, G, B, T, h.cg (t2.e.mx r2.e)⟩
      · unfold fX10_best
        rw [hh_y e3 (by omega) hj]
        simp only [obp]
        rw [if_neg hone, if_neg (by rw [l0]; omega), if_pos (by rw [l1]; omega), t1]
        simp only
        rw [t3, t4]
        by_cases c : y = 0
        · rw [if_neg (fun q => q c), if_neg (fun q => q c)]
        · rw [if_pos c, if_pos c]
      · unfold fX11_best
        rw [ih_y e1 (by omega) hj]
        simp only [obp]
        rw [if_neg hone, in_i σ y 0 1 0 1 rfl rfl, if_pos hy]
        simp only
        rw [if_pos hone, r1]
        simp only
        rw [r3, r4]
        by_cases c : y = 0
        · rw [if_neg (fun q => q c), if_neg (fun q => q c)]
        · rw [if_pos c, if_pos c]
    · have eX : fX10_best σ (nI j) y = some (-1, σ) := by
        unfold fX10_best
        rw [hh_y e3 (by omega) hj]
        simp only [obp]
        rw [if_neg hone]
        by_cases q : y < 0
        · rw [if_pos q]
        · rw [if_neg q, if_neg (by rw [l1]; rw [l0] at q; omega)]
      have eM : fX11_best σ (nI j) y = some (-1, σ) := by
        unfold fX11_best
        rw [ih_y e1 (by omega) hj]
        simp only [obp]
        rw [if_neg hone, in_i σ y 0 1 0 1 rfl rfl, if_neg hy]
        rfl
      rw [eX, eM]
      exact Two.mk ⟨rfl, hR⟩
  · have eX : fX10_best σ x y = some (-1, σ) := by
      unfold fX10_best; rw [hh_n e3 (by omega) hx]; rfl
    have eM : fX11_best σ x y = some (-1, σ) := by
      unfold fX11_best; rw [ih_n e1 (by omega) hx]; rfl
    rw [eX, eM]
    exact Two.mk ⟨rfl, hR⟩
