/-! FITS, WHICH -/
def rfd (f g : Nat → Int32) (t : Nat) : Nat → Int32
  | 0 => 0
  | i + 1 => if f (67 + i) = -4 then rfd f g t i ||| ((1 : Int32) <<< (f (5 * stk g t i) &&& 31)) else rfd f g t i
def rng (f g : Nat → Int32) (t : Nat) : Nat → Int32
  | 0 => 0
  | i + 1 => if f (67 + i) = -4 then rng f g t i else rng f g t i ||| ((1 : Int32) <<< (f (5 * stk g t i) &&& 31))
def okm (f g : Nat → Int32) (t : Nat) : Nat → Bool
  | 0 => true
  | i + 1 => okm f g t i && (decide (f (67 + i) = -4) || decide (f (67 + i) = g (14 * t + 2 + i)))
theorem okm_f {f g : Nat → Int32} {t i : Nat} (h : okm f g t i = false) : ∀ d, okm f g t (i + d) = false
  | 0 => h
  | d + 1 => by
    show (okm f g t (i + d) && _) = false
    rw [okm_f h d, Bool.false_and]
def fit1 (f g : Nat → Int32) (t n : Nat) : Int32 := if okm f g t n = true then (if rng f g t n &&& rfd f g t n = 0 then 1 else 0) else 0
def ft (f g : Nat → Int32) (t n : Nat) : Int32 := if ln g t = n then fit1 f g t n else 0
theorem refusedBy_l (f g : Nat → Int32) {t n : Nat} {σ : S0} (ht : t < 6) (hn : n ≤ 12) (okp : okP f g t n σ) (h7 : σ 32 7 = nI n) (h39 : ∀ j, j < n → σ 39 j = f (67 + j)) : ∀ (d i m : Nat), n - i = d → i ≤ n → d < m → fX3_refusedBy_h4 m σ (nI t) (rfd f g t i) (nI i) = some (rfd f g t n, σ) := by
  intro d
  induction d with
  | zero =>
    intro i m h1 h2 h3
    obtain ⟨m, rfl⟩ : ∃ q, m = q + 1 := ⟨m - 1, by omega⟩
    have : i = n := by omega
    subst this
    show fX3_refusedBy_b4 _ _ _ _ _ = _
    unfold fX3_refusedBy_b4
    rw [if_pos (show σ 32 7 ≤ nI i from by rw [h7]; exact nI_le (Nat.le_refl _) (by omega))]
  | succ d ih =>
    intro i m h1 h2 h3
    obtain ⟨m, rfl⟩ : ∃ q, m = q + 1 := ⟨m - 1, by omega⟩
    obtain ⟨b, hb, g1, s1, o1, -⟩ := okp.2.1 i (by omega)
    have hsb : stk g t i = b := by unfold stk; rw [g1]; exact nI_clamp (by omega)
    have s1' : σ (26 + 1 * t) i = nI b := by rw [Nat.one_mul]; exact s1
    have hgi := ix_ok (j := i) (n := 12) (by omega) (by omega)
    have hci : (nI i).toNatClampNeg = i := nI_clamp (by omega)
    have hgi2 : ¬ (nI i < 0 ∨ 12 ≤ i) := fun q => hgi (by rw [hci]; exact q)
    have hgt := ix_ok (j := t) (n := 6) (by omega) (by omega)
    have hct : (nI t).toNatClampNeg = t := nI_clamp (by omega)
    have hgt2 : ¬ (nI t < 0 ∨ 6 ≤ t) := fun q => hgt (by rw [hct]; exact q)
    have hgb := ix_ok (j := b) (n := 12) (by omega) (by omega)
    have hcb : (nI b).toNatClampNeg = b := nI_clamp (by omega)
    have hgb2 : ¬ (nI b < 0 ∨ 12 ≤ b) := fun q => hgb (by rw [hcb]; exact q)
    have ih' := ih (i + 1) m (by omega) (by omega) (by omega)
    show fX3_refusedBy_b4 _ _ _ _ _ = _
    unfold fX3_refusedBy_b4 fX3_refusedBy_b53
    rw [if_neg (show ¬ (σ 32 7 ≤ nI i) from by rw [h7]; exact nI_ge (by omega) (by omega))]
    simp only [og_t hgi, og_t hgi2, hci, og_t hgt, og_t hgt2, hct, ol, s1', og_t hgb, og_t hgb2, hcb, h39 i (by omega), o1, nI_1]
    by_cases c : f (67 + i) = -4
    · rw [if_neg (fun q => q c)]
      rw [rfd, if_pos c, hsb] at ih'
      exact ih'
    · rw [if_pos c]
      rw [rfd, if_neg c] at ih'
      exact ih'
theorem canBe_l (f g : Nat → Int32) {t n : Nat} {σ : S0} (ht : t < 6) (hn : n ≤ 12) (okp : okP f g t n σ) (h7 : σ 32 7 = nI n) (h39 : ∀ j, j < n → σ 39 j = f (67 + j)) : ∀ (d i m : Nat), n - i = d → i ≤ n → d < m → okm f g t i = true → fX3_canBe_h25 m σ (nI t) (rng f g t i) (nI i) = some (fit1 f g t n, σ) := by
  intro d
  induction d with
  | zero =>
    intro i m h1 h2 h3 hm
    obtain ⟨m, rfl⟩ : ∃ q, m = q + 1 := ⟨m - 1, by omega⟩
    have : i = n := by omega
    subst this
    have hr : fX3_refusedBy σ (nI t) = some (rfd f g t i, σ) := refusedBy_l f g ht hn okp h7 h39 i 0 400 (by omega) (by omega) (by omega)
    show fX3_canBe_b25 _ _ _ _ _ = _
    unfold fX3_canBe_b25 fit1
    rw [if_pos (show σ 32 7 ≤ nI i from by rw [h7]; exact nI_le (Nat.le_refl _) (by omega)), hr]
    simp only [obp]
    rw [if_pos hm]
    by_cases c : rng f g t i &&& rfd f g t i = 0
    · rw [if_neg (fun q => q c), if_pos c]
    · rw [if_pos c, if_neg c]
  | succ d ih =>
    intro i m h1 h2 h3 hm
    obtain ⟨m, rfl⟩ : ∃ q, m = q + 1 := ⟨m - 1, by omega⟩
    obtain ⟨b, hb, g1, s1, o1, -⟩ := okp.2.1 i (by omega)
    have hsb : stk g t i = b := by unfold stk; rw [g1]; exact nI_clamp (by omega)
    have s1' : σ (26 + 1 * t) i = nI b := by rw [Nat.one_mul]; exact s1
    have hgi := ix_ok (j := i) (n := 12) (by omega) (by omega)
    have hci : (nI i).toNatClampNeg = i := nI_clamp (by omega)
    have hgi2 : ¬ (nI i < 0 ∨ 12 ≤ i) := fun q => hgi (by rw [hci]; exact q)
    have hgt := ix_ok (j := t) (n := 6) (by omega) (by omega)
    have hct : (nI t).toNatClampNeg = t := nI_clamp (by omega)
    have hgt2 : ¬ (nI t < 0 ∨ 6 ≤ t) := fun q => hgt (by rw [hct]; exact q)
    have hgb := ix_ok (j := b) (n := 12) (by omega) (by omega)
    have hcb : (nI b).toNatClampNeg = b := nI_clamp (by omega)
    have hgb2 : ¬ (nI b < 0 ∨ 12 ≤ b) := fun q => hgb (by rw [hcb]; exact q)
    have ih' := ih (i + 1) m (by omega) (by omega) (by omega)
    have h72 : ∀ x : Int32, x = -4 → fX3_canBe_b72 (fX3_canBe_h25 m) σ (nI t) (rng f g t i) (nI i) x = fX3_canBe_h25 m σ (nI t) (rng f g t i) (nI (i + 1)) := fun x hx => by
      unfold fX3_canBe_b72 fX3_canBe_b96
      rw [if_neg (fun q => q hx)]
      simp only [ol, nI_1]
      rw [Int32.or_zero]
    have h72b : fX3_canBe_b72 (fX3_canBe_h25 m) σ (nI t) (rng f g t i) (nI i) (nI b) = fX3_canBe_h25 m σ (nI t) (rng f g t i ||| ((1 : Int32) <<< (f (5 * b) &&& 31))) (nI (i + 1)) := by
      unfold fX3_canBe_b72 fX3_canBe_b96
      rw [if_pos (nI_m4 (by omega))]
      simp only [og_t hgb, og_t hgb2, hcb, ol, nI_1, o1]
    show fX3_canBe_b25 _ _ _ _ _ = _
    unfold fX3_canBe_b25
    rw [if_neg (show ¬ (σ 32 7 ≤ nI i) from by rw [h7]; exact nI_ge (by omega) (by omega))]
    simp only [og_t hgi, og_t hgi2, hci, og_t hgt, og_t hgt2, hct, ol, s1', h39 i (by omega)]
    by_cases c : f (67 + i) = -4
    · rw [if_pos c, h72 _ c]
      rw [rng, if_pos c] at ih'
      exact ih' (by rw [okm, hm, decide_eq_true c]; rfl)
    · rw [if_neg c]
      by_cases c2 : f (67 + i) = nI b
      · rw [if_pos c2, c2, h72b]
        rw [rng, if_neg c, hsb] at ih'
        exact ih' (by rw [okm, hm, g1, decide_eq_true c2]; simp)
      · rw [if_neg c2]
        have hf : okm f g t (i + 1) = false := by rw [okm, hm, g1, decide_eq_false c, decide_eq_false c2]; rfl
        have := okm_f hf (n - (i + 1))
        rw [show i + 1 + (n - (i + 1)) = n by omega] at this
        unfold fit1
        rw [if_neg (by rw [this]; decide)]
theorem canBe_s {σ : S0} {H G B T t n : Nat} (h : Rall σ H G B T) (ht : t < T) (h66 : σ 99 66 = nI n) (hn : n ≤ 12) : fX3_canBe σ (nI t) = some (ft (σ 99) (σ 101) t n, σ) := by
  obtain ⟨ok, okp, l1, -⟩ := RT h ht
  have hT := h.1.1.2.2.2.2
  have hL := ok.1
  have h7 : σ 32 7 = nI n := h.2.1.2.2.2.1.trans h66
  have h39 : ∀ j, j < n → σ 39 j = σ 99 (67 + j) := fun j hj => by
    have := h.2.1.2.2.2.2 j (by omega) (by show nI j < σ 99 66; rw [h66]; exact (nI_ltI (by omega) (by omega)).mpr hj)
    simpa using this
  have e24 : σ 24 t = nI (ln (σ 101) t) := okp.1
  unfold fX3_canBe ft
  rw [og_t (ix_ok (by omega) (by omega)), nI_clamp (by omega)]
  simp only [ol]
  rw [e24, h7]
  by_cases c : ln (σ 101) t = n
  · rw [if_pos c, if_pos (by rw [c])]
    rw [c] at okp
    exact canBe_l (σ 99) (σ 101) (by omega) hn okp h7 h39 n 0 400 (by omega) (by omega) (by omega) rfl
  · rw [if_neg c, if_neg (nI_ne (fun q => c q.symm) (by omega) (by omega))]
/-- nothing but the reference's row of those that refused has changed -/
def onlyF (σ τ : S0) : Prop := ∀ k j, ¬ (k = 98 ∧ j = 35) → τ k j = σ k j
theorem onlyF.c {a b : S0} (h : onlyF a b) {k : Nat} (h1 : k ≠ 98) : b k = a k := funext fun j => h k j (fun q => h1 q.1)
theorem onlyF.tr {a b c : S0} (h1 : onlyF a b) (h2 : onlyF b c) : onlyF a c := fun k j x => (h2 k j x).trans (h1 k j x)
theorem onlyF.su (a : S0) (v : Int32) : onlyF a (su a 98 35 v) := fun k j x => by
  by_cases hk : k = 98
  · subst hk; rw [su_j (fun q => x ⟨rfl, q⟩)]
  · rw [su_ne hk]
theorem onlyF.e {a b : S0} (h : onlyF a b) : eqv a b := fun k j hr => h k j (fun q => by
  obtain ⟨rfl, rfl⟩ := q
  cases hr)
theorem isFit_l (f g : Nat → Int32) {t n : Nat} (ht : t < 6) (hn : n ≤ 12) (ok : okT f g t n) (h66 : f 66 = nI n) : ∀ (d i m : Nat) (σ : S0), n - i = d → i ≤ n → d < m → okm f g t i = true → σ 99 = f → σ 101 = g → σ 98 35 = rfd f g t i → ∃ τ, fX11_isFit_h31 m σ (nI t) (rng f g t i) 1 (nI i) = some (fit1 f g t n, τ) ∧ onlyF σ τ ∧ (okm f g t n = true → τ 98 35 = rfd f g t n) := by
  intro d
  have hone : ¬ (1 : Int32) = 0 := by decide
  induction d with
  | zero =>
    intro i m σ h1 h2 h3 hm hf hg h35
    obtain ⟨m, rfl⟩ : ∃ q, m = q + 1 := ⟨m - 1, by omega⟩
    have : i = n := by omega
    subst this
    refine ⟨σ, ?_, fun _ _ _ => rfl, fun _ => h35⟩
    show fX11_isFit_b31 _ _ _ _ _ _ = _
    unfold fX11_isFit_b31 fX11_isFit_b146 fit1
    rw [og_t c66]
    simp only [ol, v66, hf, h66]
    rw [if_pos (nI_le (Nat.le_refl _) (by omega)), if_neg hone, h35, if_pos hm]
    by_cases c : rng f g t i &&& rfd f g t i = 0
    · rw [if_neg (fun q => q c), if_pos c]
    · rw [if_pos c, if_neg c]
  | succ d ih =>
    intro i m σ h1 h2 h3 hm hf hg h35
    obtain ⟨m, rfl⟩ : ∃ q, m = q + 1 := ⟨m - 1, by omega⟩
    obtain ⟨b, w, hb, hw, g1, o1⟩ := ok.2.2 i (by omega)
    have hsb : stk g t i = b := by unfold stk; rw [g1]; exact nI_clamp (by omega)
    have hst : ∀ τ : S0, τ 101 = g → fX11_stroke τ (nI t) (nI i) = some (nI b, τ) := fun τ hτ => by rw [stroke_s τ ht (by omega), hτ, g1]
    have hof : fX11_of σ (nI b) 0 = some (f (5 * b), σ) := by rw [of_l σ (b := b) (w := 0) hb (by omega) (x := 0) rfl, hf]; rfl
    have h67 : (67 : Int32) + nI i = nI (67 + i) := nI_add 67 i
    have e1 : fX11_isFit_h31 (m + 1) σ (nI t) (rng f g t i) 1 (nI i) = if ¬ f (67 + i) = -4 then fX11_isFit_b93 (fX11_isFit_h31 m) σ (nI t) (rng f g t i) (nI i) (f (67 + i)) (f (5 * b)) 0 (rfd f g t i) else fX11_isFit_b93 (fX11_isFit_h31 m) σ (nI t) (rng f g t i) (nI i) (f (67 + i)) (f (5 * b)) ((1 : Int32) <<< (f (5 * b) &&& 31)) (rfd f g t i) := by
      show fX11_isFit_b31 _ _ _ _ _ _ = _
      unfold fX11_isFit_b31
      rw [og_t c66]
      simp only [ol, v66, hf, h66]
      rw [if_neg (nI_ge (by omega) (by omega)), if_neg hone, h67, og_t (ix_ok (by omega) (by omega)), nI_clamp (by omega), hst σ hg]
      simp only [obp]
      rw [hof]
      simp only [h35]
    rw [e1]
    by_cases c : f (67 + i) = -4
    · rw [if_neg (fun q => q c)]
      unfold fX11_isFit_b93 fX11_isFit_b113 fX11_isFit_b134 fX11_isFit_b139
      simp only [ol, nI_1]
      rw [if_neg (fun q => q c), if_pos c, Int32.or_zero]
      obtain ⟨τ, t1, t2, t3⟩ := ih (i + 1) m (su σ 98 35 (rfd f g t i ||| ((1 : Int32) <<< (f (5 * b) &&& 31)))) (by omega) (by omega) (by omega) (by rw [okm, hm, decide_eq_true c]; rfl) (by rw [su_ne (by omega)]; exact hf) (by rw [su_ne (by omega)]; exact hg) (by rw [su_s, rfd, if_pos c, hsb])
      rw [rng, if_pos c] at t1
      exact ⟨τ, t1, (onlyF.su σ _).tr t2, t3⟩
    · rw [if_pos c]
      unfold fX11_isFit_b93 fX11_isFit_b113 fX11_isFit_b134 fX11_isFit_b139
      simp only [ol, nI_1]
      rw [if_pos c, if_neg c, Int32.or_zero, hst _ (by rw [su_ne (by omega)]; exact hg)]
      simp only [obp]
      by_cases c2 : f (67 + i) = nI b
      · rw [if_neg (fun q => q c2)]
        obtain ⟨τ, t1, t2, t3⟩ := ih (i + 1) m (su σ 98 35 (rfd f g t i)) (by omega) (by omega) (by omega) (by rw [okm, hm, g1, decide_eq_true c2]; simp) (by rw [su_ne (by omega)]; exact hf) (by rw [su_ne (by omega)]; exact hg) (by rw [su_s, rfd, if_neg c])
        rw [rng, if_neg c, hsb] at t1
        exact ⟨τ, t1, (onlyF.su σ _).tr t2, t3⟩
      · rw [if_pos c2]
        have hfl : okm f g t (i + 1) = false := by rw [okm, hm, g1, decide_eq_false c, decide_eq_false c2]; rfl
        have := okm_f hfl (n - (i + 1))
        rw [show i + 1 + (n - (i + 1)) = n by omega] at this
        obtain ⟨m, rfl⟩ : ∃ q, m = q + 1 := ⟨m - 1, by omega⟩
        refine ⟨su σ 98 35 (rfd f g t i), ?_, onlyF.su σ _, fun q => by rw [this] at q; cases q⟩
        show fX11_isFit_b31 _ _ _ _ _ _ = _
        unfold fX11_isFit_b31 fX11_isFit_b146 fit1
        rw [og_t c66]
        simp only [ol, if_true]
        rw [if_neg (show ¬ okm f g t n = true from by rw [this]; decide)]
        by_cases c3 : su σ 98 35 (rfd f g t i) 99 ((66 : Int32)).toNatClampNeg ≤ nI (i + 1)
        · rw [if_pos c3]
        · rw [if_neg c3]
theorem isFit_s {σ : S0} {H G B T t n : Nat} (h : Rall σ H G B T) (ht : t < T) (h66 : σ 99 66 = nI n) (hn : n ≤ 12) : ∃ τ, fX11_isFit σ (nI t) = some (ft (σ 99) (σ 101) t n, τ) ∧ onlyF σ τ ∧ (ft (σ 99) (σ 101) t n ≠ 0 → τ 98 35 = rfd (σ 99) (σ 101) t n) := by
  obtain ⟨ok, okp, l1, -⟩ := RT h ht
  have hT := h.1.1.2.2.2.2
  have hL := ok.1
  have hst : fX11_strokes (su σ 98 35 0) (nI t) = some (nI (ln (σ 101) t), su σ 98 35 0) := strokes_s _ (by omega) (by rw [su_ne (by omega)]; exact ok.2.1)
  have e : fX11_isFit σ (nI t) = if ¬ nI (ln (σ 101) t) = nI n then fX11_isFit_h31 400 (su σ 98 35 0) (nI t) 0 0 0 else fX11_isFit_h31 400 (su σ 98 35 0) (nI t) 0 1 0 := by
    unfold fX11_isFit fX11_isFit_b27
    simp only [ol, hst, obp]
    rw [og_t c66, v66, su_ne (by omega), h66]
  rw [e]
  unfold ft
  by_cases c : ln (σ 101) t = n
  · rw [if_neg (by simp [c]), if_pos c]
    rw [c] at ok
    obtain ⟨τ, t1, t2, t3⟩ := isFit_l (σ 99) (σ 101) (by omega) hn ok h66 n 0 400 (su σ 98 35 0) (by omega) (by omega) (by omega) rfl (su_ne (by omega)) (su_ne (by omega)) su_s
    refine ⟨τ, t1, (onlyF.su σ _).tr t2, fun q => t3 ?_⟩
    unfold fit1 at q
    by_cases c3 : okm (σ 99) (σ 101) t n = true
    · exact c3
    · rw [if_neg c3] at q
      exact absurd rfl q
  · rw [if_pos (nI_ne c (by omega) (by omega)), if_neg c]
    refine ⟨su σ 98 35 0, ?_, onlyF.su σ _, fun q => absurd rfl q⟩
    show fX11_isFit_b31 _ _ _ _ _ _ = _
    unfold fX11_isFit_b31 fX11_isFit_b146
    rw [og_t c66]
    simp only [ol, if_true]
    by_cases c3 : su σ 98 35 0 99 ((66 : Int32)).toNatClampNeg ≤ 0
    · rw [if_pos c3]
    · rw [if_neg c3]
theorem ft_01 (f g : Nat → Int32) (t n : Nat) : ft f g t n = 0 ∨ ft f g t n = 1 := by
  unfold ft fit1
  by_cases c1 : ln g t = n
  · rw [if_pos c1]
    by_cases c2 : okm f g t n = true
    · rw [if_pos c2]
      by_cases c3 : rng f g t n &&& rfd f g t n = 0
      · rw [if_pos c3]; exact Or.inr rfl
      · rw [if_neg c3]; exact Or.inl rfl
    · rw [if_neg c2]; exact Or.inl rfl
  · rw [if_neg c1]; exact Or.inl rfl
theorem sim_fits (x : Int32) : Sim (fun σ => fX10_fits σ x) (fun σ => fX11_fits σ x) := by
  intro σ hR
  show An (fX10_fits σ x) (fun r τ => An (fX11_fits τ x) (fun q ρ => r = q ∧ R ρ))
  obtain ⟨H, G, B, T, h⟩ := id hR
  obtain ⟨⟨b1, b2, b3, b4, b5⟩, ⟨e1, e2, e5, e6⟩, e3, e4, e7⟩ := h.1
  obtain ⟨⟨n, n1, n2, n3⟩, -⟩ := id h.2.2.1
  simp only [Nat.zero_add] at n2
  have h7 : σ 32 7 = nI n := h.2.1.2.2.2.1.trans n2
  have hone : ¬ (1 : Int32) = 0 := by decide
  rcases ixc x T (by omega) with ⟨t, ht, rfl⟩ | hx
  · by_cases c : n = 0
    · refine Sim.same (fun τ => fX11_fits τ (nI t)) (a := -2) hR ?_ ?_
      · unfold fX10_fits
        rw [ht_y e7 (by omega) ht]
        simp only [obp]
        rw [if_pos hone, if_neg (by rw [h7, c]; decide)]
      · show fX11_fits _ _ = _
        unfold fX11_fits
        rw [it_y e6 (by omega) ht]
        simp only [obp, ol]
        rw [if_pos hone, og_t c66, v66, if_neg (by rw [n2, c]; decide)]
    · obtain ⟨ρ, r1, r2, -⟩ := isFit_s h ht n2 n1
      have hn0 : ¬ nI n = 0 := nI_ne (b := 0) c (by omega) (by omega)
      refine ⟨ft (σ 99) (σ 101) t n, σ, ?_, ft (σ 99) (σ 101) t n, ρ, ?_, rfl, H, G, B, T, h.cg r2.e⟩
      · unfold fX10_fits
        rw [ht_y e7 (by omega) ht]
        simp only [obp]
        rw [if_pos hone, if_pos (by rw [h7]; exact hn0), canBe_s h ht n2 n1]
        simp only
        rcases ft_01 (σ 99) (σ 101) t n with q | q
        · rw [q]; rfl
        · rw [q]; rfl
      · show fX11_fits _ _ = _
        unfold fX11_fits fX11_flag
        rw [it_y e6 (by omega) ht]
        simp only [obp, ol]
        rw [if_pos hone, og_t c66, v66, if_pos (by rw [n2]; exact hn0), r1]
        simp only
        rcases ft_01 (σ 99) (σ 101) t n with q | q
        · rw [q]; rfl
        · rw [q]; rfl
  · refine Sim.same (fun τ => fX11_fits τ x) (a := -1) hR ?_ ?_
    · unfold fX10_fits; rw [ht_n e7 (by omega) hx]; rfl
    · show fX11_fits _ _ = _
      unfold fX11_fits; rw [it_n e6 (by omega) hx]; rfl
