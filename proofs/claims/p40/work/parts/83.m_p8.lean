section
/-! THE TEXT: both readers side by side; numbers -/
def scX (k j : Nat) : Prop := (k = 1 ∧ 2 ≤ j ∧ j ≤ 5) ∨ k = 3 ∨ (4 ≤ k ∧ k ≤ 21)
def kX (σ τ : S0) : Prop := ∀ k j, ¬ scX k j → τ k j = σ k j
theorem kX.tr {a b c : S0} (h1 : kX a b) (h2 : kX b c) : kX a c := fun k j h => (h2 k j h).trans (h1 k j h)
theorem kX.rf (a : S0) : kX a a := fun _ _ _ => rfl
theorem kX.su {a b : S0} (h : kX a b) {k j : Nat} (hk : scX k j) (v : Int32) : kX a (su b k j v) := fun x y q => by
  rw [← h x y q]
  by_cases hx : x = k
  · subst hx; exact su_j (fun z => q (by rw [z]; exact hk))
  · rw [su_ne hx]
def scM (k j : Nat) : Prop := (k = 98 ∧ (9 ≤ j ∧ j ≤ 15 ∨ 18 ≤ j ∧ j ≤ 23)) ∨ k = 102 ∨ k = 103
def kM (σ τ : S0) : Prop := ∀ k j, ¬ scM k j → τ k j = σ k j
theorem kM.tr {a b c : S0} (h1 : kM a b) (h2 : kM b c) : kM a c := fun k j h => (h2 k j h).trans (h1 k j h)
theorem kM.rf (a : S0) : kM a a := fun _ _ _ => rfl
theorem kM.su {a b : S0} (h : kM a b) {k j : Nat} (hk : scM k j) (v : Int32) : kM a (su b k j v) := fun x y q => by
  rw [← h x y q]
  by_cases hx : x = k
  · subst hx; exact su_j (fun z => q (by rw [z]; exact hk))
  · rw [su_ne hx]
theorem on8.k {a b : S0} (h : on8 a b) : kM a b := fun k j q => h k j (fun z => q (Or.inl ⟨z.1, Or.inr z.2⟩))
/-- nothing but the token, the fault and its place has changed -/
def onA (σ τ : S0) : Prop := ∀ k j, ¬ ((k = 1 ∧ 2 ≤ j ∧ j ≤ 5) ∨ (k = 3 ∧ (j = 5 ∨ j = 6))) → τ k j = σ k j
theorem onA.tr {a b c : S0} (h1 : onA a b) (h2 : onA b c) : onA a c := fun k j h => (h2 k j h).trans (h1 k j h)
theorem onA.rf (a : S0) : onA a a := fun _ _ _ => rfl
theorem on1.a {a b : S0} (h : on1 a b) : onA a b := fun k j q => h k j (fun z => q (Or.inl z))
theorem onA.k {a b : S0} (h : onA a b) : kX a b := fun k j q => h k j (fun z => q (by unfold scX; omega))
theorem onA.c {a b : S0} (h : onA a b) {k : Nat} (h1 : k ≠ 1) (h3 : k ≠ 3) : b k = a k := funext fun j => h k j (by omega)
theorem TpX.k {a : Nat → Nat} {n : Nat} {σ τ : S0} (h : TpX a n σ) (o : kX σ τ) : TpX a n τ := h.c (o 1 1 (by unfold scX; omega)) (funext fun j => o 2 j (by unfold scX; omega))
theorem TpM.k {a : Nat → Nat} {n : Nat} {σ τ : S0} (h : TpM a n σ) (o : kM σ τ) : TpM a n τ := h.c (o 98 17 (by unfold scM; omega)) (funext fun j => o 104 j (by unfold scM; omega))
theorem refuse_s (σ : S0) (x : Int32) : fX5_refuse σ x = some (0, su (su σ 3 5 x) 3 6 (σ 1 4)) := by
  unfold fX5_refuse
  simp only [ol]
  rw [su_ne (by omega)]
theorem refuse_o (σ : S0) (x : Int32) : onA σ (su (su σ 3 5 x) 3 6 (σ 1 4)) := fun k j q => by
  by_cases hk : k = 3
  · subst hk; rw [su_j (by omega), su_j (by omega)]
  · rw [su_ne hk, su_ne hk]
/-- a fault on both sides, at one place -/
def Flt (σ ρ : S0) : Prop := ∃ f g pl, (1 ≤ f ∧ f ≤ 6) ∧ (1 ≤ g ∧ g ≤ 6) ∧ pl ≤ 320 ∧ σ 3 5 = nI f ∧ ρ 98 22 = nI g ∧ σ 3 6 = nI pl ∧ ρ 98 23 = nI pl
theorem flt_r {σ ρ : S0} {f g pl : Nat} (hf : 1 ≤ f ∧ f ≤ 6) (hg : 1 ≤ g ∧ g ≤ 6) (hp : pl ≤ 320) (e4 : σ 1 4 = nI pl) (e22 : ρ 98 22 = nI g) (e23 : ρ 98 23 = nI pl) : Flt (su (su σ 3 5 (nI f)) 3 6 (σ 1 4)) ρ := ⟨f, g, pl, hf, hg, hp, by rw [su_j (by omega), su_s], e22, by rw [su_s, e4], e23⟩
/-- in the class a fault stays, whatever else is written -/
theorem Flt.m {σ ρ μ : S0} (h : Flt σ ρ) (e22 : μ 98 22 = ρ 98 22) (e23 : μ 98 23 = ρ 98 23) : Flt σ μ := by
  unfold Flt at h ⊢
  rw [e22, e23]
  exact h
theorem tok_b {a : Nat → Nat} {n p : Nat} (hp : p ≤ n) : p ≤ tS a n p ∧ tS a n p ≤ tE a n p ∧ tE a n p ≤ n ∧ (tK a n p ≠ 0 → tS a n p < tE a n p) := by
  have hs := sk_le (pB a n) (n - p) p
  have hs1 : p ≤ tS a n p := hs.1
  have hsn : tS a n p ≤ n := by show sk _ _ _ ≤ n; omega
  have hl := sk_le (pL a n) (n - tS a n p) (tS a n p)
  have hd := sk_le (pD a n) (n - tS a n p) (tS a n p)
  have hl1 : tS a n p ≤ tL a n (tS a n p) := hl.1
  have hd1 : tS a n p ≤ tD a n (tS a n p) := hd.1
  have hl2 : tL a n (tS a n p) ≤ n := by show sk _ _ _ ≤ n; omega
  have hd2 : tD a n (tS a n p) ≤ n := by show sk _ _ _ ≤ n; omega
  refine ⟨hs1, ?_⟩
  by_cases cL : pL a n (tS a n p) = true
  · have eE : tE a n p = tL a n (tS a n p) := by unfold tE; rw [if_pos cL]
    have hlt : tS a n p < tL a n (tS a n p) := by
      obtain ⟨q1, -⟩ := of_decide_eq_true cL
      obtain ⟨d, hd'⟩ : ∃ d, n - tS a n p = d + 1 := ⟨n - tS a n p - 1, by omega⟩
      have := (sk_le (pL a n) d (tS a n p + 1)).1
      show tS a n p < sk (pL a n) (n - tS a n p) (tS a n p)
      rw [hd', sk_y cL]
      omega
    rw [eE]
    exact ⟨hl1, hl2, fun _ => hlt⟩
  · by_cases cD : pD a n (tS a n p) = true
    · have eE : tE a n p = tD a n (tS a n p) := by unfold tE; rw [if_neg cL, if_pos cD]
      have hlt : tS a n p < tD a n (tS a n p) := by
        obtain ⟨q1, -⟩ := of_decide_eq_true cD
        obtain ⟨d, hd'⟩ : ∃ d, n - tS a n p = d + 1 := ⟨n - tS a n p - 1, by omega⟩
        have := (sk_le (pD a n) d (tS a n p + 1)).1
        show tS a n p < sk (pD a n) (n - tS a n p) (tS a n p)
        rw [hd', sk_y cD]
        omega
      rw [eE]
      exact ⟨hd1, hd2, fun _ => hlt⟩
    · by_cases c3 : tS a n p < n
      · have eE : tE a n p = tS a n p + 1 := by unfold tE; rw [if_neg cL, if_neg cD, if_pos c3]
        rw [eE]
        exact ⟨by omega, by omega, fun _ => by omega⟩
      · have eE : tE a n p = tS a n p := by unfold tE; rw [if_neg cL, if_neg cD, if_neg c3]
        have eK : tK a n p = 0 := by unfold tK; rw [if_neg cL, if_neg cD, if_neg c3]
        rw [eE]
        exact ⟨by omega, by omega, fun q => absurd eK q⟩
theorem tV_b {a : Nat → Nat} {n p : Nat} (ha : ∀ j, j < n → a j < 256) (h : tK a n p = 2) : tV a n p < 100 := by
  by_cases cL : pL a n (tS a n p) = true
  · have eK : tK a n p = 1 := by unfold tK; rw [if_pos cL]
    omega
  · by_cases cD : pD a n (tS a n p) = true
    · have eK : tK a n p = if tD a n (tS a n p) - tS a n p ≤ 2 then 2 else 4 := by unfold tK; rw [if_neg cL, if_pos cD]
      by_cases c2 : tD a n (tS a n p) - tS a n p ≤ 2
      · obtain ⟨v, v1, v2, -⟩ := num_2 ha cD c2
        unfold tV
        rw [← v2]
        exact v1
      · rw [if_neg c2] at eK
        omega
    · by_cases c3 : tS a n p < n
      · have eK : tK a n p = if a (tS a n p) = 59 then 3 else 4 := by unfold tK; rw [if_neg cL, if_neg cD, if_pos c3]
        by_cases c4 : a (tS a n p) = 59
        · rw [if_pos c4] at eK; omega
        · rw [if_neg c4] at eK; omega
      · have eK : tK a n p = 0 := by unfold tK; rw [if_neg cL, if_neg cD, if_neg c3]
        omega
/-- both hold the same token, no fault -/
def Cur (a : Nat → Nat) (n p : Nat) (σ ρ : S0) : Prop := tkX a n p σ ∧ tkM a n p ρ ∧ tK a n p ≤ 3 ∧ σ 3 5 = 0 ∧ p ≤ n
/-- the class has taken its token; the reference has read the next one already -/
def Pend (a : Nat → Nat) (n p : Nat) (σ ρ : S0) : Prop := σ 1 2 = nI p ∧ tkM a n p ρ ∧ σ 3 5 = 0 ∧ p ≤ n
theorem tkM.g {a : Nat → Nat} {n p : Nat} {ρ : S0} (h : tkM a n p ρ) (hk : tK a n p ≤ 3) : ρ 98 22 = 0 ∧ ρ 98 20 = nI (tK a n p) ∧ (tK a n p = 2 → ρ 98 21 = nI (tV a n p)) := by
  rcases h.2.2 with q | q
  · omega
  · exact q.2
theorem tkM.f {a : Nat → Nat} {n p : Nat} {ρ : S0} (h : tkM a n p ρ) (hk : tK a n p = 4) : ρ 98 22 = nI 1 ∧ ρ 98 23 = nI (tS a n p) := by
  rcases h.2.2 with q | q
  · exact q.2
  · omega
theorem tkM.o {a : Nat → Nat} {n p : Nat} {ρ μ : S0} (h : tkM a n p ρ) (o : ∀ j, 18 ≤ j → j ≤ 23 → μ 98 j = ρ 98 j) : tkM a n p μ := by
  unfold tkM at h ⊢
  rw [o 18 (by omega) (by omega), o 19 (by omega) (by omega), o 20 (by omega) (by omega), o 21 (by omega) (by omega), o 22 (by omega) (by omega), o 23 (by omega) (by omega)]
  exact h
theorem tkX.o {a : Nat → Nat} {n p : Nat} {ρ μ : S0} (h : tkX a n p ρ) (o : ∀ j, 2 ≤ j → j ≤ 5 → μ 1 j = ρ 1 j) : tkX a n p μ := by
  unfold tkX at h ⊢
  rw [o 2 (by omega) (by omega), o 3 (by omega) (by omega), o 4 (by omega) (by omega), o 5 (by omega) (by omega)]
  exact h
theorem adv_s {a : Nat → Nat} {n p : Nat} {σ ρ : S0} (tp : TpX a n σ) (h : Pend a n p σ ρ) : ∃ r τ, fX5_advance σ = some (r, τ) ∧ onA σ τ ∧ ((r = 1 ∧ on1 σ τ ∧ Cur a n p τ ρ) ∨ (r = 0 ∧ Flt τ ρ)) := by
  obtain ⟨h1, h2, h3, h4⟩ := h
  have hn := tp.1
  obtain ⟨τ, t1, t2, t3⟩ := rtok_s tp h4 h1
  have hb := tok_b (a := a) h4
  have hk4 := tK_4 a n p
  have e4 : τ 1 3 = 4 ↔ tK a n p = 4 := by rw [t3.2.2.1]; exact nI_eq (b := 4) (by omega) (by omega)
  unfold fX5_advance fX5_advance_b26
  rw [t1]
  simp only [obp]
  by_cases c : tK a n p = 4
  · rw [if_neg (fun q => q (e4.mpr c)), refuse_s]
    simp only
    rw [if_pos (by decide)]
    refine ⟨0, _, rfl, t2.a.tr (refuse_o τ 1), Or.inr ⟨rfl, ?_⟩⟩
    exact flt_r (f := 1) (g := 1) (pl := tS a n p) (by omega) (by omega) (by omega) t3.1 (h2.f c).1 (h2.f c).2
  · rw [if_pos (fun q => c (e4.mp q))]
    exact ⟨1, τ, rfl, t2.a, Or.inl ⟨rfl, t2, t3, h2, by omega, by rw [t2.c (by omega)]; exact h3, h4⟩⟩
/-- the class asks for a number -/
theorem nn_s {a : Nat → Nat} {n p lo hi : Nat} {σ : S0} (tp : TpX a n σ) (hp : p ≤ n) (e : σ 1 2 = nI p) (hhi : hi ≤ 99) (hlo : lo ≤ 99) : ∃ r τ, fX5_nextNumber σ (nI lo) (nI hi) = some (r, τ) ∧ onA σ τ ∧ ((r = 1 ∧ on1 σ τ ∧ tkX a n p τ ∧ tK a n p = 2 ∧ lo ≤ tV a n p ∧ tV a n p ≤ hi) ∨ (r = 0 ∧ τ 3 6 = nI (tS a n p) ∧ (∃ f, (1 ≤ f ∧ f ≤ 6) ∧ τ 3 5 = nI f) ∧ ¬ (tK a n p = 2 ∧ lo ≤ tV a n p ∧ tV a n p ≤ hi))) := by
  have hn := tp.1
  obtain ⟨τ, t1, t2, t3⟩ := rtok_s tp hp e
  have hk4 := tK_4 a n p
  have e4 : τ 1 3 = 4 ↔ tK a n p = 4 := by rw [t3.2.2.1]; exact nI_eq (b := 4) (by omega) (by omega)
  have e2 : τ 1 3 = 2 ↔ tK a n p = 2 := by rw [t3.2.2.1]; exact nI_eq (b := 2) (by omega) (by omega)
  have bad : ∀ f : Nat, 1 ≤ f → f ≤ 6 → fX5_faultOfNumber τ (nI lo) (nI hi) = some (nI f, τ) → ¬ (tK a n p = 2 ∧ lo ≤ tV a n p ∧ tV a n p ≤ hi) → ∃ r ν, fX5_nextNumber σ (nI lo) (nI hi) = some (r, ν) ∧ onA σ ν ∧ ((r = 1 ∧ on1 σ ν ∧ tkX a n p ν ∧ tK a n p = 2 ∧ lo ≤ tV a n p ∧ tV a n p ≤ hi) ∨ (r = 0 ∧ ν 3 6 = nI (tS a n p) ∧ (∃ f, (1 ≤ f ∧ f ≤ 6) ∧ ν 3 5 = nI f) ∧ ¬ (tK a n p = 2 ∧ lo ≤ tV a n p ∧ tV a n p ≤ hi))) := fun f f1 f2 ef hno => by
    unfold fX5_nextNumber fX5_nextNumber_b26
    rw [t1]
    simp only [obp]
    rw [ef]
    simp only
    rw [if_neg (nI_ne0 (by omega) (by omega)), refuse_s]
    simp only
    rw [if_pos (by decide)]
    refine ⟨0, _, rfl, t2.a.tr (refuse_o τ _), Or.inr ⟨rfl, by rw [su_s, t3.1], ⟨f, ⟨f1, f2⟩, by rw [su_j (by omega), su_s]⟩, hno⟩⟩
  by_cases c4 : tK a n p = 4
  · refine bad 1 (by omega) (by omega) ?_ (by omega)
    unfold fX5_faultOfNumber
    rw [if_neg (fun q => q (e4.mpr c4))]
    rfl
  · by_cases c2 : tK a n p = 2
    · have hv := tV_b (fun j hj => (tp.2.2 j hj).1) c2
      have e5 := t3.2.2.2 c2
      have l1 : τ 1 5 < nI lo ↔ tV a n p < lo := by rw [e5]; exact nI_ltI (by omega) (by omega)
      have l2 : τ 1 5 ≤ nI hi ↔ tV a n p ≤ hi := by rw [e5]; exact nI_leI (by omega) (by omega)
      by_cases c5 : tV a n p < lo
      · refine bad 3 (by omega) (by omega) ?_ (by omega)
        unfold fX5_faultOfNumber fX5_faultOfNumber_b48
        rw [if_pos (fun q => c4 (e4.mp q)), if_pos (e2.mpr c2), if_pos (l1.mpr c5)]
        rfl
      · by_cases c6 : tV a n p ≤ hi
        · refine ⟨1, τ, ?_, t2.a, Or.inl ⟨rfl, t2, t3, c2, by omega, c6⟩⟩
          unfold fX5_nextNumber fX5_nextNumber_b26 fX5_faultOfNumber
          rw [t1]
          simp only [obp]
          rw [if_pos (fun q => c4 (e4.mp q)), if_pos (e2.mpr c2), if_neg (fun q => c5 (l1.mp q)), if_pos (l2.mpr c6)]
          simp only
          rw [if_pos (by decide)]
        · refine bad 3 (by omega) (by omega) ?_ (by omega)
          unfold fX5_faultOfNumber fX5_faultOfNumber_b48
          rw [if_pos (fun q => c4 (e4.mp q)), if_pos (e2.mpr c2), if_neg (fun q => c5 (l1.mp q)), if_neg (fun q => c6 (l2.mp q))]
          rfl
    · refine bad 2 (by omega) (by omega) ?_ (by omega)
      unfold fX5_faultOfNumber
      rw [if_pos (fun q => c4 (e4.mp q)), if_neg (fun q => c2 (e2.mp q))]
      rfl
/-- the reference looks at its number -/
theorem lk_s {a : Nat → Nat} {n p lo hi : Nat} {ρ : S0} (tm : tkM a n p ρ) (tp : TpM a n ρ) (hhi : hi ≤ 99) (hlo : lo ≤ 99) : ∃ v μ, fX11_looked ρ (nI lo) (nI hi) = some (v, μ) ∧ on8 ρ μ ∧ ((tK a n p = 2 ∧ lo ≤ tV a n p ∧ tV a n p ≤ hi ∧ v = nI (tV a n p) ∧ μ = ρ) ∨ (¬ (tK a n p = 2 ∧ lo ≤ tV a n p ∧ tV a n p ≤ hi) ∧ v = 0 ∧ (∃ g, (1 ≤ g ∧ g ≤ 6) ∧ μ 98 22 = nI g) ∧ μ 98 23 = nI (tS a n p))) := by
  have hk4 := tK_4 a n p
  by_cases c4 : tK a n p = 4
  · obtain ⟨f1, f2⟩ := tm.f c4
    have f0 : ¬ ρ 98 22 = 0 := by rw [f1]; exact nI_ne0 (by omega) (by omega)
    refine ⟨0, ρ, ?_, on8.rf ρ, Or.inr ⟨by omega, rfl, ⟨1, by omega, f1⟩, f2⟩⟩
    unfold fX11_looked fX11_looked_b25 fX11_looked_b49
    rw [if_pos f0, if_pos f0, if_pos f0]
  · obtain ⟨g1, g2, g3⟩ := tm.g (by omega)
    have n0 : ¬ ¬ ρ 98 22 = 0 := fun q => q g1
    have e2 : ρ 98 20 = 2 ↔ tK a n p = 2 := by rw [g2]; exact nI_eq (b := 2) (by omega) (by omega)
    have faulted : ∀ c : Nat, 1 ≤ c → c ≤ 6 → ∀ μ, μ = su (su ρ 98 22 (nI c)) 98 23 (ρ 98 19) → on8 ρ μ ∧ ¬ μ 98 22 = 0 ∧ (∃ g, (1 ≤ g ∧ g ≤ 6) ∧ μ 98 22 = nI g) ∧ μ 98 23 = nI (tS a n p) := fun c c1 c2 μ hμ => by
      have e22 : μ 98 22 = nI c := by rw [hμ, su_j (by omega), su_s]
      refine ⟨by rw [hμ]; exact ((on8.rf ρ).su (by omega) _).su (by omega) _, by rw [e22]; exact nI_ne0 (by omega) (by omega), ⟨c, ⟨c1, c2⟩, e22⟩, by rw [hμ, su_s]; exact tm.1⟩
    by_cases c2 : tK a n p = 2
    · have hv := tV_b (fun j hj => (tp.2.2 j hj).1) c2
      have g5 := g3 c2
      have hin : fX11_in ρ ((ρ 98 21).toInt64) ((nI lo).toInt64) ((nI hi).toInt64) = some (if lo ≤ tV a n p ∧ tV a n p ≤ hi then 1 else 0, ρ) := by
        rw [g5, in_i ρ (nI (tV a n p)) _ _ lo hi (by rw [Int32.toInt_toInt64, ir (by omega)]) (by rw [Int32.toInt_toInt64, ir (by omega)]), ir (by omega)]
        by_cases q : lo ≤ tV a n p ∧ tV a n p ≤ hi
        · rw [if_pos q, if_pos (by omega)]
        · rw [if_neg q, if_neg (by omega)]
      have e1 : fX11_looked ρ (nI lo) (nI hi) = obp (fX11_needs ρ (if lo ≤ tV a n p ∧ tV a n p ≤ hi then 1 else 0) 3) (fun _ σ6 => fX11_looked_b49 σ6) := by
        unfold fX11_looked fX11_looked_b21 fX11_looked_b25
        rw [if_neg n0, if_neg (fun q => q (e2.mpr c2)), needs_y _ (by decide)]
        simp only [obp]
        rw [if_neg n0, hin]
      rw [e1]
      by_cases q : lo ≤ tV a n p ∧ tV a n p ≤ hi
      · refine ⟨nI (tV a n p), ρ, ?_, on8.rf ρ, Or.inl ⟨c2, q.1, q.2, rfl, rfl⟩⟩
        rw [if_pos q, needs_y _ (by decide)]
        simp only [obp]
        unfold fX11_looked_b49
        rw [if_neg n0, g5]
      · obtain ⟨w1, w2, w3, w4⟩ := faulted 3 (by omega) (by omega) _ rfl
        refine ⟨0, _, ?_, w1, Or.inr ⟨fun z => q z.2, rfl, w3, w4⟩⟩
        rw [if_neg q, needs_n _ g1]
        simp only [obp]
        unfold fX11_looked_b49
        exact if_pos w2
    · obtain ⟨w1, w2, w3, w4⟩ := faulted 2 (by omega) (by omega) _ rfl
      refine ⟨0, _, ?_, w1, Or.inr ⟨fun z => c2 z.1, rfl, w3, w4⟩⟩
      unfold fX11_looked fX11_looked_b21 fX11_looked_b25 fX11_looked_b49
      rw [if_neg n0, if_pos (fun q => c2 (e2.mp q)), needs_n _ g1]
      simp only [obp]
      exact (if_pos w2).trans (if_pos w2)
/-- the reference goes on behind a token that it has taken -/
theorem nx_s {a : Nat → Nat} {n p : Nat} {ρ : S0} (tm : tkM a n p ρ) (hk : tK a n p ≤ 3) (tp : TpM a n ρ) (hp : p ≤ n) : ∃ μ, fX11_next ρ = some (0, μ) ∧ on8 ρ μ ∧ tkM a n (tE a n p) μ := next_s tp (tok_b hp).2.2.1 tm.2.1 (tm.g hk).1
/-- a number is read on both sides -/
theorem rn_s {a : Nat → Nat} {n p lo hi : Nat} {σ ρ : S0} (tx : TpX a n σ) (tp : TpM a n ρ) (h : Pend a n p σ ρ) (hhi : hi ≤ 99) (hlo : lo ≤ 99) : ∃ r τ v μ, fX5_nextNumber σ (nI lo) (nI hi) = some (r, τ) ∧ fX11_readNumber ρ (nI lo) (nI hi) = some (v, μ) ∧ onA σ τ ∧ on8 ρ μ ∧ ((r = 1 ∧ on1 σ τ ∧ ∃ x, lo ≤ x ∧ x ≤ hi ∧ v = nI x ∧ τ 1 5 = nI x ∧ Pend a n (tE a n p) τ μ) ∨ (r = 0 ∧ v = 0 ∧ Flt τ μ)) := by
  obtain ⟨h1, h2, h3, h4⟩ := h
  have hn := tp.1
  have hb := tok_b (a := a) h4
  obtain ⟨r, τ, t1, t2, t3⟩ := nn_s tx h4 h1 hhi hlo
  obtain ⟨v, μ, m1, m2, m3⟩ := lk_s h2 tp hhi hlo
  rcases t3 with ⟨r1, o1, k1, k2, k3, k4⟩ | ⟨r0, p0, ⟨f, f1, f2⟩, hno⟩
  · rcases m3 with ⟨z1, z2, z3, z4, z5⟩ | ⟨z1, -⟩
    · subst z5
      obtain ⟨ν, v1, v2, v3⟩ := nx_s h2 (by omega) tp h4
      refine ⟨r, τ, v, ν, t1, ?_, t2, v2, Or.inl ⟨r1, o1, tV a n p, k3, k4, z4, k1.2.2.2 k2, k1.2.1, v3, by rw [o1.c (by omega)]; exact h3, hb.2.2.1⟩⟩
      unfold fX11_readNumber
      rw [m1]
      simp only [obp]
      rw [v1]
    · exact absurd ⟨k2, k3, k4⟩ z1
  · rcases m3 with ⟨z1, z2, z3, -⟩ | ⟨z1, z2, ⟨g, g1, g2⟩, z4⟩
    · exact absurd ⟨z1, z2, z3⟩ hno
    · refine ⟨r, τ, v, μ, t1, ?_, t2, m2, Or.inr ⟨r0, z2, f, g, tS a n p, f1, g1, by omega, f2, g2, p0, z4⟩⟩
      unfold fX11_readNumber
      rw [m1]
      simp only [obp]
      rw [next_f g1.1 g1.2 g2]
/-- the class meets a token that is none -/
theorem nn_bad {a : Nat → Nat} {n p lo hi : Nat} {σ ρ : S0} (tx : TpX a n σ) (h : Pend a n p σ ρ) (hhi : hi ≤ 99) (hlo : lo ≤ 99) (hk : tK a n p = 4) : ∃ τ, fX5_nextNumber σ (nI lo) (nI hi) = some (0, τ) ∧ onA σ τ ∧ Flt τ ρ := by
  obtain ⟨h1, h2, h3, h4⟩ := h
  have hn := tx.1
  have hb := tok_b (a := a) h4
  obtain ⟨r, τ, t1, t2, t3⟩ := nn_s tx h4 h1 hhi hlo
  rcases t3 with ⟨r1, o1, k1, k2, -⟩ | ⟨r0, p0, ⟨f, f1, f2⟩, hno⟩
  · omega
  · exact ⟨τ, by rw [t1, r0], t2, f, 1, tS a n p, f1, by omega, by omega, f2, (h2.f hk).1, p0, (h2.f hk).2⟩
end
section
/-! THE TEXT: houses, the draft, the end of a line -/
def on9 (σ τ : S0) : Prop := ∀ k j, ¬ (k = 98 ∧ (j = 13 ∨ 18 ≤ j ∧ j ≤ 23)) → τ k j = σ k j
theorem on9.tr {a b c : S0} (h1 : on9 a b) (h2 : on9 b c) : on9 a c := fun k j h => (h2 k j h).trans (h1 k j h)
theorem on8.n {a b : S0} (h : on8 a b) : on9 a b := fun k j q => h k j (fun z => q ⟨z.1, Or.inr z.2⟩)
theorem on9.k {a b : S0} (h : on9 a b) : kM a b := fun k j q => h k j (fun z => q (by unfold scM; omega))
theorem on9_su (σ : S0) (v : Int32) : on9 σ (su σ 98 13 v) := fun k j q => by
  by_cases hk : k = 98
  · subst hk; exact su_j (fun z => q ⟨rfl, Or.inl z⟩)
  · rw [su_ne hk]
theorem on9.c {a b : S0} (h : on9 a b) {k : Nat} (hk : k ≠ 98) : b k = a k := funext fun j => h k j (fun q => hk q.1)
def mxI (hh : Int32) (x : Nat) : Int32 := if nI x ≤ hh then hh else nI x
/-- a house is read on both sides -/
theorem rh_s {a : Nat → Nat} {n p : Nat} {σ ρ : S0} (tx : TpX a n σ) (tp : TpM a n ρ) (h : Pend a n p σ ρ) (x1 : Int32) : ∃ r τ v μ, fX5_nextNumber σ (nI 0) (nI 5) = some (r, τ) ∧ fX11_readHouse ρ x1 = some (v, μ) ∧ onA σ τ ∧ on9 ρ μ ∧ ((r = 1 ∧ on1 σ τ ∧ ∃ x, x < 6 ∧ τ 1 5 = nI x ∧ v = nI x ∧ ¬ nI x = x1 ∧ μ 98 13 = mxI (ρ 98 13) x ∧ Pend a n (tE a n p) τ μ) ∨ (r = 1 ∧ on1 σ τ ∧ ∃ x, x < 6 ∧ τ 1 5 = nI x ∧ nI x = x1 ∧ τ 1 4 = nI (tS a n p) ∧ tS a n p ≤ n ∧ μ 98 22 = nI 4 ∧ μ 98 23 = nI (tS a n p)) ∨ (r = 0 ∧ v = 0 ∧ Flt τ μ)) := by
  obtain ⟨h1, h2, h3, h4⟩ := h
  have hn := tp.1
  have hb := tok_b (a := a) h4
  obtain ⟨r, τ, t1, t2, t3⟩ := nn_s (lo := 0) (hi := 5) tx h4 h1 (by omega) (by omega)
  obtain ⟨v, μ, m1, m2, m3⟩ := lk_s (lo := 0) (hi := 5) h2 tp (by omega) (by omega)
  have m1' : fX11_looked ρ 0 5 = some (v, μ) := m1
  -- behind the needs
  have b29 : ∀ (ν : S0) (w : Int32), fX11_readHouse_b29 ν w = obp (fX11_next (su ν 98 13 (if w ≤ ν 98 13 then ν 98 13 else w))) (fun _ σ3 => some (w, σ3)) := fun ν w => by
    unfold fX11_readHouse_b29 fX11_readHouse_b46
    by_cases c : w ≤ ν 98 13
    · rw [if_pos c, if_pos c, ol_g]
    · rw [if_neg c, if_neg c, ol_g]
  rcases t3 with ⟨r1, o1, k1, k2, k3, k4⟩ | ⟨r0, p0, ⟨f, f1, f2⟩, hno⟩
  · rcases m3 with ⟨z1, z2, z3, z4, z5⟩ | ⟨z1, -⟩
    · subst z5
      obtain ⟨g1, g2, g3⟩ := h2.g (by omega)
      have n0 : ¬ ¬ μ 98 22 = 0 := fun q => q g1
      have e5 := k1.2.2.2 k2
      by_cases c : nI (tV a n p) = x1
      · -- the same house again
        refine ⟨r, τ, v, su (su (su μ 98 22 4) 98 23 (μ 98 19)) 98 13 (if v ≤ su (su μ 98 22 4) 98 23 (μ 98 19) 98 13 then su (su μ 98 22 4) 98 23 (μ 98 19) 98 13 else v), t1, ?_, t2, ?_, Or.inr (Or.inl ⟨r1, o1, tV a n p, by omega, e5, c, k1.1, by omega, ?_, ?_⟩)⟩
        · unfold fX11_readHouse fX11_readHouse_b25
          rw [m1']
          simp only [obp]
          rw [if_neg n0, if_pos (z4.trans c), needs_n _ g1]
          simp only
          rw [b29, next_f (f := 4) (by omega) (by omega) (by rw [su_j (by omega), su_j (by omega), su_s]; rfl)]
          rfl
        · refine on9.tr (fun k j q => ?_) (on9_su _ _)
          by_cases hk : k = 98
          · subst hk; rw [su_j (by omega), su_j (by omega)]
          · rw [su_ne hk, su_ne hk]
        · rw [su_j (by omega), su_j (by omega), su_s]; rfl
        · rw [su_j (by omega), su_s]; exact h2.1
      · have o9 := on9_su μ (if v ≤ μ 98 13 then μ 98 13 else v)
        have tm2 : tkM a n p (su μ 98 13 (if v ≤ μ 98 13 then μ 98 13 else v)) := h2.o (fun j q1 q2 => su_j (by omega))
        obtain ⟨ν, v1, v2, v3⟩ := nx_s tm2 (by omega) (tp.k o9.k) h4
        refine ⟨r, τ, v, ν, t1, ?_, t2, o9.tr v2.n, Or.inl ⟨r1, o1, tV a n p, by omega, e5, z4, c, ?_, k1.2.1, v3, by rw [o1.c (by omega)]; exact h3, hb.2.2.1⟩⟩
        · unfold fX11_readHouse fX11_readHouse_b25
          rw [m1']
          simp only [obp]
          rw [if_neg n0, if_neg (fun q => c (z4.symm.trans q)), needs_y _ (by decide)]
          simp only
          rw [b29, v1]
          rfl
        · rw [v2 98 13 (by omega), su_s, z4]
          rfl
    · exact absurd ⟨k2, k3, k4⟩ z1
  · rcases m3 with ⟨z1, z2, z3, -⟩ | ⟨z1, z2, ⟨g, g1, g2⟩, z4⟩
    · exact absurd ⟨z1, z2, z3⟩ hno
    · have n0 : ¬ μ 98 22 = 0 := by rw [g2]; exact nI_ne0 (by omega) (by omega)
      refine ⟨r, τ, v, su μ 98 13 (if v ≤ μ 98 13 then μ 98 13 else v), t1, ?_, t2, m2.n.tr (on9_su _ _), Or.inr (Or.inr ⟨r0, z2, f, g, tS a n p, f1, g1, by omega, f2, by rw [su_j (by omega)]; exact g2, p0, by rw [su_j (by omega)]; exact z4⟩)⟩
      unfold fX11_readHouse
      rw [m1']
      simp only [obp]
      rw [if_pos n0, b29, next_f g1.1 g1.2 (by rw [su_j (by omega)]; exact g2)]
      rfl
/-! behind a fault the reference goes on to the end -/
def bad (ρ : S0) : Prop := ∃ g, 1 ≤ g ∧ g ≤ 6 ∧ ρ 98 22 = nI g
theorem bad.n {ρ : S0} (h : bad ρ) : ¬ ρ 98 22 = 0 := by
  obtain ⟨g, h1, h2, h3⟩ := h
  rw [h3]
  exact nI_ne0 (by omega) (by omega)
theorem bad.o {ρ μ : S0} (h : bad ρ) (e : μ 98 22 = ρ 98 22) : bad μ := by
  unfold bad
  rw [e]
  exact h
theorem Flt.b {σ ρ : S0} (h : Flt σ ρ) : bad ρ := by
  obtain ⟨f, g, pl, h1, h2, h3, h4, h5, h6, h7⟩ := h
  exact ⟨g, h2.1, h2.2, h5⟩
theorem bad.next {ρ : S0} (h : bad ρ) : fX11_next ρ = some (0, ρ) := by
  obtain ⟨g, h1, h2, h3⟩ := h
  exact next_f h1 h2 h3
theorem bad.le {ρ : S0} (h : bad ρ) : ¬ ρ 98 22 ≤ 0 := by
  obtain ⟨g, h1, h2, h3⟩ := h
  rw [h3]
  exact nI_nle (by omega) (by omega)
theorem bad.looked {ρ : S0} (h : bad ρ) (lo hi : Int32) : fX11_looked ρ lo hi = some (0, ρ) := by
  unfold fX11_looked fX11_looked_b25 fX11_looked_b49
  rw [if_pos h.n, if_pos h.n, if_pos h.n]
theorem bad.num {ρ : S0} (h : bad ρ) (lo hi : Int32) : fX11_readNumber ρ lo hi = some (0, ρ) := by
  unfold fX11_readNumber
  rw [h.looked]
  simp only [obp]
  rw [h.next]
theorem bad.house {ρ : S0} (h : bad ρ) (x : Int32) : ∃ v, fX11_readHouse ρ x = some (0, su ρ 98 13 v) := by
  unfold fX11_readHouse fX11_readHouse_b29 fX11_readHouse_b46
  rw [h.looked]
  simp only [obp]
  rw [if_pos h.n]
  by_cases c : (0 : Int32) ≤ ρ 98 13
  · refine ⟨ρ 98 13, ?_⟩
    rw [if_pos c, ol_g, (h.o (μ := su ρ 98 13 (ρ 98 13)) (su_j (by omega))).next]
  · refine ⟨0, ?_⟩
    rw [if_neg c, ol_g, (h.o (μ := su ρ 98 13 0) (su_j (by omega))).next]
theorem bad.b206 {ρ : S0} (h : bad ρ) : fX11_readLine_b206 ρ = some (0, ρ) := by
  unfold fX11_readLine_b206 fX11_readLine_b231
  rw [if_pos h.n, h.next]
  rfl
theorem bad.needs {ρ : S0} (h : bad ρ) (v c : Int32) : fX11_needs ρ v c = some (0, ρ) := needs_f v c h.n
/-! the end of a line -/
theorem end_s {a : Nat → Nat} {n p : Nat} {σ ρ : S0} (tx : TpX a n σ) (tp : TpM a n ρ) (h : Cur a n p σ ρ) : ∃ r τ μ, fX5_endLine σ = some (r, τ) ∧ fX11_readLine_b206 ρ = some (0, μ) ∧ onA σ τ ∧ on8 ρ μ ∧ ((r = 1 ∧ Cur a n (tE a n p) τ μ) ∨ (r = 0 ∧ Flt τ μ)) := by
  obtain ⟨h1, h2, h3, h4, h5⟩ := h
  have hn := tp.1
  have hb := tok_b (a := a) h5
  obtain ⟨g1, g2, g3⟩ := h2.g h3
  have n0 : ¬ ¬ ρ 98 22 = 0 := fun q => q g1
  have x3 : σ 1 3 = 3 ↔ tK a n p = 3 := by rw [h1.2.2.1]; exact nI_eq (b := 3) (by omega) (by omega)
  have m3 : ρ 98 20 = 3 ↔ tK a n p = 3 := by rw [g2]; exact nI_eq (b := 3) (by omega) (by omega)
  by_cases c : tK a n p = 3
  · obtain ⟨μ, v1, v2, v3⟩ := nx_s h2 h3 tp h5
    obtain ⟨r, τ, t1, t2, t3⟩ := adv_s tx (show Pend a n (tE a n p) σ μ from ⟨h1.2.1, v3, h4, hb.2.2.1⟩)
    refine ⟨r, τ, μ, ?_, ?_, t2, v2, ?_⟩
    · unfold fX5_endLine
      rw [if_neg (fun q => q (x3.mpr c)), t1]
      simp only [obp]
      rw [og_t (t3.elim (fun q => Or.inr q.1) (fun q => Or.inl q.1))]
    · unfold fX11_readLine_b206 fX11_readLine_b227 fX11_readLine_b231
      rw [if_neg n0, if_neg (fun q => q (m3.mpr c)), needs_y _ (by decide)]
      simp only [obp]
      rw [v1]
    · rcases t3 with ⟨q1, q2, q3⟩ | q
      · exact Or.inl ⟨q1, q3⟩
      · exact Or.inr q
  · have hbad : bad (su (su ρ 98 22 2) 98 23 (ρ 98 19)) := ⟨2, by omega, by omega, by rw [su_j (by omega), su_s]; rfl⟩
    refine ⟨0, su (su σ 3 5 2) 3 6 (σ 1 4), su (su ρ 98 22 2) 98 23 (ρ 98 19), ?_, ?_, refuse_o σ 2, ((on8.rf ρ).su (by omega) _).su (by omega) _, Or.inr ⟨rfl, ?_⟩⟩
    · unfold fX5_endLine
      rw [if_pos (fun q => c (x3.mp q)), refuse_s]
      rfl
    · unfold fX11_readLine_b206 fX11_readLine_b227 fX11_readLine_b231
      rw [if_neg n0, if_pos (fun q => c (m3.mp q)), needs_n _ g1]
      simp only [obp]
      rw [hbad.next]
    · exact flt_r (f := 2) (g := 2) (pl := tS a n p) (by omega) (by omega) (by omega) h1.1 (by rw [su_j (by omega), su_s]; rfl) (by rw [su_s]; exact h2.1)
/-- class: the next token, then the end of the line -/
def tailX (σ : S0) : Option (Int32 × S0) := obp (fX5_advance σ) (fun r9 σ10 => if r9 = 0 then (some (0, σ10)) else (obp (fX5_endLine σ10) (fun r13 σ14 => if r13 = 0 then (some (0, σ14)) else (some (1, σ14)))))
theorem tail_s {a : Nat → Nat} {n p : Nat} {σ ρ : S0} (tx : TpX a n σ) (tp : TpM a n ρ) (h : Pend a n p σ ρ) : ∃ r τ μ, tailX σ = some (r, τ) ∧ fX11_readLine_b206 ρ = some (0, μ) ∧ onA σ τ ∧ on8 ρ μ ∧ ((r = 1 ∧ tK a n p ≤ 3 ∧ Cur a n (tE a n p) τ μ) ∨ (r = 0 ∧ Flt τ μ)) := by
  obtain ⟨r, τ, t1, t2, t3⟩ := adv_s tx h
  unfold tailX
  rw [t1]
  simp only [obp]
  rcases t3 with ⟨q1, q2, q3⟩ | ⟨q1, q2⟩
  · obtain ⟨r', τ', μ, w1, w2, w3, w4, w5⟩ := end_s (tx.k t2.k) tp q3
    rw [q1, if_neg (by decide), w1]
    simp only
    rcases w5 with ⟨z1, z2⟩ | ⟨z1, z2⟩
    · refine ⟨1, τ', μ, by rw [z1, if_neg (by decide)], w2, t2.tr w3, w4, Or.inl ⟨rfl, q3.2.2.1, z2⟩⟩
    · refine ⟨0, τ', μ, by rw [z1, if_pos (by decide)], w2, t2.tr w3, w4, Or.inr ⟨rfl, z2⟩⟩
  · rw [q1, if_pos (by decide)]
    exact ⟨0, τ, ρ, rfl, q2.b.b206, t2, on8.rf ρ, Or.inr ⟨rfl, q2⟩⟩
/-! the draft on both sides -/
def DB (σ ρ : S0) (b : Nat) : Prop := (∃ w, w < 6 ∧ σ 15 b = nI w ∧ ρ 102 (5 * b) = nI w) ∧ (∃ f, f ≤ 20 ∧ σ 16 b = nI f ∧ ρ 102 (5 * b + 1) = nI f) ∧ (∃ f, f ≤ 9 ∧ σ 17 b = nI f ∧ ρ 102 (5 * b + 2) = nI f) ∧ ((σ 18 b = 0 ∧ ρ 102 (5 * b + 3) = 0) ∨ (σ 18 b = 1 ∧ ρ 102 (5 * b + 3) = 1)) ∧ ((σ 19 b = -4 ∧ ρ 102 (5 * b + 4) = -4) ∨ ∃ h, h < 6 ∧ σ 19 b = nI h ∧ ρ 102 (5 * b + 4) = nI h)
def DF (σ ρ : S0) : Prop := ∃ fo : Nat → Nat, (∀ h, h < 6 → fo h < 64 ∧ σ 20 h = nI (fo h) ∧ ρ 102 (60 + h) = nI (fo h)) ∧ (∀ a b, a < 6 → b < 6 → (fo a).testBit b = (fo b).testBit a) ∧ ∀ a, a < 6 → (fo a).testBit a = false
def DT (σ ρ : S0) (t : Nat) : Prop := ∃ m, 1 ≤ m ∧ m ≤ 12 ∧ σ 6 t = nI m ∧ ρ 103 (14 * t + 1) = nI m ∧ (∃ w, w ≤ 99 ∧ σ 5 t = nI w ∧ ρ 103 (14 * t) = nI w) ∧ ∀ i, i < m → ∃ b, b < 12 ∧ σ (8 + t) i = nI b ∧ ρ 103 (14 * t + 2 + i) = nI b
def th (ρ : S0) (B h : Nat) : Prop := (∃ b, b < B ∧ (ρ 102 (5 * b) = nI h ∨ ρ 102 (5 * b + 4) = nI h)) ∨ ¬ ρ 102 (60 + h) = 0
def sbr (ρ : S0) (T j : Nat) : Prop := ∃ t m i, t < T ∧ m ≤ 12 ∧ ρ 103 (14 * t + 1) = nI m ∧ i < m ∧ ρ 103 (14 * t + 2 + i) = nI j
def Mx (N : Nat) (hh : Int32) (P : Nat → Prop) : Prop := (hh = -4 ∧ ∀ h, h < N → ¬ P h) ∨ ∃ k, k < N ∧ hh = nI k ∧ P k ∧ ∀ h, h < N → P h → h ≤ k
theorem Mx.add {N : Nat} {hh : Int32} {P : Nat → Prop} (h : Mx N hh P) {x : Nat} (hx : x < N) (hN : N ≤ 100) : Mx N (mxI hh x) (fun y => P y ∨ y = x) := by
  unfold mxI
  rcases h with ⟨h1, h2⟩ | ⟨k, h1, h2, h3, h4⟩
  · have : ¬ nI x ≤ hh := by
      rw [h1]
      intro q
      have := (i3_le _ _).mp q
      rw [ir (by omega)] at this
      have e : (-4 : Int32).toInt = -4 := rfl
      omega
    rw [if_neg this]
    exact Or.inr ⟨x, hx, rfl, Or.inr rfl, fun y hy q => q.elim (fun z => absurd z (h2 y hy)) (fun z => by omega)⟩
  · have e : nI x ≤ hh ↔ x ≤ k := by rw [h2]; exact nI_leI (by omega) (by omega)
    by_cases c : x ≤ k
    · rw [if_pos (e.mpr c)]
      exact Or.inr ⟨k, h1, h2, Or.inl h3, fun y hy q => q.elim (fun z => h4 y hy z) (fun z => by omega)⟩
    · rw [if_neg (fun q => c (e.mp q))]
      exact Or.inr ⟨x, hx, rfl, Or.inr rfl, fun y hy q => q.elim (fun z => by have := h4 y hy z; omega) (fun z => by omega)⟩
theorem Mx.cg {N : Nat} {hh : Int32} {P Q : Nat → Prop} (h : Mx N hh P) (e : ∀ y, y < N → (P y ↔ Q y)) : Mx N hh Q := by
  rcases h with ⟨h1, h2⟩ | ⟨k, h1, h2, h3, h4⟩
  · exact Or.inl ⟨h1, fun y hy q => h2 y hy ((e y hy).mpr q)⟩
  · exact Or.inr ⟨k, h1, h2, (e k h1).mp h3, fun y hy q => h4 y hy ((e y hy).mpr q)⟩
theorem Mx.lt {N : Nat} {hh : Int32} {P : Nat → Prop} (h : Mx N hh P) (hN : N ≤ 100) {m : Nat} (hm : m ≤ 100) : nI m ≤ hh ↔ ∃ y, y < N ∧ P y ∧ m ≤ y := by
  rcases h with ⟨h1, h2⟩ | ⟨k, h1, h2, h3, h4⟩
  · constructor
    · intro q
      rw [h1] at q
      have := (i3_le _ _).mp q
      rw [ir (by omega)] at this
      have e : (-4 : Int32).toInt = -4 := rfl
      omega
    · rintro ⟨y, y1, y2, y3⟩
      exact absurd y2 (h2 y y1)
  · rw [h2, nI_leI (by omega) (by omega)]
    constructor
    · intro q; exact ⟨k, h1, h3, q⟩
    · rintro ⟨y, y1, y2, y3⟩
      have := h4 y y1 y2
      omega
def D0 (σ ρ : S0) : Prop := (∃ h, 1 ≤ h ∧ h ≤ 6 ∧ σ 4 0 = nI h ∧ ρ 98 9 = nI h) ∧ ∃ g, g ≤ 9 ∧ σ 4 1 = nI g ∧ ρ 98 10 = nI g
def D1 (σ ρ : S0) : Prop := ∃ p q, p ≤ 1 ∧ q ≤ 1 ∧ σ 3 2 = nI p ∧ σ 3 3 = nI q ∧ ρ 98 15 = nI (p + 2 * q)
def Dh (σ ρ : S0) : Prop := σ 14 7 = 0 ∧ ρ 102 66 = 0
def DBs (σ ρ : S0) (B : Nat) : Prop := B ≤ 12 ∧ σ 14 0 = nI B ∧ ρ 98 11 = nI B ∧ ∀ b, b < B → DB σ ρ b
def DTs (σ ρ : S0) (T : Nat) : Prop := T ≤ 6 ∧ σ 4 2 = nI T ∧ ρ 98 12 = nI T ∧ ∀ t, t < T → DT σ ρ t
def DR (σ ρ : S0) : Prop := D0 σ ρ ∧ D1 σ ρ ∧ DF σ ρ ∧ Dh σ ρ ∧ (∃ B, DBs σ ρ B ∧ Mx 6 (ρ 98 13) (th ρ B)) ∧ ∃ T, DTs σ ρ T ∧ Mx 12 (ρ 98 14) (sbr ρ T)
theorem D0.c {σ τ ρ μ : S0} (h : D0 σ ρ) (x0 : τ 4 0 = σ 4 0) (x1 : τ 4 1 = σ 4 1) (y0 : μ 98 9 = ρ 98 9) (y1 : μ 98 10 = ρ 98 10) : D0 τ μ := by
  unfold D0
  rw [x0, x1, y0, y1]
  exact h
theorem D1.c {σ τ ρ μ : S0} (h : D1 σ ρ) (x0 : τ 3 2 = σ 3 2) (x1 : τ 3 3 = σ 3 3) (y0 : μ 98 15 = ρ 98 15) : D1 τ μ := by
  unfold D1
  rw [x0, x1, y0]
  exact h
theorem DF.c {σ τ ρ μ : S0} (h : DF σ ρ) (x0 : τ 20 = σ 20) (y0 : ∀ j, 60 ≤ j → j < 66 → μ 102 j = ρ 102 j) : DF τ μ := by
  obtain ⟨fo, f1, f2, f3⟩ := h
  exact ⟨fo, fun x hx => ⟨(f1 x hx).1, by rw [x0]; exact (f1 x hx).2.1, by rw [y0 _ (by omega) (by omega)]; exact (f1 x hx).2.2⟩, f2, f3⟩
theorem Dh.c {σ τ ρ μ : S0} (h : Dh σ ρ) (x0 : τ 14 7 = σ 14 7) (y0 : μ 102 66 = ρ 102 66) : Dh τ μ := ⟨x0.trans h.1, y0.trans h.2⟩
theorem DB.c {σ τ ρ μ : S0} {b : Nat} (h : DB σ ρ b) (x0 : ∀ k, 15 ≤ k → k ≤ 19 → τ k b = σ k b) (y0 : ∀ j, 5 * b ≤ j → j < 5 * b + 5 → μ 102 j = ρ 102 j) : DB τ μ b := by
  unfold DB
  rw [x0 15 (by omega) (by omega), x0 16 (by omega) (by omega), x0 17 (by omega) (by omega), x0 18 (by omega) (by omega), x0 19 (by omega) (by omega), y0 (5 * b) (by omega) (by omega), y0 (5 * b + 1) (by omega) (by omega), y0 (5 * b + 2) (by omega) (by omega), y0 (5 * b + 3) (by omega) (by omega), y0 (5 * b + 4) (by omega) (by omega)]
  exact h
theorem DT.c {σ τ ρ μ : S0} {t : Nat} (h : DT σ ρ t) (x5 : τ 5 t = σ 5 t) (x6 : τ 6 t = σ 6 t) (x8 : τ (8 + t) = σ (8 + t)) (y0 : ∀ j, 14 * t ≤ j → j < 14 * t + 14 → μ 103 j = ρ 103 j) : DT τ μ t := by
  obtain ⟨m, a1, a2, a3, a4, ⟨w, w1, w2, w3⟩, a6⟩ := h
  refine ⟨m, a1, a2, x6.trans a3, by rw [y0 _ (by omega) (by omega)]; exact a4, ⟨w, w1, x5.trans w2, by rw [y0 _ (by omega) (by omega)]; exact w3⟩, fun i hi => ?_⟩
  obtain ⟨b, c1, c2, c3⟩ := a6 i hi
  exact ⟨b, c1, by rw [x8]; exact c2, by rw [y0 _ (by omega) (by omega)]; exact c3⟩
/-- nothing of the draft has changed -/
theorem DR.cg {σ τ ρ μ : S0} (h : DR σ ρ) (x : ∀ k, 4 ≤ k → k ≤ 21 → τ k = σ k) (x3 : ∀ j, j ≤ 4 → τ 3 j = σ 3 j) (y : ∀ j, 9 ≤ j → j ≤ 15 → μ 98 j = ρ 98 j) (y2 : μ 102 = ρ 102) (y3 : μ 103 = ρ 103) : DR τ μ := by
  obtain ⟨h0, h1, h2, h3, ⟨B, hB, hM⟩, T, hT, hN⟩ := h
  refine ⟨h0.c (by rw [x 4 (by omega) (by omega)]) (by rw [x 4 (by omega) (by omega)]) (y 9 (by omega) (by omega)) (y 10 (by omega) (by omega)), h1.c (x3 2 (by omega)) (x3 3 (by omega)) (y 15 (by omega) (by omega)), h2.c (x 20 (by omega) (by omega)) (fun j _ _ => by rw [y2]), h3.c (by rw [x 14 (by omega) (by omega)]) (by rw [y2]), ⟨B, ⟨hB.1, by rw [x 14 (by omega) (by omega)]; exact hB.2.1, by rw [y 11 (by omega) (by omega)]; exact hB.2.2.1, fun b hb => (hB.2.2.2 b hb).c (fun k k1 k2 => by rw [x k (by omega) (by omega)]) (fun j _ _ => by rw [y2])⟩, ?_⟩, T, ⟨hT.1, by rw [x 4 (by omega) (by omega)]; exact hT.2.1, by rw [y 12 (by omega) (by omega)]; exact hT.2.2.1, fun t ht => (hT.2.2.2 t ht).c (by rw [x 5 (by omega) (by omega)]) (by rw [x 6 (by omega) (by omega)]) (x (8 + t) (by omega) (by have := hT.1; omega)) (fun j _ _ => by rw [y3])⟩, ?_⟩
  · rw [y 13 (by omega) (by omega)]
    unfold th at hM ⊢
    rw [y2]
    exact hM
  · rw [y 14 (by omega) (by omega)]
    unfold sbr at hN ⊢
    rw [y3]
    exact hN
theorem DR.a {σ τ ρ μ : S0} (h : DR σ ρ) (o : onA σ τ) (q : on8 ρ μ) : DR τ μ := h.cg (fun k k1 k2 => o.c (by omega) (by omega)) (fun j hj => o 3 j (by omega)) (fun j j1 j2 => q 98 j (by omega)) (q.c (by omega)) (q.c (by omega))
/-- what a line comes to -/
def LR (a : Nat → Nat) (n p : Nat) (σ ρ : S0) (r : Int32) (τ μ : S0) : Prop := kX σ τ ∧ kM ρ μ ∧ τ 3 4 = σ 3 4 ∧ ((r = 1 ∧ DR τ μ ∧ ∃ p', tS a n p < p' ∧ Cur a n p' τ μ) ∨ (r = 0 ∧ Flt τ μ))
end
section
/-! THE TEXT: lines of houses, of a gap, of a feud -/
theorem DR.h {σ τ ρ μ : S0} (h : DR σ ρ) (x : ∀ k, 5 ≤ k → k ≤ 21 → τ k = σ k) (x2 : τ 4 2 = σ 4 2) (y : ∀ j, 11 ≤ j → j ≤ 14 → μ 98 j = ρ 98 j) (y2 : μ 102 = ρ 102) (y3 : μ 103 = ρ 103) (d0 : D0 τ μ) (d1 : D1 τ μ) : DR τ μ := by
  obtain ⟨-, -, h2, h3, ⟨B, hB, hM⟩, T, hT, hN⟩ := h
  refine ⟨d0, d1, h2.c (x 20 (by omega) (by omega)) (fun j _ _ => by rw [y2]), h3.c (by rw [x 14 (by omega) (by omega)]) (by rw [y2]), ⟨B, ⟨hB.1, by rw [x 14 (by omega) (by omega)]; exact hB.2.1, by rw [y 11 (by omega) (by omega)]; exact hB.2.2.1, fun b hb => (hB.2.2.2 b hb).c (fun k k1 k2 => by rw [x k (by omega) (by omega)]) (fun j _ _ => by rw [y2])⟩, ?_⟩, T, ⟨hT.1, x2.trans hT.2.1, by rw [y 12 (by omega) (by omega)]; exact hT.2.2.1, fun t ht => (hT.2.2.2 t ht).c (by rw [x 5 (by omega) (by omega)]) (by rw [x 6 (by omega) (by omega)]) (x (8 + t) (by omega) (by have := hT.1; omega)) (fun j _ _ => by rw [y3])⟩, ?_⟩
  · rw [y 13 (by omega) (by omega)]
    unfold th at hM ⊢
    rw [y2]
    exact hM
  · rw [y 14 (by omega) (by omega)]
    unfold sbr at hN ⊢
    rw [y3]
    exact hN
theorem Pend.o {a : Nat → Nat} {n p : Nat} {σ τ ρ μ : S0} (h : Pend a n p σ ρ) (x2 : τ 1 2 = σ 1 2) (x5 : τ 3 5 = σ 3 5) (y : ∀ j, 18 ≤ j → j ≤ 23 → μ 98 j = ρ 98 j) : Pend a n p τ μ := ⟨x2.trans h.1, h.2.1.o y, x5.trans h.2.2.1, h.2.2.2⟩
/-- the reference behind the name of a line -/
def swM (x1 : Int32) (σ2 : S0) : Option (Int32 × S0) := if x1.toInt < 0 ∨ 3 < x1.toInt then (obp (fX11_readFeud σ2) (fun _ σ7 => fX11_readLine_b206 σ7)) else if x1 = 0 then (obp (fX11_readNumber σ2 ((1 : Int32)) ((6 : Int32))) (fun r10 σ11 => ol (su σ11 98 9 r10) (fun σ13 => fX11_readLine_b206 σ13))) else if x1 = 1 then (obp (fX11_readNumber σ2 ((0 : Int32)) ((9 : Int32))) (fun r15 σ16 => ol (su σ16 98 10 r15) (fun σ18 => fX11_readLine_b206 σ18))) else if x1 = 2 then (obp (fX11_readBell σ2) (fun _ σ21 => fX11_readLine_b206 σ21)) else if x1 = 3 then (obp (fX11_readTune σ2) (fun _ σ25 => fX11_readLine_b206 σ25)) else none
theorem su_n2 {σ : S0} {k j x y : Nat} {v : Int32} (h : x ≠ k) : su σ k j v x y = σ x y := by rw [su_ne h]
theorem sw_0 (μ : S0) : swM 0 μ = obp (fX11_readNumber μ 1 6) (fun r10 σ11 => fX11_readLine_b206 (su σ11 98 9 r10)) := by
  unfold swM
  rw [if_neg (by decide), if_pos rfl]
  rfl
theorem sw_1 (μ : S0) : swM 1 μ = obp (fX11_readNumber μ 0 9) (fun r10 σ11 => fX11_readLine_b206 (su σ11 98 10 r10)) := by
  unfold swM
  rw [if_neg (by decide), if_neg (by decide), if_pos rfl]
  rfl
theorem sw_2 (μ : S0) : swM 2 μ = obp (fX11_readBell μ) (fun _ σ11 => fX11_readLine_b206 σ11) := by
  unfold swM
  rw [if_neg (by decide), if_neg (by decide), if_neg (by decide), if_pos rfl]
theorem sw_3 (μ : S0) : swM 3 μ = obp (fX11_readTune μ) (fun _ σ11 => fX11_readLine_b206 σ11) := by
  unfold swM
  rw [if_neg (by decide), if_neg (by decide), if_neg (by decide), if_neg (by decide), if_pos rfl]
theorem sw_4 (μ : S0) : swM 4 μ = obp (fX11_readFeud μ) (fun _ σ11 => fX11_readLine_b206 σ11) := by
  unfold swM
  rw [if_pos (by decide)]
theorem refuse_og (σ : S0) (x : Int32) : obp (fX5_refuse σ x) (fun r s => og (r = 0 ∨ r = 1) (some (r, s))) = some (0, su (su σ 3 5 x) 3 6 (σ 1 4)) := by
  rw [refuse_s]
  rfl
theorem b117_e (ρ : S0) (x1 : Int32) : fX11_readLine_b117 ρ x1 = obp (fX11_next ρ) (fun _ σ2 => if (σ2 98 22) ≤ 0 then swM x1 σ2 else some (0, σ2)) := rfl
theorem bad.b117 {ρ : S0} (h : bad ρ) (x1 : Int32) : fX11_readLine_b117 ρ x1 = some (0, ρ) := by
  rw [b117_e, h.next]
  simp only [obp]
  rw [if_neg h.le]
/-- the name has been taken: the reference has read on -/
theorem b117_s {a : Nat → Nat} {n p : Nat} {ρ : S0} (tm : tkM a n p ρ) (hk : tK a n p ≤ 3) (tp : TpM a n ρ) (hp : p ≤ n) (x1 : Int32) : ∃ μ, on8 ρ μ ∧ tkM a n (tE a n p) μ ∧ ((tK a n (tE a n p) = 4 ∧ fX11_readLine_b117 ρ x1 = some (0, μ)) ∨ (tK a n (tE a n p) ≤ 3 ∧ fX11_readLine_b117 ρ x1 = swM x1 μ)) := by
  obtain ⟨μ, v1, v2, v3⟩ := nx_s tm hk tp hp
  have hk4 := tK_4 a n (tE a n p)
  refine ⟨μ, v2, v3, ?_⟩
  rw [b117_e, v1]
  simp only [obp]
  by_cases c : tK a n (tE a n p) = 4
  · refine Or.inl ⟨c, ?_⟩
    rw [if_neg (show ¬ μ 98 22 ≤ 0 from by rw [(v3.f c).1]; exact nI_nle (by omega) (by omega))]
  · refine Or.inr ⟨by omega, ?_⟩
    rw [if_pos (show μ 98 22 ≤ 0 from by rw [(v3.g (by omega)).1]; decide)]
theorem told_t : ∀ p : Fin 2, ∀ q : Fin 2, ((nI (p.1 + 2 * q.1) >>> ((0 : Int32) &&& 31)) &&& 1 = 0 ↔ p.1 = 0) ∧ ((nI (p.1 + 2 * q.1) >>> ((1 : Int32) &&& 31)) &&& 1 = 0 ↔ q.1 = 0) ∧ (p.1 = 0 → nI (p.1 + 2 * q.1) ||| ((1 : Int32) <<< ((0 : Int32) &&& 31)) = nI (1 + 2 * q.1)) ∧ (q.1 = 0 → nI (p.1 + 2 * q.1) ||| ((1 : Int32) <<< ((1 : Int32) &&& 31)) = nI (p.1 + 2)) := by decide
theorem ln_houses {a : Nat → Nat} {n p : Nat} {σ ρ : S0} (tx : TpX a n σ) (tp : TpM a n ρ) (h : Cur a n p σ ρ) (d : DR σ ρ) (hk : tK a n p = 1) : ∃ r τ μ, fX5_readHouses σ = some (r, τ) ∧ fX11_readLine_b17 ρ 0 = some (0, μ) ∧ (r = 0 ∨ r = 1) ∧ LR a n p σ ρ r τ μ := by
  obtain ⟨h1, h2, h3, h4, h5⟩ := h
  have hn := tp.1
  have hb := tok_b (a := a) h5
  have hlt := hb.2.2.2 (by omega)
  have hb2 := tok_b (a := a) hb.2.2.1
  have hb3 := tok_b (a := a) hb2.2.2.1
  obtain ⟨g1, g2, g3⟩ := h2.g h3
  have n0 : ¬ ¬ ρ 98 22 = 0 := fun q => q g1
  obtain ⟨p', q', p1, q1, e1, e2, e3⟩ := d.2.1
  obtain ⟨u1, u2, u3, u4⟩ := told_t ⟨p', by omega⟩ ⟨q', by omega⟩
  simp only at u1 u2 u3 u4
  have pre : ∀ t0 : Int32, fX11_readLine_b68 ρ 0 1 = (if ¬ (((ρ 98 15) >>> ((0 : Int32) &&& 31)) &&& 1) = 0 then (fX11_readLine_b101 ρ 0 0) else (fX11_readLine_b101 ρ 0 1)) := fun _ => by
    unfold fX11_readLine_b68
    rw [needs_y _ (by decide)]
    simp only [obp]
    rw [if_neg n0, if_neg (by decide)]
  have pre2 : fX11_readLine_b17 ρ 0 = fX11_readLine_b68 ρ 0 1 := by
    unfold fX11_readLine_b17 fX11_readLine_b30 fX11_readLine_b49 fX11_readLine_b63
    rw [if_neg (by decide), needs_y _ (by decide)]
    simp only [obp]
    rw [if_pos (by decide), if_pos (by decide)]
  rw [pre2, pre 0, e3]
  unfold fX5_readHouses
  by_cases c : p' = 0
  · have cx : σ 3 2 = 0 := by rw [e1, c]; rfl
    rw [if_pos cx, if_neg (fun q => q (u1.mpr c))]
    have eor := u3 c
    unfold fX11_readLine_b101
    rw [needs_y _ (by decide)]
    simp only [obp, ol]
    rw [e3, eor]
    have kσ : kX σ (su σ 3 2 1) := (kX.rf σ).su (by unfold scX; omega) _
    have kρ : kM ρ (su ρ 98 15 (nI (1 + 2 * q'))) := (kM.rf ρ).su (by unfold scM; omega) _
    have tm1 : tkM a n p (su ρ 98 15 (nI (1 + 2 * q'))) := h2.o (fun j j1 j2 => su_j (by omega))
    obtain ⟨μ, m1, m2, m3⟩ := b117_s tm1 h3 (tp.k kρ) h5 0
    have tx1 := tx.k kσ
    have tp1 := (tp.k kρ).k m1.k
    have pe : Pend a n (tE a n p) (su σ 3 2 1) μ := ⟨by rw [su_ne (by omega)]; exact h1.2.1, m2, by rw [su_j (by omega)]; exact h4, hb.2.2.1⟩
    rcases m3 with ⟨c4, m3⟩ | ⟨c3, m3⟩
    · obtain ⟨τ, t1, t2, t3⟩ := nn_bad (lo := 1) (hi := 6) tx1 pe (by omega) (by omega) c4
      have t1' : fX5_nextNumber (su σ 3 2 1) 1 6 = some (0, τ) := t1
      rw [t1']
      simp only
      refine ⟨0, τ, μ, by rw [if_neg (by decide)], m3, Or.inl rfl, kσ.tr t2.k, kρ.tr m1.k, by rw [t2 3 4 (by omega), su_j (by omega)], Or.inr ⟨rfl, t3⟩⟩
    · obtain ⟨r, τ, v, ν, t1, t2, t3, t4, t5⟩ := rn_s (lo := 1) (hi := 6) tx1 tp1 pe (by omega) (by omega)
      have t1' : fX5_nextNumber (su σ 3 2 1) 1 6 = some (r, τ) := t1
      have t2' : fX11_readNumber μ 1 6 = some (v, ν) := t2
      rw [t1', m3, sw_0, t2']
      simp only [obp]
      rcases t5 with ⟨r1, o1, x, x1, x2, x3, x4, x5⟩ | ⟨r0, v0, t5⟩
      · rw [r1, if_pos (by decide)]
        have kτ : kX τ (su τ 4 0 (τ 1 5)) := (kX.rf τ).su (by unfold scX; omega) _
        have kν : kM ν (su ν 98 9 v) := (kM.rf ν).su (by unfold scM; omega) _
        have kσ3 := (kσ.tr t3.k).tr kτ
        have kρ3 := ((kρ.tr m1.k).tr t4.k).tr kν
        obtain ⟨r', τ', μ', w1, w2, w3, w4, w5⟩ := tail_s (tx.k kσ3) (tp.k kρ3) (x5.o (τ := su τ 4 0 (τ 1 5)) (μ := su ν 98 9 v) (su_n2 (by omega)) (su_n2 (by omega)) (fun j j1 j2 => su_j (by omega)))
        have w1' := w1
        unfold tailX at w1'
        have dr : DR (su τ 4 0 (τ 1 5)) (su ν 98 9 v) := d.h (fun k k1 k2 => by rw [su_ne (by omega), t3.c (by omega) (by omega), su_ne (by omega)]) (by rw [su_j (by omega), t3 4 2 (by omega), su_ne (by omega)]) (fun j j1 j2 => by rw [su_j (by omega), t4 98 j (by omega), m1 98 j (by omega), su_j (by omega)]) (by rw [su_ne (by omega), t4.c (by omega), m1.c (by omega), su_ne (by omega)]) (by rw [su_ne (by omega), t4.c (by omega), m1.c (by omega), su_ne (by omega)]) ?_ ?_
        · refine ⟨r', τ', μ', w1', w2, w5.elim (fun q => Or.inr q.1) (fun q => Or.inl q.1), kσ3.tr w3.k, kρ3.tr w4.k, by rw [w3 3 4 (by omega), su_ne (by omega), t3 3 4 (by omega), su_j (by omega)], ?_⟩
          rcases w5 with ⟨z1, z2, z3⟩ | z
          · exact Or.inl ⟨z1, dr.a w3 w4, tE a n (tE a n (tE a n p)), by omega, z3⟩
          · exact Or.inr z
        · exact ⟨⟨x, x1, x2, by rw [su_s, x4], by rw [su_s, x3]⟩, by
            obtain ⟨g, y1, y2, y3⟩ := d.1.2
            exact ⟨g, y1, by rw [su_j (by omega), t3 4 1 (by omega), su_ne (by omega)]; exact y2, by rw [su_j (by omega), t4 98 10 (by omega), m1 98 10 (by omega), su_j (by omega)]; exact y3⟩⟩
        · exact ⟨1, q', by omega, q1, by rw [su_ne (by omega), t3 3 2 (by omega), su_s]; rfl, by rw [su_ne (by omega), t3 3 3 (by omega), su_j (by omega)]; exact e2, by rw [su_j (by omega), t4 98 15 (by omega), m1 98 15 (by omega), su_s]⟩
      · have hbad : bad (su ν 98 9 v) := t5.b.o (su_j (by omega))
        rw [r0, if_neg (by decide)]
        refine ⟨0, τ, su ν 98 9 v, rfl, hbad.b206, Or.inl rfl, kσ.tr t3.k, ((kρ.tr m1.k).tr t4.k).tr ((kM.rf ν).su (by unfold scM; omega) _), by rw [t3 3 4 (by omega), su_j (by omega)], Or.inr ⟨rfl, t5.m (su_j (by omega)) (su_j (by omega))⟩⟩
  · have cx : ¬ σ 3 2 = 0 := by rw [e1]; exact nI_ne0 (by omega) (by omega)
    rw [if_neg cx, if_pos (fun q => c (u1.mp q)), refuse_og]
    unfold fX11_readLine_b101
    rw [needs_n _ g1]
    simp only [obp, ol]
    have hbad : bad (su (su (su ρ 98 22 4) 98 23 (ρ 98 19)) 98 15 (su (su ρ 98 22 4) 98 23 (ρ 98 19) 98 15 ||| ((1 : Int32) <<< ((0 : Int32) &&& 31)))) := ⟨4, by omega, by omega, by rw [su_j (by omega), su_j (by omega), su_s]; rfl⟩
    rw [hbad.b117]
    refine ⟨0, _, _, rfl, rfl, Or.inl rfl, (refuse_o σ 4).k, (((kM.rf ρ).su (by unfold scM; omega) _).su (by unfold scM; omega) _).su (by unfold scM; omega) _, refuse_o σ 4 3 4 (by omega), Or.inr ⟨rfl, ?_⟩⟩
    exact flt_r (f := 4) (g := 4) (pl := tS a n p) (by omega) (by omega) (by omega) h1.1 (by rw [su_j (by omega), su_j (by omega), su_s]; rfl) (by rw [su_j (by omega), su_s]; exact h2.1)
theorem ln_gap {a : Nat → Nat} {n p : Nat} {σ ρ : S0} (tx : TpX a n σ) (tp : TpM a n ρ) (h : Cur a n p σ ρ) (d : DR σ ρ) (hk : tK a n p = 1) : ∃ r τ μ, fX5_readGap σ = some (r, τ) ∧ fX11_readLine_b17 ρ 1 = some (0, μ) ∧ (r = 0 ∨ r = 1) ∧ LR a n p σ ρ r τ μ := by
  obtain ⟨h1, h2, h3, h4, h5⟩ := h
  have hn := tp.1
  have hb := tok_b (a := a) h5
  have hlt := hb.2.2.2 (by omega)
  have hb2 := tok_b (a := a) hb.2.2.1
  have hb3 := tok_b (a := a) hb2.2.2.1
  obtain ⟨g1, g2, g3⟩ := h2.g h3
  have n0 : ¬ ¬ ρ 98 22 = 0 := fun q => q g1
  obtain ⟨p', q', p1, q1, e1, e2, e3⟩ := d.2.1
  obtain ⟨u1, u2, u3, u4⟩ := told_t ⟨p', by omega⟩ ⟨q', by omega⟩
  simp only at u1 u2 u3 u4
  have pre : ∀ t0 : Int32, fX11_readLine_b68 ρ 1 1 = (if ¬ (((ρ 98 15) >>> ((1 : Int32) &&& 31)) &&& 1) = 0 then (fX11_readLine_b101 ρ 1 0) else (fX11_readLine_b101 ρ 1 1)) := fun _ => by
    unfold fX11_readLine_b68
    rw [needs_y _ (by decide)]
    simp only [obp]
    rw [if_neg n0, if_neg (by decide)]
  have pre2 : fX11_readLine_b17 ρ 1 = fX11_readLine_b68 ρ 1 1 := by
    unfold fX11_readLine_b17 fX11_readLine_b30 fX11_readLine_b49 fX11_readLine_b63
    rw [if_neg (by decide), needs_y _ (by decide)]
    simp only [obp]
    rw [if_pos (by decide), if_pos (by decide)]
  rw [pre2, pre 0, e3]
  unfold fX5_readGap
  by_cases c : q' = 0
  · have cx : σ 3 3 = 0 := by rw [e2, c]; rfl
    rw [if_pos cx, if_neg (fun q => q (u2.mpr c))]
    have eor := u4 c
    unfold fX11_readLine_b101
    rw [needs_y _ (by decide)]
    simp only [obp, ol]
    rw [e3, eor]
    have kσ : kX σ (su σ 3 3 1) := (kX.rf σ).su (by unfold scX; omega) _
    have kρ : kM ρ (su ρ 98 15 (nI (p' + 2))) := (kM.rf ρ).su (by unfold scM; omega) _
    have tm1 : tkM a n p (su ρ 98 15 (nI (p' + 2))) := h2.o (fun j j1 j2 => su_j (by omega))
    obtain ⟨μ, m1, m2, m3⟩ := b117_s tm1 h3 (tp.k kρ) h5 1
    have tx1 := tx.k kσ
    have tp1 := (tp.k kρ).k m1.k
    have pe : Pend a n (tE a n p) (su σ 3 3 1) μ := ⟨by rw [su_ne (by omega)]; exact h1.2.1, m2, by rw [su_j (by omega)]; exact h4, hb.2.2.1⟩
    rcases m3 with ⟨c4, m3⟩ | ⟨c3, m3⟩
    · obtain ⟨τ, t1, t2, t3⟩ := nn_bad (lo := 0) (hi := 9) tx1 pe (by omega) (by omega) c4
      have t1' : fX5_nextNumber (su σ 3 3 1) 0 9 = some (0, τ) := t1
      rw [t1']
      simp only
      refine ⟨0, τ, μ, by rw [if_neg (by decide)], m3, Or.inl rfl, kσ.tr t2.k, kρ.tr m1.k, by rw [t2 3 4 (by omega), su_j (by omega)], Or.inr ⟨rfl, t3⟩⟩
    · obtain ⟨r, τ, v, ν, t1, t2, t3, t4, t5⟩ := rn_s (lo := 0) (hi := 9) tx1 tp1 pe (by omega) (by omega)
      have t1' : fX5_nextNumber (su σ 3 3 1) 0 9 = some (r, τ) := t1
      have t2' : fX11_readNumber μ 0 9 = some (v, ν) := t2
      rw [t1', m3, sw_1, t2']
      simp only [obp]
      rcases t5 with ⟨r1, o1, x, x1, x2, x3, x4, x5⟩ | ⟨r0, v0, t5⟩
      · rw [r1, if_pos (by decide)]
        have kτ : kX τ (su τ 4 1 (τ 1 5)) := (kX.rf τ).su (by unfold scX; omega) _
        have kν : kM ν (su ν 98 10 v) := (kM.rf ν).su (by unfold scM; omega) _
        have kσ3 := (kσ.tr t3.k).tr kτ
        have kρ3 := ((kρ.tr m1.k).tr t4.k).tr kν
        obtain ⟨r', τ', μ', w1, w2, w3, w4, w5⟩ := tail_s (tx.k kσ3) (tp.k kρ3) (x5.o (τ := su τ 4 1 (τ 1 5)) (μ := su ν 98 10 v) (su_n2 (by omega)) (su_n2 (by omega)) (fun j j1 j2 => su_j (by omega)))
        have w1' := w1
        unfold tailX at w1'
        have dr : DR (su τ 4 1 (τ 1 5)) (su ν 98 10 v) := d.h (fun k k1 k2 => by rw [su_ne (by omega), t3.c (by omega) (by omega), su_ne (by omega)]) (by rw [su_j (by omega), t3 4 2 (by omega), su_ne (by omega)]) (fun j j1 j2 => by rw [su_j (by omega), t4 98 j (by omega), m1 98 j (by omega), su_j (by omega)]) (by rw [su_ne (by omega), t4.c (by omega), m1.c (by omega), su_ne (by omega)]) (by rw [su_ne (by omega), t4.c (by omega), m1.c (by omega), su_ne (by omega)]) ?_ ?_
        · refine ⟨r', τ', μ', w1', w2, w5.elim (fun q => Or.inr q.1) (fun q => Or.inl q.1), kσ3.tr w3.k, kρ3.tr w4.k, by rw [w3 3 4 (by omega), su_ne (by omega), t3 3 4 (by omega), su_j (by omega)], ?_⟩
          rcases w5 with ⟨z1, z2, z3⟩ | z
          · exact Or.inl ⟨z1, dr.a w3 w4, tE a n (tE a n (tE a n p)), by omega, z3⟩
          · exact Or.inr z
        · exact ⟨by
            obtain ⟨g, y0, y1, y2, y3⟩ := d.1.1
            exact ⟨g, y0, y1, by rw [su_j (by omega), t3 4 0 (by omega), su_ne (by omega)]; exact y2, by rw [su_j (by omega), t4 98 9 (by omega), m1 98 9 (by omega), su_j (by omega)]; exact y3⟩, ⟨x, x2, by rw [su_s, x4], by rw [su_s, x3]⟩⟩
        · exact ⟨p', 1, p1, by omega, by rw [su_ne (by omega), t3 3 2 (by omega), su_j (by omega)]; exact e1, by rw [su_ne (by omega), t3 3 3 (by omega), su_s]; rfl, by rw [su_j (by omega), t4 98 15 (by omega), m1 98 15 (by omega), su_s]⟩
      · have hbad : bad (su ν 98 10 v) := t5.b.o (su_j (by omega))
        rw [r0, if_neg (by decide)]
        refine ⟨0, τ, su ν 98 10 v, rfl, hbad.b206, Or.inl rfl, kσ.tr t3.k, ((kρ.tr m1.k).tr t4.k).tr ((kM.rf ν).su (by unfold scM; omega) _), by rw [t3 3 4 (by omega), su_j (by omega)], Or.inr ⟨rfl, t5.m (su_j (by omega)) (su_j (by omega))⟩⟩
  · have cx : ¬ σ 3 3 = 0 := by rw [e2]; exact nI_ne0 (by omega) (by omega)
    rw [if_neg cx, if_pos (fun q => c (u2.mp q)), refuse_og]
    unfold fX11_readLine_b101
    rw [needs_n _ g1]
    simp only [obp, ol]
    have hbad : bad (su (su (su ρ 98 22 4) 98 23 (ρ 98 19)) 98 15 (su (su ρ 98 22 4) 98 23 (ρ 98 19) 98 15 ||| ((1 : Int32) <<< ((1 : Int32) &&& 31)))) := ⟨4, by omega, by omega, by rw [su_j (by omega), su_j (by omega), su_s]; rfl⟩
    rw [hbad.b117]
    refine ⟨0, _, _, rfl, rfl, Or.inl rfl, (refuse_o σ 4).k, (((kM.rf ρ).su (by unfold scM; omega) _).su (by unfold scM; omega) _).su (by unfold scM; omega) _, refuse_o σ 4 3 4 (by omega), Or.inr ⟨rfl, ?_⟩⟩
    exact flt_r (f := 4) (g := 4) (pl := tS a n p) (by omega) (by omega) (by omega) h1.1 (by rw [su_j (by omega), su_j (by omega), su_s]; rfl) (by rw [su_j (by omega), su_s]; exact h2.1)
end
section
/-! THE TEXT: a line of a feud -/
theorem DR.f {σ τ ρ μ : S0} (h : DR σ ρ) (x : ∀ k, 4 ≤ k → k ≤ 21 → k ≠ 20 → τ k = σ k) (x3 : ∀ j, j ≤ 4 → τ 3 j = σ 3 j) (y : ∀ j, 9 ≤ j → j ≤ 15 → j ≠ 13 → μ 98 j = ρ 98 j) (y2 : ∀ j, ¬ (60 ≤ j ∧ j < 66) → μ 102 j = ρ 102 j) (y3 : μ 103 = ρ 103) (df : DF τ μ) (hm : ∀ B, B ≤ 12 → Mx 6 (ρ 98 13) (th ρ B) → Mx 6 (μ 98 13) (th μ B)) : DR τ μ := by
  obtain ⟨h0, h1, -, h3, ⟨B, hB, hM⟩, T, hT, hN⟩ := h
  refine ⟨h0.c (by rw [x 4 (by omega) (by omega) (by omega)]) (by rw [x 4 (by omega) (by omega) (by omega)]) (y 9 (by omega) (by omega) (by omega)) (y 10 (by omega) (by omega) (by omega)), h1.c (x3 2 (by omega)) (x3 3 (by omega)) (y 15 (by omega) (by omega) (by omega)), df, h3.c (by rw [x 14 (by omega) (by omega) (by omega)]) (y2 66 (by omega)), ⟨B, ⟨hB.1, by rw [x 14 (by omega) (by omega) (by omega)]; exact hB.2.1, by rw [y 11 (by omega) (by omega) (by omega)]; exact hB.2.2.1, fun b hb => (hB.2.2.2 b hb).c (fun k k1 k2 => by rw [x k (by omega) (by omega) (by omega)]) (fun j _ _ => y2 j (by have := hB.1; omega))⟩, hm B hB.1 hM⟩, T, ⟨hT.1, by rw [x 4 (by omega) (by omega) (by omega)]; exact hT.2.1, by rw [y 12 (by omega) (by omega) (by omega)]; exact hT.2.2.1, fun t ht => (hT.2.2.2 t ht).c (by rw [x 5 (by omega) (by omega) (by omega)]) (by rw [x 6 (by omega) (by omega) (by omega)]) (x (8 + t) (by omega) (by have := hT.1; omega) (by have := hT.1; omega)) (fun j _ _ => by rw [y3])⟩, ?_⟩
  rw [y 14 (by omega) (by omega) (by omega)]
  unfold sbr at hN ⊢
  rw [y3]
  exact hN
theorem wb_ne {m b : Nat} (hm : m < 64) (hb : b < 6) : ¬ nI (wb 1 m b) = 0 := by
  have h1 : (wb 1 m b).testBit b = true := by
    rw [wb_t 1 hm hb hb, if_pos rfl]
    decide
  have h2 : wb 1 m b < 2 ^ 6 := wb_l 1 (H := 6) hm hb
  refine nI_ne0 (Nat.pos_of_ne_zero (fun q => ?_)) (by omega)
  rw [q] at h1
  simp at h1
/-- a feud written on both sides -/
theorem feud_w {σ ρ : S0} (df : DF σ ρ) {x y : Nat} (hx : x < 6) (hy : y < 6) (hxy : x ≠ y) : ∃ τ μ, fX1_setFoes σ 14 (nI x) (nI y) 1 = some (0, τ) ∧ (∀ k, k ≠ 20 → τ k = σ k) ∧ (∀ v : Int32, ol (60 + nI x) (fun v8 => og (¬ (v8 < 0 ∨ 80 ≤ v8.toNatClampNeg)) (ol (ρ 102 v8.toNatClampNeg) (fun v10 => ol (v10 ||| ((1 : Int32) <<< (nI y &&& 31))) (fun v11 => og (¬ (v8 < 0 ∨ 80 ≤ v8.toNatClampNeg)) (ol (su ρ 102 v8.toNatClampNeg v11) (fun σ13 => ol (60 + nI y) (fun v14 => og (¬ (v14 < 0 ∨ 80 ≤ v14.toNatClampNeg)) (ol (σ13 102 v14.toNatClampNeg) (fun v16 => ol (v16 ||| ((1 : Int32) <<< (nI x &&& 31))) (fun v17 => og (¬ (v14 < 0 ∨ 80 ≤ v14.toNatClampNeg)) (ol (su σ13 102 v14.toNatClampNeg v17) (fun σ19 => some (v, σ19)))))))))))) ) = some (v, μ)) ∧ (∀ k, k ≠ 102 → μ k = ρ k) ∧ (∀ j, ¬ (60 ≤ j ∧ j < 66) → μ 102 j = ρ 102 j) ∧ DF τ μ ∧ (∀ h, h < 6 → (¬ μ 102 (60 + h) = 0 ↔ (¬ ρ 102 (60 + h) = 0 ∨ h = x) ∨ h = y)) := by
  obtain ⟨fo, f1, f2, f3⟩ := df
  obtain ⟨lx, ex, rx⟩ := f1 x hx
  obtain ⟨ly, ey, ry⟩ := f1 y hy
  have o1 := wb_o ⟨fo x, lx⟩ ⟨y, hy⟩
  have o2 := wb_o ⟨fo y, ly⟩ ⟨x, hx⟩
  simp only at o1 o2
  have w1 : wb 1 (fo x) y = fo x ||| 2 ^ y := by unfold wb; rw [if_neg (by decide)]
  have w2 : wb 1 (fo y) x = fo y ||| 2 ^ x := by unfold wb; rw [if_neg (by decide)]
  have hgx := ix_ok (j := 60 + x) (n := 80) (by omega) (by omega)
  have hcx : (nI (60 + x)).toNatClampNeg = 60 + x := nI_clamp (by omega)
  have hgx2 : ¬ (nI (60 + x) < 0 ∨ 80 ≤ 60 + x) := fun q => hgx (by rw [hcx]; exact q)
  have hgy := ix_ok (j := 60 + y) (n := 80) (by omega) (by omega)
  have hcy : (nI (60 + y)).toNatClampNeg = 60 + y := nI_clamp (by omega)
  have hgy2 : ¬ (nI (60 + y) < 0 ∨ 80 ≤ 60 + y) := fun q => hgy (by rw [hcy]; exact q)
  have e60 : ∀ z : Nat, (60 : Int32) + nI z = nI (60 + z) := fun z => nI_add 60 z
  have sx := setFoes_s (k := 14) 1 hx hy hxy lx ly ex ey
  refine ⟨_, su (su ρ 102 (60 + x) (nI (wb 1 (fo x) y))) 102 (60 + y) (nI (wb 1 (fo y) x)), sx, fun k hk => by rw [su_ne (by omega), su_ne (by omega)], fun v => ?_, fun k hk => by rw [su_ne hk, su_ne hk], fun j hj => by rw [su_j (by omega), su_j (by omega)], ⟨fun z => if z = y then wb 1 (fo y) x else if z = x then wb 1 (fo x) y else fo z, fun z hz => ?_, fun z u hz hu => ?_, fun z hz => ?_⟩, fun z hz => ?_⟩
  · simp only [ol, e60, og_t hgx, og_t hgx2, hcx, og_t hgy, og_t hgy2, hcy]
    rw [rx, o1, su_j (by omega), ry, o2, w1, w2]
  · by_cases c1 : z = y
    · subst c1
      simp only [if_true]
      exact ⟨wb_l 1 (H := 6) ly hx, su_s, su_s⟩
    · by_cases c2 : z = x
      · subst c2
        simp only [if_neg c1, if_true]
        exact ⟨wb_l 1 (H := 6) lx hy, by rw [su_j c1, su_s], by rw [su_j (by omega), su_s]⟩
      · simp only [if_neg c1, if_neg c2]
        exact ⟨(f1 z hz).1, by rw [su_j c1, su_j c2]; exact (f1 z hz).2.1, by rw [su_j (by omega), su_j (by omega)]; exact (f1 z hz).2.2⟩
  · have key : ∀ z u, z < 6 → u < 6 → (if z = y then wb 1 (fo y) x else if z = x then wb 1 (fo x) y else fo z).testBit u = if (z = y ∧ u = x) ∨ (z = x ∧ u = y) then decide ((1 : Int32) ≠ 0) else (fo z).testBit u := fun z u hz hu => by
      by_cases c1 : z = y
      · subst c1
        rw [if_pos rfl, wb_t 1 (by omega) (by omega) hu]
        by_cases c3 : x = u
        · rw [if_pos c3, if_pos (by omega)]
        · rw [if_neg c3, if_neg (by omega)]
      · rw [if_neg c1]
        by_cases c2 : z = x
        · subst c2
          rw [if_pos rfl, wb_t 1 (by omega) (by omega) hu]
          by_cases c3 : y = u
          · rw [if_pos c3, if_pos (by omega)]
          · rw [if_neg c3, if_neg (by omega)]
        · rw [if_neg c2, if_neg (by omega)]
    show (if z = y then wb 1 (fo y) x else if z = x then wb 1 (fo x) y else fo z).testBit u = (if u = y then wb 1 (fo y) x else if u = x then wb 1 (fo x) y else fo u).testBit z
    rw [key z u hz hu, key u z hu hz]
    by_cases c : (z = y ∧ u = x) ∨ (z = x ∧ u = y)
    · rw [if_pos c, if_pos (by omega)]
    · rw [if_neg c, if_neg (by omega)]; exact f2 z u hz hu
  · by_cases c1 : z = y
    · subst c1
      simp only [if_true]
      rw [wb_t 1 (by omega) (by omega) hz, if_neg hxy]; exact f3 z hz
    · by_cases c2 : z = x
      · subst c2
        simp only [if_neg c1, if_true]
        rw [wb_t 1 (by omega) (by omega) hz, if_neg (fun q => hxy q.symm)]; exact f3 z hz
      · simp only [if_neg c1, if_neg c2]; exact f3 z hz
  · by_cases c1 : z = y
    · subst c1
      rw [su_s]
      exact ⟨fun _ => Or.inr rfl, fun _ => wb_ne ly hx⟩
    · by_cases c2 : z = x
      · subst c2
        rw [su_j (by omega), su_s]
        exact ⟨fun _ => Or.inl (Or.inr rfl), fun _ => wb_ne lx hy⟩
      · rw [su_j (by omega), su_j (by omega)]
        exact ⟨fun q => Or.inl (Or.inl q), fun q => q.elim (fun q => q.elim id (fun q => absurd q c2)) (fun q => absurd q c1)⟩
theorem b17_4 {ρ : S0} (g1 : ρ 98 22 = 0) : fX11_readLine_b17 ρ 4 = fX11_readLine_b117 ρ 4 := by
  unfold fX11_readLine_b17 fX11_readLine_b30 fX11_readLine_b49 fX11_readLine_b63 fX11_readLine_b68
  rw [if_neg (by decide), needs_y _ (by decide)]
  simp only [obp]
  rw [if_pos (by decide), if_pos (by decide), needs_y _ (by decide)]
  simp only
  rw [if_neg (fun q => q g1), if_pos (by decide)]
theorem ln_feud {a : Nat → Nat} {n p : Nat} {σ ρ : S0} (tx : TpX a n σ) (tp : TpM a n ρ) (h : Cur a n p σ ρ) (d : DR σ ρ) (hk : tK a n p = 1) : ∃ r τ μ, fX5_readFeud σ = some (r, τ) ∧ fX11_readLine_b17 ρ 4 = some (0, μ) ∧ (r = 0 ∨ r = 1) ∧ LR a n p σ ρ r τ μ := by
  obtain ⟨h1, h2, h3, h4, h5⟩ := h
  have hn := tp.1
  have hone : ¬ (1 : Int32) = 0 := by decide
  have hb := tok_b (a := a) h5
  have hlt := hb.2.2.2 (by omega)
  have hb2 := tok_b (a := a) hb.2.2.1
  have hb3 := tok_b (a := a) hb2.2.2.1
  have hb4 := tok_b (a := a) hb3.2.2.1
  obtain ⟨g1, g2, g3⟩ := h2.g h3
  rw [b17_4 g1]
  obtain ⟨μ, m1, m2, m3⟩ := b117_s h2 h3 tp h5 4
  have tp1 := tp.k m1.k
  have pe : Pend a n (tE a n p) σ μ := ⟨h1.2.1, m2, h4, hb.2.2.1⟩
  unfold fX5_readFeud
  rcases m3 with ⟨c4, m3⟩ | ⟨c3, m3⟩
  · obtain ⟨τ, t1, t2, t3⟩ := nn_bad (lo := 0) (hi := 5) tx pe (by omega) (by omega) c4
    have t1' : fX5_nextNumber σ 0 5 = some (0, τ) := t1
    rw [t1']
    simp only [obp]
    exact ⟨0, τ, μ, by rw [if_neg (by decide)], m3, Or.inl rfl, t2.k, m1.k, t2 3 4 (by omega), Or.inr ⟨rfl, t3⟩⟩
  · rw [m3, sw_4]
    obtain ⟨r1, τ1, v1, μ1, t1, t2, t3, t4, t5⟩ := rh_s tx tp1 pe (-4)
    have t1' : fX5_nextNumber σ 0 5 = some (r1, τ1) := t1
    have tx1 := tx.k t3.k
    have tp2 := tp1.k t4.k
    have kρ1 := m1.k.tr t4.k
    unfold fX11_readFeud
    rw [t1', t2]
    simp only [obp]
    rcases t5 with ⟨q1, o1, x, x1, x2, x3, x4, x5, pe1⟩ | ⟨q1, o1, x, x1, x2, x3, -⟩ | ⟨q0, q1, fl⟩
    · rw [q1, if_pos hone, ol_g, x3]
      obtain ⟨r2, τ2, v2, μ2, s1, s2, s3, s4, s5⟩ := rh_s tx1 tp2 pe1 (nI x)
      have s1' : fX5_nextNumber τ1 0 5 = some (r2, τ2) := s1
      have tx2 := tx1.k s3.k
      have tp3 := tp2.k s4.k
      have kσ2 := t3.k.tr s3.k
      have kρ2 := kρ1.tr s4.k
      have l2 : τ2 3 4 = σ 3 4 := by rw [s3 3 4 (by omega), t3 3 4 (by omega)]
      rw [s1', s2]
      simp only
      rcases s5 with ⟨z1, p1, y, y1, y2, y3, y4, y5, pe2⟩ | ⟨z1, p1, y, y1, y2, y3, y4, y5, y6, y7⟩ | ⟨z0, z1, fl⟩
      · have hxy : x ≠ y := fun q => y4 (by rw [q])
        have hne : ¬ τ2 1 5 = τ1 1 5 := by rw [y2, x2]; exact y4
        have oo := t3.tr s3
        have df2 : DF τ2 μ2 := d.2.2.1.c (oo.c (by omega) (by omega)) (fun j _ _ => by rw [s4.c (by omega), t4.c (by omega), m1.c (by omega)])
        obtain ⟨τ3, μ3, w1, w2, w3, w4, w5, w6, w7⟩ := feud_w df2 x1 y1 hxy
        rw [z1, if_pos hone, if_pos hne, y2, x2, w1]
        simp only
        have kτ3 : kX τ2 τ3 := fun k j q => by
          by_cases c : k = 20
          · exact absurd (show scX k j by unfold scX; omega) q
          · rw [w2 k c]
        have kσ3 := kσ2.tr kτ3
        by_cases cp : tK a n (tE a n (tE a n (tE a n p))) = 4
        · -- the next token is none: the reference leaves the feud out
          have hbad : bad μ2 := ⟨1, by omega, by omega, (pe2.2.1.f cp).1⟩
          rw [if_pos hbad.n]
          simp only
          obtain ⟨r', τ', μ', u1, u2, u3, u4, u5⟩ := tail_s (tx2.k kτ3) tp3 (pe2.o (τ := τ3) (μ := μ2) (by rw [w2 1 (by omega)]) (by rw [w2 3 (by omega)]) (fun _ _ _ => rfl))
          have u1' := u1
          unfold tailX at u1'
          refine ⟨r', τ', μ', u1', u2, u5.elim (fun q => Or.inr q.1) (fun q => Or.inl q.1), kσ3.tr u3.k, kρ2.tr u4.k, by rw [u3 3 4 (by omega), w2 3 (by omega)]; exact l2, ?_⟩
          rcases u5 with ⟨e1, e2, e3⟩ | e
          · omega
          · exact Or.inr e
        · have hk4 := tK_4 a n (tE a n (tE a n (tE a n p)))
          have g22 := (pe2.2.1.g (by omega)).1
          rw [if_neg (fun q => q g22), y3, w3 0]
          simp only
          have kμ3 : kM μ2 μ3 := fun k j q => by
            by_cases c : k = 102
            · exact absurd (show scM k j by unfold scM; omega) q
            · rw [w4 k c]
          have kρ3 := kρ2.tr kμ3
          obtain ⟨r', τ', μ', u1, u2, u3, u4, u5⟩ := tail_s (tx2.k kτ3) (tp3.k kμ3) (pe2.o (τ := τ3) (μ := μ3) (by rw [w2 1 (by omega)]) (by rw [w2 3 (by omega)]) (fun j _ _ => by rw [w4 98 (by omega)]))
          have u1' := u1
          unfold tailX at u1'
          have dr : DR τ3 μ3 := d.f (fun k k1 k2 k3 => by rw [w2 k k3, oo.c (by omega) (by omega)]) (fun j hj => by rw [w2 3 (by omega), oo 3 j (by omega)]) (fun j j1 j2 j3 => by rw [w4 98 (by omega), s4 98 j (by omega), t4 98 j (by omega), m1 98 j (by omega)]) (fun j hj => by rw [w5 j hj, s4.c (by omega), t4.c (by omega), m1.c (by omega)]) (by rw [w4 103 (by omega), s4.c (by omega), t4.c (by omega), m1.c (by omega)]) w6 (fun B hB hM => by
            rw [w4 98 (by omega), y5, x5, m1 98 13 (by omega)]
            refine ((hM.add x1 (by omega)).add y1 (by omega)).cg (fun z hz => ?_)
            have e102 : ∀ j, ¬ (60 ≤ j ∧ j < 66) → μ3 102 j = ρ 102 j := fun j hj => by rw [w5 j hj, s4.c (by omega), t4.c (by omega), m1.c (by omega)]
            have e102' : μ2 102 = ρ 102 := by rw [s4.c (by omega), t4.c (by omega), m1.c (by omega)]
            have w7' := w7 z hz
            rw [e102'] at w7'
            unfold th
            constructor
            · rintro (((⟨b, b1, b2⟩ | q) | q) | q)
              · exact Or.inl ⟨b, b1, by rw [e102 _ (by omega), e102 _ (by omega)]; exact b2⟩
              · exact Or.inr (w7'.mpr (Or.inl (Or.inl q)))
              · exact Or.inr (w7'.mpr (Or.inl (Or.inr q)))
              · exact Or.inr (w7'.mpr (Or.inr q))
            · rintro (⟨b, b1, b2⟩ | q)
              · rw [e102 _ (by omega), e102 _ (by omega)] at b2
                exact Or.inl (Or.inl (Or.inl ⟨b, b1, b2⟩))
              · rcases w7'.mp q with (q | q) | q
                · exact Or.inl (Or.inl (Or.inr q))
                · exact Or.inl (Or.inr q)
                · exact Or.inr q)
          refine ⟨r', τ', μ', u1', u2, u5.elim (fun q => Or.inr q.1) (fun q => Or.inl q.1), kσ3.tr u3.k, kρ3.tr u4.k, by rw [u3 3 4 (by omega), w2 3 (by omega)]; exact l2, ?_⟩
          rcases u5 with ⟨e1, e2, e3⟩ | e
          · exact Or.inl ⟨e1, dr.a u3 u4, tE a n (tE a n (tE a n (tE a n p))), by omega, e3⟩
          · exact Or.inr e
      · have heq : ¬ ¬ τ2 1 5 = τ1 1 5 := fun q => q (by rw [y2, x2]; exact y3)
        have hbad : bad μ2 := ⟨4, by omega, by omega, y6⟩
        rw [z1, if_pos hone, if_neg heq, refuse_s, if_pos hbad.n]
        simp only
        rw [og_t (by decide), hbad.b206]
        exact ⟨0, _, μ2, rfl, rfl, Or.inl rfl, kσ2.tr (refuse_o τ2 4).k, kρ2, (refuse_o τ2 4 3 4 (by omega)).trans l2, Or.inr ⟨rfl, flt_r (f := 4) (g := 4) (pl := tS a n (tE a n (tE a n p))) (by omega) (by omega) (by omega) y4 y6 y7⟩⟩
      · rw [z0, if_neg (fun q => q rfl), if_pos fl.b.n]
        simp only
        rw [fl.b.b206]
        exact ⟨0, τ2, μ2, rfl, rfl, Or.inl rfl, kσ2, kρ2, l2, Or.inr ⟨rfl, fl⟩⟩
    · exact absurd x3 (nI_m4 (by omega))
    · obtain ⟨w, hw⟩ := fl.b.house v1
      have hbad : bad (su μ1 98 13 w) := fl.b.o (su_j (by omega))
      rw [q0, if_neg (fun q => q rfl), hw]
      simp only
      rw [if_pos hbad.n]
      simp only
      rw [hbad.b206]
      exact ⟨0, τ1, su μ1 98 13 w, rfl, rfl, Or.inl rfl, t3.k, kρ1.tr ((kM.rf μ1).su (by unfold scM; omega) _), t3 3 4 (by omega), Or.inr ⟨rfl, fl.m (su_j (by omega)) (su_j (by omega))⟩⟩
end
section
/-! THE TEXT: a line of a tune -/
def sX (t : Nat) (σ τ : S0) : Prop := ∀ k j, ¬ ((k = 1 ∧ 2 ≤ j ∧ j ≤ 5) ∨ (k = 3 ∧ (j = 5 ∨ j = 6)) ∨ (k = 6 ∧ j = t) ∨ k = 8 + t) → τ k j = σ k j
theorem sX.tr {t : Nat} {a b c : S0} (h1 : sX t a b) (h2 : sX t b c) : sX t a c := fun k j h => (h2 k j h).trans (h1 k j h)
theorem sX.k {t : Nat} (ht : t < 6) {a b : S0} (h : sX t a b) : kX a b := fun k j q => h k j (fun z => q (by unfold scX; omega))
theorem onA.s {a b : S0} (h : onA a b) (t : Nat) : sX t a b := fun k j q => h k j (by omega)
def sM (t : Nat) (σ τ : S0) : Prop := ∀ k j, ¬ ((k = 98 ∧ (j = 12 ∨ j = 14 ∨ 18 ≤ j ∧ j ≤ 23)) ∨ (k = 103 ∧ 14 * t + 1 ≤ j ∧ j < 14 * t + 14)) → τ k j = σ k j
theorem sM.tr {t : Nat} {a b c : S0} (h1 : sM t a b) (h2 : sM t b c) : sM t a c := fun k j h => (h2 k j h).trans (h1 k j h)
theorem sM.k {t : Nat} {a b : S0} (h : sM t a b) : kM a b := fun k j q => h k j (fun z => q (by unfold scM; omega))
theorem on8.s {a b : S0} (h : on8 a b) (t : Nat) : sM t a b := fun k j q => h k j (by omega)
theorem sM_su {t k j : Nat} {σ : S0} (h : (k = 98 ∧ (j = 12 ∨ j = 14 ∨ 18 ≤ j ∧ j ≤ 23)) ∨ (k = 103 ∧ 14 * t + 1 ≤ j ∧ j < 14 * t + 14)) (v : Int32) : sM t σ (su σ k j v) := fun x y q => by
  by_cases hx : x = k
  · subst hx; exact su_j (fun z => q (by omega))
  · rw [su_ne hx]
theorem sX_su {t k j : Nat} {σ : S0} (h : (k = 6 ∧ j = t) ∨ k = 8 + t) (v : Int32) : sX t σ (su σ k j v) := fun x y q => by
  by_cases hx : x = k
  · subst hx; exact su_j (fun z => q (by omega))
  · rw [su_ne hx]
theorem fon_s {a : Nat → Nat} {n p : Nat} {σ : S0} (tx : TpX a n σ) (h : tkX a n p σ) (hk : tK a n p ≤ 3) : (tK a n p = 2 ∧ tV a n p ≤ 11 → fX5_faultOfNumber σ 0 11 = some (0, σ)) ∧ (¬ (tK a n p = 2 ∧ tV a n p ≤ 11) → ∃ f, (1 ≤ f ∧ f ≤ 6) ∧ fX5_faultOfNumber σ 0 11 = some (nI f, σ)) := by
  have e4 : ¬ σ 1 3 = 4 := by rw [h.2.2.1]; exact fun q => by have := (nI_eq (b := 4) (by omega) (by omega)).mp q; omega
  have e2 : σ 1 3 = 2 ↔ tK a n p = 2 := by rw [h.2.2.1]; exact nI_eq (b := 2) (by omega) (by omega)
  unfold fX5_faultOfNumber fX5_faultOfNumber_b48
  rw [if_pos e4]
  by_cases c2 : tK a n p = 2
  · have hv := tV_b (fun j hj => (tx.2.2 j hj).1) c2
    have e5 := h.2.2.2 c2
    have l1 : ¬ σ 1 5 < 0 := by rw [e5]; exact nI_pos (by omega)
    have l2 : σ 1 5 ≤ 11 ↔ tV a n p ≤ 11 := by rw [e5]; exact nI_leI (b := 11) (by omega) (by omega)
    rw [if_pos (e2.mpr c2), if_neg l1]
    by_cases c : tV a n p ≤ 11
    · rw [if_pos (l2.mpr c)]
      exact ⟨fun _ => rfl, fun q => absurd ⟨c2, c⟩ q⟩
    · rw [if_neg (fun q => c (l2.mp q))]
      exact ⟨fun q => absurd q.2 c, fun _ => ⟨3, by omega, rfl⟩⟩
  · rw [if_neg (fun q => c2 (e2.mp q))]
    exact ⟨fun q => absurd q.1 c2, fun _ => ⟨2, by omega, rfl⟩⟩
/-- behind a fault the reference's tune ends -/
theorem bad.h25 {ρ : S0} (h : bad ρ) {t : Nat} (ht : t < 6) (m : Nat) (x2 x3 : Int32) : ∃ μ, fX11_readTune_h25 (m + 1) ρ (nI (14 * t)) x2 x3 = some (0, μ) ∧ sM t ρ μ ∧ μ 98 22 = ρ 98 22 ∧ μ 98 23 = ρ 98 23 := by
  refine ⟨su (su ρ 103 (14 * t + 1) x2) 98 12 (ρ 98 12 + 1), ?_, (sM_su (Or.inr ⟨rfl, by omega, by omega⟩) _).tr (sM_su (Or.inl ⟨rfl, Or.inl rfl⟩) _), by rw [su_j (by omega), su_ne (by omega)], by rw [su_j (by omega), su_ne (by omega)]⟩
  show fX11_readTune_b25 _ _ _ _ _ = _
  unfold fX11_readTune_b25 fX11_readTune_b134
  rw [if_pos h.n, nI_1, ol_g, og_t (ix_ok (by omega) (by omega)), nI_clamp (by omega)]
  simp only [ol]
  rw [su_ne (by omega)]
def ST (t i : Nat) (σ ρ : S0) : Prop := (∀ k, k < i → ∃ b, b < 12 ∧ σ (8 + t) k = nI b ∧ ρ 103 (14 * t + 2 + k) = nI b) ∧ (1 ≤ i → σ 6 t = nI i)
def SP (P : Nat → Prop) (t i : Nat) (ρ : S0) : Nat → Prop := fun j => P j ∨ ∃ k, k < i ∧ ρ 103 (14 * t + 2 + k) = nI j
theorem str_l {a : Nat → Nat} {n t : Nat} (ht : t < 6) (P : Nat → Prop) : ∀ (d i m m' p : Nat) (σ ρ : S0) (x3 : Int32), 12 - i = d → i ≤ 12 → d < m → d + 1 < m' → TpX a n σ → TpM a n ρ → Cur a n p σ ρ → ((i = 0 ∧ x3 = 1) ∨ (1 ≤ i ∧ ((tK a n p = 2 ∧ x3 = 1) ∨ (tK a n p ≠ 2 ∧ x3 = 0)))) → ST t i σ ρ → Mx 12 (ρ 98 14) (SP P t i ρ) → ∃ r τ μ, fX5_readStrokes_h2 m σ (nI t) (nI i) = some (r, τ) ∧ fX11_readTune_h25 m' ρ (nI (14 * t)) (nI i) x3 = some (0, μ) ∧ sX t σ τ ∧ sM t ρ μ ∧ ((r = 1 ∧ ∃ k p', 1 ≤ k ∧ k ≤ 12 ∧ p ≤ p' ∧ Cur a n p' τ μ ∧ ST t k τ μ ∧ μ 103 (14 * t + 1) = nI k ∧ μ 98 12 = ρ 98 12 + 1 ∧ Mx 12 (μ 98 14) (SP P t k μ)) ∨ (r = 0 ∧ Flt τ μ)) := by
  have hgt := ix_ok (j := t) (n := 6) ht (by omega)
  have hct : (nI t).toNatClampNeg = t := nI_clamp (by omega)
  have hgt2 : ¬ (nI t < 0 ∨ 6 ≤ t) := fun q => hgt (by rw [hct]; exact q)
  have hone : ¬ (1 : Int32) = 0 := by decide
  intro d
  induction d with
  | zero =>
    intro i m m' p σ ρ x3 h1 h2 h3 h3' tx tp cu hx st hm
    obtain ⟨m, rfl⟩ : ∃ q, m = q + 1 := ⟨m - 1, by omega⟩
    obtain ⟨m', rfl⟩ : ∃ q, m' = q + 2 := ⟨m' - 2, by omega⟩
    have : i = 12 := by omega
    subst this
    obtain ⟨c1, c2, c3, c4, c5⟩ := cu
    have hn := tp.1
    have hb := tok_b (a := a) c5
    obtain ⟨g1, g2, g3⟩ := c2.g c3
    have n0 : ¬ ¬ ρ 98 22 = 0 := fun q => q g1
    have ex2 : σ 1 3 = 2 ↔ tK a n p = 2 := by rw [c1.2.2.1]; exact nI_eq (b := 2) (by omega) (by omega)
    have em2 : ρ 98 20 = 2 ↔ tK a n p = 2 := by rw [g2]; exact nI_eq (b := 2) (by omega) (by omega)
    have hX : fX5_readStrokes_h2 (m + 1) σ (nI t) (nI 12) = fX5_readStrokes_b2 (fX5_readStrokes_h2 m) σ (nI t) (nI 12) := rfl
    have hM : fX11_readTune_h25 (m' + 2) ρ (nI (14 * t)) (nI 12) x3 = fX11_readTune_b25 (fX11_readTune_h25 (m' + 1)) ρ (nI (14 * t)) (nI 12) x3 := rfl
    rw [hX, hM]
    unfold fX5_readStrokes_b2 fX11_readTune_b25
    rw [if_neg (show ¬ (12 : Int32) < nI 12 by decide), if_neg (show ¬ nI 12 ≤ 0 by decide), if_neg n0]
    rcases hx with ⟨q, -⟩ | ⟨-, ⟨k2, rfl⟩ | ⟨k2, rfl⟩⟩
    · omega
    · rw [if_pos (ex2.mpr k2), if_neg hone, if_neg (fun q => q (em2.mpr k2)), if_pos (show (12 : Int32) ≤ nI 12 by decide)]
      have hbad : bad (su (su ρ 98 22 5) 98 23 (ρ 98 19)) := ⟨5, by omega, by omega, by rw [su_j (by omega), su_s]; rfl⟩
      obtain ⟨μ, w1, w2, w3, w4⟩ := hbad.h25 ht m' (nI 12) (if ¬ (su (su ρ 98 22 5) 98 23 (ρ 98 19)) 98 20 = 2 then 0 else 1)
      have hMM : fX11_readTune_b56 (fX11_readTune_h25 (m' + 1)) ρ (nI (14 * t)) (nI 12) 0 = some (0, μ) := by
        unfold fX11_readTune_b56 fX11_readTune_b117 fX11_readTune_b130
        rw [needs_n _ g1]
        simp only [obp]
        rw [hbad.looked]
        simp only
        rw [hbad.next]
        simp only
        rw [if_pos hbad.n, ← w1]
        by_cases q : su (su ρ 98 22 5) 98 23 (ρ 98 19) 98 20 = 2
        · rw [if_neg (fun z => z q), if_neg (fun z => z q)]
        · rw [if_pos q, if_pos q]
      have so : sM t ρ (su (su ρ 98 22 5) 98 23 (ρ 98 19)) := (sM_su (Or.inl ⟨rfl, by omega⟩) _).tr (sM_su (Or.inl ⟨rfl, by omega⟩) _)
      have fin : ∀ f : Nat, 1 ≤ f → f ≤ 6 → Flt (su (su σ 3 5 (nI f)) 3 6 (σ 1 4)) μ := fun f f1 f2 => flt_r (f := f) (g := 5) (pl := tS a n p) ⟨f1, f2⟩ (by omega) (by omega) c1.1 (by rw [w3, su_j (by omega), su_s]; rfl) (by rw [w4, su_s]; exact c2.1)
      unfold fX5_readStrokes_b25
      obtain ⟨f1, f2⟩ := fon_s tx c1 c3
      by_cases c : tK a n p = 2 ∧ tV a n p ≤ 11
      · rw [f1 c]
        simp only [obp]
        rw [if_pos trivial, if_neg (show ¬ nI 12 < 12 by decide), refuse_s]
        exact ⟨0, _, μ, rfl, hMM, (refuse_o σ 5).s t, so.tr w2, Or.inr ⟨rfl, fin 5 (by omega) (by omega)⟩⟩
      · obtain ⟨f, f3, f4⟩ := f2 c
        rw [f4]
        simp only [obp]
        rw [if_neg (nI_ne0 (by omega) (by omega)), refuse_s]
        exact ⟨0, _, μ, rfl, hMM, (refuse_o σ _).s t, so.tr w2, Or.inr ⟨rfl, fin f f3.1 f3.2⟩⟩
    · have hM3 : (if (0 : Int32) = 0 then fX11_readTune_b134 ρ (nI (14 * t)) (nI 12) else if ¬ ρ 98 20 = 2 then fX11_readTune_b51 (fX11_readTune_h25 (m' + 1)) ρ (nI (14 * t)) (nI 12) else if (12 : Int32) ≤ nI 12 then fX11_readTune_b56 (fX11_readTune_h25 (m' + 1)) ρ (nI (14 * t)) (nI 12) 0 else fX11_readTune_b51 (fX11_readTune_h25 (m' + 1)) ρ (nI (14 * t)) (nI 12)) = some (0, su (su ρ 103 (14 * t + 1) (nI 12)) 98 12 (ρ 98 12 + 1)) := by
        rw [if_pos rfl]
        unfold fX11_readTune_b134
        rw [nI_1, ol_g, og_t (ix_ok (by omega) (by omega)), nI_clamp (by omega)]
        simp only [ol]
        rw [su_ne (by omega)]
      rw [if_neg (fun q => k2 (ex2.mp q)), hM3]
      have so : sM t ρ (su (su ρ 103 (14 * t + 1) (nI 12)) 98 12 (ρ 98 12 + 1)) := (sM_su (Or.inr ⟨rfl, by omega, by omega⟩) _).tr (sM_su (Or.inl ⟨rfl, Or.inl rfl⟩) _)
      have e103 : ∀ j, j ≠ 14 * t + 1 → su (su ρ 103 (14 * t + 1) (nI 12)) 98 12 (ρ 98 12 + 1) 103 j = ρ 103 j := fun j hj => by rw [su_ne (by omega), su_j hj]
      refine ⟨1, σ, _, rfl, rfl, fun _ _ _ => rfl, so, Or.inl ⟨rfl, 12, p, by omega, by omega, Nat.le_refl _, ⟨c1, c2.o (fun j j1 j2 => by rw [su_j (by omega), su_ne (by omega)]), c3, c4, c5⟩, ⟨fun k hk => ?_, st.2⟩, by rw [su_ne (by omega), su_s], by rw [su_s], ?_⟩⟩
      · rw [e103 _ (by omega)]; exact st.1 k hk
      · rw [su_j (by omega), su_ne (by omega)]
        refine hm.cg (fun y hy => ?_)
        have ek := fun k => e103 (14 * t + 2 + k) (by omega)
        unfold SP
        simp only [ek]
  | succ d ih =>
    intro i m m' p σ ρ x3 h1 h2 h3 h3' tx tp cu hx st hm
    obtain ⟨m, rfl⟩ : ∃ q, m = q + 1 := ⟨m - 1, by omega⟩
    obtain ⟨m', rfl⟩ : ∃ q, m' = q + 2 := ⟨m' - 2, by omega⟩
    have a1 : 12 - (i + 1) = d := by omega
    have a2 : i + 1 ≤ 12 := by omega
    have a3 : d < m := by omega
    have a4 : d + 1 < m' + 1 := by omega
    have a5 : 1 ≤ i + 1 := by omega
    obtain ⟨c1, c2, c3, c4, c5⟩ := cu
    have hn := tp.1
    have hb := tok_b (a := a) c5
    obtain ⟨g1, g2, g3⟩ := c2.g c3
    have n0 : ¬ ¬ ρ 98 22 = 0 := fun q => q g1
    have hgi := ix_ok (j := i) (n := 12) (by omega) (by omega)
    have hci : (nI i).toNatClampNeg = i := nI_clamp (by omega)
    have hgi2 : ¬ (nI i < 0 ∨ 12 ≤ i) := fun q => hgi (by rw [hci]; exact q)
    have ex2 : σ 1 3 = 2 ↔ tK a n p = 2 := by rw [c1.2.2.1]; exact nI_eq (b := 2) (by omega) (by omega)
    have em2 : ρ 98 20 = 2 ↔ tK a n p = 2 := by rw [g2]; exact nI_eq (b := 2) (by omega) (by omega)
    by_cases stop : 1 ≤ i ∧ tK a n p ≠ 2
    · -- the row of strokes ends
      have x0 : x3 = 0 := by
        rcases hx with ⟨q, -⟩ | ⟨-, ⟨k2, -⟩ | ⟨-, q⟩⟩
        · omega
        · exact absurd k2 stop.2
        · exact q
      have hX : fX5_readStrokes_h2 (m + 1) σ (nI t) (nI i) = some (1, σ) := by
        show fX5_readStrokes_b2 _ _ _ _ = _
        unfold fX5_readStrokes_b2
        rw [if_neg (show ¬ (12 : Int32) < nI i from nI_nlt (a := 12) (by omega) (by omega)), if_neg (show ¬ nI i ≤ 0 from nI_nle (by omega) (by omega)), if_neg (fun q => stop.2 (ex2.mp q))]
      have hM : fX11_readTune_h25 (m' + 2) ρ (nI (14 * t)) (nI i) x3 = some (0, su (su ρ 103 (14 * t + 1) (nI i)) 98 12 (ρ 98 12 + 1)) := by
        show fX11_readTune_b25 _ _ _ _ _ = _
        unfold fX11_readTune_b25 fX11_readTune_b134
        rw [if_neg n0, if_pos x0, nI_1, ol_g, og_t (ix_ok (by omega) (by omega)), nI_clamp (by omega)]
        simp only [ol]
        rw [su_ne (by omega)]
      have so : sM t ρ (su (su ρ 103 (14 * t + 1) (nI i)) 98 12 (ρ 98 12 + 1)) := (sM_su (Or.inr ⟨rfl, by omega, by omega⟩) _).tr (sM_su (Or.inl ⟨rfl, Or.inl rfl⟩) _)
      have e103 : ∀ j, j ≠ 14 * t + 1 → su (su ρ 103 (14 * t + 1) (nI i)) 98 12 (ρ 98 12 + 1) 103 j = ρ 103 j := fun j hj => by rw [su_ne (by omega), su_j hj]
      refine ⟨1, σ, _, hX, hM, fun _ _ _ => rfl, so, Or.inl ⟨rfl, i, p, by omega, by omega, Nat.le_refl _, ⟨c1, c2.o (fun j j1 j2 => by rw [su_j (by omega), su_ne (by omega)]), c3, c4, c5⟩, ⟨fun k hk => ?_, st.2⟩, by rw [su_ne (by omega), su_s], by rw [su_s], ?_⟩⟩
      · rw [e103 _ (by omega)]; exact st.1 k hk
      · rw [su_j (by omega), su_ne (by omega)]
        refine hm.cg (fun y hy => ?_)
        have ek := fun k => e103 (14 * t + 2 + k) (by omega)
        unfold SP
        simp only [ek]
    · -- one stroke more
      have x1 : x3 = 1 := by
        rcases hx with ⟨-, q⟩ | ⟨q1, ⟨-, q⟩ | ⟨q, -⟩⟩
        · exact q
        · exact q
        · exact absurd ⟨q1, q⟩ stop
      have hX : fX5_readStrokes_h2 (m + 1) σ (nI t) (nI i) = fX5_readStrokes_b25 (fX5_readStrokes_h2 m) σ (nI t) (nI i) := by
        show fX5_readStrokes_b2 _ _ _ _ = _
        unfold fX5_readStrokes_b2
        rw [if_neg (show ¬ (12 : Int32) < nI i from nI_nlt (a := 12) (by omega) (by omega))]
        by_cases ci : i = 0
        · rw [if_pos (show nI i ≤ 0 from by rw [ci]; decide)]
        · rw [if_neg (show ¬ nI i ≤ 0 from nI_nle (by omega) (by omega)), if_pos (ex2.mpr (Classical.byContradiction fun q => stop ⟨by omega, q⟩))]
      have hM : fX11_readTune_h25 (m' + 2) ρ (nI (14 * t)) (nI i) x3 = fX11_readTune_b56 (fX11_readTune_h25 (m' + 1)) ρ (nI (14 * t)) (nI i) 1 := by
        show fX11_readTune_b25 _ _ _ _ _ = _
        unfold fX11_readTune_b25 fX11_readTune_b51
        rw [if_neg n0, if_neg (by rw [x1]; decide), if_neg (show ¬ (12 : Int32) ≤ nI i from nI_ge (b := 12) (by omega) (by omega))]
        by_cases q : ρ 98 20 = 2
        · rw [if_neg (fun z => z q)]
        · rw [if_pos q]
      rw [hX, hM]
      unfold fX5_readStrokes_b25
      obtain ⟨v, μ, m1, m2, m3⟩ := lk_s (lo := 0) (hi := 11) c2 tp (by omega) (by omega)
      have m1' : fX11_looked ρ 0 11 = some (v, μ) := m1
      obtain ⟨f1, f2⟩ := fon_s tx c1 c3
      -- the reference behind a fault
      have tailM : ∀ ν : S0, fX11_next μ = some (0, ν) → bad ν → ∃ κ, fX11_readTune_b56 (fX11_readTune_h25 (m' + 1)) ρ (nI (14 * t)) (nI i) 1 = some (0, κ) ∧ sM t ν κ ∧ κ 98 22 = ν 98 22 ∧ κ 98 23 = ν 98 23 := fun ν hν hbad => by
        obtain ⟨κ, w1, w2, w3, w4⟩ := hbad.h25 ht m' (nI i) (if ¬ ν 98 20 = 2 then 0 else 1)
        refine ⟨κ, ?_, w2, w3, w4⟩
        unfold fX11_readTune_b56 fX11_readTune_b117 fX11_readTune_b130
        rw [needs_y _ (by decide)]
        simp only [obp]
        rw [m1']
        simp only
        rw [hν]
        simp only
        rw [if_pos hbad.n, ← w1]
        by_cases q : ν 98 20 = 2
        · rw [if_neg (fun z => z q), if_neg (fun z => z q)]
        · rw [if_pos q, if_pos q]
      rcases m3 with ⟨z1, z2, z3, z4, z5⟩ | ⟨z1, z2, ⟨g, gg1, gg2⟩, z4⟩
      · subst z5
        rw [f1 ⟨z1, z3⟩]
        simp only [obp]
        rw [if_pos trivial, if_pos (show nI i < 12 from nI_lt (b := 12) (by omega) (by omega))]
        simp only [og_t hgt, og_t hgt2, hct, ol, Nat.one_mul, og_t hgi, og_t hgi2, hci, c1.2.2.2 z1, nI_1]
        obtain ⟨ν, v1, v2, v3⟩ := nx_s c2 c3 tp c5
        have s1 : sX t σ (su (su σ (8 + t) i (nI (tV a n p))) 6 t (nI (i + 1))) := (sX_su (Or.inr rfl) _).tr (sX_su (Or.inl ⟨rfl, rfl⟩) _)
        have pe : Pend a n (tE a n p) (su (su σ (8 + t) i (nI (tV a n p))) 6 t (nI (i + 1))) ν := ⟨by rw [su_ne (by omega), su_ne (by omega)]; exact c1.2.1, v3, by rw [su_ne (by omega), su_ne (by omega)]; exact c4, hb.2.2.1⟩
        have tx1 := tx.k (s1.k ht)
        obtain ⟨r, τ, t1, t2, t3⟩ := adv_s tx1 pe
        rw [t1]
        simp only
        by_cases cp : tK a n (tE a n p) = 4
        · have hbad : bad ν := ⟨1, by omega, by omega, (v3.f cp).1⟩
          obtain ⟨κ, w1, w2, w3, w4⟩ := tailM ν v1 hbad
          rcases t3 with ⟨e1, e2, e3⟩ | ⟨e1, e2⟩
          · have := e3.2.2.1
            omega
          · rw [e1, if_neg (fun q => q rfl)]
            exact ⟨0, τ, κ, rfl, w1, s1.tr (t2.s t), (v2.s t).tr w2, Or.inr ⟨rfl, e2.m w3 w4⟩⟩
        · have hk4 := tK_4 a n (tE a n p)
          have g4 := (v3.g (by omega))
          rcases t3 with ⟨e1, e2, e3⟩ | ⟨e1, e2⟩
          · rw [e1, if_pos hone]
            have idx : nI (14 * t) + 2 + nI i = nI (14 * t + 2 + i) := by rw [show (2 : Int32) = nI 2 from rfl, nI_add, nI_add]
            have hgv := ix_ok (j := 14 * t + 2 + i) (n := 84) (by omega) (by omega)
            have hcv : (nI (14 * t + 2 + i)).toNatClampNeg = 14 * t + 2 + i := nI_clamp (by omega)
            have ρ2e : ∀ x, x = mxI (ν 98 14) (tV a n p) → True := fun _ _ => trivial
            have emx : (if v ≤ ν 98 14 then ν 98 14 else v) = mxI (ν 98 14) (tV a n p) := by rw [z4]; rfl
            have hbx : fX11_readTune_b56 (fX11_readTune_h25 (m' + 1)) μ (nI (14 * t)) (nI i) 1 = fX11_readTune_h25 (m' + 1) (su (su ν 103 (14 * t + 2 + i) v) 98 14 (mxI (ν 98 14) (tV a n p))) (nI (14 * t)) (nI (i + 1)) (if tK a n (tE a n p) = 2 then 1 else 0) := by
              unfold fX11_readTune_b56 fX11_readTune_b111 fX11_readTune_b117 fX11_readTune_b130
              rw [needs_y _ (by decide)]
              simp only [obp]
              rw [m1']
              simp only
              rw [v1]
              simp only
              rw [if_neg (fun q => q g4.1), idx, ol_g, og_t hgv, hcv]
              simp only [ol, nI_1]
              have e20 : ∀ w : Int32, su (su ν 103 (14 * t + 2 + i) v) 98 14 w 98 20 = nI (tK a n (tE a n p)) := fun w => by rw [su_j (by omega), su_ne (by omega)]; exact g4.2.1
              have e2i : nI (tK a n (tE a n p)) = 2 ↔ tK a n (tE a n p) = 2 := nI_eq (b := 2) (by omega) (by omega)
              have e14 : su ν 103 (14 * t + 2 + i) v 98 14 = ν 98 14 := su_n2 (by omega)
              rw [← emx]
              by_cases q1 : v ≤ ν 98 14
              · rw [if_pos (by rw [e14]; exact q1), e14, if_pos q1, e20]
                by_cases q2 : tK a n (tE a n p) = 2
                · rw [if_neg (fun z => z (e2i.mpr q2)), if_pos q2]
                · rw [if_pos (fun z => q2 (e2i.mp z)), if_neg q2]
              · rw [if_neg (by rw [e14]; exact q1), if_neg q1, e20]
                by_cases q2 : tK a n (tE a n p) = 2
                · rw [if_neg (fun z => z (e2i.mpr q2)), if_pos q2]
                · rw [if_pos (fun z => q2 (e2i.mp z)), if_neg q2]
            rw [hbx]
            have s2 : sM t μ (su (su ν 103 (14 * t + 2 + i) v) 98 14 (mxI (ν 98 14) (tV a n p))) := ((v2.s t).tr (sM_su (Or.inr ⟨rfl, by omega, by omega⟩) _)).tr (sM_su (Or.inl ⟨rfl, Or.inr (Or.inl rfl)⟩) _)
            obtain ⟨r', τ', μ', u1, u2, u3, u4, u5⟩ := ih (i + 1) m (m' + 1) (tE a n p) τ (su (su ν 103 (14 * t + 2 + i) v) 98 14 (mxI (ν 98 14) (tV a n p))) (if tK a n (tE a n p) = 2 then 1 else 0) a1 a2 a3 a4 (tx1.k t2.k) (tp.k s2.k) ⟨e3.1, e3.2.1.o (fun j j1 j2 => by rw [su_j (by omega), su_ne (by omega)]), e3.2.2⟩ (Or.inr ⟨a5, by
                by_cases q2 : tK a n (tE a n p) = 2
                · exact Or.inl ⟨q2, if_pos q2⟩
                · exact Or.inr ⟨q2, if_neg q2⟩⟩) ⟨fun k hk => by
                by_cases q : k = i
                · subst q
                  exact ⟨tV a n p, by omega, by rw [t2.c (by omega) (by omega), su_ne (by omega), su_s], by rw [su_ne (by omega), su_s, z4]⟩
                · obtain ⟨b, b1, b2, b3⟩ := st.1 k (by omega)
                  exact ⟨b, b1, by rw [t2.c (by omega) (by omega), su_ne (by omega), su_j q]; exact b2, by rw [su_ne (by omega), su_j (by omega), v2.c (by omega)]; exact b3⟩, fun _ => by rw [t2.c (by omega) (by omega), su_s]⟩ (by
                rw [su_s, v2 98 14 (by omega)]
                refine (hm.add (x := tV a n p) (by omega) (by omega)).cg (fun y hy => ?_)
                unfold SP
                constructor
                · rintro ((q | ⟨k, k1, k2⟩) | q)
                  · exact Or.inl q
                  · exact Or.inr ⟨k, by omega, by rw [su_ne (by omega), su_j (by omega), v2.c (by omega)]; exact k2⟩
                  · exact Or.inr ⟨i, by omega, by rw [su_ne (by omega), su_s, z4, q]⟩
                · rintro (q | ⟨k, k1, k2⟩)
                  · exact Or.inl (Or.inl q)
                  · by_cases q : k = i
                    · subst q
                      rw [su_ne (by omega), su_s, z4] at k2
                      exact Or.inr ((nI_eq (by omega) (by omega)).mp k2).symm
                    · rw [su_ne (by omega), su_j (by omega), v2.c (by omega)] at k2
                      exact Or.inl (Or.inr ⟨k, by omega, k2⟩))
            refine ⟨r', τ', μ', u1, u2, (s1.tr (t2.s t)).tr u3, s2.tr u4, ?_⟩
            rcases u5 with ⟨y1, k, p', y2, y3, y4, y5, y6, y7, y8, y9⟩ | y
            · refine Or.inl ⟨y1, k, p', y2, y3, by omega, y5, y6, y7, ?_, y9⟩
              rw [y8, su_j (by omega), su_ne (by omega), v2 98 12 (by omega)]
            · exact Or.inr y
          · exfalso
            have := e2.b.n
            exact this g4.1
      · -- the reference finds a fault; so does the class
        obtain ⟨f, f3, f4⟩ := f2 (fun q => z1 ⟨q.1, Nat.zero_le _, q.2⟩)
        have hbad : bad μ := ⟨g, gg1.1, gg1.2, gg2⟩
        obtain ⟨κ, w1, w2, w3, w4⟩ := tailM μ hbad.next hbad
        rw [f4]
        simp only [obp]
        rw [if_neg (nI_ne0 (by omega) (by omega)), refuse_s]
        exact ⟨0, _, κ, rfl, w1, (refuse_o σ _).s t, (m2.s t).tr w2, Or.inr ⟨rfl, flt_r (f := f) (g := g) (pl := tS a n p) f3 gg1 (by omega) c1.1 (by rw [w3]; exact gg2) (by rw [w4]; exact z4)⟩⟩
end
section
/-! THE TEXT: a line of a tune, whole -/
theorem DR.t {σ τ ρ μ : S0} (h : DR σ ρ) {T : Nat} (hT : DTs σ ρ T) (hT6 : T < 6) (x : ∀ k, 7 ≤ k → k ≤ 21 → k ≠ 8 + T → τ k = σ k) (x40 : τ 4 0 = σ 4 0) (x41 : τ 4 1 = σ 4 1) (x42 : τ 4 2 = nI (T + 1)) (x5 : ∀ j, j ≠ T → τ 5 j = σ 5 j) (x6 : ∀ j, j ≠ T → τ 6 j = σ 6 j) (x3 : ∀ j, j ≤ 4 → τ 3 j = σ 3 j) (y : ∀ j, 9 ≤ j → j ≤ 15 → j ≠ 12 → j ≠ 14 → μ 98 j = ρ 98 j) (y12 : μ 98 12 = nI (T + 1)) (y2 : μ 102 = ρ 102) (y3 : ∀ j, ¬ (14 * T ≤ j ∧ j < 14 * T + 14) → μ 103 j = ρ 103 j) (dt : DT τ μ T) (hm : Mx 12 (μ 98 14) (sbr μ (T + 1))) : DR τ μ := by
  obtain ⟨h0, h1, h2, h3, ⟨B, hB, hM⟩, -⟩ := h
  refine ⟨h0.c x40 x41 (y 9 (by omega) (by omega) (by omega) (by omega)) (y 10 (by omega) (by omega) (by omega) (by omega)), h1.c (x3 2 (by omega)) (x3 3 (by omega)) (y 15 (by omega) (by omega) (by omega) (by omega)), h2.c (x 20 (by omega) (by omega) (by omega)) (fun j _ _ => by rw [y2]), h3.c (by rw [x 14 (by omega) (by omega) (by omega)]) (by rw [y2]), ⟨B, ⟨hB.1, by rw [x 14 (by omega) (by omega) (by omega)]; exact hB.2.1, by rw [y 11 (by omega) (by omega) (by omega) (by omega)]; exact hB.2.2.1, fun b hb => (hB.2.2.2 b hb).c (fun k k1 k2 => by rw [x k (by omega) (by omega) (by omega)]) (fun j _ _ => by rw [y2])⟩, ?_⟩, T + 1, ⟨by omega, x42, y12, fun t ht => ?_⟩, hm⟩
  · rw [y 13 (by omega) (by omega) (by omega) (by omega)]
    unfold th at hM ⊢
    rw [y2]
    exact hM
  · by_cases q : t = T
    · rw [q]; exact dt
    · exact (hT.2.2.2 t (by omega)).c (x5 t q) (x6 t q) (x (8 + t) (by omega) (by omega) (by omega)) (fun j j1 j2 => y3 j (by omega))
theorem b17_3 {ρ : S0} (g1 : ρ 98 22 = 0) (hl : ¬ (6 : Int32) ≤ ρ 98 12) : fX11_readLine_b17 ρ 3 = fX11_readLine_b117 ρ 3 := by
  unfold fX11_readLine_b17 fX11_readLine_b30 fX11_readLine_b49 fX11_readLine_b63 fX11_readLine_b68
  rw [if_neg (by decide), needs_y _ (by decide)]
  simp only [obp]
  rw [if_pos (by decide), if_neg (by decide), if_neg hl, needs_y _ (by decide)]
  simp only
  rw [if_neg (fun q => q g1), if_pos (by decide)]
theorem b17_3f {ρ : S0} (g1 : ρ 98 22 = 0) (hl : (6 : Int32) ≤ ρ 98 12) : fX11_readLine_b17 ρ 3 = some (0, su (su ρ 98 22 5) 98 23 (ρ 98 19)) := by
  have hbad : bad (su (su ρ 98 22 5) 98 23 (ρ 98 19)) := ⟨5, by omega, by omega, by rw [su_j (by omega), su_s]; rfl⟩
  unfold fX11_readLine_b17 fX11_readLine_b30 fX11_readLine_b49 fX11_readLine_b67 fX11_readLine_b68
  rw [if_neg (by decide), needs_y _ (by decide)]
  simp only [obp]
  rw [if_pos (by decide), if_neg (by decide), if_pos hl, needs_n _ g1]
  simp only
  rw [if_pos hbad.n, hbad.b117]
theorem ln_tune {a : Nat → Nat} {n p : Nat} {σ ρ : S0} (tx : TpX a n σ) (tp : TpM a n ρ) (h : Cur a n p σ ρ) (d : DR σ ρ) (hk : tK a n p = 1) : ∃ r τ μ, fX5_readTune σ = some (r, τ) ∧ fX11_readLine_b17 ρ 3 = some (0, μ) ∧ (r = 0 ∨ r = 1) ∧ LR a n p σ ρ r τ μ := by
  obtain ⟨h1, h2, h3, h4, h5⟩ := h
  have hn := tp.1
  have hone : ¬ (1 : Int32) = 0 := by decide
  have hb := tok_b (a := a) h5
  have hlt := hb.2.2.2 (by omega)
  have hb2 := tok_b (a := a) hb.2.2.1
  obtain ⟨g1, g2, g3⟩ := h2.g h3
  obtain ⟨T, hT, hN⟩ := d.2.2.2.2.2
  have hT6 := hT.1
  have lx : σ 4 2 < 6 ↔ T < 6 := by rw [hT.2.1]; exact nI_ltI (b := 6) (by omega) (by omega)
  have lm' : (6 : Int32) ≤ ρ 98 12 ↔ 6 ≤ T := by rw [hT.2.2.1]; exact nI_leI (a := 6) (by omega) (by omega)
  unfold fX5_readTune
  by_cases cT : T < 6
  · rw [if_pos (lx.mpr cT), b17_3 g1 (fun q => by have := lm'.mp q; omega), ol_g]
    obtain ⟨μ, m1, m2, m3⟩ := b117_s h2 h3 tp h5 3
    have tp1 := tp.k m1.k
    have pe : Pend a n (tE a n p) σ μ := ⟨h1.2.1, m2, h4, hb.2.2.1⟩
    have hgt := ix_ok (j := T) (n := 6) cT (by omega)
    have hct : (nI T).toNatClampNeg = T := nI_clamp (by omega)
    have hgt2 : ¬ (nI T < 0 ∨ 6 ≤ T) := fun q => hgt (by rw [hct]; exact q)
    rcases m3 with ⟨c4, m3⟩ | ⟨c3, m3⟩
    · obtain ⟨τ, t1, t2, t3⟩ := nn_bad (lo := 0) (hi := 99) tx pe (by omega) (by omega) c4
      have t1' : fX5_nextNumber σ 0 99 = some (0, τ) := t1
      rw [t1']
      simp only [obp]
      exact ⟨0, τ, μ, by rw [if_neg (by decide)], m3, Or.inl rfl, t2.k, m1.k, t2 3 4 (by omega), Or.inr ⟨rfl, t3⟩⟩
    · obtain ⟨r1, τ1, v1, μ1, t1, t2, t3, t4, t5⟩ := rn_s (lo := 0) (hi := 99) tx tp1 pe (by omega) (by omega)
      have t1' : fX5_nextNumber σ 0 99 = some (r1, τ1) := t1
      have t2' : fX11_readNumber μ 0 99 = some (v1, μ1) := t2
      have e12 : μ 98 12 = nI T := by rw [m1 98 12 (by omega)]; exact hT.2.2.1
      have i14 : (14 : Int32) * nI T = nI (14 * T) := by rw [show (14 : Int32) = nI 14 from rfl, pk_mul]
      have hM : swM 3 μ = obp (fX11_readTune_h25 400 (su μ1 103 (14 * T) v1) (nI (14 * T)) 0 1) (fun _ σ11 => fX11_readLine_b206 σ11) := by
        rw [sw_3]
        unfold fX11_readTune
        rw [e12, i14, ol_g, t2']
        simp only [obp]
        rw [og_t (ix_ok (by omega) (by omega)), nI_clamp (by omega), ol_g]
      rw [t1', m3, hM]
      simp only [obp]
      have kρ1 := m1.k.tr t4.k
      have kμ1 : kM μ1 (su μ1 103 (14 * T) v1) := (kM.rf μ1).su (by unfold scM; omega) _
      rcases t5 with ⟨q1, o1, x, x1, x2, x3, x4, pe1⟩ | ⟨q0, q1, fl⟩
      · rw [q1, if_pos hone, hT.2.1]
        simp only [og_t hgt, og_t hgt2, hct, ol]
        have e42 : su τ1 5 T (τ1 1 5) 4 2 + 1 = nI (T + 1) := by rw [su_ne (by omega), t3 4 2 (by omega), hT.2.1, nI_1]
        rw [e42]
        have kτ1 : kX τ1 (su (su τ1 5 T (τ1 1 5)) 4 2 (nI (T + 1))) := ((kX.rf τ1).su (by unfold scX; omega) _).su (by unfold scX; omega) _
        have kσ2 := t3.k.tr kτ1
        have kρ2 := kρ1.tr kμ1
        have pe2 : Pend a n (tE a n (tE a n p)) (su (su τ1 5 T (τ1 1 5)) 4 2 (nI (T + 1))) (su μ1 103 (14 * T) v1) := pe1.o (by rw [su_ne (by omega), su_ne (by omega)]) (by rw [su_ne (by omega), su_ne (by omega)]) (fun j _ _ => su_n2 (by omega))
        have l2 : su (su τ1 5 T (τ1 1 5)) 4 2 (nI (T + 1)) 3 4 = σ 3 4 := by rw [su_ne (by omega), su_ne (by omega), t3 3 4 (by omega)]
        obtain ⟨r2, τ2, s1, s2, s3⟩ := adv_s (tx.k kσ2) pe2
        rw [s1]
        simp only
        rcases s3 with ⟨z1, z2, z3⟩ | ⟨z1, z2⟩
        · rw [z1, if_neg hone]
          have hmx : Mx 12 (su μ1 103 (14 * T) v1 98 14) (SP (sbr ρ T) T 0 (su μ1 103 (14 * T) v1)) := by
            rw [su_ne (by omega), t4 98 14 (by omega), m1 98 14 (by omega)]
            refine hN.cg (fun y hy => ⟨fun q => Or.inl q, fun q => q.elim id (fun ⟨k, k1, _⟩ => by omega)⟩)
          obtain ⟨r3, τ3, μ3, u1, u2, u3, u4, u5⟩ := str_l cT (sbr ρ T) 12 0 400 400 _ τ2 (su μ1 103 (14 * T) v1) 1 (by omega) (by omega) (by omega) (by omega) ((tx.k kσ2).k s2.k) (tp.k kρ2) z3 (Or.inl ⟨rfl, rfl⟩) ⟨fun k hk => by omega, fun q => by omega⟩ hmx
          have u1' : fX5_readStrokes τ2 (nI T) = some (r3, τ3) := u1
          have u2' : fX11_readTune_h25 400 (su μ1 103 (14 * T) v1) (nI (14 * T)) 0 1 = some (0, μ3) := u2
          rw [u1', u2']
          simp only
          have kσ3 := (kσ2.tr s2.k).tr (u3.k cT)
          have kρ3 := kρ2.tr u4.k
          have l3 : τ3 3 4 = σ 3 4 := by rw [u3 3 4 (by omega), s2 3 4 (by omega)]; exact l2
          rcases u5 with ⟨y1, k, p', y2, y3, y4, y5, y6, y7, y8, y9⟩ | ⟨y1, y2⟩
          · rw [y1, if_neg hone]
            obtain ⟨r4, τ4, μ4, w1, w2, w3, w4, w5⟩ := end_s (tx.k kσ3) (tp.k kρ3) y5
            have hb5 := tok_b (a := a) y5.2.2.2.2
            rw [w1, w2]
            simp only
            have dr : DR τ3 μ3 := d.t hT cT (fun k k1 k2 k3 => by
                have : τ3 k = τ2 k := funext fun j => u3 k j (by omega)
                rw [this, s2.c (by omega) (by omega), su_ne (by omega), su_ne (by omega), t3.c (by omega) (by omega)])
              (by rw [u3 4 0 (by omega), s2 4 0 (by omega), su_j (by omega), su_ne (by omega), t3 4 0 (by omega)])
              (by rw [u3 4 1 (by omega), s2 4 1 (by omega), su_j (by omega), su_ne (by omega), t3 4 1 (by omega)])
              (by rw [u3 4 2 (by omega), s2 4 2 (by omega), su_s])
              (fun j hj => by rw [u3 5 j (by omega), s2 5 j (by omega), su_ne (by omega), su_j hj, t3 5 j (by omega)])
              (fun j hj => by rw [u3 6 j (by omega), s2 6 j (by omega), su_ne (by omega), su_ne (by omega), t3 6 j (by omega)])
              (fun j hj => by rw [u3 3 j (by omega), s2 3 j (by omega), su_ne (by omega), su_ne (by omega), t3 3 j (by omega)])
              (fun j j1 j2 j3 j4 => by rw [u4 98 j (by omega), su_ne (by omega), t4 98 j (by omega), m1 98 j (by omega)])
              (by rw [y8, su_ne (by omega), t4 98 12 (by omega), e12, nI_1])
              (by
                have : μ3 102 = su μ1 103 (14 * T) v1 102 := funext fun j => u4 102 j (by omega)
                rw [this, su_ne (by omega), t4.c (by omega), m1.c (by omega)])
              (fun j hj => by rw [u4 103 j (by omega), su_j (by omega), t4.c (by omega), m1.c (by omega)])
              ⟨k, y2, y3, y6.2 y2, y7, ⟨x, x2, by rw [u3 5 T (by omega), s2 5 T (by omega), su_ne (by omega), su_s, x4], by rw [u4 103 (14 * T) (by omega), su_s, x3]⟩, y6.1⟩
              (y9.cg (fun y hy => by
                have e103 : ∀ j, ¬ (14 * T ≤ j ∧ j < 14 * T + 14) → μ3 103 j = ρ 103 j := fun j hj => by rw [u4 103 j (by omega), su_j (by omega), t4.c (by omega), m1.c (by omega)]
                unfold SP sbr
                constructor
                · rintro (⟨t, m, i, i1, i2, i3, i4, i5⟩ | ⟨k', k1, k2⟩)
                  · exact ⟨t, m, i, by omega, i2, by rw [e103 _ (by omega)]; exact i3, i4, by rw [e103 _ (by omega)]; exact i5⟩
                  · exact ⟨T, k, k', by omega, y3, y7, k1, k2⟩
                · rintro ⟨t, m, i, i1, i2, i3, i4, i5⟩
                  by_cases q : t = T
                  · subst q
                    have : m = k := (nI_eq (by omega) (by omega)).mp (i3.symm.trans y7)
                    exact Or.inr ⟨i, by omega, i5⟩
                  · rw [e103 _ (by omega)] at i3 i5
                    exact Or.inl ⟨t, m, i, by omega, i2, i3, i4, i5⟩))
            rcases w5 with ⟨e1, e2⟩ | ⟨e1, e2⟩
            · rw [e1, if_neg hone]
              exact ⟨1, τ4, μ4, rfl, rfl, Or.inr rfl, kσ3.tr w3.k, kρ3.tr w4.k, (w3 3 4 (by omega)).trans l3, Or.inl ⟨rfl, dr.a w3 w4, tE a n p', by omega, e2⟩⟩
            · rw [e1, if_pos rfl]
              exact ⟨0, τ4, μ4, rfl, rfl, Or.inl rfl, kσ3.tr w3.k, kρ3.tr w4.k, (w3 3 4 (by omega)).trans l3, Or.inr ⟨rfl, e2⟩⟩
          · rw [y1, if_pos rfl, y2.b.b206]
            exact ⟨0, τ3, μ3, rfl, rfl, Or.inl rfl, kσ3, kρ3, l3, Or.inr ⟨rfl, y2⟩⟩
        · obtain ⟨κ, w1, w2, w3, w4⟩ := z2.b.h25 cT 399 0 1
          have hbad : bad κ := z2.b.o w3
          rw [z1, if_pos rfl, w1]
          simp only
          rw [hbad.b206]
          exact ⟨0, τ2, κ, rfl, rfl, Or.inl rfl, kσ2.tr s2.k, kρ2.tr w2.k, (s2 3 4 (by omega)).trans l2, Or.inr ⟨rfl, z2.m w3 w4⟩⟩
      · have hbad1 : bad (su μ1 103 (14 * T) v1) := fl.b.o (su_n2 (by omega))
        obtain ⟨κ, w1, w2, w3, w4⟩ := hbad1.h25 cT 399 0 1
        have hbad : bad κ := hbad1.o w3
        rw [q0, if_neg (fun q => q rfl), w1]
        simp only
        rw [hbad.b206]
        exact ⟨0, τ1, κ, rfl, rfl, Or.inl rfl, t3.k, (kρ1.tr kμ1).tr w2.k, t3 3 4 (by omega), Or.inr ⟨rfl, fl.m (w3.trans (su_n2 (by omega))) (w4.trans (su_n2 (by omega)))⟩⟩
  · rw [if_neg (fun q => cT (lx.mp q)), b17_3f g1 (lm'.mpr (by omega)), refuse_og]
    exact ⟨0, _, _, rfl, rfl, Or.inl rfl, (refuse_o σ 5).k, ((kM.rf ρ).su (by unfold scM; omega) _).su (by unfold scM; omega) _, refuse_o σ 5 3 4 (by omega), Or.inr ⟨rfl, flt_r (f := 5) (g := 5) (pl := tS a n p) (by omega) (by omega) (by omega) h1.1 (by rw [su_j (by omega), su_s]; rfl) (by rw [su_s]; exact h2.1)⟩⟩
end
