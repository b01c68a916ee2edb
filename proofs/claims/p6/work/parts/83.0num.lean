/-! THE TEXT: both readers side by side; numbers -/
def scX (k j : Nat) : Prop := (k = 1 ∧ 2 ≤ j ∧ j ≤ 5) ∨ k = 3 ∨ (4 ≤ k ∧ k ≤ 21)
def kX (σ τ : S0) : Prop := ∀ k j, ¬ scX k j → τ k j = σ k j
theorem kX.tr {a b c : S0} (h1 : kX a b) (h2 : kX b c) : kX a c := fun k j h => (h2 k j h).trans (h1 k j h)
theorem kX.rf (a : S0) : kX a a := fun _ _ _ => rfl
theorem kX.su {a b : S0} (h : kX a b) {k j : Nat} (hk : scX k j) (v : Int32) : kX a (su b k j v) := fun x y q => by
  rw [← h x y q]
  by_cases hx : x = k
  · subst hx; exact su_j (fun z => q (by rw [z]; exact hk))
  · rw [su_ne hx]
def scM (k j : Nat) : Prop := (k = 98 ∧ (9 ≤ j ∧ j ≤ 15 ∨ 18 ≤ j ∧ j ≤ 23)) ∨ k = 102 ∨ k = 103
def kM (σ τ : S0) : Prop := ∀ k j, ¬ scM k j → τ k j = σ k j
theorem kM.tr {a b c : S0} (h1 : kM a b) (h2 : kM b c) : kM a c := fun k j h => (h2 k j h).trans (h1 k j h)
theorem kM.rf (a : S0) : kM a a := fun _ _ _ => rfl
theorem kM.su {a b : S0} (h : kM a b) {k j : Nat} (hk : scM k j) (v : Int32) : kM a (su b k j v) := fun x y q => by
  rw [← h x y q]
  by_cases hx : x = k
  · subst hx; exact su_j (fun z => q (by rw [z]; exact hk))
  · rw [su_ne hx]
theorem on8.k {a b : S0} (h : on8 a b) : kM a b := fun k j q => h k j (fun z => q (Or.inl ⟨z.1, Or.inr z.2⟩))
/-- nothing but the token, the fault and its place has changed -/
def onA (σ τ : S0) : Prop := ∀ k j, ¬ ((k = 1 ∧ 2 ≤ j ∧ j ≤ 5) ∨ (k = 3 ∧ (j = 5 ∨ j = 6))) → τ k j = σ k j
theorem onA.tr {a b c : S0} (h1 : onA a b) (h2 : onA b c) : onA a c := fun k j h => (h2 k j h).trans (h1 k j h)
theorem onA.rf (a : S0) : onA a a := fun _ _ _ => rfl
theorem on1.a {a b : S0} (h : on1 a b) : onA a b := fun k j q => h k j (fun z => q (Or.inl z))
theorem onA.k {a b : S0} (h : onA a b) : kX a b := fun k j q => h k j (fun z => q (by unfold scX; omega))
theorem onA.c {a b : S0} (h : onA a b) {k : Nat} (h1 : k ≠ 1) (h3 : k ≠ 3) : b k = a k := funext fun j => h k j (by omega)
theorem TpX.k {a : Nat → Nat} {n : Nat} {σ τ : S0} (h : TpX a n σ) (o : kX σ τ) : TpX a n τ := h.c (o 1 1 (by unfold scX; omega)) (funext fun j => o 2 j (by unfold scX; omega))
theorem TpM.k {a : Nat → Nat} {n : Nat} {σ τ : S0} (h : TpM a n σ) (o : kM σ τ) : TpM a n τ := h.c (o 98 17 (by unfold scM; omega)) (funext fun j => o 104 j (by unfold scM; omega))
theorem refuse_s (σ : S0) (x : Int32) : fX5_refuse σ x = some (0, su (su σ 3 5 x) 3 6 (σ 1 4)) := by
  unfold fX5_refuse
  simp only [ol]
  rw [su_ne (by omega)]
theorem refuse_o (σ : S0) (x : Int32) : onA σ (su (su σ 3 5 x) 3 6 (σ 1 4)) := fun k j q => by
  by_cases hk : k = 3
  · subst hk; rw [su_j (by omega), su_j (by omega)]
  · rw [su_ne hk, su_ne hk]
/-- a fault on both sides, at one place -/
def Flt (σ ρ : S0) : Prop := ∃ f g pl, (1 ≤ f ∧ f ≤ 6) ∧ (1 ≤ g ∧ g ≤ 6) ∧ pl ≤ 320 ∧ σ 3 5 = nI f ∧ ρ 98 22 = nI g ∧ σ 3 6 = nI pl ∧ ρ 98 23 = nI pl
theorem flt_r {σ ρ : S0} {f g pl : Nat} (hf : 1 ≤ f ∧ f ≤ 6) (hg : 1 ≤ g ∧ g ≤ 6) (hp : pl ≤ 320) (e4 : σ 1 4 = nI pl) (e22 : ρ 98 22 = nI g) (e23 : ρ 98 23 = nI pl) : Flt (su (su σ 3 5 (nI f)) 3 6 (σ 1 4)) ρ := ⟨f, g, pl, hf, hg, hp, by rw [su_j (by omega), su_s], e22, by rw [su_s, e4], e23⟩
/-- in the class a fault stays, whatever else is written -/
theorem Flt.m {σ ρ μ : S0} (h : Flt σ ρ) (e22 : μ 98 22 = ρ 98 22) (e23 : μ 98 23 = ρ 98 23) : Flt σ μ := by
  unfold Flt at h ⊢
  rw [e22, e23]
  exact h
theorem tok_b {a : Nat → Nat} {n p : Nat} (hp : p ≤ n) : p ≤ tS a n p ∧ tS a n p ≤ tE a n p ∧ tE a n p ≤ n ∧ (tK a n p ≠ 0 → tS a n p < tE a n p) := by
  have hs := sk_le (pB a n) (n - p) p
  have hs1 : p ≤ tS a n p := hs.1
  have hsn : tS a n p ≤ n := by show sk _ _ _ ≤ n; omega
  have hl := sk_le (pL a n) (n - tS a n p) (tS a n p)
  have hd := sk_le (pD a n) (n - tS a n p) (tS a n p)
  have hl1 : tS a n p ≤ tL a n (tS a n p) := hl.1
  have hd1 : tS a n p ≤ tD a n (tS a n p) := hd.1
  have hl2 : tL a n (tS a n p) ≤ n := by show sk _ _ _ ≤ n; omega
  have hd2 : tD a n (tS a n p) ≤ n := by show sk _ _ _ ≤ n; omega
  refine ⟨hs1, ?_⟩
  by_cases cL : pL a n (tS a n p) = true
  · have eE : tE a n p = tL a n (tS a n p) := by unfold tE; rw [if_pos cL]
    have hlt : tS a n p < tL a n (tS a n p) := by
      obtain ⟨q1, -⟩ := of_decide_eq_true cL
      obtain ⟨d, hd'⟩ : ∃ d, n - tS a n p = d + 1 := ⟨n - tS a n p - 1, by omega⟩
      have := (sk_le (pL a n) d (tS a n p + 1)).1
      show tS a n p < sk (pL a n) (n - tS a n p) (tS a n p)
      rw [hd', sk_y cL]
      omega
    rw [eE]
    exact ⟨hl1, hl2, fun _ => hlt⟩
  · by_cases cD : pD a n (tS a n p) = true
    · have eE : tE a n p = tD a n (tS a n p) := by unfold tE; rw [if_neg cL, if_pos cD]
      have hlt : tS a n p < tD a n (tS a n p) := by
        obtain ⟨q1, -⟩ := of_decide_eq_true cD
        obtain ⟨d, hd'⟩ : ∃ d, n - tS a n p = d + 1 := ⟨n - tS a n p - 1, by omega⟩
        have := (sk_le (pD a n) d (tS a n p + 1)).1
        show tS a n p < sk (pD a n) (n - tS a n p) (tS a n p)
        rw [hd', sk_y cD]
        omega
      rw [eE]
      exact ⟨hd1, hd2, fun _ => hlt⟩
    · by_cases c3 : tS a n p < n
      · have eE : tE a n p = tS a n p + 1 := by unfold tE; rw [if_neg cL, if_neg cD, if_pos c3]
        rw [eE]
        exact ⟨by omega, by omega, fun _ => by omega⟩
      · have eE : tE a n p = tS a n p := by unfold tE; rw [if_neg cL, if_neg cD, if_neg c3]
        have eK : tK a n p = 0 := by unfold tK; rw [if_neg cL, if_neg cD, if_neg c3]
        rw [eE]
        exact ⟨by omega, by omega, fun q => absurd eK q⟩
theorem tV_b {a : Nat → Nat} {n p : Nat} (ha : ∀ j, j < n → a j < 256) (h : tK a n p = 2) : tV a n p < 100 := by
  by_cases cL : pL a n (tS a n p) = true
  · have eK : tK a n p = 1 := by unfold tK; rw [if_pos cL]
    omega
  · by_cases cD : pD a n (tS a n p) = true
    · have eK : tK a n p = if tD a n (tS a n p) - tS a n p ≤ 2 then 2 else 4 := by unfold tK; rw [if_neg cL, if_pos cD]
      by_cases c2 : tD a n (tS a n p) - tS a n p ≤ 2
      · obtain ⟨v, v1, v2, -⟩ := num_2 ha cD c2
        unfold tV
        rw [← v2]
        exact v1
      · rw [if_neg c2] at eK
        omega
    · by_cases c3 : tS a n p < n
      · have eK : tK a n p = if a (tS a n p) = 59 then 3 else 4 := by unfold tK; rw [if_neg cL, if_neg cD, if_pos c3]
        by_cases c4 : a (tS a n p) = 59
        · rw [if_pos c4] at eK; omega
        · rw [if_neg c4] at eK; omega
      · have eK : tK a n p = 0 := by unfold tK; rw [if_neg cL, if_neg cD, if_neg c3]
        omega
/-- both hold the same token, no fault -/
def Cur (a : Nat → Nat) (n p : Nat) (σ ρ : S0) : Prop := tkX a n p σ ∧ tkM a n p ρ ∧ tK a n p ≤ 3 ∧ σ 3 5 = 0 ∧ p ≤ n
/-- the class has taken its token; the reference has read the next one already -/
def Pend (a : Nat → Nat) (n p : Nat) (σ ρ : S0) : Prop := σ 1 2 = nI p ∧ tkM a n p ρ ∧ σ 3 5 = 0 ∧ p ≤ n
theorem tkM.g {a : Nat → Nat} {n p : Nat} {ρ : S0} (h : tkM a n p ρ) (hk : tK a n p ≤ 3) : ρ 98 22 = 0 ∧ ρ 98 20 = nI (tK a n p) ∧ (tK a n p = 2 → ρ 98 21 = nI (tV a n p)) := by
  rcases h.2.2 with q | q
  · omega
  · exact q.2
theorem tkM.f {a : Nat → Nat} {n p : Nat} {ρ : S0} (h : tkM a n p ρ) (hk : tK a n p = 4) : ρ 98 22 = nI 1 ∧ ρ 98 23 = nI (tS a n p) := by
  rcases h.2.2 with q | q
  · exact q.2
  · omega
theorem tkM.o {a : Nat → Nat} {n p : Nat} {ρ μ : S0} (h : tkM a n p ρ) (o : ∀ j, 18 ≤ j → j ≤ 23 → μ 98 j = ρ 98 j) : tkM a n p μ := by
  unfold tkM at h ⊢
  rw [o 18 (by omega) (by omega), o 19 (by omega) (by omega), o 20 (by omega) (by omega), o 21 (by omega) (by omega), o 22 (by omega) (by omega), o 23 (by omega) (by omega)]
  exact h
theorem tkX.o {a : Nat → Nat} {n p : Nat} {ρ μ : S0} (h : tkX a n p ρ) (o : ∀ j, 2 ≤ j → j ≤ 5 → μ 1 j = ρ 1 j) : tkX a n p μ := by
  unfold tkX at h ⊢
  rw [o 2 (by omega) (by omega), o 3 (by omega) (by omega), o 4 (by omega) (by omega), o 5 (by omega) (by omega)]
  exact h
theorem adv_s {a : Nat → Nat} {n p : Nat} {σ ρ : S0} (tp : TpX a n σ) (h : Pend a n p σ ρ) : ∃ r τ, fX5_advance σ = some (r, τ) ∧ onA σ τ ∧ ((r = 1 ∧ on1 σ τ ∧ Cur a n p τ ρ) ∨ (r = 0 ∧ Flt τ ρ)) := by
  obtain ⟨h1, h2, h3, h4⟩ := h
  have hn := tp.1
  obtain ⟨τ, t1, t2, t3⟩ := rtok_s tp h4 h1
  have hb := tok_b (a := a) h4
  have hk4 := tK_4 a n p
  have e4 : τ 1 3 = 4 ↔ tK a n p = 4 := by rw [t3.2.2.1]; exact nI_eq (b := 4) (by omega) (by omega)
  unfold fX5_advance fX5_advance_b26
  rw [t1]
  simp only [obp]
  by_cases c : tK a n p = 4
  · rw [if_neg (fun q => q (e4.mpr c)), refuse_s]
    simp only
    rw [if_pos (by decide)]
    refine ⟨0, _, rfl, t2.a.tr (refuse_o τ 1), Or.inr ⟨rfl, ?_⟩⟩
    exact flt_r (f := 1) (g := 1) (pl := tS a n p) (by omega) (by omega) (by omega) t3.1 (h2.f c).1 (h2.f c).2
  · rw [if_pos (fun q => c (e4.mp q))]
    exact ⟨1, τ, rfl, t2.a, Or.inl ⟨rfl, t2, t3, h2, by omega, by rw [t2.c (by omega)]; exact h3, h4⟩⟩
/-- the class asks for a number -/
theorem nn_s {a : Nat → Nat} {n p lo hi : Nat} {σ : S0} (tp : TpX a n σ) (hp : p ≤ n) (e : σ 1 2 = nI p) (hhi : hi ≤ 99) (hlo : lo ≤ 99) : ∃ r τ, fX5_nextNumber σ (nI lo) (nI hi) = some (r, τ) ∧ onA σ τ ∧ ((r = 1 ∧ on1 σ τ ∧ tkX a n p τ ∧ tK a n p = 2 ∧ lo ≤ tV a n p ∧ tV a n p ≤ hi) ∨ (r = 0 ∧ τ 3 6 = nI (tS a n p) ∧ (∃ f, (1 ≤ f ∧ f ≤ 6) ∧ τ 3 5 = nI f) ∧ ¬ (tK a n p = 2 ∧ lo ≤ tV a n p ∧ tV a n p ≤ hi))) := by
  have hn := tp.1
  obtain ⟨τ, t1, t2, t3⟩ := rtok_s tp hp e
  have hk4 := tK_4 a n p
  have e4 : τ 1 3 = 4 ↔ tK a n p = 4 := by rw [t3.2.2.1]; exact nI_eq (b := 4) (by omega) (by omega)
  have e2 : τ 1 3 = 2 ↔ tK a n p = 2 := by rw [t3.2.2.1]; exact nI_eq (b := 2) (by omega) (by omega)
  have bad : ∀ f : Nat, 1 ≤ f → f ≤ 6 → fX5_faultOfNumber τ (nI lo) (nI hi) = some (nI f, τ) → ¬ (tK a n p = 2 ∧ lo ≤ tV a n p ∧ tV a n p ≤ hi) → ∃ r ν, fX5_nextNumber σ (nI lo) (nI hi) = some (r, ν) ∧ onA σ ν ∧ ((r = 1 ∧ on1 σ ν ∧ tkX a n p ν ∧ tK a n p = 2 ∧ lo ≤ tV a n p ∧ tV a n p ≤ hi) ∨ (r = 0 ∧ ν 3 6 = nI (tS a n p) ∧ (∃ f, (1 ≤ f ∧ f ≤ 6) ∧ ν 3 5 = nI f) ∧ ¬ (tK a n p = 2 ∧ lo ≤ tV a n p ∧ tV a n p ≤ hi))) := fun f f1 f2 ef hno => by
    unfold fX5_nextNumber fX5_nextNumber_b26
    rw [t1]
    simp only [obp]
    rw [ef]
    simp only
    rw [if_neg (nI_ne0 (by omega) (by omega)), refuse_s]
    simp only
    rw [if_pos (by decide)]
    refine ⟨0, _, rfl, t2.a.tr (refuse_o τ _), Or.inr ⟨rfl, by rw [su_s, t3.1], ⟨f, ⟨f1, f2⟩, by rw [su_j (by omega), su_s]⟩, hno⟩⟩
  by_cases c4 : tK a n p = 4
  · refine bad 1 (by omega) (by omega) ?_ (by omega)
    unfold fX5_faultOfNumber
    rw [if_neg (fun q => q (e4.mpr c4))]
    rfl
  · by_cases c2 : tK a n p = 2
    · have hv := tV_b (fun j hj => (tp.2.2 j hj).1) c2
      have e5 := t3.2.2.2 c2
      have l1 : τ 1 5 < nI lo ↔ tV a n p < lo := by rw [e5]; exact nI_ltI (by omega) (by omega)
      have l2 : τ 1 5 ≤ nI hi ↔ tV a n p ≤ hi := by rw [e5]; exact nI_leI (by omega) (by omega)
      by_cases c5 : tV a n p < lo
      · refine bad 3 (by omega) (by omega) ?_ (by omega)
        unfold fX5_faultOfNumber fX5_faultOfNumber_b48
        rw [if_pos (fun q => c4 (e4.mp q)), if_pos (e2.mpr c2), if_pos (l1.mpr c5)]
        rfl
      · by_cases c6 : tV a n p ≤ hi
        · refine ⟨1, τ, ?_, t2.a, Or.inl ⟨rfl, t2, t3, c2, by omega, c6⟩⟩
          unfold fX5_nextNumber fX5_nextNumber_b26 fX5_faultOfNumber
          rw [t1]
          simp only [obp]
          rw [if_pos (fun q => c4 (e4.mp q)), if_pos (e2.mpr c2), if_neg (fun q => c5 (l1.mp q)), if_pos (l2.mpr c6)]
          simp only
          rw [if_pos (by decide)]
        · refine bad 3 (by omega) (by omega) ?_ (by omega)
          unfold fX5_faultOfNumber fX5_faultOfNumber_b48
          rw [if_pos (fun q => c4 (e4.mp q)), if_pos (e2.mpr c2), if_neg (fun q => c5 (l1.mp q)), if_neg (fun q => c6 (l2.mp q))]
          rfl
    · refine bad 2 (by omega) (by omega) ?_ (by omega)
      unfold fX5_faultOfNumber
      rw [if_pos (fun q => c4 (e4.mp q)), if_neg (fun q => c2 (e2.mp q))]
      rfl
/-- the reference looks at its number -/
theorem lk_s {a : Nat → Nat} {n p lo hi : Nat} {ρ : S0} (tm : tkM a n p ρ) (tp : TpM a n ρ) (hhi : hi ≤ 99) (hlo : lo ≤ 99) : ∃ v μ, fX11_looked ρ (nI lo) (nI hi) = some (v, μ) ∧ on8 ρ μ ∧ ((tK a n p = 2 ∧ lo ≤ tV a n p ∧ tV a n p ≤ hi ∧ v = nI (tV a n p) ∧ μ = ρ) ∨ (¬ (tK a n p = 2 ∧ lo ≤ tV a n p ∧ tV a n p ≤ hi) ∧ v = 0 ∧ (∃ g, (1 ≤ g ∧ g ≤ 6) ∧ μ 98 22 = nI g) ∧ μ 98 23 = nI (tS a n p))) := by
  have hk4 := tK_4 a n p
  by_cases c4 : tK a n p = 4
  · obtain ⟨f1, f2⟩ := tm.f c4
    have f0 : ¬ ρ 98 22 = 0 := by rw [f1]; exact nI_ne0 (by omega) (by omega)
    refine ⟨0, ρ, ?_, on8.rf ρ, Or.inr ⟨by omega, rfl, ⟨1, by omega, f1⟩, f2⟩⟩
    unfold fX11_looked fX11_looked_b25 fX11_looked_b49
    rw [if_pos f0, if_pos f0, if_pos f0]
  · obtain ⟨g1, g2, g3⟩ := tm.g (by omega)
    have n0 : ¬ ¬ ρ 98 22 = 0 := fun q => q g1
    have e2 : ρ 98 20 = 2 ↔ tK a n p = 2 := by rw [g2]; exact nI_eq (b := 2) (by omega) (by omega)
    have faulted : ∀ c : Nat, 1 ≤ c → c ≤ 6 → ∀ μ, μ = su (su ρ 98 22 (nI c)) 98 23 (ρ 98 19) → on8 ρ μ ∧ ¬ μ 98 22 = 0 ∧ (∃ g, (1 ≤ g ∧ g ≤ 6) ∧ μ 98 22 = nI g) ∧ μ 98 23 = nI (tS a n p) := fun c c1 c2 μ hμ => by
      have e22 : μ 98 22 = nI c := by rw [hμ, su_j (by omega), su_s]
      refine ⟨by rw [hμ]; exact ((on8.rf ρ).su (by omega) _).su (by omega) _, by rw [e22]; exact nI_ne0 (by omega) (by omega), ⟨c, ⟨c1, c2⟩, e22⟩, by rw [hμ, su_s]; exact tm.1⟩
    by_cases c2 : tK a n p = 2
    · have hv := tV_b (fun j hj => (tp.2.2 j hj).1) c2
      have g5 := g3 c2
      have hin : fX11_in ρ ((ρ 98 21).toInt64) ((nI lo).toInt64) ((nI hi).toInt64) = some (if lo ≤ tV a n p ∧ tV a n p ≤ hi then 1 else 0, ρ) := by
        rw [g5, in_i ρ (nI (tV a n p)) _ _ lo hi (by rw [Int32.toInt_toInt64, ir (by omega)]) (by rw [Int32.toInt_toInt64, ir (by omega)]), ir (by omega)]
        by_cases q : lo ≤ tV a n p ∧ tV a n p ≤ hi
        · rw [if_pos q, if_pos (by omega)]
        · rw [if_neg q, if_neg (by omega)]
      have e1 : fX11_looked ρ (nI lo) (nI hi) = obp (fX11_needs ρ (if lo ≤ tV a n p ∧ tV a n p ≤ hi then 1 else 0) 3) (fun _ σ6 => fX11_looked_b49 σ6) := by
        unfold fX11_looked fX11_looked_b21 fX11_looked_b25
        rw [if_neg n0, if_neg (fun q => q (e2.mpr c2)), needs_y _ (by decide)]
        simp only [obp]
        rw [if_neg n0, hin]
      rw [e1]
      by_cases q : lo ≤ tV a n p ∧ tV a n p ≤ hi
      · refine ⟨nI (tV a n p), ρ, ?_, on8.rf ρ, Or.inl ⟨c2, q.1, q.2, rfl, rfl⟩⟩
        rw [if_pos q, needs_y _ (by decide)]
        simp only [obp]
        unfold fX11_looked_b49
        rw [if_neg n0, g5]
      · obtain ⟨w1, w2, w3, w4⟩ := faulted 3 (by omega) (by omega) _ rfl
        refine ⟨0, _, ?_, w1, Or.inr ⟨fun z => q z.2, rfl, w3, w4⟩⟩
        rw [if_neg q, needs_n _ g1]
        simp only [obp]
        unfold fX11_looked_b49
        exact if_pos w2
    · obtain ⟨w1, w2, w3, w4⟩ := faulted 2 (by omega) (by omega) _ rfl
      refine ⟨0, _, ?_, w1, Or.inr ⟨fun z => c2 z.1, rfl, w3, w4⟩⟩
      unfold fX11_looked fX11_looked_b21 fX11_looked_b25 fX11_looked_b49
      rw [if_neg n0, if_pos (fun q => c2 (e2.mp q)), needs_n _ g1]
      simp only [obp]
      exact (if_pos w2).trans (if_pos w2)
/-- the reference goes on behind a token that it has taken -/
theorem nx_s {a : Nat → Nat} {n p : Nat} {ρ : S0} (tm : tkM a n p ρ) (hk : tK a n p ≤ 3) (tp : TpM a n ρ) (hp : p ≤ n) : ∃ μ, fX11_next ρ = some (0, μ) ∧ on8 ρ μ ∧ tkM a n (tE a n p) μ := next_s tp (tok_b hp).2.2.1 tm.2.1 (tm.g hk).1
/-- a number is read on both sides -/
theorem rn_s {a : Nat → Nat} {n p lo hi : Nat} {σ ρ : S0} (tx : TpX a n σ) (tp : TpM a n ρ) (h : Pend a n p σ ρ) (hhi : hi ≤ 99) (hlo : lo ≤ 99) : ∃ r τ v μ, fX5_nextNumber σ (nI lo) (nI hi) = some (r, τ) ∧ fX11_readNumber ρ (nI lo) (nI hi) = some (v, μ) ∧ onA σ τ ∧ on8 ρ μ ∧ ((r = 1 ∧ on1 σ τ ∧ ∃ x, lo ≤ x ∧ x ≤ hi ∧ v = nI x ∧ τ 1 5 = nI x ∧ Pend a n (tE a n p) τ μ) ∨ (r = 0 ∧ v = 0 ∧ Flt τ μ)) := by
  obtain ⟨h1, h2, h3, h4⟩ := h
  have hn := tp.1
  have hb := tok_b (a := a) h4
  obtain ⟨r, τ, t1, t2, t3⟩ := nn_s tx h4 h1 hhi hlo
  obtain ⟨v, μ, m1, m2, m3⟩ := lk_s h2 tp hhi hlo
  rcases t3 with ⟨r1, o1, k1, k2, k3, k4⟩ | ⟨r0, p0, ⟨f, f1, f2⟩, hno⟩
  · rcases m3 with ⟨z1, z2, z3, z4, z5⟩ | ⟨z1, -⟩
    · subst z5
      obtain ⟨ν, v1, v2, v3⟩ := nx_s h2 (by omega) tp h4
      refine ⟨r, τ, v, ν, t1, ?_, t2, v2, Or.inl ⟨r1, o1, tV a n p, k3, k4, z4, k1.2.2.2 k2, k1.2.1, v3, by rw [o1.c (by omega)]; exact h3, hb.2.2.1⟩⟩
      unfold fX11_readNumber
      rw [m1]
      simp only [obp]
      rw [v1]
    · exact absurd ⟨k2, k3, k4⟩ z1
  · rcases m3 with ⟨z1, z2, z3, -⟩ | ⟨z1, z2, ⟨g, g1, g2⟩, z4⟩
    · exact absurd ⟨z1, z2, z3⟩ hno
    · refine ⟨r, τ, v, μ, t1, ?_, t2, m2, Or.inr ⟨r0, z2, f, g, tS a n p, f1, g1, by omega, f2, g2, p0, z4⟩⟩
      unfold fX11_readNumber
      rw [m1]
      simp only [obp]
      rw [next_f g1.1 g1.2 g2]
/-- the class meets a token that is none -/
theorem nn_bad {a : Nat → Nat} {n p lo hi : Nat} {σ ρ : S0} (tx : TpX a n σ) (h : Pend a n p σ ρ) (hhi : hi ≤ 99) (hlo : lo ≤ 99) (hk : tK a n p = 4) : ∃ τ, fX5_nextNumber σ (nI lo) (nI hi) = some (0, τ) ∧ onA σ τ ∧ Flt τ ρ := by
  obtain ⟨h1, h2, h3, h4⟩ := h
  have hn := tx.1
  have hb := tok_b (a := a) h4
  obtain ⟨r, τ, t1, t2, t3⟩ := nn_s tx h4 h1 hhi hlo
  rcases t3 with ⟨r1, o1, k1, k2, -⟩ | ⟨r0, p0, ⟨f, f1, f2⟩, hno⟩
  · omega
  · exact ⟨τ, by rw [t1, r0], t2, f, 1, tS a n p, f1, by omega, by omega, f2, (h2.f hk).1, p0, (h2.f hk).2⟩
