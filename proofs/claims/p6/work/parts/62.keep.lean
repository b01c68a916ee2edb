theorem up_ne {σ : S0} {k x : Nat} {f : Nat → Int32} (h : x ≠ k) : va_up σ k f x = σ x := by unfold va_up; rw [if_neg h]
theorem up_s {σ : S0} {k : Nat} {f : Nat → Int32} : va_up σ k f k = f := by unfold va_up; rw [if_pos rfl]
theorem n12 : (12 : Int32).toNatClampNeg = 12 := by decide
theorem n6 : (6 : Int32).toNatClampNeg = 6 := by decide
/-- n values of cell k1 into cell k -/
def cpa (σ : S0) (k k1 n : Nat) : S0 := va_up σ k (va_cpy (σ k1) (σ k) 0 0 n)
theorem cpa_ne {σ : S0} {k k1 n x : Nat} (h : x ≠ k) : cpa σ k k1 n x = σ x := up_ne h
theorem cpa_in {σ : S0} {k k1 n j : Nat} (h : j < n) : cpa σ k k1 n k j = σ k1 j := by
  unfold cpa
  rw [up_s]
  unfold va_cpy
  rw [if_pos (by omega)]
  congr 1
  omega
def c6s (σ : S0) (k k1 : Nat) : S0 := cpa (cpa (cpa (cpa (cpa (cpa (su σ k 0 (σ k1 0)) (k + 1) (k1 + 1) 12) (k + 2) (k1 + 2) 12) (k + 3) (k1 + 3) 12) (k + 4) (k1 + 4) 12) (k + 5) (k1 + 5) 12) (k + 6) (k1 + 6) 6
def c7s (σ : S0) (k k1 : Nat) : S0 := cpa (su (c6s σ k k1) k 7 (c6s σ k k1 k1 7)) (k + 7) (k1 + 7) 12
theorem copyFrom_e (σ : S0) (k k1 : Nat) : fX1_copyFrom σ k k1 = some (0, c7s σ k k1) := by
  unfold fX1_copyFrom
  rw [n12, n6]
  rfl
theorem c7s_o {σ : S0} {k k1 x : Nat} (h : x < k ∨ k + 7 < x) : c7s σ k k1 x = σ x := by
  unfold c7s c6s
  simp (disch := omega) only [cpa_ne, su_ne]
theorem c6s_1 {σ : S0} {k k1 x : Nat} (h : x < k ∨ k + 7 < x) : c6s σ k k1 x = σ x := by
  unfold c6s
  simp (disch := omega) only [cpa_ne, su_ne]
theorem c7s_0 {σ : S0} {k k1 : Nat} (h : k + 7 < k1 ∨ k1 + 7 < k) : c7s σ k k1 k 0 = σ k1 0 := by
  unfold c7s
  rw [cpa_ne (by omega), su_j (by omega)]
  unfold c6s
  simp (disch := omega) only [cpa_ne, su_s]
theorem c7s_7 {σ : S0} {k k1 : Nat} (h : k + 7 < k1 ∨ k1 + 7 < k) : c7s σ k k1 k 7 = σ k1 7 := by
  unfold c7s
  rw [cpa_ne (by omega), su_s, c6s_1 (by omega)]
theorem c7s_d {σ : S0} {k k1 : Nat} (h : k + 7 < k1 ∨ k1 + 7 < k) {d j : Nat} (h1 : 1 ≤ d) (h2 : d ≤ 7) (h6 : d ≠ 6) (hj : j < 12) : c7s σ k k1 (k + d) j = σ (k1 + d) j := by
  unfold c7s
  by_cases h7 : d = 7
  · subst h7
    rw [cpa_in hj, su_ne (by omega), c6s_1 (by omega)]
  · rw [cpa_ne (by omega), su_ne (by omega)]
    unfold c6s
    rcases (show d = 1 ∨ d = 2 ∨ d = 3 ∨ d = 4 ∨ d = 5 by omega) with rfl | rfl | rfl | rfl | rfl <;> simp (disch := omega) only [cpa_ne, su_ne, cpa_in]
theorem c7s_6 {σ : S0} {k k1 : Nat} (h : k + 7 < k1 ∨ k1 + 7 < k) {j : Nat} (hj : j < 6) : c7s σ k k1 (k + 6) j = σ (k1 + 6) j := by
  unfold c7s
  rw [cpa_ne (by omega), su_ne (by omega)]
  unfold c6s
  simp (disch := omega) only [cpa_ne, su_ne, cpa_in]
def cpd (σ : S0) (a b i : Nat) : S0 := fun x y => if x = 99 ∧ a + i ≤ y ∧ y < a + 80 then σ 99 (b + (y - a)) else σ x y
theorem cpd_su {σ : S0} {a b i : Nat} (h : i < 80) (hab : a + 80 ≤ b ∨ b + 80 ≤ a) : cpd (su σ 99 (a + i) (σ 99 (b + i))) a b (i + 1) = cpd σ a b i := by
  funext x y
  unfold cpd
  by_cases hx : x = 99 ∧ a + i ≤ y ∧ y < a + 80
  · rw [if_pos hx]
    by_cases hy : y = a + i
    · rw [if_neg (by omega), hx.1, hy, su_s]
      congr 1
      omega
    · rw [if_pos (by omega), su_j (by omega)]
  · rw [if_neg hx, if_neg (by omega)]
    by_cases h9 : x = 99
    · rw [h9, su_j (by omega)]
    · rw [su_ne h9]
theorem cpd_n (σ : S0) (a b : Nat) : cpd σ a b 80 = σ := by
  funext x y
  unfold cpd
  rw [if_neg (by omega)]
theorem copies_l {a b : Nat} (ha : a + 80 ≤ 240) (hb : b + 80 ≤ 240) (hab : a + 80 ≤ b ∨ b + 80 ≤ a) : ∀ (d i m : Nat) (σ : S0), 80 - i = d → i ≤ 80 → d < m → fX11_copies_h2 m σ (nI a) (nI b) (nI i) = some (0, cpd σ a b i) := by
  intro d
  induction d with
  | zero =>
    intro i m σ h1 h2 h3
    obtain ⟨m, rfl⟩ : ∃ q, m = q + 1 := ⟨m - 1, by omega⟩
    have : i = 80 := by omega
    subst this
    show fX11_copies_b2 _ _ _ _ _ = _
    unfold fX11_copies_b2
    rw [if_pos (show (80 : Int32) ≤ nI 80 from by decide), cpd_n]
  | succ d ih =>
    intro i m σ h1 h2 h3
    obtain ⟨m, rfl⟩ : ∃ q, m = q + 1 := ⟨m - 1, by omega⟩
    show fX11_copies_b2 _ _ _ _ _ = _
    unfold fX11_copies_b2
    rw [if_neg (show ¬ ((80 : Int32) ≤ nI i) from nI_ge (b := 80) (by omega) (by omega))]
    simp only [ol]
    rw [nI_add b i, nI_add a i, og_t (ix_ok (by omega) (by omega)), og_t (ix_ok (by omega) (by omega)), nI_clamp (by omega), nI_clamp (by omega), nI_1, ih (i + 1) m _ (by omega) (by omega) (by omega), cpd_su (by omega) hab]
theorem copies_s (σ : S0) {a b : Nat} (ha : a + 80 ≤ 240) (hb : b + 80 ≤ 240) (hab : a + 80 ≤ b ∨ b + 80 ≤ a) : fX11_copies σ (nI a) (nI b) = some (0, cpd σ a b 0) := copies_l ha hb hab 80 0 400 σ (by omega) (by omega) (by omega)
theorem copies_0 (σ : S0) {a : Nat} (ha : a + 80 ≤ 240) (hab : 80 ≤ a) : fX11_copies σ (nI a) 0 = some (0, cpd σ a 0 0) := copies_s σ (b := 0) ha (by omega) (by omega)
theorem copies_1 (σ : S0) {b : Nat} (hb : b + 80 ≤ 240) (hab : 80 ≤ b) : fX11_copies σ 0 (nI b) = some (0, cpd σ 0 b 0) := copies_s σ (a := 0) (by omega) hb (by omega)
theorem cpd_ne {σ : S0} {a b i x : Nat} (h : x ≠ 99) : cpd σ a b i x = σ x := by
  funext y
  unfold cpd
  rw [if_neg (fun q => h q.1)]
theorem cpd_in {σ : S0} {a b j : Nat} (h : j < 80) : cpd σ a b 0 99 (a + j) = σ 99 (b + j) := by
  unfold cpd
  rw [if_pos (by omega)]
  congr 1
  omega
theorem cpd_out {σ : S0} {a b i y : Nat} (h : y < a ∨ a + 80 ≤ y) : cpd σ a b i 99 y = σ 99 y := by
  unfold cpd
  rw [if_neg (by omega)]
theorem Rk.cp {σ τ : S0} {k k1 o o1 B : Nat} (h : Rk σ k1 99 o1 B) (hB : B ≤ 12) (t0 : τ k 0 = σ k1 0) (t7 : τ k 7 = σ k1 7) (td : ∀ d j, 1 ≤ d → d ≤ 7 → d ≠ 6 → j < 12 → τ (k + d) j = σ (k1 + d) j) (t6 : ∀ j, j < 6 → τ (k + 6) j = σ (k1 + 6) j) (tm : ∀ j, j < 80 → τ 99 (o + j) = σ 99 (o1 + j)) : Rk τ k 99 o B := by
  obtain ⟨h1, h2, h3, h4, h5⟩ := h
  have tq : ∀ i i1 j, j < 80 → i = o + j → i1 = o1 + j → τ 99 i = σ 99 i1 := fun i i1 j hj e1 e2 => by rw [e1, e2]; exact tm j hj
  refine ⟨t0.trans h1, fun b hb => ?_, fun x hx => ?_, ?_, fun j hj hl => ?_⟩
  · obtain ⟨a1, a2, a3, a4, a5⟩ := h2 b hb
    exact ⟨by rw [td 1 b (by omega) (by omega) (by omega) (by omega), tq _ (o1 + 5 * b) (5 * b) (by omega) rfl rfl]; exact a1, by rw [td 2 b (by omega) (by omega) (by omega) (by omega), tq _ (o1 + 5 * b + 1) (5 * b + 1) (by omega) (by omega) (by omega)]; exact a2, by rw [td 3 b (by omega) (by omega) (by omega) (by omega), tq _ (o1 + 5 * b + 2) (5 * b + 2) (by omega) (by omega) (by omega)]; exact a3, by rw [td 4 b (by omega) (by omega) (by omega) (by omega), tq _ (o1 + 5 * b + 3) (5 * b + 3) (by omega) (by omega) (by omega)]; exact a4, by rw [td 5 b (by omega) (by omega) (by omega) (by omega), tq _ (o1 + 5 * b + 4) (5 * b + 4) (by omega) (by omega) (by omega)]; exact a5⟩
  · rw [t6 x hx, tq _ (o1 + 60 + x) (60 + x) (by omega) (by omega) (by omega)]; exact h3 x hx
  · rw [t7, tq _ (o1 + 66) 66 (by omega) rfl rfl]; exact h4
  · rw [tq _ (o1 + 66) 66 (by omega) rfl rfl] at hl
    rw [td 7 j (by omega) (by omega) (by omega) hj, tq _ (o1 + 67 + j) (67 + j) (by omega) (by omega) (by omega)]; exact h5 j hj hl
theorem Mk.cp {σ τ : S0} {o o1 H B : Nat} (h : Mk σ 99 o1 H B) (hB : B ≤ 12) (tm : ∀ j, j < 80 → τ 99 (o + j) = σ 99 (o1 + j)) : Mk τ 99 o H B := by
  have tq : ∀ i i1 j, j < 80 → i = o + j → i1 = o1 + j → τ 99 i = σ 99 i1 := fun i i1 j hj e1 e2 => by rw [e1, e2]; exact tm j hj
  obtain ⟨⟨n, n1, n2, n3⟩, h2, fo, f1, f2, f3, f4⟩ := h
  refine ⟨⟨n, n1, by rw [tq _ (o1 + 66) 66 (by omega) rfl rfl]; exact n2, fun j hj => ?_⟩, fun b hb => ?_, fo, fun x hx => ⟨(f1 x hx).1, by rw [tq _ (o1 + 60 + x) (60 + x) (by omega) (by omega) (by omega)]; exact (f1 x hx).2⟩, f2, f3, f4⟩
  · rw [tq _ (o1 + 67 + j) (67 + j) (by omega) (by omega) (by omega)]; exact n3 j hj
  · have := h2 b hb
    rw [tq _ (o1 + 5 * b) (5 * b) (by omega) rfl rfl, tq _ (o1 + 5 * b + 1) (5 * b + 1) (by omega) (by omega) (by omega), tq _ (o1 + 5 * b + 2) (5 * b + 2) (by omega) (by omega) (by omega), tq _ (o1 + 5 * b + 3) (5 * b + 3) (by omega) (by omega) (by omega), tq _ (o1 + 5 * b + 4) (5 * b + 4) (by omega) (by omega) (by omega)]
    exact this
theorem R_keep {σ ν : S0} {H G B T k : Nat} (h : Rall σ H G B T) (hk : k < 2) (ta : ∀ x, x ≠ 72 → x ≠ 99 → x ≠ 100 → (x < 74 + 8 * k ∨ 81 + 8 * k < x) → ν x = σ x) (tb : ν 72 k = 1 ∧ ν 100 k = 1) (tc : ∀ i, i ≠ k → ν 72 i = σ 72 i ∧ ν 100 i = σ 100 i) (td : ∀ i, i < 80 * (k + 1) ∨ 80 * (k + 1) + 80 ≤ i → ν 99 i = σ 99 i) (hr : Rk ν (74 + 8 * k) 99 (80 * (k + 1)) B) (hm2 : Mk ν 99 (80 * (k + 1)) H B) : Rall ν H G B T := by
  obtain ⟨hn, hk0, hm, ht, hi, hp, hs, hf, hq⟩ := h
  have hB := hn.1.2.2.2.1
  have hT := hn.1.2.2.2.2
  have tl : ∀ x, x < 72 → ν x = σ x := fun x hx => ta x (by omega) (by omega) (by omega) (by omega)
  have th : ∀ x, 89 < x → x ≠ 99 → x ≠ 100 → ν x = σ x := fun x hx h1 h2 => ta x (by omega) h1 h2 (by omega)
  have t98 := th 98 (by omega) (by omega) (by omega)
  refine ⟨hn.c (by rw [t98]) (by rw [t98]) (by rw [t98]) (by rw [t98]) (tl 22 (by omega)), hk0.c (fun d hd => tl _ (by omega)) (fun i h1 h2 => td i (by omega)) hB, hm.c (fun i h1 h2 => td i (by omega)) hB, ht.c (th _ (by omega) (by omega) (by omega)) (tl _ (by omega)) (tl _ (by omega)) (fun t h => tl _ (by omega)), fun i hi2 => ?_, hp.c (by rw [tl 1 (by omega)]) (by rw [t98]) (th _ (by omega) (by omega) (by omega)) (tl _ (by omega)), hs.c (th _ (by omega) (by omega) (by omega)) (th _ (by omega) (by omega) (by omega)) (th _ (by omega) (by omega) (by omega)) (fun x h1 h2 => th _ (by omega) (by omega) (by omega)), by rw [tl 3 (by omega), t98]; exact hf, by rw [tl 0 (by omega), t98]; exact hq⟩
  by_cases hik : i = k
  · subst hik
    exact Or.inr ⟨tb.2, tb.1, hr, hm2⟩
  · rw [(tc i hik).1, (tc i hik).2]
    rcases hi i hi2 with a | ⟨a1, a2, a3, a4⟩
    · exact Or.inl a
    · exact Or.inr ⟨a1, a2, a3.c (fun d hd => ta _ (by omega) (by omega) (by omega) (by omega)) (fun j h1 h2 => td j (by omega)) hB, a4.c (fun j h1 h2 => td j (by omega)) hB⟩
theorem R_back {σ ν : S0} {H G B T : Nat} (h : Rall σ H G B T) (ta : ∀ x, x ≠ 99 → (x < 32 ∨ 39 < x) → ν x = σ x) (td : ∀ i, 80 ≤ i → ν 99 i = σ 99 i) (hr : Rk ν 32 99 0 B) (hm2 : Mk ν 99 0 H B) : Rall ν H G B T := by
  obtain ⟨hn, hk0, hm, ht, hi, hp, hs, hf, hq⟩ := h
  have hB := hn.1.2.2.2.1
  have hT := hn.1.2.2.2.2
  have t98 := ta 98 (by omega) (by omega)
  exact ⟨hn.c (by rw [t98]) (by rw [t98]) (by rw [t98]) (by rw [t98]) (ta 22 (by omega) (by omega)), hr, hm2, ht.c (ta _ (by omega) (by omega)) (ta _ (by omega) (by omega)) (ta _ (by omega) (by omega)) (fun t h => ta _ (by omega) (by omega)), hi.c (ta _ (by omega) (by omega)) (ta _ (by omega) (by omega)) (fun x h1 h2 => ta _ (by omega) (by omega)) (fun i h1 h2 => td i (by omega)) hB, hp.c (by rw [ta 1 (by omega) (by omega)]) (by rw [t98]) (ta _ (by omega) (by omega)) (ta _ (by omega) (by omega)), hs.c (ta _ (by omega) (by omega)) (ta _ (by omega) (by omega)) (ta _ (by omega) (by omega)) (fun x h1 h2 => ta _ (by omega) (by omega)), by rw [ta 3 (by omega) (by omega), t98]; exact hf, by rw [ta 0 (by omega) (by omega), t98]; exact hq⟩
theorem x80 (k : Nat) : (80 : Int32) * (nI k + 1) = nI (80 * (k + 1)) := by
  rw [nI_1, show (80 : Int32) = nI 80 from rfl, pk_mul]
theorem sim_keep (x : Int32) : Sim (fun σ => fX10_keep σ x) (fun σ => fX11_keep σ x) := by
  refine Sim.of2 (fun σ ρ => rx_fX10_keep ρ σ x) (fun σ ρ => rm_fX11_keep σ ρ x) (fun σ hR => ?_)
  show Two (fX10_keep σ x) (fX11_keep σ x) _
  obtain ⟨H, G, B, T, h⟩ := id hR
  have hB := h.1.1.2.2.2.1
  rcases ixc x 2 (by omega) with ⟨k, hk, rfl⟩ | hx
  · have hg := ix_ok (j := k) (n := 2) (by omega) (by omega)
    have hc : (nI k).toNatClampNeg = k := nI_clamp (by omega)
    have hg2 : ¬ (nI k < 0 ∨ 2 ≤ k) := fun q => hg (by rw [hc]; exact q)
    have hv : vp_nar .boolean 1 = 1 := rfl
    have hone : ¬ (1 : Int32) = 0 := by decide
    have hX : ∀ t, fX10_keep_b23 σ (nI k) t = some (t, su (c7s σ (74 + 8 * k) 32) 72 k 1) := fun t => by
      unfold fX10_keep_b23
      simp only [og_t hg, og_t hg2, ol, hc, copyFrom_e, obp, hv]
    have hX2 : fX10_keep σ (nI k) = some (if σ 72 k = 0 then 0 else 1, su (c7s σ (74 + 8 * k) 32) 72 k 1) := by
      unfold fX10_keep
      rw [xi_s, ir (by omega), if_pos (by omega)]
      simp only [obp, ol, og_t hg, og_t hg2, hc, hX]
      rw [if_pos hone]
      by_cases c : σ 72 k = 0
      · rw [if_pos c, if_pos c]
      · rw [if_neg c, if_neg c]
    have hM2 : fX11_keep σ (nI k) = some (if σ 100 k = 0 then 0 else 1, cpd (su σ 100 k 1) (80 * (k + 1)) 0 0) := by
      unfold fX11_keep fX11_flag
      rw [in_i σ (nI k) 0 1 0 1 rfl rfl, ir (by omega), if_pos (by omega)]
      simp only [obp, ol, og_t hg, og_t hg2, hc, hv, x80]
      rw [if_pos hone]
      by_cases c : σ 100 k = 0
      · simp only [if_pos c, copies_0 _ (a := 80 * (k + 1)) (by omega) (by omega)]
      · simp only [if_neg c, copies_0 _ (a := 80 * (k + 1)) (by omega) (by omega)]
    have hi := h.2.2.2.2.1 k hk
    refine ⟨_, _, _, _, hX2, hM2, ?_, H, G, B, T, ?_⟩
    · rcases hi with ⟨a1, a2⟩ | ⟨a1, a2, -⟩
      · rw [a1, a2]
      · rw [a1, a2]
    · have ml : ∀ y, y < 98 → mix (su (c7s σ (74 + 8 * k) 32) 72 k 1) (cpd (su σ 100 k 1) (80 * (k + 1)) 0 0) y = su (c7s σ (74 + 8 * k) 32) 72 k 1 y := fun y hy => mix_lo hy
      have mh : ∀ y, 98 ≤ y → mix (su (c7s σ (74 + 8 * k) 32) 72 k 1) (cpd (su σ 100 k 1) (80 * (k + 1)) 0 0) y = cpd (su σ 100 k 1) (80 * (k + 1)) 0 0 y := fun y hy => mix_hi hy
      have cell : ∀ d, d ≤ 7 → mix (su (c7s σ (74 + 8 * k) 32) 72 k 1) (cpd (su σ 100 k 1) (80 * (k + 1)) 0 0) (74 + 8 * k + d) = c7s σ (74 + 8 * k) 32 (74 + 8 * k + d) := fun d hd => by rw [ml _ (by omega), su_ne (by omega)]
      have tm : ∀ j, j < 80 → mix (su (c7s σ (74 + 8 * k) 32) 72 k 1) (cpd (su σ 100 k 1) (80 * (k + 1)) 0 0) 99 (80 * (k + 1) + j) = σ 99 (0 + j) := fun j hj => by rw [mh _ (by omega), cpd_in hj, su_ne (by omega)]
      generalize mix (su (c7s σ (74 + 8 * k) 32) 72 k 1) (cpd (su σ 100 k 1) (80 * (k + 1)) 0 0) = ν at ml mh cell tm ⊢
      refine R_keep h hk (fun y h1 h2 h3 h4 => ?_) ⟨?_, ?_⟩ (fun i hi => ⟨?_, ?_⟩) (fun i hi => ?_) (Rk.cp h.2.1 hB ?_ ?_ (fun d j h1 h2 h3 h4 => ?_) (fun j hj => ?_) tm) (Mk.cp h.2.2.1 hB tm)
      · by_cases hy : y < 98
        · rw [ml y hy, su_ne h1, c7s_o (by omega)]
        · rw [mh y (by omega), cpd_ne h2, su_ne h3]
      · rw [ml 72 (by omega), su_s]
      · rw [mh 100 (by omega), cpd_ne (by omega), su_s]
      · rw [ml 72 (by omega), su_j hi, c7s_o (by omega)]
      · rw [mh 100 (by omega), cpd_ne (by omega), su_j hi]
      · rw [mh 99 (by omega), cpd_out (by omega), su_ne (by omega)]
      · rw [show ν (74 + 8 * k) = _ from cell 0 (by omega)]; exact c7s_0 (by omega)
      · rw [show ν (74 + 8 * k) = _ from cell 0 (by omega)]; exact c7s_7 (by omega)
      · rw [cell d h2]; exact c7s_d (by omega) h1 h2 h3 h4
      · rw [cell 6 (by omega)]; exact c7s_6 (by omega) hj
  · have e1 : fX10_keep σ x = some (-1, σ) := by
      unfold fX10_keep
      rw [xi_s, if_neg (by omega)]; rfl
    have e2 : fX11_keep σ x = some (-1, σ) := by
      unfold fX11_keep
      rw [in_i σ x 0 1 0 1 rfl rfl, if_neg (by omega)]; rfl
    rw [e1, e2]
    exact Two.mk ⟨rfl, hR⟩
theorem sim_back (x : Int32) : Sim (fun σ => fX10_back σ x) (fun σ => fX11_back σ x) := by
  refine Sim.of2 (fun σ ρ => rx_fX10_back ρ σ x) (fun σ ρ => rm_fX11_back σ ρ x) (fun σ hR => ?_)
  show Two (fX10_back σ x) (fX11_back σ x) _
  obtain ⟨H, G, B, T, h⟩ := id hR
  have hB := h.1.1.2.2.2.1
  rcases ixc x 2 (by omega) with ⟨k, hk, rfl⟩ | hx
  · have hg := ix_ok (j := k) (n := 2) (by omega) (by omega)
    have hc : (nI k).toNatClampNeg = k := nI_clamp (by omega)
    have hg2 : ¬ (nI k < 0 ∨ 2 ≤ k) := fun q => hg (by rw [hc]; exact q)
    have hone : ¬ (1 : Int32) = 0 := by decide
    have hX2 : fX10_back σ (nI k) = if ¬ σ 72 k = 0 then obp (some (0, c7s σ 32 (74 + 8 * k))) (fun r10 σ11 => obp (fX6_tuneTaken σ11) (fun r13 σ14 => some (r13, σ14))) else some (-2, σ) := by
      unfold fX10_back
      rw [xi_s, ir (by omega), if_pos (by omega)]
      simp only [obp, ol, og_t hg, og_t hg2, hc, copyFrom_e]
      rw [if_pos hone]
    have hM2 : fX11_back σ (nI k) = if ¬ σ 100 k = 0 then obp (some (0, cpd σ 0 (80 * (k + 1)) 0)) (fun r10 σ11 => obp (fX11_takenNow σ11) (fun r13 σ14 => some (r13, σ14))) else some (-2, σ) := by
      unfold fX11_back
      rw [in_i σ (nI k) 0 1 0 1 rfl rfl, ir (by omega), if_pos (by omega)]
      simp only [obp, ol, og_t hg, og_t hg2, hc, x80]
      rw [if_pos hone, copies_1 _ (b := 80 * (k + 1)) (by omega) (by omega)]
    rw [hX2, hM2]
    rcases h.2.2.2.2.1 k hk with ⟨a1, a2⟩ | ⟨a1, a2, a3, a4⟩
    · rw [if_neg (by simp [a2]), if_neg (by simp [a1])]
      exact Two.mk ⟨rfl, hR⟩
    · rw [if_pos (by rw [a2]; exact hone), if_pos (by rw [a1]; exact hone)]
      have hQ : Two (some (0, c7s σ 32 (74 + 8 * k))) (some (0, cpd σ 0 (80 * (k + 1)) 0)) (fun _ _ ν => Rall ν H G B T) := by
        refine ⟨_, _, _, _, rfl, rfl, ?_⟩
        have ml : ∀ y, y < 98 → mix (c7s σ 32 (74 + 8 * k)) (cpd σ 0 (80 * (k + 1)) 0) y = c7s σ 32 (74 + 8 * k) y := fun y hy => mix_lo hy
        have mh : ∀ y, 98 ≤ y → mix (c7s σ 32 (74 + 8 * k)) (cpd σ 0 (80 * (k + 1)) 0) y = cpd σ 0 (80 * (k + 1)) 0 y := fun y hy => mix_hi hy
        have tm : ∀ j, j < 80 → mix (c7s σ 32 (74 + 8 * k)) (cpd σ 0 (80 * (k + 1)) 0) 99 (0 + j) = σ 99 (80 * (k + 1) + j) := fun j hj => by rw [mh _ (by omega), cpd_in hj]
        generalize mix (c7s σ 32 (74 + 8 * k)) (cpd σ 0 (80 * (k + 1)) 0) = ν at ml mh tm ⊢
        refine R_back h (fun y h1 h2 => ?_) (fun i hi => ?_) (Rk.cp a3 hB ?_ ?_ (fun d j h1 h2 h3 h4 => ?_) (fun j hj => ?_) tm) (Mk.cp a4 hB tm)
        · by_cases hy : y < 98
          · rw [ml y hy, c7s_o (by omega)]
          · rw [mh y (by omega), cpd_ne h1]
        · rw [mh 99 (by omega), cpd_out (by omega)]
        · rw [ml _ (by omega)]; exact c7s_0 (by omega)
        · rw [ml _ (by omega)]; exact c7s_7 (by omega)
        · rw [ml _ (by omega)]; exact c7s_d (by omega) h1 h2 h3 h4
        · rw [ml _ (by omega)]; exact c7s_6 (by omega) hj
      refine hQ.bind (fun a σ ρ => ?_) (fun a σ ρ => ?_) (fun a b ν hν => ?_)
      · show obp (fX6_tuneTaken (mix σ ρ)) _ = _
        rw [rx_fX6_tuneTaken, obp_mo, mo_obp]; rfl
      · show obp (fX11_takenNow (mix σ ρ)) _ = _
        rw [rm_fX11_takenNow, obp_mp, mp_obp]; rfl
      · obtain ⟨τ, t1, t2⟩ := takenX_s hν
        obtain ⟨ρ, r1, r2⟩ := takenM_s hν
        show Two (obp (fX6_tuneTaken ν) _) (obp (fX11_takenNow ν) _) _
        rw [t1, r1]
        refine ⟨_, _, _, _, rfl, rfl, rfl, H, G, B, T, ?_⟩
        refine hν.cg (fun y j hy => ?_)
        by_cases c : y < 98
        · rw [mix_lo c]; exact t2.e y j hy
        · rw [mix_hi (by omega)]; exact r2.e y j hy
  · have e1 : fX10_back σ x = some (-1, σ) := by
      unfold fX10_back
      rw [xi_s, if_neg (by omega)]; rfl
    have e2 : fX11_back σ x = some (-1, σ) := by
      unfold fX11_back
      rw [in_i σ x 0 1 0 1 rfl rfl, if_neg (by omega)]; rfl
    rw [e1, e2]
    exact Two.mk ⟨rfl, hR⟩
