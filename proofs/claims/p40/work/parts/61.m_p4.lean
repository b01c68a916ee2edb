section
/-! BOTH RUNS FROM ONE STATE -/
def Two (ox om : Option (Int32 × S0)) (Q : Int32 → Int32 → S0 → Prop) : Prop := ∃ a τ b ρ, ox = some (a, τ) ∧ om = some (b, ρ) ∧ Q a b (mix τ ρ)
def FX (g : S0 → Option (Int32 × S0)) : Prop := ∀ σ ρ, g (mix σ ρ) = mo ρ (g σ)
def FM (g : S0 → Option (Int32 × S0)) : Prop := ∀ σ ρ, g (mix σ ρ) = mp σ (g ρ)
theorem Two.sp {gx gm : S0 → Option (Int32 × S0)} (hx : FX gx) (hm : FM gm) {τ1 ρ1 : S0} {Q : Int32 → Int32 → S0 → Prop} (h : Two (gx (mix τ1 ρ1)) (gm (mix τ1 ρ1)) Q) : Two (gx τ1) (gm ρ1) Q := by
  obtain ⟨a, τ, b, ρ, h1, h2, h3⟩ := h
  rw [hx] at h1
  rw [hm] at h2
  obtain ⟨τ', e1, rfl⟩ := mo_inv h1
  obtain ⟨ρ', e2, rfl⟩ := mp_inv h2
  rw [mix_l, mix_r] at h3
  exact ⟨a, τ', b, ρ', e1, e2, h3⟩
theorem Two.bind {ox om : Option (Int32 × S0)} {kx km : Int32 → S0 → Option (Int32 × S0)} {Q Q' : Int32 → Int32 → S0 → Prop} (h : Two ox om Q) (hx : ∀ a, FX (kx a)) (hm : ∀ a, FM (km a)) (hk : ∀ a b ν, Q a b ν → Two (kx a ν) (km b ν) Q') : Two (obp ox kx) (obp om km) Q' := by
  obtain ⟨a, τ, b, ρ, rfl, rfl, h3⟩ := h
  exact Two.sp (hx a) (hm b) (hk a b _ h3)
theorem Two.mk {a b : Int32} {σ : S0} {Q : Int32 → Int32 → S0 → Prop} (h : Q a b σ) : Two (some (a, σ)) (some (b, σ)) Q := ⟨a, σ, b, σ, rfl, rfl, by rw [mix_self]; exact h⟩
theorem Two.mono {ox om : Option (Int32 × S0)} {Q Q' : Int32 → Int32 → S0 → Prop} (h : Two ox om Q) (hq : ∀ a b ν, Q a b ν → Q' a b ν) : Two ox om Q' := by
  obtain ⟨a, τ, b, ρ, h1, h2, h3⟩ := h
  exact ⟨a, τ, b, ρ, h1, h2, hq _ _ _ h3⟩
theorem Sim.of2 {fx fm : S0 → Option (Int32 × S0)} (hx : FX fx) (hm : FM fm) (h : ∀ σ, R σ → Two (fx σ) (fm σ) (fun a b ν => a = b ∧ R ν)) : Sim fx fm := fun σ hR => by
  obtain ⟨a, τ, b, ρ, h1, h2, rfl, h3⟩ := h σ hR
  have e := hx σ σ
  rw [mix_self, h1] at e
  have et : τ = mix τ σ := by
    obtain ⟨τ', e1, e2⟩ := mo_inv e.symm
    cases e1
    exact e2
  refine ⟨a, τ, h1, a, mix τ ρ, ?_, rfl, h3⟩
  show fm τ = _
  have e2 : fm τ = fm (mix τ σ) := congrArg fm et
  rw [e2, hm, h2]
  rfl
end
section
theorem up_ne {σ : S0} {k x : Nat} {f : Nat → Int32} (h : x ≠ k) : va_up σ k f x = σ x := by unfold va_up; rw [if_neg h]
theorem up_s {σ : S0} {k : Nat} {f : Nat → Int32} : va_up σ k f k = f := by unfold va_up; rw [if_pos rfl]
theorem n12 : (12 : Int32).toNatClampNeg = 12 := by decide
theorem n6 : (6 : Int32).toNatClampNeg = 6 := by decide
/-- n values of cell k1 into cell k -/
def cpa (σ : S0) (k k1 n : Nat) : S0 := va_up σ k (va_cpy (σ k1) (σ k) 0 0 n)
theorem cpa_ne {σ : S0} {k k1 n x : Nat} (h : x ≠ k) : cpa σ k k1 n x = σ x := up_ne h
theorem cpa_in {σ : S0} {k k1 n j : Nat} (h : j < n) : cpa σ k k1 n k j = σ k1 j := by
  unfold cpa
  rw [up_s]
  unfold va_cpy
  rw [if_pos (by omega)]
  congr 1
  omega
def c6s (σ : S0) (k k1 : Nat) : S0 := cpa (cpa (cpa (cpa (cpa (cpa (su σ k 0 (σ k1 0)) (k + 1) (k1 + 1) 12) (k + 2) (k1 + 2) 12) (k + 3) (k1 + 3) 12) (k + 4) (k1 + 4) 12) (k + 5) (k1 + 5) 12) (k + 6) (k1 + 6) 6
def c7s (σ : S0) (k k1 : Nat) : S0 := cpa (su (c6s σ k k1) k 7 (c6s σ k k1 k1 7)) (k + 7) (k1 + 7) 12
theorem copyFrom_e (σ : S0) (k k1 : Nat) : fX1_copyFrom σ k k1 = some (0, c7s σ k k1) := by
  unfold fX1_copyFrom
  rw [n12, n6]
  rfl
theorem c7s_o {σ : S0} {k k1 x : Nat} (h : x < k ∨ k + 7 < x) : c7s σ k k1 x = σ x := by
  unfold c7s c6s
  simp (disch := omega) only [cpa_ne, su_ne]
theorem c6s_1 {σ : S0} {k k1 x : Nat} (h : x < k ∨ k + 7 < x) : c6s σ k k1 x = σ x := by
  unfold c6s
  simp (disch := omega) only [cpa_ne, su_ne]
theorem c7s_0 {σ : S0} {k k1 : Nat} (h : k + 7 < k1 ∨ k1 + 7 < k) : c7s σ k k1 k 0 = σ k1 0 := by
  unfold c7s
  rw [cpa_ne (by omega), su_j (by omega)]
  unfold c6s
  simp (disch := omega) only [cpa_ne, su_s]
theorem c7s_7 {σ : S0} {k k1 : Nat} (h : k + 7 < k1 ∨ k1 + 7 < k) : c7s σ k k1 k 7 = σ k1 7 := by
  unfold c7s
  rw [cpa_ne (by omega), su_s, c6s_1 (by omega)]
theorem c7s_d {σ : S0} {k k1 : Nat} (h : k + 7 < k1 ∨ k1 + 7 < k) {d j : Nat} (h1 : 1 ≤ d) (h2 : d ≤ 7) (h6 : d ≠ 6) (hj : j < 12) : c7s σ k k1 (k + d) j = σ (k1 + d) j := by
  unfold c7s
  by_cases h7 : d = 7
  · subst h7
    rw [cpa_in hj, su_ne (by omega), c6s_1 (by omega)]
  · rw [cpa_ne (by omega), su_ne (by omega)]
    unfold c6s
    rcases (show d = 1 ∨ d = 2 ∨ d = 3 ∨ d = 4 ∨ d = 5 by omega) with rfl | rfl | rfl | rfl | rfl <;> simp (disch := omega) only [cpa_ne, su_ne, cpa_in]
theorem c7s_6 {σ : S0} {k k1 : Nat} (h : k + 7 < k1 ∨ k1 + 7 < k) {j : Nat} (hj : j < 6) : c7s σ k k1 (k + 6) j = σ (k1 + 6) j := by
  unfold c7s
  rw [cpa_ne (by omega), su_ne (by omega)]
  unfold c6s
  simp (disch := omega) only [cpa_ne, su_ne, cpa_in]
def cpd (σ : S0) (a b i : Nat) : S0 := fun x y => if x = 99 ∧ a + i ≤ y ∧ y < a + 80 then σ 99 (b + (y - a)) else σ x y
theorem cpd_su {σ : S0} {a b i : Nat} (h : i < 80) (hab : a + 80 ≤ b ∨ b + 80 ≤ a) : cpd (su σ 99 (a + i) (σ 99 (b + i))) a b (i + 1) = cpd σ a b i := by
  funext x y
  unfold cpd
  by_cases hx : x = 99 ∧ a + i ≤ y ∧ y < a + 80
  · rw [if_pos hx]
    by_cases hy : y = a + i
    · rw [if_neg (by omega), hx.1, hy, su_s]
      congr 1
      omega
    · rw [if_pos (by omega), su_j (by omega)]
  · rw [if_neg hx, if_neg (by omega)]
    by_cases h9 : x = 99
    · rw [h9, su_j (by omega)]
    · rw [su_ne h9]
theorem cpd_n (σ : S0) (a b : Nat) : cpd σ a b 80 = σ := by
  funext x y
  unfold cpd
  rw [if_neg (by omega)]
theorem copies_l {a b : Nat} (ha : a + 80 ≤ 240) (hb : b + 80 ≤ 240) (hab : a + 80 ≤ b ∨ b + 80 ≤ a) : ∀ (d i m : Nat) (σ : S0), 80 - i = d → i ≤ 80 → d < m → fX11_copies_h2 m σ (nI a) (nI b) (nI i) = some (0, cpd σ a b i) := by
  intro d
  induction d with
  | zero =>
    intro i m σ h1 h2 h3
    obtain ⟨m, rfl⟩ : ∃ q, m = q + 1 := ⟨m - 1, by omega⟩
    have : i = 80 := by omega
    subst this
    show fX11_copies_b2 _ _ _ _ _ = _
    unfold fX11_copies_b2
    rw [if_pos (show (80 : Int32) ≤ nI 80 from by decide), cpd_n]
  | succ d ih =>
    intro i m σ h1 h2 h3
    obtain ⟨m, rfl⟩ : ∃ q, m = q + 1 := ⟨m - 1, by omega⟩
    show fX11_copies_b2 _ _ _ _ _ = _
    unfold fX11_copies_b2
    rw [if_neg (show ¬ ((80 : Int32) ≤ nI i) from nI_ge (b := 80) (by omega) (by omega))]
    simp only [ol]
    rw [nI_add b i, nI_add a i, og_t (ix_ok (by omega) (by omega)), og_t (ix_ok (by omega) (by omega)), nI_clamp (by omega), nI_clamp (by omega), nI_1, ih (i + 1) m _ (by omega) (by omega) (by omega), cpd_su (by omega) hab]
theorem copies_s (σ : S0) {a b : Nat} (ha : a + 80 ≤ 240) (hb : b + 80 ≤ 240) (hab : a + 80 ≤ b ∨ b + 80 ≤ a) : fX11_copies σ (nI a) (nI b) = some (0, cpd σ a b 0) := copies_l ha hb hab 80 0 400 σ (by omega) (by omega) (by omega)
theorem copies_0 (σ : S0) {a : Nat} (ha : a + 80 ≤ 240) (hab : 80 ≤ a) : fX11_copies σ (nI a) 0 = some (0, cpd σ a 0 0) := copies_s σ (b := 0) ha (by omega) (by omega)
theorem copies_1 (σ : S0) {b : Nat} (hb : b + 80 ≤ 240) (hab : 80 ≤ b) : fX11_copies σ 0 (nI b) = some (0, cpd σ 0 b 0) := copies_s σ (a := 0) (by omega) hb (by omega)
theorem cpd_ne {σ : S0} {a b i x : Nat} (h : x ≠ 99) : cpd σ a b i x = σ x := by
  funext y
  unfold cpd
  rw [if_neg (fun q => h q.1)]
theorem cpd_in {σ : S0} {a b j : Nat} (h : j < 80) : cpd σ a b 0 99 (a + j) = σ 99 (b + j) := by
  unfold cpd
  rw [if_pos (by omega)]
  congr 1
  omega
theorem cpd_out {σ : S0} {a b i y : Nat} (h : y < a ∨ a + 80 ≤ y) : cpd σ a b i 99 y = σ 99 y := by
  unfold cpd
  rw [if_neg (by omega)]
theorem Rk.cp {σ τ : S0} {k k1 o o1 B : Nat} (h : Rk σ k1 99 o1 B) (hB : B ≤ 12) (t0 : τ k 0 = σ k1 0) (t7 : τ k 7 = σ k1 7) (td : ∀ d j, 1 ≤ d → d ≤ 7 → d ≠ 6 → j < 12 → τ (k + d) j = σ (k1 + d) j) (t6 : ∀ j, j < 6 → τ (k + 6) j = σ (k1 + 6) j) (tm : ∀ j, j < 80 → τ 99 (o + j) = σ 99 (o1 + j)) : Rk τ k 99 o B := by
  obtain ⟨h1, h2, h3, h4, h5⟩ := h
  have tq : ∀ i i1 j, j < 80 → i = o + j → i1 = o1 + j → τ 99 i = σ 99 i1 := fun i i1 j hj e1 e2 => by rw [e1, e2]; exact tm j hj
  refine ⟨t0.trans h1, fun b hb => ?_, fun x hx => ?_, ?_, fun j hj hl => ?_⟩
  · obtain ⟨a1, a2, a3, a4, a5⟩ := h2 b hb
    exact ⟨by rw [td 1 b (by omega) (by omega) (by omega) (by omega), tq _ (o1 + 5 * b) (5 * b) (by omega) rfl rfl]; exact a1, by rw [td 2 b (by omega) (by omega) (by omega) (by omega), tq _ (o1 + 5 * b + 1) (5 * b + 1) (by omega) (by omega) (by omega)]; exact a2, by rw [td 3 b (by omega) (by omega) (by omega) (by omega), tq _ (o1 + 5 * b + 2) (5 * b + 2) (by omega) (by omega) (by omega)]; exact a3, by rw [td 4 b (by omega) (by omega) (by omega) (by omega), tq _ (o1 + 5 * b + 3) (5 * b + 3) (by omega) (by omega) (by omega)]; exact a4, by rw [td 5 b (by omega) (by omega) (by omega) (by omega), tq _ (o1 + 5 * b + 4) (5 * b + 4) (by omega) (by omega) (by omega)]; exact a5⟩
  · rw [t6 x hx, tq _ (o1 + 60 + x) (60 + x) (by omega) (by omega) (by omega)]; exact h3 x hx
  · rw [t7, tq _ (o1 + 66) 66 (by omega) rfl rfl]; exact h4
  · rw [tq _ (o1 + 66) 66 (by omega) rfl rfl] at hl
    rw [td 7 j (by omega) (by omega) (by omega) hj, tq _ (o1 + 67 + j) (67 + j) (by omega) (by omega) (by omega)]; exact h5 j hj hl
theorem Mk.cp {σ τ : S0} {o o1 H B : Nat} (h : Mk σ 99 o1 H B) (hB : B ≤ 12) (tm : ∀ j, j < 80 → τ 99 (o + j) = σ 99 (o1 + j)) : Mk τ 99 o H B := by
  have tq : ∀ i i1 j, j < 80 → i = o + j → i1 = o1 + j → τ 99 i = σ 99 i1 := fun i i1 j hj e1 e2 => by rw [e1, e2]; exact tm j hj
  obtain ⟨⟨n, n1, n2, n3⟩, h2, fo, f1, f2, f3, f4⟩ := h
  refine ⟨⟨n, n1, by rw [tq _ (o1 + 66) 66 (by omega) rfl rfl]; exact n2, fun j hj => ?_⟩, fun b hb => ?_, fo, fun x hx => ⟨(f1 x hx).1, by rw [tq _ (o1 + 60 + x) (60 + x) (by omega) (by omega) (by omega)]; exact (f1 x hx).2⟩, f2, f3, f4⟩
  · rw [tq _ (o1 + 67 + j) (67 + j) (by omega) (by omega) (by omega)]; exact n3 j hj
  · have := h2 b hb
    rw [tq _ (o1 + 5 * b) (5 * b) (by omega) rfl rfl, tq _ (o1 + 5 * b + 1) (5 * b + 1) (by omega) (by omega) (by omega), tq _ (o1 + 5 * b + 2) (5 * b + 2) (by omega) (by omega) (by omega), tq _ (o1 + 5 * b + 3) (5 * b + 3) (by omega) (by omega) (by omega), tq _ (o1 + 5 * b + 4) (5 * b + 4) (by omega) (by omega) (by omega)]
    exact this
theorem R_keep {σ ν : S0} {H G B T k : Nat} (h : Rall σ H G B T) (hk : k < 2) (ta : ∀ x, x ≠ 72 → x ≠ 99 → x ≠ 100 → (x < 74 + 8 * k ∨ 81 + 8 * k < x) → ν x = σ x) (tb : ν 72 k = 1 ∧ ν 100 k = 1) (tc : ∀ i, i ≠ k → ν 72 i = σ 72 i ∧ ν 100 i = σ 100 i) (td : ∀ i, i < 80 * (k + 1) ∨ 80 * (k + 1) + 80 ≤ i → ν 99 i = σ 99 i) (hr : Rk ν (74 + 8 * k) 99 (80 * (k + 1)) B) (hm2 : Mk ν 99 (80 * (k + 1)) H B) : Rall ν H G B T := by
  obtain ⟨hn, hk0, hm, ht, hi, hp, hs, hf, hq⟩ := h
  have hB := hn.1.2.2.2.1
  have hT := hn.1.2.2.2.2
  have tl : ∀ x, x < 72 → ν x = σ x := fun x hx => ta x (by omega) (by omega) (by omega) (by omega)
  have th : ∀ x, 89 < x → x ≠ 99 → x ≠ 100 → ν x = σ x := fun x hx h1 h2 => ta x (by omega) h1 h2 (by omega)
  have t98 := th 98 (by omega) (by omega) (by omega)
  refine ⟨hn.c (by rw [t98]) (by rw [t98]) (by rw [t98]) (by rw [t98]) (tl 22 (by omega)), hk0.c (fun d hd => tl _ (by omega)) (fun i h1 h2 => td i (by omega)) hB, hm.c (fun i h1 h2 => td i (by omega)) hB, ht.c (th _ (by omega) (by omega) (by omega)) (tl _ (by omega)) (tl _ (by omega)) (fun t h => tl _ (by omega)), fun i hi2 => ?_, hp.c (by rw [tl 1 (by omega)]) (by rw [t98]) (th _ (by omega) (by omega) (by omega)) (tl _ (by omega)), hs.c (th _ (by omega) (by omega) (by omega)) (th _ (by omega) (by omega) (by omega)) (th _ (by omega) (by omega) (by omega)) (fun x h1 h2 => th _ (by omega) (by omega) (by omega)), by rw [tl 3 (by omega), t98]; exact hf, by rw [tl 0 (by omega), t98]; exact hq⟩
  by_cases hik : i = k
  · subst hik
    exact Or.inr ⟨tb.2, tb.1, hr, hm2⟩
  · rw [(tc i hik).1, (tc i hik).2]
    rcases hi i hi2 with a | ⟨a1, a2, a3, a4⟩
    · exact Or.inl a
    · exact Or.inr ⟨a1, a2, a3.c (fun d hd => ta _ (by omega) (by omega) (by omega) (by omega)) (fun j h1 h2 => td j (by omega)) hB, a4.c (fun j h1 h2 => td j (by omega)) hB⟩
theorem R_back {σ ν : S0} {H G B T : Nat} (h : Rall σ H G B T) (ta : ∀ x, x ≠ 99 → (x < 32 ∨ 39 < x) → ν x = σ x) (td : ∀ i, 80 ≤ i → ν 99 i = σ 99 i) (hr : Rk ν 32 99 0 B) (hm2 : Mk ν 99 0 H B) : Rall ν H G B T := by
  obtain ⟨hn, hk0, hm, ht, hi, hp, hs, hf, hq⟩ := h
  have hB := hn.1.2.2.2.1
  have hT := hn.1.2.2.2.2
  have t98 := ta 98 (by omega) (by omega)
  exact ⟨hn.c (by rw [t98]) (by rw [t98]) (by rw [t98]) (by rw [t98]) (ta 22 (by omega) (by omega)), hr, hm2, ht.c (ta _ (by omega) (by omega)) (ta _ (by omega) (by omega)) (ta _ (by omega) (by omega)) (fun t h => ta _ (by omega) (by omega)), hi.c (ta _ (by omega) (by omega)) (ta _ (by omega) (by omega)) (fun x h1 h2 => ta _ (by omega) (by omega)) (fun i h1 h2 => td i (by omega)) hB, hp.c (by rw [ta 1 (by omega) (by omega)]) (by rw [t98]) (ta _ (by omega) (by omega)) (ta _ (by omega) (by omega)), hs.c (ta _ (by omega) (by omega)) (ta _ (by omega) (by omega)) (ta _ (by omega) (by omega)) (fun x h1 h2 => ta _ (by omega) (by omega)), by rw [ta 3 (by omega) (by omega), t98]; exact hf, by rw [ta 0 (by omega) (by omega), t98]; exact hq⟩
theorem x80 (k : Nat) : (80 : Int32) * (nI k + 1) = nI (80 * (k + 1)) := by
  rw [nI_1, show (80 : Int32) = nI 80 from rfl, pk_mul]
theorem sim_keep (x : Int32) : Sim (fun σ => fX10_keep σ x) (fun σ => fX11_keep σ x) := by
  refine Sim.of2 (fun σ ρ => rx_fX10_keep ρ σ x) (fun σ ρ => rm_fX11_keep σ ρ x) (fun σ hR => ?_)
  show Two (fX10_keep σ x) (fX11_keep σ x) _
  obtain ⟨H, G, B, T, h⟩ := id hR
  have hB := h.1.1.2.2.2.1
  rcases ixc x 2 (by omega) with ⟨k, hk, rfl⟩ | hx
  · have hg := ix_ok (j := k) (n := 2) (by omega) (by omega)
    have hc : (nI k).toNatClampNeg = k := nI_clamp (by omega)
    have hg2 : ¬ (nI k < 0 ∨ 2 ≤ k) := fun q => hg (by rw [hc]; exact q)
    have hv : vp_nar .boolean 1 = 1 := rfl
    have hone : ¬ (1 : Int32) = 0 := by decide
    have hX : ∀ t, fX10_keep_b23 σ (nI k) t = some (t, su (c7s σ (74 + 8 * k) 32) 72 k 1) := fun t => by
      unfold fX10_keep_b23
      simp only [og_t hg, og_t hg2, ol, hc, copyFrom_e, obp, hv]
    have hX2 : fX10_keep σ (nI k) = some (if σ 72 k = 0 then 0 else 1, su (c7s σ (74 + 8 * k) 32) 72 k 1) := by
      unfold fX10_keep
      rw [xi_s, ir (by omega), if_pos (by omega)]
      simp only [obp, ol, og_t hg, og_t hg2, hc, hX]
      rw [if_pos hone]
      by_cases c : σ 72 k = 0
      · rw [if_pos c, if_pos c]
      · rw [if_neg c, if_neg c]
    have hM2 : fX11_keep σ (nI k) = some (if σ 100 k = 0 then 0 else 1, cpd (su σ 100 k 1) (80 * (k + 1)) 0 0) := by
      unfold fX11_keep fX11_flag
      rw [in_i σ (nI k) 0 1 0 1 rfl rfl, ir (by omega), if_pos (by omega)]
      simp only [obp, ol, og_t hg, og_t hg2, hc, hv, x80]
      rw [if_pos hone]
      by_cases c : σ 100 k = 0
      · simp only [if_pos c, copies_0 _ (a := 80 * (k + 1)) (by omega) (by omega)]
      · simp only [if_neg c, copies_0 _ (a := 80 * (k + 1)) (by omega) (by omega)]
    have hi := h.2.2.2.2.1 k hk
    refine ⟨_, _, _, _, hX2, hM2, ?_, H, G, B, T, ?_⟩
    · rcases hi with ⟨a1, a2⟩ | ⟨a1, a2, -⟩
      · rw [a1, a2]
      · rw [a1, a2]
    · have ml : ∀ y, y < 98 → mix (su (c7s σ (74 + 8 * k) 32) 72 k 1) (cpd (su σ 100 k 1) (80 * (k + 1)) 0 0) y = su (c7s σ (74 + 8 * k) 32) 72 k 1 y := fun y hy => mix_lo hy
      have mh : ∀ y, 98 ≤ y → mix (su (c7s σ (74 + 8 * k) 32) 72 k 1) (cpd (su σ 100 k 1) (80 * (k + 1)) 0 0) y = cpd (su σ 100 k 1) (80 * (k + 1)) 0 0 y := fun y hy => mix_hi hy
      have cell : ∀ d, d ≤ 7 → mix (su (c7s σ (74 + 8 * k) 32) 72 k 1) (cpd (su σ 100 k 1) (80 * (k + 1)) 0 0) (74 + 8 * k + d) = c7s σ (74 + 8 * k) 32 (74 + 8 * k + d) := fun d hd => by rw [ml _ (by omega), su_ne (by omega)]
      have tm : ∀ j, j < 80 → mix (su (c7s σ (74 + 8 * k) 32) 72 k 1) (cpd (su σ 100 k 1) (80 * (k + 1)) 0 0) 99 (80 * (k + 1) + j) = σ 99 (0 + j) := fun j hj => by rw [mh _ (by omega), cpd_in hj, su_ne (by omega)]
      generalize mix (su (c7s σ (74 + 8 * k) 32) 72 k 1) (cpd (su σ 100 k 1) (80 * (k + 1)) 0 0) = ν at ml mh cell tm ⊢
      refine R_keep h hk (fun y h1 h2 h3 h4 => ?_) ⟨?_, ?_⟩ (fun i hi => ⟨?_, ?_⟩) (fun i hi => ?_) (Rk.cp h.2.1 hB ?_ ?_ (fun d j h1 h2 h3 h4 => ?_) (fun j hj => ?_) tm) (Mk.cp h.2.2.1 hB tm)
      · by_cases hy : y < 98
        · rw [ml y hy, su_ne h1, c7s_o (by omega)]
        · rw [mh y (by omega), cpd_ne h2, su_ne h3]
      · rw [ml 72 (by omega), su_s]
      · rw [mh 100 (by omega), cpd_ne (by omega), su_s]
      · rw [ml 72 (by omega), su_j hi, c7s_o (by omega)]
      · rw [mh 100 (by omega), cpd_ne (by omega), su_j hi]
      · rw [mh 99 (by omega), cpd_out (by omega), su_ne (by omega)]
      · rw [show ν (74 + 8 * k) = _ from cell 0 (by omega)]; exact c7s_0 (by omega)
      · rw [show ν (74 + 8 * k) = _ from cell 0 (by omega)]; exact c7s_7 (by omega)
      · rw [cell d h2]; exact c7s_d (by omega) h1 h2 h3 h4
      · rw [cell 6 (by omega)]; exact c7s_6 (by omega) hj
  · have e1 : fX10_keep σ x = some (-1, σ) := by
      unfold fX10_keep
      rw [xi_s, if_neg (by omega)]; rfl
    have e2 : fX11_keep σ x = some (-1, σ) := by
      unfold fX11_keep
      rw [in_i σ x 0 1 0 1 rfl rfl, if_neg (by omega)]; rfl
    rw [e1, e2]
    exact Two.mk ⟨rfl, hR⟩
theorem sim_back (x : Int32) : Sim (fun σ => fX10_back σ x) (fun σ => fX11_back σ x) := by
  refine Sim.of2 (fun σ ρ => rx_fX10_back ρ σ x) (fun σ ρ => rm_fX11_back σ ρ x) (fun σ hR => ?_)
  show Two (fX10_back σ x) (fX11_back σ x) _
  obtain ⟨H, G, B, T, h⟩ := id hR
  have hB := h.1.1.2.2.2.1
  rcases ixc x 2 (by omega) with ⟨k, hk, rfl⟩ | hx
  · have hg := ix_ok (j := k) (n := 2) (by omega) (by omega)
    have hc : (nI k).toNatClampNeg = k := nI_clamp (by omega)
    have hg2 : ¬ (nI k < 0 ∨ 2 ≤ k) := fun q => hg (by rw [hc]; exact q)
    have hone : ¬ (1 : Int32) = 0 := by decide
    have hX2 : fX10_back σ (nI k) = if ¬ σ 72 k = 0 then obp (some (0, c7s σ 32 (74 + 8 * k))) (fun r10 σ11 => obp (fX6_tuneTaken σ11) (fun r13 σ14 => some (r13, σ14))) else some (-2, σ) := by
      unfold fX10_back
      rw [xi_s, ir (by omega), if_pos (by omega)]
      simp only [obp, ol, og_t hg, og_t hg2, hc, copyFrom_e]
      rw [if_pos hone]
    have hM2 : fX11_back σ (nI k) = if ¬ σ 100 k = 0 then obp (some (0, cpd σ 0 (80 * (k + 1)) 0)) (fun r10 σ11 => obp (fX11_takenNow σ11) (fun r13 σ14 => some (r13, σ14))) else some (-2, σ) := by
      unfold fX11_back
      rw [in_i σ (nI k) 0 1 0 1 rfl rfl, ir (by omega), if_pos (by omega)]
      simp only [obp, ol, og_t hg, og_t hg2, hc, x80]
      rw [if_pos hone, copies_1 _ (b := 80 * (k + 1)) (by omega) (by omega)]
    rw [hX2, hM2]
    rcases h.2.2.2.2.1 k hk with ⟨a1, a2⟩ | ⟨a1, a2, a3, a4⟩
    · rw [if_neg (by simp [a2]), if_neg (by simp [a1])]
      exact Two.mk ⟨rfl, hR⟩
    · rw [if_pos (by rw [a2]; exact hone), if_pos (by rw [a1]; exact hone)]
      have hQ : Two (some (0, c7s σ 32 (74 + 8 * k))) (some (0, cpd σ 0 (80 * (k + 1)) 0)) (fun _ _ ν => Rall ν H G B T) := by
        refine ⟨_, _, _, _, rfl, rfl, ?_⟩
        have ml : ∀ y, y < 98 → mix (c7s σ 32 (74 + 8 * k)) (cpd σ 0 (80 * (k + 1)) 0) y = c7s σ 32 (74 + 8 * k) y := fun y hy => mix_lo hy
        have mh : ∀ y, 98 ≤ y → mix (c7s σ 32 (74 + 8 * k)) (cpd σ 0 (80 * (k + 1)) 0) y = cpd σ 0 (80 * (k + 1)) 0 y := fun y hy => mix_hi hy
        have tm : ∀ j, j < 80 → mix (c7s σ 32 (74 + 8 * k)) (cpd σ 0 (80 * (k + 1)) 0) 99 (0 + j) = σ 99 (80 * (k + 1) + j) := fun j hj => by rw [mh _ (by omega), cpd_in hj]
        generalize mix (c7s σ 32 (74 + 8 * k)) (cpd σ 0 (80 * (k + 1)) 0) = ν at ml mh tm ⊢
        refine R_back h (fun y h1 h2 => ?_) (fun i hi => ?_) (Rk.cp a3 hB ?_ ?_ (fun d j h1 h2 h3 h4 => ?_) (fun j hj => ?_) tm) (Mk.cp a4 hB tm)
        · by_cases hy : y < 98
          · rw [ml y hy, c7s_o (by omega)]
          · rw [mh y (by omega), cpd_ne h1]
        · rw [mh 99 (by omega), cpd_out (by omega)]
        · rw [ml _ (by omega)]; exact c7s_0 (by omega)
        · rw [ml _ (by omega)]; exact c7s_7 (by omega)
        · rw [ml _ (by omega)]; exact c7s_d (by omega) h1 h2 h3 h4
        · rw [ml _ (by omega)]; exact c7s_6 (by omega) hj
      refine hQ.bind (fun a σ ρ => ?_) (fun a σ ρ => ?_) (fun a b ν hν => ?_)
      · show obp (fX6_tuneTaken (mix σ ρ)) _ = _
        rw [rx_fX6_tuneTaken, obp_mo, mo_obp]; rfl
      · show obp (fX11_takenNow (mix σ ρ)) _ = _
        rw [rm_fX11_takenNow, obp_mp, mp_obp]; rfl
      · obtain ⟨τ, t1, t2⟩ := takenX_s hν
        obtain ⟨ρ, r1, r2⟩ := takenM_s hν
        show Two (obp (fX6_tuneTaken ν) _) (obp (fX11_takenNow ν) _) _
        rw [t1, r1]
        refine ⟨_, _, _, _, rfl, rfl, rfl, H, G, B, T, ?_⟩
        refine hν.cg (fun y j hy => ?_)
        by_cases c : y < 98
        · rw [mix_lo c]; exact t2.e y j hy
        · rw [mix_hi (by omega)]; exact r2.e y j hy
  · have e1 : fX10_back σ x = some (-1, σ) := by
      unfold fX10_back
      rw [xi_s, if_neg (by omega)]; rfl
    have e2 : fX11_back σ x = some (-1, σ) := by
      unfold fX11_back
      rw [in_i σ x 0 1 0 1 rfl rfl, if_neg (by omega)]; rfl
    rw [e1, e2]
    exact Two.mk ⟨rfl, hR⟩
end
section
/-! COUNT -/
def pb (x : Int32) : Nat → Int32
  | 0 => 0
  | i + 1 => pb x i + ((x >>> (nI i &&& 31)) &&& 1)
theorem bitsOf_l (σ : S0) (x : Int32) : ∀ (d i m : Nat), 12 - i = d → i ≤ 12 → d < m → fX11_bitsOf_h4 m σ x (pb x i) (nI i) = some (pb x 12, σ) := by
  intro d
  induction d with
  | zero =>
    intro i m h1 h2 h3
    obtain ⟨m, rfl⟩ : ∃ q, m = q + 1 := ⟨m - 1, by omega⟩
    have : i = 12 := by omega
    subst this
    show fX11_bitsOf_b4 _ _ _ _ _ = _
    unfold fX11_bitsOf_b4
    rw [if_pos (show (12 : Int32) ≤ nI 12 from by decide)]
  | succ d ih =>
    intro i m h1 h2 h3
    obtain ⟨m, rfl⟩ : ∃ q, m = q + 1 := ⟨m - 1, by omega⟩
    show fX11_bitsOf_b4 _ _ _ _ _ = _
    unfold fX11_bitsOf_b4
    rw [if_neg (show ¬ ((12 : Int32) ≤ nI i) from nI_ge (b := 12) (by omega) (by omega))]
    simp only [ol]
    rw [nI_1]
    exact ih (i + 1) m (by omega) (by omega) (by omega)
theorem bitsOf_s (σ : S0) (x : Int32) : fX11_bitsOf σ x = some (pb x 12, σ) := bitsOf_l σ x 12 0 400 (by omega) (by omega) (by omega)
def bcf (x0 : Int32) : Int32 :=
  let v1 := x0 - (((x0.toUInt32 >>> ((1 : Int32).toUInt32 &&& Int32.toUInt32 31)).toInt32) &&& 1431655765)
  let v2 := (v1 &&& 858993459) + (((v1.toUInt32 >>> ((2 : Int32).toUInt32 &&& Int32.toUInt32 31)).toInt32) &&& 858993459)
  let v3 := (v2 + ((v2.toUInt32 >>> ((4 : Int32).toUInt32 &&& Int32.toUInt32 31)).toInt32)) &&& 252645135
  let v4 := v3 + ((v3.toUInt32 >>> ((8 : Int32).toUInt32 &&& Int32.toUInt32 31)).toInt32)
  let v5 := v4 + ((v4.toUInt32 >>> ((16 : Int32).toUInt32 &&& Int32.toUInt32 31)).toInt32)
  v5 &&& 63
theorem bcf_s (σ : S0) (x : Int32) : fJ6_bitCount_0f7a4 σ x = some (bcf x, σ) := rfl
theorem bcf_t : ∀ v : Fin 64, bcf (nI v.1) = pb (nI v.1) 12 := by decide +kernel
def sc (f : Nat → Int32) : Nat → Int32
  | 0 => 0
  | i + 1 => sc f i + pb (f (60 + i)) 12
theorem feudPairs_l {σ : S0} (hv : ∀ i, i < 6 → ∃ v, v < 64 ∧ σ 38 i = nI v ∧ σ 99 (60 + i) = nI v) : ∀ (d i m : Nat), 6 - i = d → i ≤ 6 → d < m → fX1_feudPairs_h4 m σ 32 (sc (σ 99) i) (nI i) = some (sc (σ 99) 6 / 2, σ) := by
  intro d
  induction d with
  | zero =>
    intro i m h1 h2 h3
    obtain ⟨m, rfl⟩ : ∃ q, m = q + 1 := ⟨m - 1, by omega⟩
    have : i = 6 := by omega
    subst this
    show fX1_feudPairs_b4 _ _ _ _ _ = _
    unfold fX1_feudPairs_b4
    rw [if_pos (show (6 : Int32) ≤ nI 6 from by decide), og_t (by decide)]
    rfl
  | succ d ih =>
    intro i m h1 h2 h3
    obtain ⟨m, rfl⟩ : ∃ q, m = q + 1 := ⟨m - 1, by omega⟩
    obtain ⟨v, v1, v2, v3⟩ := hv i (by omega)
    show fX1_feudPairs_b4 _ _ _ _ _ = _
    unfold fX1_feudPairs_b4
    rw [if_neg (show ¬ ((6 : Int32) ≤ nI i) from nI_ge (b := 6) (by omega) (by omega)), og_t (ix_ok (by omega) (by omega)), nI_clamp (by omega)]
    simp only [ol, Nat.reduceAdd, bcf_s, obp]
    have e : bcf (σ 38 i) = pb (σ 99 (60 + i)) 12 := by rw [v2, v3]; exact bcf_t ⟨v, v1⟩
    rw [e, nI_1]
    exact ih (i + 1) m (by omega) (by omega) (by omega)
theorem countM_l {σ : S0} {H : Nat} (e1 : σ 98 2 = nI H) (hH : H ≤ 6) (x : Int32) : ∀ (d i m : Nat), H - i = d → i ≤ H → d < m → ∃ sf, fX11_count_h4 m σ x (sc (σ 99) i) (nI i) = fX11_count_b4 sf σ x (sc (σ 99) H) (nI H) := by
  intro d
  induction d with
  | zero =>
    intro i m h1 h2 h3
    obtain ⟨m, rfl⟩ : ∃ q, m = q + 1 := ⟨m - 1, by omega⟩
    have : i = H := by omega
    subst this
    exact ⟨_, rfl⟩
  | succ d ih =>
    intro i m h1 h2 h3
    obtain ⟨m, rfl⟩ : ∃ q, m = q + 1 := ⟨m - 1, by omega⟩
    obtain ⟨sf, ih⟩ := ih (i + 1) m (by omega) (by omega) (by omega)
    refine ⟨sf, ?_⟩
    rw [← ih]
    show fX11_count_b4 _ _ _ _ _ = _
    unfold fX11_count_b4
    rw [if_neg (show ¬ (σ 98 2 ≤ nI i) from by rw [e1]; exact nI_ge (by omega) (by omega))]
    simp only [ol]
    rw [show (60 : Int32) + nI i = nI (60 + i) from nI_add 60 i, og_t (ix_ok (by omega) (by omega)), nI_clamp (by omega), bitsOf_s]
    simp only [obp]
    rw [nI_1]
    rfl
theorem sc_e {f : Nat → Int32} {H : Nat} (hf : ∀ a, H ≤ a → a < 6 → f (60 + a) = nI 0) : ∀ d, H + d ≤ 6 → sc f (H + d) = sc f H := by
  intro d
  induction d with
  | zero => intro _; rfl
  | succ d ih =>
    intro hd
    show sc f (H + d) + pb (f (60 + (H + d))) 12 = _
    rw [hf (H + d) (by omega) (by omega), ih (by omega), show pb (nI 0) 12 = 0 from by decide]
    exact Int32.add_zero _
theorem sim_count (x : Int32) : Sim (fun σ => fX10_count σ x) (fun σ => fX11_count σ x) := Sim.ro (fun σ hR => by
  obtain ⟨H, G, B, T, h⟩ := hR
  obtain ⟨⟨b1, b2, b3, b4, b5⟩, ⟨e1, e2, e5, e6⟩, e3, e4, e7⟩ := h.1
  show ∃ a, fX10_count σ x = some (a, σ) ∧ fX11_count σ x = some (a, σ)
  obtain ⟨sf, em⟩ := countM_l e1 b2 x H 0 400 (by omega) (by omega) (by omega)
  have em2 : fX11_count σ x = fX11_count_b4 sf σ x (sc (σ 99) H) (nI H) := em
  rw [em2]
  unfold fX10_count fX11_count_b4
  rw [if_pos (show σ 98 2 ≤ nI H from by rw [e1]; exact nI_le (Nat.le_refl _) (by omega))]
  rcases ixc x 7 (by omega) with ⟨j, hj, rfl⟩ | hx
  · have hrg : ¬ ((nI j).toInt < 0 ∨ 6 < (nI j).toInt) := by rw [ir (by omega)]; omega
    simp only [if_neg hrg]
    obtain ⟨⟨n, n1, n2, n3⟩, m2, fo, f1, f2, f3, f4⟩ := id h.2.2.1
    simp only [Nat.zero_add] at f1 n2
    have hi0 := h.2.2.2.2.1 0 (by omega)
    have hi1 := h.2.2.2.2.1 1 (by omega)
    have c0 : ((0 : Int32)).toNatClampNeg = 0 := by decide
    have c1 : ((1 : Int32)).toNatClampNeg = 1 := by decide
    rcases (show j = 0 ∨ j = 1 ∨ j = 2 ∨ j = 3 ∨ j = 4 ∨ j = 5 ∨ j = 6 by omega) with rfl | rfl | rfl | rfl | rfl | rfl | rfl
    · refine ⟨nI B, ?_, ?_⟩
      · rw [if_pos (by decide), h.2.1.1]
      · rw [if_pos (by decide), e5]
    · refine ⟨nI T, ?_, ?_⟩
      · rw [if_neg (by decide), if_pos (by decide), e7]
      · rw [if_neg (by decide), if_pos (by decide), e6]
    · have h64 : 2 ^ H ≤ 64 := Nat.pow_le_pow_right (n := 2) (by omega) b2
      have k3 := h.2.1.2.2.1
      simp only [Nat.zero_add] at k3
      refine ⟨sc (σ 99) 6 / 2, ?_, ?_⟩
      · rw [if_neg (by decide), if_neg (by decide), if_pos (by decide)]
        unfold fX1_feudPairs
        show obp (fX1_feudPairs_h4 400 σ 32 (sc (σ 99) 0) (nI 0)) _ = _
        rw [feudPairs_l (σ := σ) (fun i hi => ⟨fo i, by have := (f1 i hi).1; omega, (k3 i hi).trans (f1 i hi).2, (f1 i hi).2⟩) 6 0 400 (by omega) (by omega) (by omega)]
        rfl
      · rw [if_neg (by decide), if_neg (by decide), if_pos (by decide), og_t (by decide)]
        have := sc_e (f := σ 99) (H := H) (fun a h1 h2 => by rw [(f1 a h2).2, f4 a h1 h2]) (6 - H) (by omega)
        rw [show H + (6 - H) = 6 by omega] at this
        rw [this]
        rfl
    · refine ⟨nI n, ?_, ?_⟩
      · rw [if_neg (by decide), if_neg (by decide), if_neg (by decide), if_pos (by decide), h.2.1.2.2.2.1, Nat.zero_add, n2]
      · rw [if_neg (by decide), if_neg (by decide), if_neg (by decide), if_pos (by decide), og_t c66]
        simp only [ol, v66]
        rw [n2]
    · have key : ∀ (p q : Int32), (p = 0 ∨ p = 1) → (q = 0 ∨ q = 1) → σ 72 0 = p → σ 100 0 = p → σ 72 1 = q → σ 100 1 = q → ∃ a, (og (¬ (((0 : Int32)) < 0 ∨ 2 ≤ ((0 : Int32)).toNatClampNeg)) (ol (σ 72 ((0 : Int32)).toNatClampNeg) (fun v11 => if v11 = 0 then (fX10_count_b90 σ 0) else (fX10_count_b90 σ 1)))) = some (a, σ) ∧ (og (¬ (((0 : Int32)) < 0 ∨ 2 ≤ ((0 : Int32)).toNatClampNeg)) (ol (σ 100 ((0 : Int32)).toNatClampNeg) (fun v13 => obp (fX11_flag σ v13) (fun r14 σ15 => og (¬ (((1 : Int32)) < 0 ∨ 2 ≤ ((1 : Int32)).toNatClampNeg)) (ol (σ15 100 ((1 : Int32)).toNatClampNeg) (fun v18 => obp (fX11_flag σ15 v18) (fun r19 σ20 => some (r14 + r19, σ20)))))))) = some (a, σ) := fun p q hp hq p1 p2 q1 q2 => by
        have g0 : ¬ (((0 : Int32)) < 0 ∨ 2 ≤ ((0 : Int32)).toNatClampNeg) := by decide
        have g1 : ¬ (((1 : Int32)) < 0 ∨ 2 ≤ ((1 : Int32)).toNatClampNeg) := by decide
        unfold fX10_count_b90 fX11_flag
        rw [og_t g0, og_t g0]
        simp only [ol, c0, c1]
        rw [p1, p2]
        have hone : ¬ (1 : Int32) = 0 := by decide
        rcases hp with rfl | rfl <;> rcases hq with rfl | rfl
        · exact ⟨0, by rw [if_pos rfl, og_t (by decide), q1, if_pos rfl]; rfl, by rw [if_pos rfl]; simp only [obp]; rw [og_t (by decide), q2, if_pos rfl]; rfl⟩
        · exact ⟨1, by rw [if_pos rfl, og_t (by decide), q1, if_neg hone]; rfl, by rw [if_pos rfl]; simp only [obp]; rw [og_t (by decide), q2, if_neg hone]; rfl⟩
        · exact ⟨1, by rw [if_neg hone, og_t (by decide), q1, if_pos rfl]; rfl, by rw [if_neg hone]; simp only [obp]; rw [og_t (by decide), q2, if_pos rfl]; rfl⟩
        · exact ⟨2, by rw [if_neg hone, og_t (by decide), q1, if_neg hone]; rfl, by rw [if_neg hone]; simp only [obp]; rw [og_t (by decide), q2, if_neg hone]; rfl⟩
      rw [if_neg (by decide), if_neg (by decide), if_neg (by decide), if_neg (by decide), if_pos (by decide), if_neg (by decide), if_neg (by decide), if_neg (by decide), if_neg (by decide), if_pos (by decide)]
      rcases hi0 with ⟨a1, a2⟩ | ⟨a1, a2, -⟩ <;> rcases hi1 with ⟨a3, a4⟩ | ⟨a3, a4, -⟩
      · exact key 0 0 (Or.inl rfl) (Or.inl rfl) a2 a1 a4 a3
      · exact key 0 1 (Or.inl rfl) (Or.inr rfl) a2 a1 a4 a3
      · exact key 1 0 (Or.inr rfl) (Or.inl rfl) a2 a1 a4 a3
      · exact key 1 1 (Or.inr rfl) (Or.inr rfl) a2 a1 a4 a3
    · obtain ⟨n, p0, p1, p2, -⟩ := h.2.2.2.2.2.1
      refine ⟨nI n, ?_, ?_⟩
      · rw [if_neg (by decide), if_neg (by decide), if_neg (by decide), if_neg (by decide), if_neg (by decide), if_pos (by decide), p1]
      · rw [if_neg (by decide), if_neg (by decide), if_neg (by decide), if_neg (by decide), if_neg (by decide), if_pos (by decide), p2]
    · have hs := (h.2.2.2.2.2.2.1 0 (by omega)).1
      have g0 : ¬ (((0 : Int32)) < 0 ∨ 4 ≤ ((0 : Int32)).toNatClampNeg) := by decide
      rw [if_neg (by decide), if_neg (by decide), if_neg (by decide), if_neg (by decide), if_neg (by decide), if_neg (by decide), if_pos (by decide), if_neg (by decide), if_neg (by decide), if_neg (by decide), if_neg (by decide), if_neg (by decide), if_neg (by decide), if_pos (by decide)]
      rw [og_t g0, og_t g0, og_t g0]
      simp only [ol, c0, Nat.mul_zero, Nat.add_zero] at hs ⊢
      unfold fX7_isNothing
      rcases hs with ⟨a1, a2⟩ | ⟨l, n, l1, l2, l3, l4, l5, l6⟩
      · refine ⟨-4, ?_, ?_⟩
        · rw [a2]; rfl
        · rw [a1]; rfl
      · refine ⟨nI n, ?_, ?_⟩
        · have : ¬ nI l = -1 := by
            rcases (show l = 0 ∨ l = 1 ∨ l = 2 by omega) with rfl | rfl | rfl <;> decide
          rw [l4, if_pos this]
          simp only [obp]
          rw [if_pos trivial, og_t (by decide), l6]
        · rw [l3, if_pos (nI_m4 (by omega)), l5]
  · have hrg : x.toInt < 0 ∨ 6 < x.toInt := by omega
    simp only [if_pos hrg]
    exact ⟨-1, rfl, rfl⟩)
end
section
/-! FEUDING: both run side by side -/
theorem sh16_b (w : BitVec 32) : (w >>> 16) &&& 32767#32 = (w.sshiftRight 16) &&& 32767#32 := by
  apply BitVec.eq_of_getLsbD_eq
  intro i hi
  rw [BitVec.getLsbD_and, BitVec.getLsbD_and, BitVec.getLsbD_ushiftRight, BitVec.getLsbD_sshiftRight]
  by_cases h : i < 15
  · have h1 : 16 + i < 32 := by omega
    have h2 : ¬ 32 ≤ i := by omega
    simp [h1, h2]
  · have : (32767#32).getLsbD i = false := (by decide : ∀ i : Fin 32, 15 ≤ i.1 → (32767#32).getLsbD i.1 = false) ⟨i, hi⟩ (by show 15 ≤ i; omega)
    rw [this, Bool.and_false, Bool.and_false]
theorem sh16 (v : Int32) : ((v.toUInt32 >>> ((16 : Int32).toUInt32 &&& Int32.toUInt32 31)).toInt32) &&& 32767 = (v >>> ((16 : Int32) &&& 31)) &&& 32767 := by
  rw [← Int32.toBitVec_inj, Int32.toBitVec_and, Int32.toBitVec_and, Int32.toBitVec_shiftRight]
  have e1 : (v.toUInt32 >>> ((16 : Int32).toUInt32 &&& Int32.toUInt32 31)).toInt32.toBitVec = v.toBitVec >>> 16 := by
    show (v.toUInt32 >>> ((16 : Int32).toUInt32 &&& Int32.toUInt32 31)).toBitVec = _
    rw [UInt32.toBitVec_shiftRight, show (((16 : Int32).toUInt32 &&& Int32.toUInt32 31).toBitVec % 32) = 16#32 from by decide]
    rfl
  have e2 : ∀ w : BitVec 32, w.sshiftRight' (((16 : Int32) &&& 31).toBitVec.smod 32) = w.sshiftRight 16 := fun w => by
    rw [show (((16 : Int32) &&& 31).toBitVec.smod 32) = 16#32 from by decide]
    rfl
  rw [e1, e2]
  exact sh16_b v.toBitVec
theorem su_cj {σ : S0} {k a b : Nat} {v w : Int32} (h : a ≠ b) : su (su σ k a v) k b w = su (su σ k b w) k a v := by
  funext x y
  by_cases hx : x = k
  · subst hx
    by_cases ha : y = a
    · subst ha
      rw [su_j h, su_s, su_s]
    · by_cases hb : y = b
      · subst hb
        rw [su_s, su_j ha, su_s]
      · rw [su_j hb, su_j ha, su_j ha, su_j hb]
  · rw [su_ne hx, su_ne hx, su_ne hx, su_ne hx]
theorem pair2 {σ : S0} {H G B T a b : Nat} (v : Int32) (h : Rall σ H G B T) (ha : a < H) (hb : b < H) (hab : a ≠ b) : Two (fX1_setFoes σ 32 (nI a) (nI b) v) (fX11_setsFeud σ (nI b) (nI a) v) (fun _ _ ν => Rall ν H G B T) := by
  obtain ⟨τ, ρ, h1, h2, h3, h4, h5⟩ := R_pair v h ha hb hab
  obtain ⟨b1, b2, b3, b4, b5⟩ := h.1.1
  obtain ⟨m1, m2, fo, f1, f2, f3, f4⟩ := id h.2.2.1
  simp only [Nat.zero_add] at f1
  have h64 : 2 ^ H ≤ 64 := Nat.pow_le_pow_right (n := 2) (by omega) b2
  have la := (f1 a (by omega)).1
  have lb := (f1 b (by omega)).1
  have ea : σ 99 (60 + a) = nI (fo a) := (f1 a (by omega)).2
  have eb : σ 99 (60 + b) = nI (fo b) := (f1 b (by omega)).2
  have e1 := setsFeud_s v (σ := σ) (a := b) (b := a) (by omega) (by omega) (fun q => hab q.symm) (ma := fo b) (mb := fo a) (by omega) (by omega) eb ea
  have e2 := setsFeud_s v (σ := σ) (a := a) (b := b) (by omega) (by omega) hab (ma := fo a) (mb := fo b) (by omega) (by omega) ea eb
  have e3 : fX11_setsFeud σ (nI b) (nI a) v = fX11_setsFeud σ (nI a) (nI b) v := by
    rw [e1, e2, su_cj (by omega)]
  have hx := rx_fX1_setFoes σ σ 32 (nI a) (nI b) v (by omega)
  rw [mix_self, h1] at hx
  obtain ⟨τ', q1, q2⟩ := mo_inv hx.symm
  cases q1
  rw [q2, rm_fX11_setsFeud] at h2
  obtain ⟨ρ', r1, r2⟩ := mp_inv h2
  refine ⟨0, τ, 0, ρ', h1, e3.trans r1, ?_⟩
  rw [r2] at h3
  exact h3
theorem feudI {H G B T a : Nat} (hH : H ≤ 6) (ha : a < H) {sx sm : S0 → Int32 → Int32 → Int32 → Option (Int32 × S0)} (fx : ∀ ρ (σ : S0) a0 a1 a2, sx (mix σ ρ) a0 a1 a2 = mo ρ (sx σ a0 a1 a2)) (fm : ∀ σ (ρ : S0) a0 a1 a2, sm (mix σ ρ) a0 a1 a2 = mp σ (sm ρ a0 a1 a2))
    (hs : ∀ σ x2 x3, Rall σ H G B T → Two (sx σ x2 x3 (nI (a + 1))) (sm σ x2 x3 (nI (a + 1))) (fun r s ν => r = s ∧ Rall ν H G B T)) : ∀ (d b m : Nat) (σ : S0) (x2 x3 : Int32), a - b = d → b ≤ a → d < m → Rall σ H G B T → Two (fX10_feuding_h22 sx m σ x2 x3 (nI a) (nI b)) (fX11_feuding_h19 sm m σ x2 x3 (nI a) (nI b)) (fun r s ν => r = s ∧ Rall ν H G B T) := by
  intro d
  induction d with
  | zero =>
    intro b m σ x2 x3 h1 h2 h3 h
    obtain ⟨m, rfl⟩ : ∃ q, m = q + 1 := ⟨m - 1, by omega⟩
    have : b = a := by omega
    subst this
    show Two (fX10_feuding_b22 _ _ _ _ _ _ _) (fX11_feuding_b19 _ _ _ _ _ _ _) _
    unfold fX10_feuding_b22 fX11_feuding_b19
    rw [if_pos (nI_le (Nat.le_refl _) (by omega)), if_pos (nI_le (Nat.le_refl _) (by omega))]
    simp only [ol]
    rw [nI_1]
    exact hs σ x2 x3 h
  | succ d ih =>
    intro b m σ x2 x3 h1 h2 h3 h
    obtain ⟨m, rfl⟩ : ∃ q, m = q + 1 := ⟨m - 1, by omega⟩
    have hone : ¬ (1 : Int32) = 0 := by decide
    have h4 : ¬ (4 : Int32) = 0 := by decide
    have key : ∀ (v t : Int32), (t = 0 ∨ t = 1) → Two (fX10_feuding_b56 sx (fX10_feuding_h22 sx m) σ v x3 (nI a) (nI b) t) (fX11_feuding_b53 sm (fX11_feuding_h19 sm m) σ v x3 (nI a) (nI b) t) (fun r s ν => r = s ∧ Rall ν H G B T) := fun v t ht => by
      have hX : fX10_feuding_b56 sx (fX10_feuding_h22 sx m) σ v x3 (nI a) (nI b) t = obp (fX1_setFoes σ 32 (nI a) (nI b) t) (fun _ σ2 => fX10_feuding_h22 sx m σ2 v (x3 + t) (nI a) (nI (b + 1))) := by
        unfold fX10_feuding_b56 fX10_feuding_b82
        simp only [ol, nI_1]
        rcases ht with rfl | rfl
        · simp only [if_true]
        · simp only [if_neg hone]
      have hM : fX11_feuding_b53 sm (fX11_feuding_h19 sm m) σ v x3 (nI a) (nI b) t = obp (fX11_setsFeud σ (nI b) (nI a) t) (fun _ σ2 => fX11_feuding_h19 sm m σ2 v (x3 + t) (nI a) (nI (b + 1))) := by
        unfold fX11_feuding_b53 fX11_flag
        simp only [ol, nI_1]
        rcases ht with rfl | rfl
        · simp only [if_true, obp]
        · simp only [if_neg hone, obp]
      rw [hX, hM]
      exact (pair2 t h ha (by omega) (by omega)).bind (fun _ σ ρ => rx_fX10_feuding_h22 ρ sx (fx ρ) m σ _ _ _ _) (fun _ σ ρ => rm_fX11_feuding_h19 σ sm (fm σ) m ρ _ _ _ _) (fun _ _ ν hν => ih (b + 1) m ν v (x3 + t) (by omega) (by omega) (by omega) hν)
    show Two (fX10_feuding_b22 _ _ _ _ _ _ _) (fX11_feuding_b19 _ _ _ _ _ _ _) _
    unfold fX10_feuding_b22 fX11_feuding_b19
    rw [if_neg (nI_ge (by omega) (by omega)), if_neg (nI_ge (by omega) (by omega)), ol_i, og_t h4, ol_i, ol_i, og_t h4, ol_i]
    generalize x2 * 1103515245 + 12345 = v
    have e := sh16 v
    generalize ((v.toUInt32 >>> ((16 : Int32).toUInt32 &&& Int32.toUInt32 31)).toInt32) &&& 32767 = u1 at e ⊢
    subst e
    generalize (v >>> ((16 : Int32) &&& 31)) &&& 32767 = u
    by_cases c : u - u / 4 * 4 = 0
    · rw [if_neg (fun q => q c), if_neg (fun q => q c)]
      exact key _ 1 (Or.inr rfl)
    · rw [if_pos c, if_pos c]
      exact key _ 0 (Or.inl rfl)
theorem feudO {H G B T : Nat} : ∀ (d a m : Nat) (σ : S0) (x2 x3 : Int32), H - a = d → a ≤ H → d < m → Rall σ H G B T → Two (fX10_feuding_h7 m σ x2 x3 (nI a)) (fX11_feuding_h7 m σ x2 x3 (nI a)) (fun r s ν => r = s ∧ Rall ν H G B T) := by
  intro d
  induction d with
  | zero =>
    intro a m σ x2 x3 h1 h2 h3 h
    obtain ⟨m, rfl⟩ : ∃ q, m = q + 1 := ⟨m - 1, by omega⟩
    have hH := h.1.1.2.1
    obtain ⟨-, ⟨e1, -, -, -⟩, e3, -, -⟩ := h.1
    have : a = H := by omega
    subst this
    show Two (fX10_feuding_b7 _ _ _ _ _) (fX11_feuding_b7 _ _ _ _ _) _
    unfold fX10_feuding_b7 fX11_feuding_b7
    rw [if_pos (show σ 22 0 ≤ nI a from by rw [e3]; exact nI_le (Nat.le_refl _) (by omega)), if_pos (show σ 98 2 ≤ nI a from by rw [e1]; exact nI_le (Nat.le_refl _) (by omega))]
    exact Two.mk ⟨rfl, h⟩
  | succ d ih =>
    intro a m σ x2 x3 h1 h2 h3 h
    obtain ⟨m, rfl⟩ : ∃ q, m = q + 1 := ⟨m - 1, by omega⟩
    have hH := h.1.1.2.1
    obtain ⟨-, ⟨e1, -, -, -⟩, e3, -, -⟩ := h.1
    show Two (fX10_feuding_b7 _ _ _ _ _) (fX11_feuding_b7 _ _ _ _ _) _
    unfold fX10_feuding_b7 fX11_feuding_b7
    rw [if_neg (show ¬ (σ 22 0 ≤ nI a) from by rw [e3]; exact nI_ge (by omega) (by omega)), if_neg (show ¬ (σ 98 2 ≤ nI a) from by rw [e1]; exact nI_ge (by omega) (by omega))]
    exact feudI hH (by omega) (fun ρ σ a0 a1 a2 => rx_fX10_feuding_h7 ρ m σ a0 a1 a2) (fun σ ρ a0 a1 a2 => rm_fX11_feuding_h7 σ m ρ a0 a1 a2) (fun σ x2 x3 h => ih (a + 1) m σ x2 x3 (by omega) (by omega) (by omega) h) a 0 400 σ x2 x3 (by omega) (by omega) (by omega) h
theorem sim_feuding (x : Int32) : Sim (fun σ => fX10_feuding σ x) (fun σ => fX11_feuding σ x) := by
  refine Sim.of2 (fun σ ρ => rx_fX10_feuding ρ σ x) (fun σ ρ => rm_fX11_feuding σ ρ x) (fun σ hR => ?_)
  obtain ⟨H, G, B, T, h⟩ := id hR
  have := feudO (H - 1) 1 400 σ x 0 rfl (by have := h.1.1.1; omega) (by have := h.1.1.2.1; omega) h
  exact this.mono (fun a b ν q => ⟨q.1, H, G, B, T, q.2⟩)
end
section
/-! FITS, WHICH -/
def rfd (f g : Nat → Int32) (t : Nat) : Nat → Int32
  | 0 => 0
  | i + 1 => if f (67 + i) = -4 then rfd f g t i ||| ((1 : Int32) <<< (f (5 * stk g t i) &&& 31)) else rfd f g t i
def rng (f g : Nat → Int32) (t : Nat) : Nat → Int32
  | 0 => 0
  | i + 1 => if f (67 + i) = -4 then rng f g t i else rng f g t i ||| ((1 : Int32) <<< (f (5 * stk g t i) &&& 31))
def okm (f g : Nat → Int32) (t : Nat) : Nat → Bool
  | 0 => true
  | i + 1 => okm f g t i && (decide (f (67 + i) = -4) || decide (f (67 + i) = g (14 * t + 2 + i)))
theorem okm_f {f g : Nat → Int32} {t i : Nat} (h : okm f g t i = false) : ∀ d, okm f g t (i + d) = false
  | 0 => h
  | d + 1 => by
    show (okm f g t (i + d) && _) = false
    rw [okm_f h d, Bool.false_and]
def fit1 (f g : Nat → Int32) (t n : Nat) : Int32 := if okm f g t n = true then (if rng f g t n &&& rfd f g t n = 0 then 1 else 0) else 0
def ft (f g : Nat → Int32) (t n : Nat) : Int32 := if ln g t = n then fit1 f g t n else 0
theorem refusedBy_l (f g : Nat → Int32) {t n : Nat} {σ : S0} (ht : t < 6) (hn : n ≤ 12) (okp : okP f g t n σ) (h7 : σ 32 7 = nI n) (h39 : ∀ j, j < n → σ 39 j = f (67 + j)) : ∀ (d i m : Nat), n - i = d → i ≤ n → d < m → fX3_refusedBy_h4 m σ (nI t) (rfd f g t i) (nI i) = some (rfd f g t n, σ) := by
  intro d
  induction d with
  | zero =>
    intro i m h1 h2 h3
    obtain ⟨m, rfl⟩ : ∃ q, m = q + 1 := ⟨m - 1, by omega⟩
    have : i = n := by omega
    subst this
    show fX3_refusedBy_b4 _ _ _ _ _ = _
    unfold fX3_refusedBy_b4
    rw [if_pos (show σ 32 7 ≤ nI i from by rw [h7]; exact nI_le (Nat.le_refl _) (by omega))]
  | succ d ih =>
    intro i m h1 h2 h3
    obtain ⟨m, rfl⟩ : ∃ q, m = q + 1 := ⟨m - 1, by omega⟩
    obtain ⟨b, hb, g1, s1, o1, -⟩ := okp.2.1 i (by omega)
    have hsb : stk g t i = b := by unfold stk; rw [g1]; exact nI_clamp (by omega)
    have s1' : σ (26 + 1 * t) i = nI b := by rw [Nat.one_mul]; exact s1
    have hgi := ix_ok (j := i) (n := 12) (by omega) (by omega)
    have hci : (nI i).toNatClampNeg = i := nI_clamp (by omega)
    have hgi2 : ¬ (nI i < 0 ∨ 12 ≤ i) := fun q => hgi (by rw [hci]; exact q)
    have hgt := ix_ok (j := t) (n := 6) (by omega) (by omega)
    have hct : (nI t).toNatClampNeg = t := nI_clamp (by omega)
    have hgt2 : ¬ (nI t < 0 ∨ 6 ≤ t) := fun q => hgt (by rw [hct]; exact q)
    have hgb := ix_ok (j := b) (n := 12) (by omega) (by omega)
    have hcb : (nI b).toNatClampNeg = b := nI_clamp (by omega)
    have hgb2 : ¬ (nI b < 0 ∨ 12 ≤ b) := fun q => hgb (by rw [hcb]; exact q)
    have ih' := ih (i + 1) m (by omega) (by omega) (by omega)
    show fX3_refusedBy_b4 _ _ _ _ _ = _
    unfold fX3_refusedBy_b4 fX3_refusedBy_b53
    rw [if_neg (show ¬ (σ 32 7 ≤ nI i) from by rw [h7]; exact nI_ge (by omega) (by omega))]
    simp only [og_t hgi, og_t hgi2, hci, og_t hgt, og_t hgt2, hct, ol, s1', og_t hgb, og_t hgb2, hcb, h39 i (by omega), o1, nI_1]
    by_cases c : f (67 + i) = -4
    · rw [if_neg (fun q => q c)]
      rw [rfd, if_pos c, hsb] at ih'
      exact ih'
    · rw [if_pos c]
      rw [rfd, if_neg c] at ih'
      exact ih'
theorem canBe_l (f g : Nat → Int32) {t n : Nat} {σ : S0} (ht : t < 6) (hn : n ≤ 12) (okp : okP f g t n σ) (h7 : σ 32 7 = nI n) (h39 : ∀ j, j < n → σ 39 j = f (67 + j)) : ∀ (d i m : Nat), n - i = d → i ≤ n → d < m → okm f g t i = true → fX3_canBe_h25 m σ (nI t) (rng f g t i) (nI i) = some (fit1 f g t n, σ) := by
  intro d
  induction d with
  | zero =>
    intro i m h1 h2 h3 hm
    obtain ⟨m, rfl⟩ : ∃ q, m = q + 1 := ⟨m - 1, by omega⟩
    have : i = n := by omega
    subst this
    have hr : fX3_refusedBy σ (nI t) = some (rfd f g t i, σ) := refusedBy_l f g ht hn okp h7 h39 i 0 400 (by omega) (by omega) (by omega)
    show fX3_canBe_b25 _ _ _ _ _ = _
    unfold fX3_canBe_b25 fit1
    rw [if_pos (show σ 32 7 ≤ nI i from by rw [h7]; exact nI_le (Nat.le_refl _) (by omega)), hr]
    simp only [obp]
    rw [if_pos hm]
    by_cases c : rng f g t i &&& rfd f g t i = 0
    · rw [if_neg (fun q => q c), if_pos c]
    · rw [if_pos c, if_neg c]
  | succ d ih =>
    intro i m h1 h2 h3 hm
    obtain ⟨m, rfl⟩ : ∃ q, m = q + 1 := ⟨m - 1, by omega⟩
    obtain ⟨b, hb, g1, s1, o1, -⟩ := okp.2.1 i (by omega)
    have hsb : stk g t i = b := by unfold stk; rw [g1]; exact nI_clamp (by omega)
    have s1' : σ (26 + 1 * t) i = nI b := by rw [Nat.one_mul]; exact s1
    have hgi := ix_ok (j := i) (n := 12) (by omega) (by omega)
    have hci : (nI i).toNatClampNeg = i := nI_clamp (by omega)
    have hgi2 : ¬ (nI i < 0 ∨ 12 ≤ i) := fun q => hgi (by rw [hci]; exact q)
    have hgt := ix_ok (j := t) (n := 6) (by omega) (by omega)
    have hct : (nI t).toNatClampNeg = t := nI_clamp (by omega)
    have hgt2 : ¬ (nI t < 0 ∨ 6 ≤ t) := fun q => hgt (by rw [hct]; exact q)
    have hgb := ix_ok (j := b) (n := 12) (by omega) (by omega)
    have hcb : (nI b).toNatClampNeg = b := nI_clamp (by omega)
    have hgb2 : ¬ (nI b < 0 ∨ 12 ≤ b) := fun q => hgb (by rw [hcb]; exact q)
    have ih' := ih (i + 1) m (by omega) (by omega) (by omega)
    have h72 : ∀ x : Int32, x = -4 → fX3_canBe_b72 (fX3_canBe_h25 m) σ (nI t) (rng f g t i) (nI i) x = fX3_canBe_h25 m σ (nI t) (rng f g t i) (nI (i + 1)) := fun x hx => by
      unfold fX3_canBe_b72 fX3_canBe_b96
      rw [if_neg (fun q => q hx)]
      simp only [ol, nI_1]
      rw [Int32.or_zero]
    have h72b : fX3_canBe_b72 (fX3_canBe_h25 m) σ (nI t) (rng f g t i) (nI i) (nI b) = fX3_canBe_h25 m σ (nI t) (rng f g t i ||| ((1 : Int32) <<< (f (5 * b) &&& 31))) (nI (i + 1)) := by
      unfold fX3_canBe_b72 fX3_canBe_b96
      rw [if_pos (nI_m4 (by omega))]
      simp only [og_t hgb, og_t hgb2, hcb, ol, nI_1, o1]
    show fX3_canBe_b25 _ _ _ _ _ = _
    unfold fX3_canBe_b25
    rw [if_neg (show ¬ (σ 32 7 ≤ nI i) from by rw [h7]; exact nI_ge (by omega) (by omega))]
    simp only [og_t hgi, og_t hgi2, hci, og_t hgt, og_t hgt2, hct, ol, s1', h39 i (by omega)]
    by_cases c : f (67 + i) = -4
    · rw [if_pos c, h72 _ c]
      rw [rng, if_pos c] at ih'
      exact ih' (by rw [okm, hm, decide_eq_true c]; rfl)
    · rw [if_neg c]
      by_cases c2 : f (67 + i) = nI b
      · rw [if_pos c2, c2, h72b]
        rw [rng, if_neg c, hsb] at ih'
        exact ih' (by rw [okm, hm, g1, decide_eq_true c2]; simp)
      · rw [if_neg c2]
        have hf : okm f g t (i + 1) = false := by rw [okm, hm, g1, decide_eq_false c, decide_eq_false c2]; rfl
        have := okm_f hf (n - (i + 1))
        rw [show i + 1 + (n - (i + 1)) = n by omega] at this
        unfold fit1
        rw [if_neg (by rw [this]; decide)]
theorem canBe_s {σ : S0} {H G B T t n : Nat} (h : Rall σ H G B T) (ht : t < T) (h66 : σ 99 66 = nI n) (hn : n ≤ 12) : fX3_canBe σ (nI t) = some (ft (σ 99) (σ 101) t n, σ) := by
  obtain ⟨ok, okp, l1, -⟩ := RT h ht
  have hT := h.1.1.2.2.2.2
  have hL := ok.1
  have h7 : σ 32 7 = nI n := h.2.1.2.2.2.1.trans h66
  have h39 : ∀ j, j < n → σ 39 j = σ 99 (67 + j) := fun j hj => by
    have := h.2.1.2.2.2.2 j (by omega) (by show nI j < σ 99 66; rw [h66]; exact (nI_ltI (by omega) (by omega)).mpr hj)
    simpa using this
  have e24 : σ 24 t = nI (ln (σ 101) t) := okp.1
  unfold fX3_canBe ft
  rw [og_t (ix_ok (by omega) (by omega)), nI_clamp (by omega)]
  simp only [ol]
  rw [e24, h7]
  by_cases c : ln (σ 101) t = n
  · rw [if_pos c, if_pos (by rw [c])]
    rw [c] at okp
    exact canBe_l (σ 99) (σ 101) (by omega) hn okp h7 h39 n 0 400 (by omega) (by omega) (by omega) rfl
  · rw [if_neg c, if_neg (nI_ne (fun q => c q.symm) (by omega) (by omega))]
/-- nothing but the reference's row of those that refused has changed -/
def onlyF (σ τ : S0) : Prop := ∀ k j, ¬ (k = 98 ∧ j = 35) → τ k j = σ k j
theorem onlyF.c {a b : S0} (h : onlyF a b) {k : Nat} (h1 : k ≠ 98) : b k = a k := funext fun j => h k j (fun q => h1 q.1)
theorem onlyF.tr {a b c : S0} (h1 : onlyF a b) (h2 : onlyF b c) : onlyF a c := fun k j x => (h2 k j x).trans (h1 k j x)
theorem onlyF.su (a : S0) (v : Int32) : onlyF a (su a 98 35 v) := fun k j x => by
  by_cases hk : k = 98
  · subst hk; rw [su_j (fun q => x ⟨rfl, q⟩)]
  · rw [su_ne hk]
theorem onlyF.e {a b : S0} (h : onlyF a b) : eqv a b := fun k j hr => h k j (fun q => by
  obtain ⟨rfl, rfl⟩ := q
  cases hr)
theorem isFit_l (f g : Nat → Int32) {t n : Nat} (ht : t < 6) (hn : n ≤ 12) (ok : okT f g t n) (h66 : f 66 = nI n) : ∀ (d i m : Nat) (σ : S0), n - i = d → i ≤ n → d < m → okm f g t i = true → σ 99 = f → σ 101 = g → σ 98 35 = rfd f g t i → ∃ τ, fX11_isFit_h31 m σ (nI t) (rng f g t i) 1 (nI i) = some (fit1 f g t n, τ) ∧ onlyF σ τ ∧ (okm f g t n = true → τ 98 35 = rfd f g t n) := by
  intro d
  have hone : ¬ (1 : Int32) = 0 := by decide
  induction d with
  | zero =>
    intro i m σ h1 h2 h3 hm hf hg h35
    obtain ⟨m, rfl⟩ : ∃ q, m = q + 1 := ⟨m - 1, by omega⟩
    have : i = n := by omega
    subst this
    refine ⟨σ, ?_, fun _ _ _ => rfl, fun _ => h35⟩
    show fX11_isFit_b31 _ _ _ _ _ _ = _
    unfold fX11_isFit_b31 fX11_isFit_b146 fit1
    rw [og_t c66]
    simp only [ol, v66, hf, h66]
    rw [if_pos (nI_le (Nat.le_refl _) (by omega)), if_neg hone, h35, if_pos hm]
    by_cases c : rng f g t i &&& rfd f g t i = 0
    · rw [if_neg (fun q => q c), if_pos c]
    · rw [if_pos c, if_neg c]
  | succ d ih =>
    intro i m σ h1 h2 h3 hm hf hg h35
    obtain ⟨m, rfl⟩ : ∃ q, m = q + 1 := ⟨m - 1, by omega⟩
    obtain ⟨b, w, hb, hw, g1, o1⟩ := ok.2.2 i (by omega)
    have hsb : stk g t i = b := by unfold stk; rw [g1]; exact nI_clamp (by omega)
    have hst : ∀ τ : S0, τ 101 = g → fX11_stroke τ (nI t) (nI i) = some (nI b, τ) := fun τ hτ => by rw [stroke_s τ ht (by omega), hτ, g1]
    have hof : fX11_of σ (nI b) 0 = some (f (5 * b), σ) := by rw [of_l σ (b := b) (w := 0) hb (by omega) (x := 0) rfl, hf]; rfl
    have h67 : (67 : Int32) + nI i = nI (67 + i) := nI_add 67 i
    have e1 : fX11_isFit_h31 (m + 1) σ (nI t) (rng f g t i) 1 (nI i) = if ¬ f (67 + i) = -4 then fX11_isFit_b93 (fX11_isFit_h31 m) σ (nI t) (rng f g t i) (nI i) (f (67 + i)) (f (5 * b)) 0 (rfd f g t i) else fX11_isFit_b93 (fX11_isFit_h31 m) σ (nI t) (rng f g t i) (nI i) (f (67 + i)) (f (5 * b)) ((1 : Int32) <<< (f (5 * b) &&& 31)) (rfd f g t i) := by
      show fX11_isFit_b31 _ _ _ _ _ _ = _
      unfold fX11_isFit_b31
      rw [og_t c66]
      simp only [ol, v66, hf, h66]
      rw [if_neg (nI_ge (by omega) (by omega)), if_neg hone, h67, og_t (ix_ok (by omega) (by omega)), nI_clamp (by omega), hst σ hg]
      simp only [obp]
      rw [hof]
      simp only [h35]
    rw [e1]
    by_cases c : f (67 + i) = -4
    · rw [if_neg (fun q => q c)]
      unfold fX11_isFit_b93 fX11_isFit_b113 fX11_isFit_b134 fX11_isFit_b139
      simp only [ol, nI_1]
      rw [if_neg (fun q => q c), if_pos c, Int32.or_zero]
      obtain ⟨τ, t1, t2, t3⟩ := ih (i + 1) m (su σ 98 35 (rfd f g t i ||| ((1 : Int32) <<< (f (5 * b) &&& 31)))) (by omega) (by omega) (by omega) (by rw [okm, hm, decide_eq_true c]; rfl) (by rw [su_ne (by omega)]; exact hf) (by rw [su_ne (by omega)]; exact hg) (by rw [su_s, rfd, if_pos c, hsb])
      rw [rng, if_pos c] at t1
      exact ⟨τ, t1, (onlyF.su σ _).tr t2, t3⟩
    · rw [if_pos c]
      unfold fX11_isFit_b93 fX11_isFit_b113 fX11_isFit_b134 fX11_isFit_b139
      simp only [ol, nI_1]
      rw [if_pos c, if_neg c, Int32.or_zero, hst _ (by rw [su_ne (by omega)]; exact hg)]
      simp only [obp]
      by_cases c2 : f (67 + i) = nI b
      · rw [if_neg (fun q => q c2)]
        obtain ⟨τ, t1, t2, t3⟩ := ih (i + 1) m (su σ 98 35 (rfd f g t i)) (by omega) (by omega) (by omega) (by rw [okm, hm, g1, decide_eq_true c2]; simp) (by rw [su_ne (by omega)]; exact hf) (by rw [su_ne (by omega)]; exact hg) (by rw [su_s, rfd, if_neg c])
        rw [rng, if_neg c, hsb] at t1
        exact ⟨τ, t1, (onlyF.su σ _).tr t2, t3⟩
      · rw [if_pos c2]
        have hfl : okm f g t (i + 1) = false := by rw [okm, hm, g1, decide_eq_false c, decide_eq_false c2]; rfl
        have := okm_f hfl (n - (i + 1))
        rw [show i + 1 + (n - (i + 1)) = n by omega] at this
        obtain ⟨m, rfl⟩ : ∃ q, m = q + 1 := ⟨m - 1, by omega⟩
        refine ⟨su σ 98 35 (rfd f g t i), ?_, onlyF.su σ _, fun q => by rw [this] at q; cases q⟩
        show fX11_isFit_b31 _ _ _ _ _ _ = _
        unfold fX11_isFit_b31 fX11_isFit_b146 fit1
        rw [og_t c66]
        simp only [ol, if_true]
        rw [if_neg (show ¬ okm f g t n = true from by rw [this]; decide)]
        by_cases c3 : su σ 98 35 (rfd f g t i) 99 ((66 : Int32)).toNatClampNeg ≤ nI (i + 1)
        · rw [if_pos c3]
        · rw [if_neg c3]
theorem isFit_s {σ : S0} {H G B T t n : Nat} (h : Rall σ H G B T) (ht : t < T) (h66 : σ 99 66 = nI n) (hn : n ≤ 12) : ∃ τ, fX11_isFit σ (nI t) = some (ft (σ 99) (σ 101) t n, τ) ∧ onlyF σ τ ∧ (ft (σ 99) (σ 101) t n ≠ 0 → τ 98 35 = rfd (σ 99) (σ 101) t n) := by
  obtain ⟨ok, okp, l1, -⟩ := RT h ht
  have hT := h.1.1.2.2.2.2
  have hL := ok.1
  have hst : fX11_strokes (su σ 98 35 0) (nI t) = some (nI (ln (σ 101) t), su σ 98 35 0) := strokes_s _ (by omega) (by rw [su_ne (by omega)]; exact ok.2.1)
  have e : fX11_isFit σ (nI t) = if ¬ nI (ln (σ 101) t) = nI n then fX11_isFit_h31 400 (su σ 98 35 0) (nI t) 0 0 0 else fX11_isFit_h31 400 (su σ 98 35 0) (nI t) 0 1 0 := by
    unfold fX11_isFit fX11_isFit_b27
    simp only [ol, hst, obp]
    rw [og_t c66, v66, su_ne (by omega), h66]
  rw [e]
  unfold ft
  by_cases c : ln (σ 101) t = n
  · rw [if_neg (by simp [c]), if_pos c]
    rw [c] at ok
    obtain ⟨τ, t1, t2, t3⟩ := isFit_l (σ 99) (σ 101) (by omega) hn ok h66 n 0 400 (su σ 98 35 0) (by omega) (by omega) (by omega) rfl (su_ne (by omega)) (su_ne (by omega)) su_s
    refine ⟨τ, t1, (onlyF.su σ _).tr t2, fun q => t3 ?_⟩
    unfold fit1 at q
    by_cases c3 : okm (σ 99) (σ 101) t n = true
    · exact c3
    · rw [if_neg c3] at q
      exact absurd rfl q
  · rw [if_pos (nI_ne c (by omega) (by omega)), if_neg c]
    refine ⟨su σ 98 35 0, ?_, onlyF.su σ _, fun q => absurd rfl q⟩
    show fX11_isFit_b31 _ _ _ _ _ _ = _
    unfold fX11_isFit_b31 fX11_isFit_b146
    rw [og_t c66]
    simp only [ol, if_true]
    by_cases c3 : su σ 98 35 0 99 ((66 : Int32)).toNatClampNeg ≤ 0
    · rw [if_pos c3]
    · rw [if_neg c3]
theorem ft_01 (f g : Nat → Int32) (t n : Nat) : ft f g t n = 0 ∨ ft f g t n = 1 := by
  unfold ft fit1
  by_cases c1 : ln g t = n
  · rw [if_pos c1]
    by_cases c2 : okm f g t n = true
    · rw [if_pos c2]
      by_cases c3 : rng f g t n &&& rfd f g t n = 0
      · rw [if_pos c3]; exact Or.inr rfl
      · rw [if_neg c3]; exact Or.inl rfl
    · rw [if_neg c2]; exact Or.inl rfl
  · rw [if_neg c1]; exact Or.inl rfl
theorem sim_fits (x : Int32) : Sim (fun σ => fX10_fits σ x) (fun σ => fX11_fits σ x) := by
  intro σ hR
  show An (fX10_fits σ x) (fun r τ => An (fX11_fits τ x) (fun q ρ => r = q ∧ R ρ))
  obtain ⟨H, G, B, T, h⟩ := id hR
  obtain ⟨⟨b1, b2, b3, b4, b5⟩, ⟨e1, e2, e5, e6⟩, e3, e4, e7⟩ := h.1
  obtain ⟨⟨n, n1, n2, n3⟩, -⟩ := id h.2.2.1
  simp only [Nat.zero_add] at n2
  have h7 : σ 32 7 = nI n := h.2.1.2.2.2.1.trans n2
  have hone : ¬ (1 : Int32) = 0 := by decide
  rcases ixc x T (by omega) with ⟨t, ht, rfl⟩ | hx
  · by_cases c : n = 0
    · refine Sim.same (fun τ => fX11_fits τ (nI t)) (a := -2) hR ?_ ?_
      · unfold fX10_fits
        rw [ht_y e7 (by omega) ht]
        simp only [obp]
        rw [if_pos hone, if_neg (by rw [h7, c]; decide)]
      · show fX11_fits _ _ = _
        unfold fX11_fits
        rw [it_y e6 (by omega) ht]
        simp only [obp, ol]
        rw [if_pos hone, og_t c66, v66, if_neg (by rw [n2, c]; decide)]
    · obtain ⟨ρ, r1, r2, -⟩ := isFit_s h ht n2 n1
      have hn0 : ¬ nI n = 0 := nI_ne (b := 0) c (by omega) (by omega)
      refine ⟨ft (σ 99) (σ 101) t n, σ, ?_, ft (σ 99) (σ 101) t n, ρ, ?_, rfl, H, G, B, T, h.cg r2.e⟩
      · unfold fX10_fits
        rw [ht_y e7 (by omega) ht]
        simp only [obp]
        rw [if_pos hone, if_pos (by rw [h7]; exact hn0), canBe_s h ht n2 n1]
        simp only
        rcases ft_01 (σ 99) (σ 101) t n with q | q
        · rw [q]; rfl
        · rw [q]; rfl
      · show fX11_fits _ _ = _
        unfold fX11_fits fX11_flag
        rw [it_y e6 (by omega) ht]
        simp only [obp, ol]
        rw [if_pos hone, og_t c66, v66, if_pos (by rw [n2]; exact hn0), r1]
        simp only
        rcases ft_01 (σ 99) (σ 101) t n with q | q
        · rw [q]; rfl
        · rw [q]; rfl
  · refine Sim.same (fun τ => fX11_fits τ x) (a := -1) hR ?_ ?_
    · unfold fX10_fits; rw [ht_n e7 (by omega) hx]; rfl
    · show fX11_fits _ _ = _
      unfold fX11_fits; rw [it_n e6 (by omega) hx]; rfl
end
section
def wh (f g : Nat → Int32) (n : Nat) : Nat → Nat × Int32 × Int32 × Int32
  | 0 => (0, -4, -4, 63)
  | t + 1 => if ft f g t n = 0 then wh f g n t else ((wh f g n t).1 + 1, if (wh f g n t).1 = 0 then nI t else (wh f g n t).2.1, if (wh f g n t).1 = 0 then rfd f g t n else (wh f g n t).2.2.1, (wh f g n t).2.2.2 &&& rfd f g t n)
theorem wh_c (f g : Nat → Int32) (n : Nat) : ∀ t, (wh f g n t).1 ≤ t
  | 0 => Nat.le_refl _
  | t + 1 => by
    have := wh_c f g n t
    unfold wh
    by_cases c : ft f g t n = 0
    · rw [if_pos c]; omega
    · rw [if_neg c]; exact Nat.succ_le_succ this
theorem wh_0 (f g : Nat → Int32) (n : Nat) : ∀ t, (wh f g n t).1 = 0 → (wh f g n t).2.2.2 = 63
  | 0 => fun _ => rfl
  | t + 1 => by
    have := wh_0 f g n t
    unfold wh
    by_cases c : ft f g t n = 0
    · rw [if_pos c]; exact this
    · rw [if_neg c]; intro q; cases q
theorem rfd_b {f g : Nat → Int32} {t n : Nat} (ok : okT f g t n) : ∀ i, i ≤ n → ∃ m, m < 64 ∧ rfd f g t i = nI m
  | 0, _ => ⟨0, by omega, rfl⟩
  | i + 1, hi => by
    obtain ⟨m, m1, m2⟩ := rfd_b ok i (by omega)
    obtain ⟨b, w, hb, hw, g1, o1⟩ := ok.2.2 i (by omega)
    have hsb : stk g t i = b := by unfold stk; rw [g1]; exact nI_clamp (by omega)
    unfold rfd
    by_cases c : f (67 + i) = -4
    · rw [if_pos c, hsb, o1, m2]
      refine ⟨m ||| 2 ^ w, Nat.or_lt_two_pow (n := 6) m1 (Nat.pow_lt_pow_right (by omega) hw), wb_o ⟨m, m1⟩ ⟨w, hw⟩⟩
    · rw [if_neg c]; exact ⟨m, m1, m2⟩
theorem and63 : ∀ m : Fin 64, (63 : Int32) &&& nI m.1 = nI m.1 := by decide
theorem eq70 {σ τ : S0} (h : ∀ x, x ≠ 70 → τ x = σ x) : eqv σ τ := fun k j hr => by
  by_cases hk : k = 70
  · subst hk
    unfold rel at hr
    have := of_decide_eq_true hr
    omega
  · rw [h k hk]
def W70 (σ : S0) (n t : Nat) (τ : S0) : Prop := τ 70 2 = nI (wh (σ 99) (σ 101) n t).1 ∧ ((wh (σ 99) (σ 101) n t).1 ≠ 0 → τ 70 3 = (wh (σ 99) (σ 101) n t).2.1 ∧ τ 70 4 = (wh (σ 99) (σ 101) n t).2.2.1 ∧ τ 70 5 = (wh (σ 99) (σ 101) n t).2.2.2)
theorem cmp_l {H G B T n : Nat} (hn : n ≤ 12) : ∀ (d t m : Nat) (σ : S0), T - t = d → t ≤ T → d < m → Rall σ H G B T → σ 99 66 = nI n → W70 σ n t σ → ∃ τ, fX3_compareAll_h7 m σ (nI t) = some (0, τ) ∧ (∀ x, x ≠ 70 → τ x = σ x) ∧ W70 σ n T τ := by
  intro d
  induction d with
  | zero =>
    intro t m σ h1 h2 h3 h h66 hw
    obtain ⟨m, rfl⟩ : ∃ q, m = q + 1 := ⟨m - 1, by omega⟩
    have hT := h.1.1.2.2.2.2
    have : t = T := by omega
    subst this
    refine ⟨σ, ?_, fun _ _ => rfl, hw⟩
    show fX3_compareAll_b7 _ _ _ = _
    unfold fX3_compareAll_b7
    rw [if_pos (show σ 22 2 ≤ nI t from by rw [h.1.2.2.2.2]; exact nI_le (Nat.le_refl _) (by omega))]
  | succ d ih =>
    intro t m σ h1 h2 h3 h h66 hw
    obtain ⟨m, rfl⟩ : ∃ q, m = q + 1 := ⟨m - 1, by omega⟩
    have hT := h.1.1.2.2.2.2
    have hlt : t < T := by omega
    have e1 : fX3_compareAll_h7 (m + 1) σ (nI t) = if ft (σ 99) (σ 101) t n = 0 then fX3_compareAll_h7 m σ (nI (t + 1)) else obp (fX3_addFitting σ (nI t)) (fun _ σ7 => fX3_compareAll_h7 m σ7 (nI (t + 1))) := by
      show fX3_compareAll_b7 _ _ _ = _
      unfold fX3_compareAll_b7 fX3_compareAll_b31
      rw [if_neg (show ¬ (σ 22 2 ≤ nI t) from by rw [h.1.2.2.2.2]; exact nI_ge (by omega) (by omega)), canBe_s h hlt h66 hn]
      simp only [obp, ol, nI_1]
    rw [e1]
    by_cases c : ft (σ 99) (σ 101) t n = 0
    · rw [if_pos c]
      have hw2 : W70 σ n (t + 1) σ := by
        unfold W70 at hw ⊢
        rw [wh, if_pos c]; exact hw
      exact ih (t + 1) m σ (by omega) (by omega) (by omega) h h66 hw2
    · rw [if_neg c]
      have hln : ln (σ 101) t = n := by
        by_cases q : ln (σ 101) t = n
        · exact q
        · unfold ft at c; rw [if_neg q] at c; exact absurd rfl c
      obtain ⟨ok, okp, -, -⟩ := RT h hlt
      rw [hln] at ok okp
      have h7 : σ 32 7 = nI n := h.2.1.2.2.2.1.trans h66
      have h39 : ∀ j, j < n → σ 39 j = σ 99 (67 + j) := fun j hj => by
        have := h.2.1.2.2.2.2 j (by omega) (by show nI j < σ 99 66; rw [h66]; exact (nI_ltI (by omega) (by omega)).mpr hj)
        simpa using this
      have hr : fX3_refusedBy σ (nI t) = some (rfd (σ 99) (σ 101) t n, σ) := refusedBy_l (σ 99) (σ 101) (by omega) hn okp h7 h39 n 0 400 (by omega) (by omega) (by omega)
      obtain ⟨mm, mm1, mm2⟩ := rfd_b ok n (Nat.le_refl _)
      have hc := wh_c (σ 99) (σ 101) n t
      have key : ∃ τ, fX3_addFitting σ (nI t) = some (0, τ) ∧ (∀ x, x ≠ 70 → τ x = σ x) ∧ W70 σ n (t + 1) τ := by
        unfold fX3_addFitting fX3_addFitting_b28
        rw [hr]
        simp only [obp, ol]
        by_cases c0 : (wh (σ 99) (σ 101) n t).1 = 0
        · have z : σ 70 2 = 0 := by rw [hw.1, c0]; rfl
          rw [if_neg (fun q => q z)]
          refine ⟨_, rfl, fun x hx => ?_, ?_, fun _ => ⟨?_, ?_, ?_⟩⟩
          · rw [su_ne hx, su_ne hx, su_ne hx, su_ne hx, su_ne hx]
          · rw [su_s, wh, if_neg c, su_j (by omega), su_j (by omega), su_j (by omega), su_j (by omega), hw.1, nI_1]
          · rw [su_j (by omega), su_j (by omega), su_j (by omega), su_j (by omega), su_s, wh, if_neg c]
            simp only [if_pos c0]
          · rw [su_j (by omega), su_j (by omega), su_j (by omega), su_s, wh, if_neg c]
            simp only [if_pos c0]
          · rw [su_j (by omega), su_s, su_s, wh, if_neg c]
            simp only
            rw [wh_0 _ _ _ _ c0, mm2, Int32.and_self, and63 ⟨mm, mm1⟩]
        · have z : ¬ σ 70 2 = 0 := by rw [hw.1]; exact nI_ne (b := 0) c0 (by omega) (by omega)
          obtain ⟨w3, w4, w5⟩ := hw.2 c0
          rw [if_pos z]
          refine ⟨_, rfl, fun x hx => ?_, ?_, fun _ => ⟨?_, ?_, ?_⟩⟩
          · rw [su_ne hx, su_ne hx]
          · rw [su_s, wh, if_neg c, su_j (by omega), hw.1, nI_1]
          · rw [su_j (by omega), su_j (by omega), wh, if_neg c]
            simp only [if_neg c0]
            exact w3
          · rw [su_j (by omega), su_j (by omega), wh, if_neg c]
            simp only [if_neg c0]
            exact w4
          · rw [su_j (by omega), su_s, wh, if_neg c]
            simp only
            rw [w5]
      obtain ⟨τ, t1, t2, t3⟩ := key
      rw [t1]
      simp only [obp]
      have e99 := t2 99 (by omega)
      have e101 := t2 101 (by omega)
      obtain ⟨ν, v1, v2, v3⟩ := ih (t + 1) m τ (by omega) (by omega) (by omega) (h.cg (eq70 t2)) (by rw [e99]; exact h66) (by unfold W70 at t3 ⊢; rw [e99, e101]; exact t3)
      refine ⟨ν, v1, fun x hx => (v2 x hx).trans (t2 x hx), ?_⟩
      unfold W70 at v3 ⊢
      rw [e99, e101] at v3
      exact v3
def wsel (x : Int32) (w : Nat × Int32 × Int32 × Int32) : Int32 := if ¬ x = 0 then (if ¬ nI w.1 = 0 then (if ¬ x = 1 then (if ¬ x = 2 then w.2.2.2 else w.2.2.1) else w.2.1) else -4) else nI w.1
theorem whM_l {H G B T n : Nat} (hn : n ≤ 12) (x : Int32) : ∀ (d t m : Nat) (σ : S0), T - t = d → t ≤ T → d < m → Rall σ H G B T → σ 99 66 = nI n → ∃ τ, fX11_which_h43 m σ x (nI (wh (σ 99) (σ 101) n t).1) (wh (σ 99) (σ 101) n t).2.1 (wh (σ 99) (σ 101) n t).2.2.1 (wh (σ 99) (σ 101) n t).2.2.2 (nI t) = some (wsel x (wh (σ 99) (σ 101) n T), τ) ∧ onlyF σ τ := by
  intro d
  induction d with
  | zero =>
    intro t m σ h1 h2 h3 h h66
    obtain ⟨m, rfl⟩ : ∃ q, m = q + 1 := ⟨m - 1, by omega⟩
    have hT := h.1.1.2.2.2.2
    have : t = T := by omega
    subst this
    refine ⟨σ, ?_, fun _ _ _ => rfl⟩
    show fX11_which_b43 _ _ _ _ _ _ _ _ = _
    unfold fX11_which_b43 wsel
    rw [if_pos (show σ 98 5 ≤ nI t from by rw [h.1.2.1.2.2.2]; exact nI_le (Nat.le_refl _) (by omega))]
    by_cases c0 : x = 0
    · rw [if_neg (fun q => q c0), if_neg (fun q => q c0)]
    · rw [if_pos c0, if_pos c0]
      by_cases c1 : nI (wh (σ 99) (σ 101) n t).1 = 0
      · rw [if_neg (fun q => q c1), if_neg (fun q => q c1)]
      · rw [if_pos c1, if_pos c1]
        by_cases c2 : x = 1
        · rw [if_neg (fun q => q c2), if_neg (fun q => q c2)]
        · rw [if_pos c2, if_pos c2]
          by_cases c3 : x = 2
          · rw [if_neg (fun q => q c3), if_neg (fun q => q c3)]
          · rw [if_pos c3, if_pos c3]
  | succ d ih =>
    intro t m σ h1 h2 h3 h h66
    obtain ⟨m, rfl⟩ : ∃ q, m = q + 1 := ⟨m - 1, by omega⟩
    have hT := h.1.1.2.2.2.2
    have hlt : t < T := by omega
    obtain ⟨τ, t1, t2, t3⟩ := isFit_s h hlt h66 hn
    have e99 := t2.c (k := 99) (by omega)
    have e101 := t2.c (k := 101) (by omega)
    obtain ⟨ν, v1, v2⟩ := ih (t + 1) m τ (by omega) (by omega) (by omega) (h.cg t2.e) (by rw [e99]; exact h66)
    rw [e99, e101] at v1
    refine ⟨ν, ?_, t2.tr v2⟩
    show fX11_which_b43 _ _ _ _ _ _ _ _ = _
    unfold fX11_which_b43 fX11_which_b71 fX11_which_b85 fX11_which_b99
    rw [if_neg (show ¬ (σ 98 5 ≤ nI t) from by rw [h.1.2.1.2.2.2]; exact nI_ge (by omega) (by omega)), t1]
    simp only [obp, ol, nI_1]
    have hc := wh_c (σ 99) (σ 101) n t
    by_cases c : ft (σ 99) (σ 101) t n = 0
    · rw [if_pos c]
      rw [wh, if_pos c] at v1
      exact v1
    · rw [if_neg c, t3 c]
      rw [wh, if_neg c] at v1
      simp only at v1
      by_cases c0 : (wh (σ 99) (σ 101) n t).1 = 0
      · have z : nI (wh (σ 99) (σ 101) n t).1 = 0 := by rw [c0]; rfl
        simp only [if_neg (fun q : ¬ _ => q z)]
        simp only [if_pos c0] at v1
        exact v1
      · have z : ¬ nI (wh (σ 99) (σ 101) n t).1 = 0 := nI_ne (b := 0) c0 (by omega) (by omega)
        simp only [if_pos z]
        simp only [if_neg c0] at v1
        exact v1
theorem sim_which (x : Int32) : Sim (fun σ => fX10_which σ x) (fun σ => fX11_which σ x) := by
  intro σ hR
  show An (fX10_which σ x) (fun r τ => An (fX11_which τ x) (fun q ρ => r = q ∧ R ρ))
  obtain ⟨H, G, B, T, h⟩ := id hR
  obtain ⟨⟨b1, b2, b3, b4, b5⟩, ⟨e1, e2, e5, e6⟩, e3, e4, e7⟩ := h.1
  obtain ⟨⟨n, n1, n2, n3⟩, -⟩ := id h.2.2.1
  simp only [Nat.zero_add] at n2
  have h7 : σ 32 7 = nI n := h.2.1.2.2.2.1.trans n2
  have hone : ¬ (1 : Int32) = 0 := by decide
  have l0 : (x < 0) ↔ x.toInt < 0 := i3_lt x 0
  have l3 : (x ≤ 3) ↔ x.toInt ≤ 3 := i3_le x 3
  by_cases hx : 0 ≤ x.toInt ∧ x.toInt ≤ 3
  · have hX : fX10_which σ x = if ¬ σ 32 7 = 0 then obp (fX3_compareAll σ) (fun r4 σ5 => if ¬ x = 0 then (if ¬ (σ5 70 2) = 0 then (if ¬ x = 1 then (if ¬ x = 2 then (some (σ5 70 5, σ5)) else (some (σ5 70 4, σ5))) else (some (σ5 70 3, σ5))) else (some ((-4), σ5))) else (some (σ5 70 2, σ5))) else some (-2, σ) := by
      unfold fX10_which
      rw [if_neg (by rw [l0]; omega), if_pos (by rw [l3]; omega)]
    have hM : ∀ τ : S0, τ 99 66 = nI n → fX11_which τ x = if ¬ nI n = 0 then fX11_which_h43 400 τ x 0 (-4) (-4) 63 0 else some (-2, τ) := fun τ hτ => by
      unfold fX11_which
      rw [in_i τ x 0 3 0 3 rfl rfl, if_pos hx]
      simp only [obp, ol]
      rw [if_pos hone, og_t c66, v66, hτ]
    by_cases c : n = 0
    · refine Sim.same (fun τ => fX11_which τ x) (a := -2) hR ?_ ?_
      · rw [hX, if_neg (by rw [h7, c]; decide)]
      · show fX11_which _ _ = _
        rw [hM σ n2, if_neg (by rw [c]; decide)]
    · have hn0 : ¬ nI n = 0 := nI_ne (b := 0) c (by omega) (by omega)
      have s1 : ∀ y, y ≠ 70 → su σ 70 2 0 y = σ y := fun y hy => su_ne hy
      obtain ⟨τ, t1, t2, t3⟩ := cmp_l n1 T 0 400 (su σ 70 2 0) (by omega) (by omega) (by omega) (h.cg (eq70 s1)) (by rw [s1 99 (by omega)]; exact n2) ⟨su_s, fun q => absurd rfl q⟩
      have t4 : ∀ y, y ≠ 70 → τ y = σ y := fun y hy => (t2 y hy).trans (s1 y hy)
      have hτ := h.cg (eq70 t4)
      unfold W70 at t3
      rw [s1 99 (by omega), s1 101 (by omega)] at t3
      obtain ⟨ρ, r1, r2⟩ := whM_l n1 x T 0 400 τ (by omega) (by omega) (by omega) hτ (by rw [t4 99 (by omega)]; exact n2)
      rw [t4 99 (by omega), t4 101 (by omega)] at r1
      refine ⟨wsel x (wh (σ 99) (σ 101) n T), τ, ?_, wsel x (wh (σ 99) (σ 101) n T), ρ, ?_, rfl, H, G, B, T, hτ.cg r2.e⟩
      · have ec : fX3_compareAll σ = some (0, τ) := t1
        rw [hX, if_pos (by rw [h7]; exact hn0), ec]
        simp only [obp, t3.1]
        unfold wsel
        by_cases c0 : x = 0
        · rw [if_neg (fun q => q c0), if_neg (fun q => q c0)]
        · rw [if_pos c0, if_pos c0]
          by_cases c1 : (wh (σ 99) (σ 101) n T).1 = 0
          · have z : nI (wh (σ 99) (σ 101) n T).1 = 0 := by rw [c1]; rfl
            rw [if_neg (fun q => q z), if_neg (fun q => q z)]
          · have hc := wh_c (σ 99) (σ 101) n T
            have z : ¬ nI (wh (σ 99) (σ 101) n T).1 = 0 := nI_ne (b := 0) c1 (by omega) (by omega)
            obtain ⟨w3, w4, w5⟩ := t3.2 c1
            rw [if_pos z, if_pos z, w3, w4, w5]
            by_cases c2 : x = 1
            · rw [if_neg (fun q => q c2), if_neg (fun q => q c2)]
            · rw [if_pos c2, if_pos c2]
              by_cases c3 : x = 2
              · rw [if_neg (fun q => q c3), if_neg (fun q => q c3)]
              · rw [if_pos c3, if_pos c3]
      · show fX11_which _ _ = _
        rw [hM τ (by rw [t4 99 (by omega)]; exact n2), if_pos hn0]
        exact r1
  · refine Sim.same (fun τ => fX11_which τ x) (a := -1) hR ?_ ?_
    · unfold fX10_which
      by_cases q : x < 0
      · rw [if_pos q]
      · rw [if_neg q, if_neg (by rw [l3]; rw [l0] at q; omega)]
    · show fX11_which _ _ = _
      unfold fX11_which
      rw [in_i σ x 0 3 0 3 rfl rfl, if_neg hx]
      rfl
end
section
/-! READ -/
theorem c66b : ¬ (((66 : Int32)) < 0 ∨ 240 ≤ 66) := by decide
def rfa (la y : Int32) (sz : Nat) (z : Int32) (j : Nat) : Int32 := if la = -4 then 1 else if la = y then (if 0 ≤ z.toInt + j ∧ z.toInt + j < sz then 0 else 2) else 3
theorem rfa_p {la y : Int32} {sz : Nat} {z : Int32} {j : Nat} (h : rfa la y sz z j = 0) (hs : sz ≤ 40) (hj : j ≤ 12) : ∃ p, p < sz ∧ z + nI j = nI p := by
  unfold rfa at h
  by_cases c1 : la = -4
  · rw [if_pos c1] at h; exact absurd h (by decide)
  · rw [if_neg c1] at h
    by_cases c2 : la = y
    · rw [if_pos c2] at h
      by_cases c3 : 0 ≤ z.toInt + j ∧ z.toInt + j < sz
      · refine ⟨(z.toInt + j).toNat, by omega, ?_⟩
        rw [← Int32.toInt_inj, i3_add (by rw [ir (by omega)]; omega) (by rw [ir (by omega)]; omega), ir (by omega), ir (by omega)]
        omega
      · rw [if_neg c3] at h; exact absurd h (by decide)
    · rw [if_neg c2] at h; exact absurd h (by decide)
theorem faultAt_s {σ : S0} {q : Nat} {la y : Int32} {sz : Nat} (z : Int32) {j : Nat} (hs : sz ≤ 40) (hj : j ≤ 12) (h : (la = -4 ∧ σ q 0 = -1) ∨ ∃ l, l < 3 ∧ la = nI l ∧ σ q 0 = nI l ∧ σ q 1 = nI sz) : fX7_faultAt σ q y (z + nI j) = some (rfa la y sz z j, σ) := by
  unfold fX7_faultAt fX7_faultAt_b31 fX7_isNothing rfa
  rcases h with ⟨a1, a2⟩ | ⟨l, l1, l2, l3, l4⟩
  · rw [if_neg (fun q => q a2), if_pos a1]
    rfl
  · have hm : ¬ nI l = -1 := by
      rcases (show l = 0 ∨ l = 1 ∨ l = 2 by omega) with rfl | rfl | rfl <;> decide
    rw [l3, if_pos hm, l2, if_neg (nI_m4 (by omega))]
    simp only [obp]
    rw [if_pos trivial, l3, l4]
    by_cases c : nI l = y
    · rw [if_pos c.symm, if_pos c]
      have zb := i3_bd z
      have hz : (z + nI j).toInt = if z.toInt + j < 2147483648 then z.toInt + j else z.toInt + j - 4294967296 := by
        by_cases q : z.toInt + j < 2147483648
        · rw [if_pos q, i3_add (by rw [ir (by omega)]; omega) (by rw [ir (by omega)]; omega), ir (by omega)]
        · rw [if_neg q, Int32.toInt_add, ir (by omega)]
          rw [Int.bmod_def]
          have : (z.toInt + (j : Int)) % ((2 ^ 32 : Nat) : Int) = z.toInt + j := Int.emod_eq_of_lt (by omega) (by omega)
          rw [this, if_neg (by omega)]
          omega
      simp only [i3_lt, hz]
      rw [ir (by omega)]
      have e0 : (0 : Int32).toInt = 0 := rfl
      rw [e0]
      by_cases q : z.toInt + j < 2147483648
      · simp only [if_pos q]
        by_cases q2 : z.toInt + j < 0
        · rw [if_pos q2, if_neg (by omega)]
        · rw [if_neg q2]
          by_cases q3 : z.toInt + j < sz
          · rw [if_pos q3, if_pos (by omega)]
          · rw [if_neg q3, if_neg (by omega)]
      · simp only [if_neg q]
        rw [if_pos (by omega), if_neg (by omega)]
    · rw [if_neg (fun q => c q.symm), if_neg c]
abbrev hbl (B : Nat) (v : Int32) : Prop := v = -4 ∨ (0 ≤ v.toInt ∧ v.toInt < (B : Int))
def rdo (F V : Nat → Int32) (B n0 : Nat) : Nat → Nat → Sum (Nat × Int32) Int32
  | 0, j => .inl (j, 0)
  | d + 1, j => if F j = 0 then (if hbl B (V j) then (if n0 + j < 12 then rdo F V B n0 d (j + 1) else .inr (-3)) else .inr (-20 - nI j)) else .inl (j, F j)
theorem rdo_p {F V : Nat → Int32} {B n0 : Nat} : ∀ (d j c : Nat) (e : Int32), n0 + j ≤ 12 → rdo F V B n0 d j = .inl (c, e) → j ≤ c ∧ n0 + c ≤ 12 ∧ c ≤ j + d ∧ ∀ i, j ≤ i → i < c → F i = 0 ∧ hbl B (V i)
  | 0, j, c, e, hj, h => by
    unfold rdo at h
    cases h
    exact ⟨Nat.le_refl _, hj, by omega, fun i h1 h2 => by omega⟩
  | d + 1, j, c, e, hj, h => by
    unfold rdo at h
    by_cases c1 : F j = 0
    · rw [if_pos c1] at h
      by_cases c2 : hbl B (V j)
      · rw [if_pos c2] at h
        by_cases c3 : n0 + j < 12
        · rw [if_pos c3] at h
          obtain ⟨p1, p2, p3, p4⟩ := rdo_p d (j + 1) c e (by omega) h
          refine ⟨by omega, p2, by omega, fun i h1 h2 => ?_⟩
          by_cases q : i = j
          · subst q; exact ⟨c1, c2⟩
          · exact p4 i (by omega) h2
        · rw [if_neg c3] at h; cases h
      · rw [if_neg c2] at h; cases h
    · rw [if_neg c1] at h
      cases h
      exact ⟨Nat.le_refl _, hj, by omega, fun i h1 h2 => by omega⟩
/-- the class adds what was found fit -/
theorem addAll_l {z e : Int32} {q n0 c : Nat} (hq : 39 < q) (hc : n0 + c ≤ 12) {p : Nat → Nat} (hp : ∀ i, i < c → p i < 40 ∧ z + nI i = nI (p i)) : ∀ (d j m : Nat) (σ : S0), c - j = d → j ≤ c → d < m → σ 32 7 = nI (n0 + j) → ∃ τ, fX10_read_h128 m σ z q e (nI c) (nI j) = some (nI c, τ) ∧ (∀ x, x ≠ 0 → x ≠ 32 → x ≠ 39 → τ x = σ x) ∧ (∀ i, i ≠ 12 → τ 0 i = σ 0 i) ∧ τ 0 12 = e ∧ (∀ i, i ≠ 7 → τ 32 i = σ 32 i) ∧ τ 32 7 = nI (n0 + c) ∧ (∀ i, i < n0 + j → τ 39 i = σ 39 i) ∧ ∀ i, j ≤ i → i < c → τ 39 (n0 + i) = σ (q + 1) (p i) := by
  intro d
  induction d with
  | zero =>
    intro j m σ h1 h2 h3 h7
    obtain ⟨m, rfl⟩ : ∃ q, m = q + 1 := ⟨m - 1, by omega⟩
    have : j = c := by omega
    subst this
    refine ⟨su σ 0 12 e, ?_, fun x h1 h2 h3 => su_ne h1, fun i hi => su_j hi, su_s, fun i hi => by rw [su_ne (by omega)], by rw [su_ne (by omega)]; exact h7, fun i hi => by rw [su_ne (by omega)], fun i h1 h2 => by omega⟩
    show fX10_read_b128 _ _ _ _ _ _ _ = _
    unfold fX10_read_b128
    rw [if_pos (nI_le (Nat.le_refl _) (by omega))]
    rfl
  | succ d ih =>
    intro j m σ h1 h2 h3 h7
    obtain ⟨m, rfl⟩ : ∃ q, m = q + 1 := ⟨m - 1, by omega⟩
    obtain ⟨p1, p2⟩ := hp j (by omega)
    have ha := addHeard_y σ 32 (σ (q + 1) (p j)) h7 (by omega) (by omega)
    obtain ⟨τ, t1, t2, t3, t4, t5, t6, t7, t8⟩ := ih (j + 1) m (su (su σ (32 + 7) (n0 + j) (σ (q + 1) (p j))) 32 7 (nI (n0 + j + 1))) (by omega) (by omega) (by omega) su_s
    refine ⟨τ, ?_, fun x h1 h2 h3 => ?_, fun i hi => ?_, t4, fun i hi => ?_, t6, fun i hi => ?_, fun i h1 h2 => ?_⟩
    · show fX10_read_b128 _ _ _ _ _ _ _ = _
      unfold fX10_read_b128
      rw [if_neg (nI_ge (by omega) (by omega))]
      simp only [ol]
      rw [p2, og_t (ix_ok p1 (by omega)), nI_clamp (by omega), ha]
      simp only [obp]
      rw [nI_1]
      exact t1
    · rw [t2 x h1 h2 h3, su_ne h2, su_ne (by omega)]
    · rw [t3 i hi, su_ne (by omega), su_ne (by omega)]
    · rw [t5 i hi, su_j hi, su_ne (by omega)]
    · rw [t7 i (by omega), su_ne (by omega), su_j (by omega)]
    · by_cases hi : i = j
      · subst hi
        rw [t7 (n0 + i) (by omega), su_ne (by omega), su_s]
      · rw [t8 i (by omega) h2, su_ne (by omega), su_ne (by omega)]
/-- the class looks first -/
theorem lookAll_l {σ : S0} {la y z : Int32} {q sz n n0 B : Nat} (hs : sz ≤ 40) (hn : n ≤ 12) (hB : B ≤ 12) (e0 : σ 32 0 = nI B) (h7 : σ 32 7 = nI n0) (h0 : n0 ≤ 12) (hl : (la = -4 ∧ σ q 0 = -1) ∨ ∃ l, l < 3 ∧ la = nI l ∧ σ q 0 = nI l ∧ σ q 1 = nI sz) : ∀ (d j m : Nat), n - j = d → j ≤ n → d < m → (∀ c e, rdo (rfa la y sz z) (fun j => σ (q + 1) (z + nI j).toNatClampNeg) B n0 d j = .inl (c, e) → fX10_read_h45 m σ y z (nI n) q 0 (nI j) (nI j) = fX10_read_h128 400 σ z q e (nI c) 0) ∧ (∀ r, rdo (rfa la y sz z) (fun j => σ (q + 1) (z + nI j).toNatClampNeg) B n0 d j = .inr r → fX10_read_h45 m σ y z (nI n) q 0 (nI j) (nI j) = some (r, σ)) := by
  intro d
  have hone : ¬ (1 : Int32) = 0 := by decide
  induction d with
  | zero =>
    intro j m h1 h2 h3
    obtain ⟨m, rfl⟩ : ∃ q, m = q + 1 := ⟨m - 1, by omega⟩
    have : j = n := by omega
    subst this
    refine ⟨fun c e h => ?_, fun r h => ?_⟩
    · unfold rdo at h
      cases h
      show fX10_read_b45 _ _ _ _ _ _ _ _ _ = _
      unfold fX10_read_b45 fX10_read_b125
      rw [if_pos (nI_le (Nat.le_refl _) (by omega))]
    · unfold rdo at h
      cases h
  | succ d ih =>
    intro j m h1 h2 h3
    obtain ⟨m, rfl⟩ : ∃ q, m = q + 1 := ⟨m - 1, by omega⟩
    have e1 : fX10_read_h45 (m + 1) σ y z (nI n) q 0 (nI j) (nI j) = if rfa la y sz z j = 0 then (og (¬ (z + nI j < 0 ∨ 40 ≤ (z + nI j).toNatClampNeg)) (if hbl B (σ (q + 1) (z + nI j).toNatClampNeg) then (if n0 + j < 12 then fX10_read_h45 m σ y z (nI n) q (rfa la y sz z j) (nI (j + 1)) (nI (j + 1)) else some (-3, σ)) else some (-20 - nI j, σ))) else fX10_read_h128 400 σ z q (rfa la y sz z j) (nI j) 0 := by
      show fX10_read_b45 _ _ _ _ _ _ _ _ _ = _
      unfold fX10_read_b45 fX10_read_b125
      rw [if_neg (nI_ge (by omega) (by omega)), faultAt_s z hs (by omega) hl]
      simp only [obp, ol]
      by_cases c1 : rfa la y sz z j = 0
      · rw [if_pos c1, if_pos c1, cbh_s σ 32 _ e0 hB]
        simp only
        congr 1
        by_cases c2 : hbl B (σ (q + 1) (z + nI j).toNatClampNeg)
        · simp only [if_pos c2]
          rw [if_pos hone, h7, nI_add, nI_1]
          by_cases c3 : n0 + j < 12
          · rw [if_pos c3, if_pos (show nI (n0 + j) < 12 from nI_lt (b := 12) c3 (by omega))]
          · rw [if_neg c3, if_neg (show ¬ nI (n0 + j) < 12 from fun q => c3 ((nI_ltI (b := 12) (by omega) (by omega)).mp q))]
        · simp only [if_neg c2]
          rw [if_neg (fun q => q trivial)]
      · rw [if_neg c1, if_neg c1]
    rw [e1]
    unfold rdo
    by_cases c1 : rfa la y sz z j = 0
    · obtain ⟨p, p1, p2⟩ := rfa_p c1 hs (by omega)
      have hg : ¬ (z + nI j < 0 ∨ 40 ≤ (z + nI j).toNatClampNeg) := by rw [p2]; exact ix_ok (by omega) (by omega)
      rw [if_pos c1, if_pos c1, og_t hg, c1]
      by_cases c2 : hbl B (σ (q + 1) (z + nI j).toNatClampNeg)
      · simp only [if_pos c2]
        by_cases c3 : n0 + j < 12
        · simp only [if_pos c3]
          exact ih (j + 1) m (by omega) (by omega) (by omega)
        · simp only [if_neg c3]
          exact ⟨fun c e h => (nomatch h), fun r h => by rw [← Sum.inr.inj h]⟩
      · simp only [if_neg c2]
        exact ⟨fun c e h => (nomatch h), fun r h => by rw [← Sum.inr.inj h]⟩
    · rw [if_neg c1, if_neg c1]
      exact ⟨fun c e h => (by cases h; rfl), fun r h => by cases h⟩
theorem hear_y {σ : S0} {v : Int32} {B : Nat} (e : σ 98 4 = nI B) (hB : B ≤ 12) : fX11_hear σ v = if hbl B v then fX11_hear_b16 σ v else some (-1, σ) := by
  unfold fX11_hear
  by_cases h4 : v = -4
  · rw [if_pos h4, if_pos (Or.inl h4)]
  · rw [if_neg h4, isBell_s σ v (by rw [e, ir (by omega)]; omega), e, ir (by omega)]
    by_cases c : 0 ≤ v.toInt ∧ v.toInt < (B : Int)
    · rw [if_pos c, if_pos (Or.inr c)]; rfl
    · rw [if_neg c, if_neg (fun q => q.elim h4 c)]; rfl
theorem w_s (z : Int32) {j : Nat} (hj : j ≤ 12) : (z.toInt64 + (nI j).toInt64).toInt = z.toInt + j := by
  have zb := i3_bd z
  rw [Int64.toInt_add, Int32.toInt_toInt64, Int32.toInt_toInt64, ir (by omega)]
  exact Int.bmod_eq_of_le (by omega) (by omega)
theorem rdM_b {sf : S0 → Int32 → Int32 → Int32 → Int32 → Int32 → Int32 → Int32 → Int32 → Option (Int32 × S0)} {σ : S0} {k j n sz : Nat} {y z x5 x7 : Int32} (hk : k < 4) (hj : j < n) (hn : n ≤ 12) (hs : sz ≤ 40) (hl : σ 108 k = -4 ∨ σ 109 k = nI sz) : fX11_read_b41 sf σ (nI k) y z (nI n) x5 0 x7 (nI j) = fX11_read_b115 sf σ (nI k) y z (nI n) x5 x7 (nI j) (rfa (σ 108 k) y sz z j) := by
  have hg := ix_ok (j := k) (n := 4) (by omega) (by omega)
  have hc : (nI k).toNatClampNeg = k := nI_clamp (by omega)
  have hg2 : ¬ (nI k < 0 ∨ 4 ≤ k) := fun q => hg (by rw [hc]; exact q)
  unfold fX11_read_b41 fX11_read_b110 rfa
  rw [if_neg (nI_ge (by omega) (by omega)), if_neg (fun q => q rfl)]
  simp only [og_t hg, og_t hg2, hc, ol]
  by_cases c1 : σ 108 k = -4
  · rw [if_neg (fun q => q c1), if_pos c1]
  · rw [if_pos c1, if_neg c1]
    have hz := hl.resolve_left c1
    by_cases c2 : σ 108 k = y
    · rw [if_pos c2, if_pos c2, hz]
      simp only [lg_cmp_lt, Int64.lt_iff_toInt_lt, w_s z (show j ≤ 12 by omega), Int32.toInt_toInt64, ir (show sz < 2 ^ 31 by omega)]
      have e0 : (0 : Int64).toInt = 0 := rfl
      rw [e0]
      by_cases q : z.toInt + j < 0
      · rw [if_pos q, if_neg (by omega)]
      · rw [if_neg q]
        by_cases q3 : z.toInt + j < sz
        · rw [if_pos q3, if_pos (by omega)]
        · rw [if_neg q3, if_neg (by omega)]
    · rw [if_neg c2, if_neg c2]
theorem rdM_e {m : Nat} {σ : S0} {y z x4 x5 x7 x8 e : Int32} {k : Nat} (he : ¬ e = 0) : fX11_read_h41 (m + 1) σ (nI k) y z x4 x5 e x7 x8 = some (x7, su σ 98 39 e) := by
  show fX11_read_b41 _ _ _ _ _ _ _ _ _ _ = _
  unfold fX11_read_b41 fX11_read_b182
  by_cases c : x4 ≤ x8
  · rw [if_pos c]; rfl
  · rw [if_neg c, if_pos he]; rfl
theorem readM_l {la y z : Int32} {k sz n n0 B : Nat} {V : Nat → Int32} (hk : k < 4) (hs : sz ≤ 40) (hn : n ≤ 12) (hB : B ≤ 12) (h0 : n0 ≤ 12) : ∀ (d j m : Nat) (σ : S0), n - j = d → j ≤ n → d + 1 < m → n0 + j ≤ 12 → σ 108 k = la → (la = -4 ∨ σ 109 k = nI sz) → σ 98 4 = nI B → σ 99 66 = nI (n0 + j) → (∀ i, V i = σ 110 (40 * k + (z + nI i).toNatClampNeg)) → ∃ r τ, fX11_read_h41 m σ (nI k) y z (nI n) (nI n0) 0 (nI j) (nI j) = some (r, τ) ∧ (∀ x, x ≠ 98 → x ≠ 99 → τ x = σ x) ∧ (∀ i, i ≠ 39 → τ 98 i = σ 98 i) ∧ (∀ i, i < 66 ∨ 79 ≤ i → τ 99 i = σ 99 i) ∧ (∀ i, i < n0 + j → τ 99 (67 + i) = σ 99 (67 + i)) ∧ (∀ c e, rdo (rfa la y sz z) V B n0 d j = .inl (c, e) → r = nI c ∧ τ 98 39 = e ∧ τ 99 66 = nI (n0 + c) ∧ ∀ i, j ≤ i → i < c → τ 99 (67 + n0 + i) = V i) ∧ (∀ r', rdo (rfa la y sz z) V B n0 d j = .inr r' → r = r' ∧ τ 98 39 = σ 98 39 ∧ τ 99 66 = nI n0) := by
  intro d
  induction d with
  | zero =>
    intro j m σ h1 h2 h3 h4 hla hsz h98 h66 hV
    obtain ⟨m, rfl⟩ : ∃ q, m = q + 1 := ⟨m - 1, by omega⟩
    have : j = n := by omega
    subst this
    refine ⟨nI j, su σ 98 39 0, ?_, fun x h1 h2 => su_ne h1, fun i hi => su_j hi, fun i hi => by rw [su_ne (by omega)], fun i hi => by rw [su_ne (by omega)], fun c e h => ?_, fun r h => ?_⟩
    · show fX11_read_b41 _ _ _ _ _ _ _ _ _ _ = _
      unfold fX11_read_b41 fX11_read_b182
      rw [if_pos (nI_le (Nat.le_refl _) (by omega))]; rfl
    · unfold rdo at h
      cases h
      exact ⟨rfl, su_s, by rw [su_ne (by omega)]; exact h66, fun i h1 h2 => by omega⟩
    · unfold rdo at h
      cases h
  | succ d ih =>
    intro j m σ h1 h2 h3 h4 hla hsz h98 h66 hV
    obtain ⟨m, rfl⟩ : ∃ q, m = q + 1 := ⟨m - 1, by omega⟩
    have e1 : fX11_read_h41 (m + 1) σ (nI k) y z (nI n) (nI n0) 0 (nI j) (nI j) = fX11_read_b115 (fX11_read_h41 m) σ (nI k) y z (nI n) (nI n0) (nI j) (nI j) (rfa la y sz z j) := by
      rw [← hla]
      exact rdM_b hk (by omega) hn hs (by rw [hla]; exact hsz)
    rw [e1]
    unfold rdo
    by_cases c1 : rfa la y sz z j = 0
    · obtain ⟨p, p1, p2⟩ := rfa_p c1 hs (by omega)
      have hp : (40 : Int32) * nI k + z + nI j = nI (40 * k + p) := by rw [Int32.add_assoc, p2, show (40 : Int32) = nI 40 from rfl, pk_mul, nI_add]
      have hVj : V j = σ 110 (40 * k + p) := by rw [hV j, p2, nI_clamp (by omega)]
      have e2 : fX11_read_b115 (fX11_read_h41 m) σ (nI k) y z (nI n) (nI n0) (nI j) (nI j) (rfa la y sz z j) = obp (fX11_hear σ (V j)) (fun r5 σ6 => if 0 ≤ r5 then fX11_read_h41 m σ6 (nI k) y z (nI n) (nI n0) 0 (nI (j + 1)) (nI (j + 1)) else (if ¬ r5 = -1 then some (-3, su σ6 99 66 (nI n0)) else some (-20 - nI j, su σ6 99 66 (nI n0)))) := by
        rw [c1]
        unfold fX11_read_b115 fX11_read_b176
        rw [if_neg (fun q => q rfl)]
        simp only [ol, hp]
        rw [og_t (ix_ok (by omega) (by omega)), nI_clamp (by omega), ← hVj]
        simp only [og_t c66, v66, nI_1, og_t c66b]
      rw [e2, if_pos c1, hear_y h98 hB]
      by_cases c2 : hbl B (V j)
      · rw [if_pos c2]
        simp only [if_pos c2]
        by_cases c3 : n0 + j < 12
        · rw [hear_m σ _ h66 c3]
          simp only [if_pos c3, obp]
          rw [if_pos (show (0 : Int32) ≤ nI (n0 + j + 1) from nI_le (a := 0) (by omega) (by omega))]
          obtain ⟨r, τ, t1, t2, t3, t4, t5, t6, t7⟩ := ih (j + 1) m (su (su σ 99 (67 + (n0 + j)) (V j)) 99 66 (nI (n0 + j + 1))) (by omega) (by omega) (by omega) (by omega) (by rw [su_ne (by omega), su_ne (by omega)]; exact hla) (by rw [su_ne (by omega), su_ne (by omega)]; exact hsz) (by rw [su_ne (by omega), su_ne (by omega)]; exact h98) su_s (fun i => by rw [su_ne (by omega), su_ne (by omega)]; exact hV i)
          refine ⟨r, τ, t1, fun x h1 h2 => ?_, fun i hi => ?_, fun i hi => ?_, fun i hi => ?_, fun c e h => ?_, fun r' h => ?_⟩
          · rw [t2 x h1 h2, su_ne h2, su_ne h2]
          · rw [t3 i hi, su_ne (by omega), su_ne (by omega)]
          · rw [t4 i hi, su_j (by omega), su_j (by omega)]
          · rw [t5 i (by omega), su_j (by omega), su_j (by omega)]
          · obtain ⟨q1, q2, q3, q4⟩ := t6 c e h
            refine ⟨q1, q2, q3, fun i h1 h2 => ?_⟩
            by_cases hi : i = j
            · subst hi
              rw [show 67 + n0 + i = 67 + (n0 + i) by omega, t5 (n0 + i) (by omega), su_j (by omega), su_s]
            · exact q4 i (by omega) h2
          · obtain ⟨q1, q2, q3⟩ := t7 r' h
            exact ⟨q1, by rw [q2, su_ne (by omega), su_ne (by omega)], q3⟩
        · have h12 : n0 + j = 12 := by omega
          rw [hear_f σ _ (by rw [h66, h12])]
          simp only [if_neg c3, obp]
          rw [if_neg (by decide), if_pos (by decide)]
          refine ⟨-3, su σ 99 66 (nI n0), rfl, fun x h1 h2 => su_ne h2, fun i hi => by rw [su_ne (by omega)], fun i hi => su_j (by omega), fun i hi => su_j (by omega), fun c e h => (nomatch h), fun r' h => ?_⟩
          rw [← Sum.inr.inj h]
          exact ⟨rfl, by rw [su_ne (by omega)], su_s⟩
      · rw [if_neg c2]
        simp only [if_neg c2, obp]
        rw [if_neg (by decide), if_neg (by decide)]
        refine ⟨-20 - nI j, su σ 99 66 (nI n0), rfl, fun x h1 h2 => su_ne h2, fun i hi => by rw [su_ne (by omega)], fun i hi => su_j (by omega), fun i hi => su_j (by omega), fun c e h => (nomatch h), fun r' h => ?_⟩
        rw [← Sum.inr.inj h]
        exact ⟨rfl, by rw [su_ne (by omega)], su_s⟩
    · rw [if_neg c1]
      obtain ⟨m, rfl⟩ : ∃ q, m = q + 1 := ⟨m - 1, by omega⟩
      refine ⟨nI j, su σ 98 39 (rfa la y sz z j), ?_, fun x h1 h2 => su_ne h1, fun i hi => su_j hi, fun i hi => by rw [su_ne (by omega)], fun i hi => by rw [su_ne (by omega)], fun c e h => ?_, fun r h => by cases h⟩
      · unfold fX11_read_b115 fX11_read_b176
        rw [if_pos c1]
        simp only [ol]
        exact rdM_e c1
      · cases h
        exact ⟨rfl, su_s, by rw [su_ne (by omega)]; exact h66, fun i h1 h2 => by omega⟩
theorem R_torn {σ τ : S0} {H G B T : Nat} (h : Rall σ H G B T) (ta : ∀ x, x ≠ 0 → x ≠ 98 → τ x = σ x) (tb : ∀ i, i ≠ 39 → τ 98 i = σ 98 i) (tc : τ 0 12 = τ 98 39) : Rall τ H G B T := by
  obtain ⟨hn, hk, hm, ht, hi, hp, hs, hf, hq⟩ := h
  have hB := hn.1.2.2.2.1
  have hT := hn.1.2.2.2.2
  exact ⟨hn.c (tb _ (by omega)) (tb _ (by omega)) (tb _ (by omega)) (tb _ (by omega)) (ta 22 (by omega) (by omega)), hk.c (fun d hd => ta _ (by omega) (by omega)) (fun i h1 h2 => by rw [ta 99 (by omega) (by omega)]) hB, hm.c (fun i h1 h2 => by rw [ta 99 (by omega) (by omega)]) hB, ht.c (ta _ (by omega) (by omega)) (ta _ (by omega) (by omega)) (ta _ (by omega) (by omega)) (fun t h => ta _ (by omega) (by omega)), hi.c (ta _ (by omega) (by omega)) (ta _ (by omega) (by omega)) (fun x h1 h2 => ta _ (by omega) (by omega)) (fun i h1 h2 => by rw [ta 99 (by omega) (by omega)]) hB, hp.c (by rw [ta 1 (by omega) (by omega)]) (tb _ (by omega)) (ta _ (by omega) (by omega)) (ta _ (by omega) (by omega)), hs.c (ta _ (by omega) (by omega)) (ta _ (by omega) (by omega)) (ta _ (by omega) (by omega)) (fun x h1 h2 => ta _ (by omega) (by omega)), by rw [ta 3 (by omega) (by omega), tb _ (by omega)]; exact hf, tc⟩
theorem rdo_c {F V V' : Nat → Int32} {B n0 J : Nat} (hV : ∀ j, j < J → F j = 0 → V j = V' j) : ∀ (d j : Nat), j + d ≤ J → rdo F V B n0 d j = rdo F V' B n0 d j
  | 0, j, _ => rfl
  | d + 1, j, h => by
    unfold rdo
    by_cases c : F j = 0
    · rw [if_pos c, if_pos c, hV j (by omega) c, rdo_c hV d (j + 1) (by omega)]
    · rw [if_neg c, if_neg c]
theorem hbl_e {B : Nat} {v : Int32} (hB : B ≤ 12) (h : hbl B v) : v = -4 ∨ ∃ b, b < B ∧ v = nI b := by
  rcases h with q | q
  · exact Or.inl q
  · rcases ixc v B (by omega) with q2 | q2
    · exact Or.inr q2
    · omega
theorem sim_read (x y z w : Int32) : Sim (fun σ => fX10_read σ x y z w) (fun σ => fX11_read σ x y z w) := by
  refine Sim.of2 (fun σ ρ => rx_fX10_read ρ σ x y z w) (fun σ ρ => rm_fX11_read σ ρ x y z w) (fun σ hR => ?_)
  show Two (fX10_read σ x y z w) (fX11_read σ x y z w) _
  obtain ⟨H, G, B, T, h⟩ := id hR
  obtain ⟨⟨b1, b2, b3, b4, b5⟩, ⟨e1, e2, e5, e6⟩, e3, e4, e7⟩ := h.1
  have hone : ¬ (1 : Int32) = 0 := by decide
  have l0 : (w < 0) ↔ w.toInt < 0 := i3_lt w 0
  have l12 : (w ≤ 12) ↔ w.toInt ≤ 12 := i3_le w 12
  by_cases hv : (0 ≤ x.toInt ∧ x.toInt < 4) ∧ (0 ≤ y.toInt ∧ y.toInt < 3)
  · by_cases hw : 0 ≤ w.toInt ∧ w.toInt ≤ 12
    · obtain ⟨k, hk, rfl⟩ : ∃ j, j < 4 ∧ x = nI j := by
        rcases ixc x 4 (by omega) with q | q
        · exact q
        · omega
      obtain ⟨n, hn, rfl⟩ : ∃ j, j < 13 ∧ w = nI j := by
        rcases ixc w 13 (by omega) with q | q
        · exact q
        · omega
      obtain ⟨⟨n0, n1, n2, n3⟩, -⟩ := id h.2.2.1
      simp only [Nat.zero_add] at n2 n3
      have h7 : σ 32 7 = nI n0 := h.2.1.2.2.2.1.trans n2
      have hX : fX10_read σ (nI k) y z (nI n) = fX10_read_h45 400 σ y z (nI n) (90 + 2 * k) 0 0 0 := by
        unfold fX10_read
        rw [xs_s, if_pos hv.1]
        simp only [obp]
        rw [if_neg hone, xl_s, if_pos hv.2]
        simp only [ol]
        rw [if_neg hone, if_neg (by rw [l0]; omega), if_pos (by rw [l12]; omega), og_t (ix_ok (by omega) (by omega)), nI_clamp (by omega)]
      have hM : fX11_read σ (nI k) y z (nI n) = fX11_read_h41 400 σ (nI k) y z (nI n) (nI n0) 0 0 0 := by
        unfold fX11_read
        rw [ms_s, if_pos hv]
        simp only [obp]
        rw [if_neg hone, in_i σ (nI n) 0 12 0 12 rfl rfl, if_pos hw]
        simp only [ol]
        rw [if_pos hone, og_t c66, v66, n2]
      obtain ⟨hs1, hs2⟩ := h.2.2.2.2.2.2.1 k hk
      obtain ⟨sz, z1, z2, z3⟩ : ∃ sz, sz ≤ 40 ∧ ((σ 108 k = -4 ∧ σ (90 + 2 * k) 0 = -1) ∨ ∃ l, l < 3 ∧ σ 108 k = nI l ∧ σ (90 + 2 * k) 0 = nI l ∧ σ (90 + 2 * k) 1 = nI sz) ∧ (σ 108 k = -4 ∨ σ 109 k = nI sz) := by
        rcases hs1 with q | ⟨l, m, q1, q2, q3, q4, q5, q6⟩
        · exact ⟨0, by omega, Or.inl q, Or.inl q.1⟩
        · exact ⟨m, q2, Or.inr ⟨l, q1, q3, q4, q6⟩, Or.inr q5⟩
      have hVe : ∀ j, j < n → rfa (σ 108 k) y sz z j = 0 → (fun j => σ (90 + 2 * k + 1) (z + nI j).toNatClampNeg) j = (fun j => σ 110 (40 * k + (z + nI j).toNatClampNeg)) j := fun j hj hf => by
        obtain ⟨p, p1, p2⟩ := rfa_p hf z1 (by omega)
        show σ (90 + 2 * k + 1) _ = σ 110 _
        rw [p2, nI_clamp (by omega), show 90 + 2 * k + 1 = 91 + 2 * k by omega]
        exact hs2 p (by omega)
      have hre := rdo_c (B := B) (n0 := n0) hVe n 0 (by omega)
      obtain ⟨l1, l2⟩ := lookAll_l (y := y) (z := z) (n := n) z1 (by omega) b4 h.2.1.1 h7 n1 z2 n 0 400 (by omega) (by omega) (by omega)
      obtain ⟨r, ρ, m1, m2, m3, m4, m5, m6, m7⟩ := readM_l (la := σ 108 k) (y := y) (z := z) (n := n) (n0 := n0) (V := fun j => σ 110 (40 * k + (z + nI j).toNatClampNeg)) hk z1 (by omega) b4 n1 n 0 400 σ (by omega) (by omega) (by omega) (by omega) rfl z3 e5 n2 (fun i => rfl)
      rw [hX, hM]
      rcases hc : rdo (rfa (σ 108 k) y sz z) (fun j => σ 110 (40 * k + (z + nI j).toNatClampNeg)) B n0 n 0 with ⟨c, e⟩ | r'
      · obtain ⟨q1, q2, q3, q4⟩ := m6 c e hc
        obtain ⟨-, p2, p3, p4⟩ := rdo_p n 0 c e (by omega) hc
        have hx := l1 c e (hre.trans hc)
        have hp : ∀ i, i < c → (z + nI i).toNatClampNeg < 40 ∧ z + nI i = nI (z + nI i).toNatClampNeg := fun i hi => by
          obtain ⟨p, u1, u2⟩ := rfa_p (p4 i (by omega) hi).1 z1 (by omega)
          rw [u2, nI_clamp (by omega)]
          exact ⟨by omega, rfl⟩
        obtain ⟨τ, t1, t2, t3, t4, t5, t6, t7, t8⟩ := addAll_l (z := z) (e := e) (q := 90 + 2 * k) (n0 := n0) (c := c) (by omega) p2 hp c 0 400 σ (by omega) (by omega) (by omega) h7
        have hx2 : fX10_read_h45 400 σ y z (nI n) (90 + 2 * k) 0 0 0 = some (nI c, τ) := hx.trans t1
        refine ⟨nI c, τ, r, ρ, hx2, m1, q1.symm, H, G, B, T, ?_⟩
        have ml : ∀ u, u < 98 → mix τ ρ u = τ u := fun u hu => mix_lo hu
        have mh : ∀ u, 98 ≤ u → mix τ ρ u = ρ u := fun u hu => mix_hi hu
        generalize mix τ ρ = ν at ml mh ⊢
        have h' : Rall (su (su ν 0 12 (σ 0 12)) 98 39 (σ 98 39)) H G B T := by
          refine R_heard (n := n0 + c) h p2 (fun u h1 h2 h3 => ?_) (fun i hi => ?_) ?_ ?_ (fun i hi => ?_) (fun j hj => ?_)
          · by_cases h8 : u = 98
            · subst h8
              funext i
              by_cases hi : i = 39
              · subst hi; rw [su_s]
              · rw [su_j hi, su_ne (by omega), mh 98 (by omega), m3 i hi]
            · rw [su_ne h8]
              by_cases h0 : u = 0
              · subst h0
                funext i
                by_cases hi : i = 12
                · subst hi; rw [su_s]
                · rw [su_j hi, ml 0 (by omega), t3 i hi]
              · rw [su_ne h0]
                by_cases hu : u < 98
                · rw [ml u hu, t2 u h0 h1 h2]
                · rw [mh u (by omega), m2 u h8 h3]
          · rw [su_ne (by omega), su_ne (by omega), ml 32 (by omega), t5 i hi]
          · rw [su_ne (by omega), su_ne (by omega), ml 32 (by omega), t6]
          · rw [su_ne (by omega), su_ne (by omega), mh 99 (by omega), q3]
          · rw [su_ne (by omega), su_ne (by omega), mh 99 (by omega), m4 i hi]
          · rw [su_ne (x := 39) (by omega), su_ne (x := 39) (by omega), su_ne (x := 99) (by omega), su_ne (x := 99) (by omega), ml 39 (by omega), mh 99 (by omega)]
            by_cases hjn : j < n0
            · rw [t7 j (by omega), m5 j (by omega)]
              have hl : nI j < σ 99 (0 + 66) := by show nI j < σ 99 66; rw [n2]; exact nI_lt (by omega) (by omega)
              have k5 := h.2.1.2.2.2.2 j (by omega) hl
              rw [show 0 + 67 + j = 67 + j by omega] at k5
              exact ⟨k5, n3 j hjn⟩
            · obtain ⟨i, rfl⟩ : ∃ i, j = n0 + i := ⟨j - n0, by omega⟩
              have u1 := q4 i (by omega) (by omega)
              have u2 := t8 i (by omega) (by omega)
              have u3 := hVe i (by omega) (p4 i (by omega) (by omega)).1
              have u4 := (p4 i (by omega) (by omega)).2
              simp only at u1 u2 u3 u4
              rw [u2, show 67 + (n0 + i) = 67 + n0 + i by omega, u1, u3]
              exact ⟨rfl, hbl_e b4 u4⟩
        refine R_torn h' (fun u h1 h2 => by rw [su_ne h2, su_ne h1]) (fun i hi => by rw [su_j hi, su_ne (by omega)]) ?_
        rw [ml 0 (by omega), mh 98 (by omega), t4, q2]
      · obtain ⟨q1, q2, q3⟩ := m7 r' hc
        have hx := l2 r' (hre.trans hc)
        refine ⟨r', σ, r, ρ, hx, m1, q1.symm, H, G, B, T, ?_⟩
        have ml : ∀ u, u < 98 → mix σ ρ u = σ u := fun u hu => mix_lo hu
        have mh : ∀ u, 98 ≤ u → mix σ ρ u = ρ u := fun u hu => mix_hi hu
        generalize mix σ ρ = ν at ml mh ⊢
        refine R_heard (n := n0) h n1 (fun u h1 h2 h3 => ?_) (fun i hi => ?_) ?_ ?_ (fun i hi => ?_) (fun j hj => ?_)
        · by_cases h8 : u = 98
          · subst h8
            funext i
            by_cases hi : i = 39
            · subst hi; rw [mh 98 (by omega), q2]
            · rw [mh 98 (by omega), m3 i hi]
          · by_cases hu : u < 98
            · rw [ml u hu]
            · rw [mh u (by omega), m2 u h8 h3]
        · rw [ml 32 (by omega)]
        · rw [ml 32 (by omega), h7]
        · rw [mh 99 (by omega), q3]
        · rw [mh 99 (by omega), m4 i hi]
        · rw [ml 39 (by omega), mh 99 (by omega), m5 j (by omega)]
          have hl : nI j < σ 99 (0 + 66) := by show nI j < σ 99 66; rw [n2]; exact nI_lt (by omega) (by omega)
          have k5 := h.2.1.2.2.2.2 j (by omega) hl
          rw [show 0 + 67 + j = 67 + j by omega] at k5
          exact ⟨k5, n3 j hj⟩
    · have eX : fX10_read σ x y z w = some (-1, σ) := by
        unfold fX10_read
        rw [xs_s, if_pos hv.1]
        simp only [obp]
        rw [if_neg hone, xl_s, if_pos hv.2]
        simp only
        rw [if_neg hone]
        by_cases q : w < 0
        · rw [if_pos q]
        · rw [if_neg q, if_neg (by rw [l12]; rw [l0] at q; omega)]
      have eM : fX11_read σ x y z w = some (-1, σ) := by
        unfold fX11_read
        rw [ms_s, if_pos hv]
        simp only [obp]
        rw [if_neg hone, in_i σ w 0 12 0 12 rfl rfl, if_neg hw]
        rfl
      rw [eX, eM]
      exact Two.mk ⟨rfl, hR⟩
  · have eX : fX10_read σ x y z w = some (-1, σ) := by
      unfold fX10_read
      rw [xs_s]
      by_cases h1 : 0 ≤ x.toInt ∧ x.toInt < 4
      · rw [if_pos h1]
        simp only [obp]
        rw [if_neg hone, xl_s, if_neg (by omega)]
        rfl
      · rw [if_neg h1]
        rfl
    have eM : fX11_read σ x y z w = some (-1, σ) := by
      unfold fX11_read
      rw [ms_s, if_neg hv]
      rfl
    rw [eX, eM]
    exact Two.mk ⟨rfl, hR⟩
end
