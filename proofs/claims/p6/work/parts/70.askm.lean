/-! best of the asks; the reference's asks -/
def bs (F : Int32 → Int32) : Nat → Int32 × Int32
  | 0 => (0, F 0)
  | a + 1 => if F (nI (a + 1)) ≤ (bs F a).2 then bs F a else (nI (a + 1), F (nI (a + 1)))
theorem bs_1 (F : Int32 → Int32) : ∀ a, ∃ j, j ≤ a ∧ (bs F a).1 = nI j
  | 0 => ⟨0, Nat.le_refl _, rfl⟩
  | a + 1 => by
    unfold bs
    by_cases c : F (nI (a + 1)) ≤ (bs F a).2
    · rw [if_pos c]
      obtain ⟨j, h1, h2⟩ := bs_1 F a
      exact ⟨j, by omega, h2⟩
    · rw [if_neg c]; exact ⟨a + 1, Nat.le_refl _, rfl⟩
theorem choose_l {σ : S0} {H G B T h : Nat} (hr : Rall σ H G B T) : ∀ (d i m : Nat) (τ : S0), 20 - i = d → i ≤ 20 → d < m → onlyW σ τ → (∀ u, u < T → WT (σ 99) (σ 101) (nI G) h u τ) → τ 41 7 = (bs (fun a => wgh (fs (σ 99) h a B) (σ 101) (nI G) T h) i).1 → τ 41 8 = (bs (fun a => wgh (fs (σ 99) h a B) (σ 101) (nI G) T h) i).2 → ∃ ν, fX0_choose_h21 m τ (nI (i + 1)) = some (0, ν) ∧ onlyW σ ν ∧ ν 41 7 = (bs (fun a => wgh (fs (σ 99) h a B) (σ 101) (nI G) T h) 20).1 ∧ ν 41 8 = (bs (fun a => wgh (fs (σ 99) h a B) (σ 101) (nI G) T h) 20).2 := by
  intro d
  induction d with
  | zero =>
    intro i m τ h1 h2 h3 ho hw w7 w8
    obtain ⟨m, rfl⟩ : ∃ q, m = q + 1 := ⟨m - 1, by omega⟩
    have : i = 20 := by omega
    subst this
    refine ⟨τ, ?_, ho, w7, w8⟩
    show fX0_choose_b21 _ _ _ = _
    unfold fX0_choose_b21
    rw [if_pos (show (20 : Int32) < nI 21 from by decide)]
  | succ d ih =>
    intro i m τ h1 h2 h3 ho hw w7 w8
    obtain ⟨m, rfl⟩ : ∃ q, m = q + 1 := ⟨m - 1, by omega⟩
    have hng : ¬ (20 : Int32) < nI (i + 1) := fun q => by
      have := (nI_ltI (a := 20) (b := i + 1) (by omega) (by omega)).mp q
      omega
    have hb := brings_s (nI (i + 1)) hr hw (by rw [ho 22 (by omega)]; exact hr.1.2.2.2.2)
    have hne : ∀ (τ : S0) (j : Nat) (v : Int32), (∀ u, u < T → WT (σ 99) (σ 101) (nI G) h u τ) → ∀ u, u < T → WT (σ 99) (σ 101) (nI G) h u (su τ 41 j v) := fun τ j v q u hu => by
      have := q u hu
      unfold WT at this ⊢
      rw [su_ne (by omega), su_ne (by omega), su_ne (by omega), su_ne (by omega)]
      exact this
    have e1 : fX0_choose_h21 (m + 1) τ (nI (i + 1)) = if wgh (fs (σ 99) h (nI (i + 1)) B) (σ 101) (nI G) T h ≤ τ 41 8 then fX0_choose_h21 m τ (nI (i + 1 + 1)) else fX0_choose_h21 m (su (su τ 41 8 (wgh (fs (σ 99) h (nI (i + 1)) B) (σ 101) (nI G) T h)) 41 7 (nI (i + 1))) (nI (i + 1 + 1)) := by
      show fX0_choose_b21 _ _ _ = _
      unfold fX0_choose_b21 fX0_choose_b51
      rw [if_neg hng, hb]
      simp only [obp, ol, nI_1]
    rw [e1, w8]
    by_cases c : wgh (fs (σ 99) h (nI (i + 1)) B) (σ 101) (nI G) T h ≤ (bs (fun a => wgh (fs (σ 99) h a B) (σ 101) (nI G) T h) i).2
    · rw [if_pos c]
      exact ih (i + 1) m τ (by omega) (by omega) (by omega) ho hw (by rw [bs, if_pos c]; exact w7) (by rw [bs, if_pos c]; exact w8)
    · rw [if_neg c]
      exact ih (i + 1) m _ (by omega) (by omega) (by omega) ((ho.su (by omega) _ _).su (by omega) _ _) (hne _ _ _ (hne _ _ _ hw)) (by rw [su_s, bs, if_neg c]) (by rw [su_j (by omega), su_s, bs, if_neg c])
theorem choose_s {σ : S0} {H G B T h : Nat} (hr : Rall σ H G B T) (hh : h < H) : ∃ ν, fX0_choose σ (nI h) = some (0, ν) ∧ onlyW σ ν ∧ ν 41 7 = (bs (fun a => wgh (fs (σ 99) h a B) (σ 101) (nI G) T h) 20).1 ∧ ν 41 8 = (bs (fun a => wgh (fs (σ 99) h a B) (σ 101) (nI G) T h) 20).2 := by
  obtain ⟨τ, t1, t2, t3⟩ := weigh_s hr hh
  have hne : ∀ (τ : S0) (j : Nat) (v : Int32), (∀ u, u < T → WT (σ 99) (σ 101) (nI G) h u τ) → ∀ u, u < T → WT (σ 99) (σ 101) (nI G) h u (su τ 41 j v) := fun τ j v q u hu => by
    have := q u hu
    unfold WT at this ⊢
    rw [su_ne (by omega), su_ne (by omega), su_ne (by omega), su_ne (by omega)]
    exact this
  have hb := brings_s (τ := su τ 41 7 0) 0 hr (hne _ _ _ t3) (by rw [su_ne (by omega), t2 22 (by omega)]; exact hr.1.2.2.2.2)
  obtain ⟨ν, v1, v2, v3, v4⟩ := choose_l hr 20 0 400 (su (su τ 41 7 0) 41 8 (wgh (fs (σ 99) h 0 B) (σ 101) (nI G) T h)) (by omega) (by omega) (by omega) ((t2.su (by omega) _ _).su (by omega) _ _) (hne _ _ _ (hne _ _ _ t3)) (by rw [su_j (by omega), su_s]; rfl) (by rw [su_s]; rfl)
  refine ⟨ν, ?_, v2, v3, v4⟩
  unfold fX0_choose
  rw [t1]
  simp only [obp, ol]
  rw [hb]
  simp only
  exact v1
/-- nothing but what the reference needs for its asks has changed -/
def onlyQ (σ τ : S0) : Prop := ∀ k j, ¬ (k = 98 ∧ 24 ≤ j ∧ j ≤ 31) → k ≠ 105 → k ≠ 106 → τ k j = σ k j
theorem onlyQ.tr {a b c : S0} (h1 : onlyQ a b) (h2 : onlyQ b c) : onlyQ a c := fun k j x y z => (h2 k j x y z).trans (h1 k j x y z)
theorem onlyQ.rf (a : S0) : onlyQ a a := fun _ _ _ _ _ => rfl
theorem onlyQ.c {a b : S0} (h : onlyQ a b) {k : Nat} (h1 : k ≠ 98) (h2 : k ≠ 105) (h3 : k ≠ 106) : b k = a k := funext fun j => h k j (fun q => h1 q.1) h2 h3
theorem onlyR.q {a b : S0} (h : onlyR a b) : onlyQ a b := fun k j x y z => h k j (fun q => x ⟨q.1, by omega, by omega⟩) y
theorem onlyQ.su {a b : S0} (h : onlyQ a b) {j : Nat} (hj : 24 ≤ j ∧ j ≤ 31) (v : Int32) : onlyQ a (su b 98 j v) := fun k i x y z => by
  by_cases hk : k = 98
  · subst hk
    rw [su_j (fun q => x ⟨rfl, by omega, by omega⟩)]; exact h 98 i x y z
  · rw [su_ne hk]; exact h k i x y z
theorem onlyQ.e {a b : S0} (h : onlyQ a b) : eqv a b := fun k j hr => by
  refine h k j (fun q => ?_) (fun q => ?_) (fun q => ?_)
  · obtain ⟨rfl, q2, q3⟩ := q
    unfold rel at hr
    have := of_decide_eq_true hr
    omega
  · subst q
    unfold rel at hr
    have := of_decide_eq_true hr
    omega
  · subst q
    unfold rel at hr
    have := of_decide_eq_true hr
    omega
theorem wageM_s {σ : S0} {H G B T h : Nat} (hr : Rall σ H G B T) (hh : h < H) : ∃ ρ, fX11_wageOf σ (nI h) = some (wgh (σ 99) (σ 101) (nI G) T h, ρ) ∧ onlyR σ ρ := by
  obtain ⟨b1, b2, b3, b4, b5⟩ := hr.1.1
  obtain ⟨τ, p1, p2⟩ := takenM_s hr
  unfold fX11_wageOf wgh
  rw [p1]
  simp only [obp]
  rcases tk_r (σ 99) (σ 101) (nI G) T with c | ⟨t, ht, c⟩
  · refine ⟨τ, ?_, p2⟩
    rw [if_neg (fun q => q c), if_pos c]
  · have cn : ¬ (tk (σ 99) (σ 101) (nI G) T).1 = -4 := by rw [c]; exact nI_m4 (by omega)
    obtain ⟨ρ, s1, s2⟩ := sharesM_s (hr.cg p2.e) hh ht
    rw [p2.c (k := 99) (by omega) (by omega), p2.c (k := 101) (by omega) (by omega)] at s1
    refine ⟨ρ, ?_, p2.tr s2⟩
    rw [if_pos cn, if_neg cn, c, s1, nI_clamp (by omega)]
theorem wageX_w {σ : S0} {H G B T h : Nat} (hr : Rall σ H G B T) (hh : h < H) : ∃ τ, fX6_wageOf σ (nI h) = some (wgh (σ 99) (σ 101) (nI G) T h, τ) ∧ onlyP σ τ := by
  obtain ⟨b1, b2, b3, b4, b5⟩ := hr.1.1
  obtain ⟨τ, p1, p2⟩ := takenX_s hr
  unfold fX6_wageOf wgh
  rw [p1]
  simp only [obp]
  rcases tk_r (σ 99) (σ 101) (nI G) T with c | ⟨t, ht, c⟩
  · refine ⟨τ, ?_, p2⟩
    rw [if_neg (fun q => q c), if_pos c]
  · have cn : ¬ (tk (σ 99) (σ 101) (nI G) T).1 = -4 := by rw [c]; exact nI_m4 (by omega)
    obtain ⟨ρ, s1, s2⟩ := sharesX_s (hr.cg p2.e) hh ht
    rw [p2 99 (by omega), p2 101 (by omega)] at s1
    refine ⟨ρ, ?_, p2.tr s2⟩
    rw [if_pos cn, if_neg cn, c, s1, nI_clamp (by omega)]
/-- the fees of house h's bells set on both sides -/
theorem R_fees {σ ν : S0} {H G B T h a : Nat} (hr : Rall σ H G B T) (ha : a ≤ 20) (h34 : ∀ b, b < B → ν 34 b = fs (σ 99) h (nI a) B (5 * b + 1)) (h99 : ν 99 = fs (σ 99) h (nI a) B) (ta : ∀ x, x ≠ 34 → x ≠ 99 → ν x = σ x) : Rall ν H G B T := by
  obtain ⟨hn, hk, hm, ht, hi, hp, hs, hf, hq⟩ := hr
  have hB := hn.1.2.2.2.1
  have hT := hn.1.2.2.2.2
  have tb : ∀ i, i % 5 ≠ 1 ∨ 60 ≤ i → ν 99 i = σ 99 i := fun i hi => by rw [h99]; exact fs_n (by omega)
  have t98 := ta 98 (by omega) (by omega)
  obtain ⟨k1, k2, k3, k4, k5⟩ := hk
  obtain ⟨⟨n, n1, n2, n3⟩, m2, fo, f1, f2, f3, f4⟩ := hm
  refine ⟨hn.c (by rw [t98]) (by rw [t98]) (by rw [t98]) (by rw [t98]) (ta 22 (by omega) (by omega)), ?_, ?_, ht.c (ta _ (by omega) (by omega)) (ta _ (by omega) (by omega)) (ta _ (by omega) (by omega)) (fun t h => ta _ (by omega) (by omega)), hi.c (ta _ (by omega) (by omega)) (ta _ (by omega) (by omega)) (fun x h1 h2 => ta _ (by omega) (by omega)) (fun i h1 h2 => tb i (by omega)) hB, hp.c (by rw [ta 1 (by omega) (by omega)]) (by rw [t98]) (ta _ (by omega) (by omega)) (ta _ (by omega) (by omega)), hs.c (ta _ (by omega) (by omega)) (ta _ (by omega) (by omega)) (ta _ (by omega) (by omega)) (fun x h1 h2 => ta _ (by omega) (by omega)), by rw [ta 3 (by omega) (by omega), t98]; exact hf, by rw [ta 0 (by omega) (by omega), t98]; exact hq⟩
  · refine ⟨by rw [ta 32 (by omega) (by omega)]; exact k1, fun b hb => ?_, fun x hx => ?_, ?_, fun i hi2 hl => ?_⟩
    · obtain ⟨a1, a2, a3, a4, a5⟩ := k2 b hb
      refine ⟨?_, ?_, ?_, ?_, ?_⟩
      · rw [ta _ (by omega) (by omega), tb _ (by omega)]; exact a1
      · show ν 34 b = ν 99 (0 + 5 * b + 1)
        rw [h34 b hb, h99, Nat.zero_add]
      · rw [ta _ (by omega) (by omega), tb _ (by omega)]; exact a3
      · rw [ta _ (by omega) (by omega), tb _ (by omega)]; exact a4
      · rw [ta _ (by omega) (by omega), tb _ (by omega)]; exact a5
    · rw [ta _ (by omega) (by omega), tb _ (by omega)]; exact k3 x hx
    · rw [ta _ (by omega) (by omega), tb _ (by omega)]; exact k4
    · rw [tb _ (by omega)] at hl
      rw [ta _ (by omega) (by omega), tb _ (by omega)]; exact k5 i hi2 hl
  · refine ⟨⟨n, n1, by rw [tb _ (by omega)]; exact n2, fun j hj => by rw [tb _ (by omega)]; exact n3 j hj⟩, fun b hb => ?_, fo, fun x hx => ⟨(f1 x hx).1, by rw [tb _ (by omega)]; exact (f1 x hx).2⟩, f2, f3, f4⟩
    obtain ⟨a1, a2, a3, a4, a5⟩ := m2 b hb
    rw [tb (0 + 5 * b) (by omega), tb (0 + 5 * b + 2) (by omega), tb (0 + 5 * b + 3) (by omega), tb (0 + 5 * b + 4) (by omega)]
    refine ⟨a1, ?_, a3, a4, a5⟩
    rw [h99, Nat.zero_add, fs_1 hb]
    by_cases c : σ 99 (5 * b) = nI h
    · rw [if_pos c]; exact ⟨a, ha, rfl⟩
    · rw [if_neg c]
      rw [Nat.zero_add] at a2
      exact a2
/-- the reference sets the fees -/
theorem fs_su {f : Nat → Int32} {h i : Nat} {a : Int32} {ρ : S0} (e : ρ 99 = fs f h a i) : su ρ 99 (5 * i + 1) (if f (5 * i) = nI h then a else f (5 * i + 1)) 99 = fs f h a (i + 1) := by
  funext y
  by_cases hy : y = 5 * i + 1
  · subst hy
    rw [su_s, fs_1 (by omega)]
  · rw [su_j hy, e]
    unfold fs
    by_cases c : y % 5 = 1 ∧ y / 5 < i ∧ f (5 * (y / 5)) = nI h
    · rw [if_pos c, if_pos ⟨c.1, by omega, c.2.2⟩]
    · rw [if_neg c, if_neg (fun q => c ⟨q.1, by omega, q.2.2⟩)]
theorem asks_l {f : Nat → Int32} {h B : Nat} (a : Int32) (hB : B ≤ 12) : ∀ (d i m : Nat) (ρ : S0), B - i = d → i ≤ B → d < m → ρ 98 4 = nI B → ρ 99 = fs f h a i → ∃ ν, fX11_asks_h2 m ρ (nI h) a (nI i) = some (0, ν) ∧ ν 99 = fs f h a B ∧ ∀ x, x ≠ 99 → ν x = ρ x := by
  intro d
  induction d with
  | zero =>
    intro i m ρ h1 h2 h3 e4 e99
    obtain ⟨m, rfl⟩ : ∃ q, m = q + 1 := ⟨m - 1, by omega⟩
    have : i = B := by omega
    subst this
    refine ⟨ρ, ?_, e99, fun _ _ => rfl⟩
    show fX11_asks_b2 _ _ _ _ _ = _
    unfold fX11_asks_b2
    rw [if_pos (show ρ 98 4 ≤ nI i from by rw [e4]; exact nI_le (Nat.le_refl _) (by omega))]
  | succ d ih =>
    intro i m ρ h1 h2 h3 e4 e99
    obtain ⟨m, rfl⟩ : ∃ q, m = q + 1 := ⟨m - 1, by omega⟩
    have O0 := of_l ρ (b := i) (w := 0) (x := 0) (by omega) (by omega) rfl
    have O1 := of_l ρ (b := i) (w := 1) (x := 1) (by omega) (by omega) rfl
    rw [Nat.add_zero, e99, fs_5] at O0
    rw [e99, fs_n (by omega)] at O1
    obtain ⟨ν, v1, v2, v3⟩ := ih (i + 1) m (su ρ 99 (5 * i + 1) (if f (5 * i) = nI h then a else f (5 * i + 1))) (by omega) (by omega) (by omega) (by rw [su_ne (by omega)]; exact e4) (fs_su e99)
    refine ⟨ν, ?_, v2, fun x hx => by rw [v3 x hx, su_ne hx]⟩
    show fX11_asks_b2 _ _ _ _ _ = _
    unfold fX11_asks_b2 fX11_asks_b39
    rw [if_neg (show ¬ (ρ 98 4 ≤ nI i) from by rw [e4]; exact nI_ge (by omega) (by omega)), O0]
    simp only [obp, ol, x5 i 1 (x := 1) rfl]
    rw [og_t (ix_ok (by omega) (by omega)), nI_clamp (by omega), nI_1]
    by_cases c : f (5 * i) = nI h
    · rw [if_neg (fun q => q c)]
      rw [if_pos c] at v1
      exact v1
    · rw [if_pos c, O1]
      rw [if_neg c] at v1
      simp only
      have hgq : ¬ (nI (5 * i + 1) < 0 ∨ 240 ≤ 5 * i + 1) := fun q => ix_ok (j := 5 * i + 1) (n := 240) (by omega) (by omega) (by rw [nI_clamp (by omega)]; exact q)
      rw [og_t hgq]
      exact v1
theorem fs_z {f : Nat → Int32} {h : Nat} {a : Int32} : fs f h a 0 = f := by
  funext i
  exact fs_n (by omega)
theorem asks_s {σ : S0} {h B : Nat} (a : Int32) (hB : B ≤ 12) (e4 : σ 98 4 = nI B) : ∃ ν, fX11_asks σ (nI h) a = some (0, ν) ∧ ν 99 = fs (σ 99) h a B ∧ ∀ x, x ≠ 99 → ν x = σ x := asks_l a hB B 0 400 σ (by omega) (by omega) (by omega) e4 fs_z.symm
theorem save_l {f : Nat → Int32} {B : Nat} (x1 x2 : Int32) (hB : B ≤ 12) : ∀ (d i m : Nat) (ρ : S0), B - i = d → i ≤ B → d < m → ρ 98 4 = nI B → ρ 99 = f → (∀ b, b < i → ρ 106 b = f (5 * b + 1)) → ∃ ν, fX11_askOf_h2 m ρ x1 x2 (nI i) = obp (fX11_asks ν x1 x2) (fun r2 σ3 => obp (fX11_wageOf σ3 x1) (fun r5 σ6 => fX11_askOf_h43 400 σ6 r5 0)) ∧ (∀ b, b < B → ν 106 b = f (5 * b + 1)) ∧ ∀ x, x ≠ 106 → ν x = ρ x := by
  intro d
  induction d with
  | zero =>
    intro i m ρ h1 h2 h3 e4 e99 hs
    obtain ⟨m, rfl⟩ : ∃ q, m = q + 1 := ⟨m - 1, by omega⟩
    have : i = B := by omega
    subst this
    refine ⟨ρ, ?_, hs, fun _ _ => rfl⟩
    show fX11_askOf_b2 _ _ _ _ _ = _
    unfold fX11_askOf_b2
    rw [if_pos (show ρ 98 4 ≤ nI i from by rw [e4]; exact nI_le (Nat.le_refl _) (by omega))]
  | succ d ih =>
    intro i m ρ h1 h2 h3 e4 e99 hs
    obtain ⟨m, rfl⟩ : ∃ q, m = q + 1 := ⟨m - 1, by omega⟩
    have O1 := of_l ρ (b := i) (w := 1) (x := 1) (by omega) (by omega) rfl
    rw [e99] at O1
    obtain ⟨ν, v1, v2, v3⟩ := ih (i + 1) m (su ρ 106 i (f (5 * i + 1))) (by omega) (by omega) (by omega) (by rw [su_ne (by omega)]; exact e4) (by rw [su_ne (by omega)]; exact e99) (fun b hb => by
      by_cases q : b = i
      · subst q; rw [su_s]
      · rw [su_j q]; exact hs b (by omega))
    refine ⟨ν, ?_, v2, fun x hx => by rw [v3 x hx, su_ne hx]⟩
    rw [← v1]
    show fX11_askOf_b2 _ _ _ _ _ = _
    unfold fX11_askOf_b2
    rw [if_neg (show ¬ (ρ 98 4 ≤ nI i) from by rw [e4]; exact nI_ge (by omega) (by omega)), O1]
    simp only [obp, ol]
    rw [og_t (ix_ok (by omega) (by omega)), nI_clamp (by omega), nI_1]
theorem rest_l {f : Nat → Int32} {B h : Nat} {a : Int32} (r : Int32) (hB : B ≤ 12) : ∀ (d i m : Nat) (ρ : S0), B - i = d → i ≤ B → d < m → ρ 98 4 = nI B → (∀ b, b < B → ρ 106 b = f (5 * b + 1)) → (ρ 99 = fun y => if y % 5 = 1 ∧ y / 5 < i then f y else fs f h a B y) → ∃ ν, fX11_askOf_h43 m ρ r (nI i) = some (r, ν) ∧ ν 99 = f ∧ ∀ x, x ≠ 99 → ν x = ρ x := by
  intro d
  induction d with
  | zero =>
    intro i m ρ h1 h2 h3 e4 hs e99
    obtain ⟨m, rfl⟩ : ∃ q, m = q + 1 := ⟨m - 1, by omega⟩
    have : i = B := by omega
    subst this
    refine ⟨ρ, ?_, ?_, fun _ _ => rfl⟩
    · show fX11_askOf_b43 _ _ _ _ = _
      unfold fX11_askOf_b43
      rw [if_pos (show ρ 98 4 ≤ nI i from by rw [e4]; exact nI_le (Nat.le_refl _) (by omega))]
    · rw [e99]
      funext y
      by_cases c : y % 5 = 1 ∧ y / 5 < i
      · simp only [if_pos c]
      · simp only [if_neg c]
        exact fs_n (by omega)
  | succ d ih =>
    intro i m ρ h1 h2 h3 e4 hs e99
    obtain ⟨m, rfl⟩ : ∃ q, m = q + 1 := ⟨m - 1, by omega⟩
    obtain ⟨ν, v1, v2, v3⟩ := ih (i + 1) m (su ρ 99 (5 * i + 1) (f (5 * i + 1))) (by omega) (by omega) (by omega) (by rw [su_ne (by omega)]; exact e4) (fun b hb => by rw [su_ne (by omega)]; exact hs b hb) (by
      funext y
      by_cases hy : y = 5 * i + 1
      · subst hy
        rw [su_s]
        rw [if_pos (by omega)]
      · rw [su_j hy, e99]
        by_cases c : y % 5 = 1 ∧ y / 5 < i
        · simp only [if_pos c]
          rw [if_pos (by omega)]
        · simp only [if_neg c]
          rw [if_neg (by omega)])
    refine ⟨ν, ?_, v2, fun x hx => by rw [v3 x hx, su_ne hx]⟩
    show fX11_askOf_b43 _ _ _ _ = _
    unfold fX11_askOf_b43
    rw [if_neg (show ¬ (ρ 98 4 ≤ nI i) from by rw [e4]; exact nI_ge (by omega) (by omega)), og_t (ix_ok (by omega) (by omega)), nI_clamp (by omega)]
    simp only [ol, x5 i 1 (x := 1) rfl]
    rw [og_t (ix_ok (by omega) (by omega)), nI_clamp (by omega), nI_1, hs i (by omega)]
    exact v1
theorem askOf_s {σ : S0} {H G B T h a : Nat} (hr : Rall σ H G B T) (hh : h < H) (ha : a ≤ 20) : ∃ ρ, fX11_askOf σ (nI h) (nI a) = some (wgh (fs (σ 99) h (nI a) B) (σ 101) (nI G) T h, ρ) ∧ onlyQ σ ρ ∧ ρ 98 30 = σ 98 30 ∧ ρ 98 31 = σ 98 31 := by
  obtain ⟨b1, b2, b3, b4, b5⟩ := hr.1.1
  have e4 : σ 98 4 = nI B := hr.1.2.1.2.2.1
  obtain ⟨ρ1, s1, s2, s3⟩ := save_l (f := σ 99) (nI h) (nI a) b4 B 0 400 σ (by omega) (by omega) (by omega) e4 rfl (fun b hb => by omega)
  obtain ⟨ρ2, u1, u2, u3⟩ := asks_s (σ := ρ1) (h := h) (nI a) b4 (by rw [s3 98 (by omega)]; exact e4)
  rw [s3 99 (by omega)] at u2
  have hν : Rall (mix (fun x j => if x = 34 then fs (σ 99) h (nI a) B (5 * j + 1) else σ x j) (fun x => if x = 106 then σ 106 else ρ2 x)) H G B T := by
    refine R_fees (h := h) (a := a) hr ha (fun b hb => ?_) ?_ (fun x h1 h2 => ?_)
    · rw [mix_lo (by omega)]
      simp only [if_true]
    · rw [mix_hi (by omega)]
      show (if (99 : Nat) = 106 then σ 106 else ρ2 99) = _
      rw [if_neg (by omega), u2]
    · by_cases hx : x < 98
      · rw [mix_lo hx]
        funext j
        simp only [if_neg h1]
      · rw [mix_hi (by omega)]
        show (if x = 106 then σ 106 else ρ2 x) = _
        by_cases h6 : x = 106
        · rw [if_pos h6, h6]
        · rw [if_neg h6, u3 x h2, s3 x h6]
  have hν2 : Rall (mix (fun x j => if x = 34 then fs (σ 99) h (nI a) B (5 * j + 1) else σ x j) ρ2) H G B T := by
    refine hν.cg (fun k j hk => ?_)
    by_cases hx : k < 98
    · rw [mix_lo hx, mix_lo hx]
    · rw [mix_hi (by omega), mix_hi (by omega)]
      show ρ2 k j = (if k = 106 then σ 106 else ρ2 k) j
      by_cases h6 : k = 106
      · subst h6
        unfold rel at hk
        have := of_decide_eq_true hk
        omega
      · rw [if_neg h6]
  obtain ⟨ρ3, w1, w2⟩ := wageM_s hν2 hh
  rw [rm_fX11_wageOf] at w1
  obtain ⟨ρ4, w3, rfl⟩ := mp_inv w1
  rw [mix_hi (by omega), mix_hi (by omega), u2, u3 101 (by omega), s3 101 (by omega)] at w3
  have w4 : ∀ k j, 98 ≤ k → ¬ (k = 98 ∧ 24 ≤ j ∧ j ≤ 27) → k ≠ 105 → ρ4 k j = ρ2 k j := fun k j hk h1 h2 => by
    have := w2 k j h1 h2
    rw [mix_hi hk, mix_hi hk] at this
    exact this
  have e99 : ρ4 99 = fs (σ 99) h (nI a) B := by
    rw [← u2]
    funext j
    exact w4 99 j (by omega) (by omega) (by omega)
  obtain ⟨ρ5, x1, x2, x3⟩ := rest_l (f := σ 99) (h := h) (a := nI a) (wgh (fs (σ 99) h (nI a) B) (σ 101) (nI G) T h) b4 B 0 400 ρ4 (by omega) (by omega) (by omega) (by rw [w4 98 4 (by omega) (by omega) (by omega), u3 98 (by omega), s3 98 (by omega)]; exact e4) (fun b hb => by rw [w4 106 b (by omega) (by omega) (by omega), u3 106 (by omega)]; exact s2 b hb) (by
    rw [e99]
    funext y
    rw [if_neg (by omega)])
  have hlo : ∀ k, k < 98 → ρ5 k = σ k := fun k hk => by
    have f1 := rm_fX11_askOf σ σ (nI h) (nI a)
    have f2 : fX11_askOf σ (nI h) (nI a) = some (wgh (fs (σ 99) h (nI a) B) (σ 101) (nI G) T h, ρ5) := by
      show fX11_askOf_h2 400 σ (nI h) (nI a) 0 = _
      rw [show (0 : Int32) = nI 0 from rfl, s1, u1]
      simp only [obp]
      rw [w3]
      exact x1
    rw [mix_self, f2] at f1
    obtain ⟨ρ', g1, g2⟩ := mp_inv f1.symm
    rw [g2, mix_lo hk]
  refine ⟨ρ5, ?_, fun k j h1 h2 h3 => ?_, ?_, ?_⟩
  · show fX11_askOf_h2 400 σ (nI h) (nI a) 0 = _
    rw [show (0 : Int32) = nI 0 from rfl, s1, u1]
    simp only [obp]
    rw [w3]
    exact x1
  · by_cases hk : k < 98
    · rw [hlo k hk]
    · by_cases h9 : k = 99
      · subst h9; rw [x2]
      · rw [x3 k h9, w4 k j (by omega) (by omega) h2, u3 k h9, s3 k h3]
  · rw [x3 98 (by omega), w4 98 30 (by omega) (by omega) (by omega), u3 98 (by omega), s3 98 (by omega)]
  · rw [x3 98 (by omega), w4 98 31 (by omega) (by omega) (by omega), u3 98 (by omega), s3 98 (by omega)]
