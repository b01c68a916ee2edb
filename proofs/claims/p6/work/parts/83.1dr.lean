/-! THE TEXT: houses, the draft, the end of a line -/
def on9 (σ τ : S0) : Prop := ∀ k j, ¬ (k = 98 ∧ (j = 13 ∨ 18 ≤ j ∧ j ≤ 23)) → τ k j = σ k j
theorem on9.tr {a b c : S0} (h1 : on9 a b) (h2 : on9 b c) : on9 a c := fun k j h => (h2 k j h).trans (h1 k j h)
theorem on8.n {a b : S0} (h : on8 a b) : on9 a b := fun k j q => h k j (fun z => q ⟨z.1, Or.inr z.2⟩)
theorem on9.k {a b : S0} (h : on9 a b) : kM a b := fun k j q => h k j (fun z => q (by unfold scM; omega))
theorem on9_su (σ : S0) (v : Int32) : on9 σ (su σ 98 13 v) := fun k j q => by
  by_cases hk : k = 98
  · subst hk; exact su_j (fun z => q ⟨rfl, Or.inl z⟩)
  · rw [su_ne hk]
theorem on9.c {a b : S0} (h : on9 a b) {k : Nat} (hk : k ≠ 98) : b k = a k := funext fun j => h k j (fun q => hk q.1)
def mxI (hh : Int32) (x : Nat) : Int32 := if nI x ≤ hh then hh else nI x
/-- a house is read on both sides -/
theorem rh_s {a : Nat → Nat} {n p : Nat} {σ ρ : S0} (tx : TpX a n σ) (tp : TpM a n ρ) (h : Pend a n p σ ρ) (x1 : Int32) : ∃ r τ v μ, fX5_nextNumber σ (nI 0) (nI 5) = some (r, τ) ∧ fX11_readHouse ρ x1 = some (v, μ) ∧ onA σ τ ∧ on9 ρ μ ∧ ((r = 1 ∧ on1 σ τ ∧ ∃ x, x < 6 ∧ τ 1 5 = nI x ∧ v = nI x ∧ ¬ nI x = x1 ∧ μ 98 13 = mxI (ρ 98 13) x ∧ Pend a n (tE a n p) τ μ) ∨ (r = 1 ∧ on1 σ τ ∧ ∃ x, x < 6 ∧ τ 1 5 = nI x ∧ nI x = x1 ∧ τ 1 4 = nI (tS a n p) ∧ tS a n p ≤ n ∧ μ 98 22 = nI 4 ∧ μ 98 23 = nI (tS a n p)) ∨ (r = 0 ∧ v = 0 ∧ Flt τ μ)) := by
  obtain ⟨h1, h2, h3, h4⟩ := h
  have hn := tp.1
  have hb := tok_b (a := a) h4
  obtain ⟨r, τ, t1, t2, t3⟩ := nn_s (lo := 0) (hi := 5) tx h4 h1 (by omega) (by omega)
  obtain ⟨v, μ, m1, m2, m3⟩ := lk_s (lo := 0) (hi := 5) h2 tp (by omega) (by omega)
  have m1' : fX11_looked ρ 0 5 = some (v, μ) := m1
  -- behind the needs
  have b29 : ∀ (ν : S0) (w : Int32), fX11_readHouse_b29 ν w = obp (fX11_next (su ν 98 13 (if w ≤ ν 98 13 then ν 98 13 else w))) (fun _ σ3 => some (w, σ3)) := fun ν w => by
    unfold fX11_readHouse_b29 fX11_readHouse_b46
    by_cases c : w ≤ ν 98 13
    · rw [if_pos c, if_pos c, ol_g]
    · rw [if_neg c, if_neg c, ol_g]
  rcases t3 with ⟨r1, o1, k1, k2, k3, k4⟩ | ⟨r0, p0, ⟨f, f1, f2⟩, hno⟩
  · rcases m3 with ⟨z1, z2, z3, z4, z5⟩ | ⟨z1, -⟩
    · subst z5
      obtain ⟨g1, g2, g3⟩ := h2.g (by omega)
      have n0 : ¬ ¬ μ 98 22 = 0 := fun q => q g1
      have e5 := k1.2.2.2 k2
      by_cases c : nI (tV a n p) = x1
      · -- the same house again
        refine ⟨r, τ, v, su (su (su μ 98 22 4) 98 23 (μ 98 19)) 98 13 (if v ≤ su (su μ 98 22 4) 98 23 (μ 98 19) 98 13 then su (su μ 98 22 4) 98 23 (μ 98 19) 98 13 else v), t1, ?_, t2, ?_, Or.inr (Or.inl ⟨r1, o1, tV a n p, by omega, e5, c, k1.1, by omega, ?_, ?_⟩)⟩
        · unfold fX11_readHouse fX11_readHouse_b25
          rw [m1']
          simp only [obp]
          rw [if_neg n0, if_pos (z4.trans c), needs_n _ g1]
          simp only
          rw [b29, next_f (f := 4) (by omega) (by omega) (by rw [su_j (by omega), su_j (by omega), su_s]; rfl)]
          rfl
        · refine on9.tr (fun k j q => ?_) (on9_su _ _)
          by_cases hk : k = 98
          · subst hk; rw [su_j (by omega), su_j (by omega)]
          · rw [su_ne hk, su_ne hk]
        · rw [su_j (by omega), su_j (by omega), su_s]; rfl
        · rw [su_j (by omega), su_s]; exact h2.1
      · have o9 := on9_su μ (if v ≤ μ 98 13 then μ 98 13 else v)
        have tm2 : tkM a n p (su μ 98 13 (if v ≤ μ 98 13 then μ 98 13 else v)) := h2.o (fun j q1 q2 => su_j (by omega))
        obtain ⟨ν, v1, v2, v3⟩ := nx_s tm2 (by omega) (tp.k o9.k) h4
        refine ⟨r, τ, v, ν, t1, ?_, t2, o9.tr v2.n, Or.inl ⟨r1, o1, tV a n p, by omega, e5, z4, c, ?_, k1.2.1, v3, by rw [o1.c (by omega)]; exact h3, hb.2.2.1⟩⟩
        · unfold fX11_readHouse fX11_readHouse_b25
          rw [m1']
          simp only [obp]
          rw [if_neg n0, if_neg (fun q => c (z4.symm.trans q)), needs_y _ (by decide)]
          simp only
          rw [b29, v1]
          rfl
        · rw [v2 98 13 (by omega), su_s, z4]
          rfl
    · exact absurd ⟨k2, k3, k4⟩ z1
  · rcases m3 with ⟨z1, z2, z3, -⟩ | ⟨z1, z2, ⟨g, g1, g2⟩, z4⟩
    · exact absurd ⟨z1, z2, z3⟩ hno
    · have n0 : ¬ μ 98 22 = 0 := by rw [g2]; exact nI_ne0 (by omega) (by omega)
      refine ⟨r, τ, v, su μ 98 13 (if v ≤ μ 98 13 then μ 98 13 else v), t1, ?_, t2, m2.n.tr (on9_su _ _), Or.inr (Or.inr ⟨r0, z2, f, g, tS a n p, f1, g1, by omega, f2, by rw [su_j (by omega)]; exact g2, p0, by rw [su_j (by omega)]; exact z4⟩)⟩
      unfold fX11_readHouse
      rw [m1']
      simp only [obp]
      rw [if_pos n0, b29, next_f g1.1 g1.2 (by rw [su_j (by omega)]; exact g2)]
      rfl
/-! behind a fault the reference goes on to the end -/
def bad (ρ : S0) : Prop := ∃ g, 1 ≤ g ∧ g ≤ 6 ∧ ρ 98 22 = nI g
theorem bad.n {ρ : S0} (h : bad ρ) : ¬ ρ 98 22 = 0 := by
  obtain ⟨g, h1, h2, h3⟩ := h
  rw [h3]
  exact nI_ne0 (by omega) (by omega)
theorem bad.o {ρ μ : S0} (h : bad ρ) (e : μ 98 22 = ρ 98 22) : bad μ := by
  unfold bad
  rw [e]
  exact h
theorem Flt.b {σ ρ : S0} (h : Flt σ ρ) : bad ρ := by
  obtain ⟨f, g, pl, h1, h2, h3, h4, h5, h6, h7⟩ := h
  exact ⟨g, h2.1, h2.2, h5⟩
theorem bad.next {ρ : S0} (h : bad ρ) : fX11_next ρ = some (0, ρ) := by
  obtain ⟨g, h1, h2, h3⟩ := h
  exact next_f h1 h2 h3
theorem bad.le {ρ : S0} (h : bad ρ) : ¬ ρ 98 22 ≤ 0 := by
  obtain ⟨g, h1, h2, h3⟩ := h
  rw [h3]
  exact nI_nle (by omega) (by omega)
theorem bad.looked {ρ : S0} (h : bad ρ) (lo hi : Int32) : fX11_looked ρ lo hi = some (0, ρ) := by
  unfold fX11_looked fX11_looked_b25 fX11_looked_b49
  rw [if_pos h.n, if_pos h.n, if_pos h.n]
theorem bad.num {ρ : S0} (h : bad ρ) (lo hi : Int32) : fX11_readNumber ρ lo hi = some (0, ρ) := by
  unfold fX11_readNumber
  rw [h.looked]
  simp only [obp]
  rw [h.next]
theorem bad.house {ρ : S0} (h : bad ρ) (x : Int32) : ∃ v, fX11_readHouse ρ x = some (0, su ρ 98 13 v) := by
  unfold fX11_readHouse fX11_readHouse_b29 fX11_readHouse_b46
  rw [h.looked]
  simp only [obp]
  rw [if_pos h.n]
  by_cases c : (0 : Int32) ≤ ρ 98 13
  · refine ⟨ρ 98 13, ?_⟩
    rw [if_pos c, ol_g, (h.o (μ := su ρ 98 13 (ρ 98 13)) (su_j (by omega))).next]
  · refine ⟨0, ?_⟩
    rw [if_neg c, ol_g, (h.o (μ := su ρ 98 13 0) (su_j (by omega))).next]
theorem bad.b206 {ρ : S0} (h : bad ρ) : fX11_readLine_b206 ρ = some (0, ρ) := by
  unfold fX11_readLine_b206 fX11_readLine_b231
  rw [if_pos h.n, h.next]
  rfl
theorem bad.needs {ρ : S0} (h : bad ρ) (v c : Int32) : fX11_needs ρ v c = some (0, ρ) := needs_f v c h.n
/-! the end of a line -/
theorem end_s {a : Nat → Nat} {n p : Nat} {σ ρ : S0} (tx : TpX a n σ) (tp : TpM a n ρ) (h : Cur a n p σ ρ) : ∃ r τ μ, fX5_endLine σ = some (r, τ) ∧ fX11_readLine_b206 ρ = some (0, μ) ∧ onA σ τ ∧ on8 ρ μ ∧ ((r = 1 ∧ Cur a n (tE a n p) τ μ) ∨ (r = 0 ∧ Flt τ μ)) := by
  obtain ⟨h1, h2, h3, h4, h5⟩ := h
  have hn := tp.1
  have hb := tok_b (a := a) h5
  obtain ⟨g1, g2, g3⟩ := h2.g h3
  have n0 : ¬ ¬ ρ 98 22 = 0 := fun q => q g1
  have x3 : σ 1 3 = 3 ↔ tK a n p = 3 := by rw [h1.2.2.1]; exact nI_eq (b := 3) (by omega) (by omega)
  have m3 : ρ 98 20 = 3 ↔ tK a n p = 3 := by rw [g2]; exact nI_eq (b := 3) (by omega) (by omega)
  by_cases c : tK a n p = 3
  · obtain ⟨μ, v1, v2, v3⟩ := nx_s h2 h3 tp h5
    obtain ⟨r, τ, t1, t2, t3⟩ := adv_s tx (show Pend a n (tE a n p) σ μ from ⟨h1.2.1, v3, h4, hb.2.2.1⟩)
    refine ⟨r, τ, μ, ?_, ?_, t2, v2, ?_⟩
    · unfold fX5_endLine
      rw [if_neg (fun q => q (x3.mpr c)), t1]
      simp only [obp]
      rw [og_t (t3.elim (fun q => Or.inr q.1) (fun q => Or.inl q.1))]
    · unfold fX11_readLine_b206 fX11_readLine_b227 fX11_readLine_b231
      rw [if_neg n0, if_neg (fun q => q (m3.mpr c)), needs_y _ (by decide)]
      simp only [obp]
      rw [v1]
    · rcases t3 with ⟨q1, q2, q3⟩ | q
      · exact Or.inl ⟨q1, q3⟩
      · exact Or.inr q
  · have hbad : bad (su (su ρ 98 22 2) 98 23 (ρ 98 19)) := ⟨2, by omega, by omega, by rw [su_j (by omega), su_s]; rfl⟩
    refine ⟨0, su (su σ 3 5 2) 3 6 (σ 1 4), su (su ρ 98 22 2) 98 23 (ρ 98 19), ?_, ?_, refuse_o σ 2, ((on8.rf ρ).su (by omega) _).su (by omega) _, Or.inr ⟨rfl, ?_⟩⟩
    · unfold fX5_endLine
      rw [if_pos (fun q => c (x3.mp q)), refuse_s]
      rfl
    · unfold fX11_readLine_b206 fX11_readLine_b227 fX11_readLine_b231
      rw [if_neg n0, if_pos (fun q => c (m3.mp q)), needs_n _ g1]
      simp only [obp]
      rw [hbad.next]
    · exact flt_r (f := 2) (g := 2) (pl := tS a n p) (by omega) (by omega) (by omega) h1.1 (by rw [su_j (by omega), su_s]; rfl) (by rw [su_s]; exact h2.1)
/-- class: the next token, then the end of the line -/
def tailX (σ : S0) : Option (Int32 × S0) := obp (fX5_advance σ) (fun r9 σ10 => if r9 = 0 then (some (0, σ10)) else (obp (fX5_endLine σ10) (fun r13 σ14 => if r13 = 0 then (some (0, σ14)) else (some (1, σ14)))))
theorem tail_s {a : Nat → Nat} {n p : Nat} {σ ρ : S0} (tx : TpX a n σ) (tp : TpM a n ρ) (h : Pend a n p σ ρ) : ∃ r τ μ, tailX σ = some (r, τ) ∧ fX11_readLine_b206 ρ = some (0, μ) ∧ onA σ τ ∧ on8 ρ μ ∧ ((r = 1 ∧ tK a n p ≤ 3 ∧ Cur a n (tE a n p) τ μ) ∨ (r = 0 ∧ Flt τ μ)) := by
  obtain ⟨r, τ, t1, t2, t3⟩ := adv_s tx h
  unfold tailX
  rw [t1]
  simp only [obp]
  rcases t3 with ⟨q1, q2, q3⟩ | ⟨q1, q2⟩
  · obtain ⟨r', τ', μ, w1, w2, w3, w4, w5⟩ := end_s (tx.k t2.k) tp q3
    rw [q1, if_neg (by decide), w1]
    simp only
    rcases w5 with ⟨z1, z2⟩ | ⟨z1, z2⟩
    · refine ⟨1, τ', μ, by rw [z1, if_neg (by decide)], w2, t2.tr w3, w4, Or.inl ⟨rfl, q3.2.2.1, z2⟩⟩
    · refine ⟨0, τ', μ, by rw [z1, if_pos (by decide)], w2, t2.tr w3, w4, Or.inr ⟨rfl, z2⟩⟩
  · rw [q1, if_pos (by decide)]
    exact ⟨0, τ, ρ, rfl, q2.b.b206, t2, on8.rf ρ, Or.inr ⟨rfl, q2⟩⟩
/-! the draft on both sides -/
def DB (σ ρ : S0) (b : Nat) : Prop := (∃ w, w < 6 ∧ σ 15 b = nI w ∧ ρ 102 (5 * b) = nI w) ∧ (∃ f, f ≤ 20 ∧ σ 16 b = nI f ∧ ρ 102 (5 * b + 1) = nI f) ∧ (∃ f, f ≤ 9 ∧ σ 17 b = nI f ∧ ρ 102 (5 * b + 2) = nI f) ∧ ((σ 18 b = 0 ∧ ρ 102 (5 * b + 3) = 0) ∨ (σ 18 b = 1 ∧ ρ 102 (5 * b + 3) = 1)) ∧ ((σ 19 b = -4 ∧ ρ 102 (5 * b + 4) = -4) ∨ ∃ h, h < 6 ∧ σ 19 b = nI h ∧ ρ 102 (5 * b + 4) = nI h)
def DF (σ ρ : S0) : Prop := ∃ fo : Nat → Nat, (∀ h, h < 6 → fo h < 64 ∧ σ 20 h = nI (fo h) ∧ ρ 102 (60 + h) = nI (fo h)) ∧ (∀ a b, a < 6 → b < 6 → (fo a).testBit b = (fo b).testBit a) ∧ ∀ a, a < 6 → (fo a).testBit a = false
def DT (σ ρ : S0) (t : Nat) : Prop := ∃ m, 1 ≤ m ∧ m ≤ 12 ∧ σ 6 t = nI m ∧ ρ 103 (14 * t + 1) = nI m ∧ (∃ w, w ≤ 99 ∧ σ 5 t = nI w ∧ ρ 103 (14 * t) = nI w) ∧ ∀ i, i < m → ∃ b, b < 12 ∧ σ (8 + t) i = nI b ∧ ρ 103 (14 * t + 2 + i) = nI b
def th (ρ : S0) (B h : Nat) : Prop := (∃ b, b < B ∧ (ρ 102 (5 * b) = nI h ∨ ρ 102 (5 * b + 4) = nI h)) ∨ ¬ ρ 102 (60 + h) = 0
def sbr (ρ : S0) (T j : Nat) : Prop := ∃ t m i, t < T ∧ m ≤ 12 ∧ ρ 103 (14 * t + 1) = nI m ∧ i < m ∧ ρ 103 (14 * t + 2 + i) = nI j
def Mx (N : Nat) (hh : Int32) (P : Nat → Prop) : Prop := (hh = -4 ∧ ∀ h, h < N → ¬ P h) ∨ ∃ k, k < N ∧ hh = nI k ∧ P k ∧ ∀ h, h < N → P h → h ≤ k
theorem Mx.add {N : Nat} {hh : Int32} {P : Nat → Prop} (h : Mx N hh P) {x : Nat} (hx : x < N) (hN : N ≤ 100) : Mx N (mxI hh x) (fun y => P y ∨ y = x) := by
  unfold mxI
  rcases h with ⟨h1, h2⟩ | ⟨k, h1, h2, h3, h4⟩
  · have : ¬ nI x ≤ hh := by
      rw [h1]
      intro q
      have := (i3_le _ _).mp q
      rw [ir (by omega)] at this
      have e : (-4 : Int32).toInt = -4 := rfl
      omega
    rw [if_neg this]
    exact Or.inr ⟨x, hx, rfl, Or.inr rfl, fun y hy q => q.elim (fun z => absurd z (h2 y hy)) (fun z => by omega)⟩
  · have e : nI x ≤ hh ↔ x ≤ k := by rw [h2]; exact nI_leI (by omega) (by omega)
    by_cases c : x ≤ k
    · rw [if_pos (e.mpr c)]
      exact Or.inr ⟨k, h1, h2, Or.inl h3, fun y hy q => q.elim (fun z => h4 y hy z) (fun z => by omega)⟩
    · rw [if_neg (fun q => c (e.mp q))]
      exact Or.inr ⟨x, hx, rfl, Or.inr rfl, fun y hy q => q.elim (fun z => by have := h4 y hy z; omega) (fun z => by omega)⟩
theorem Mx.cg {N : Nat} {hh : Int32} {P Q : Nat → Prop} (h : Mx N hh P) (e : ∀ y, y < N → (P y ↔ Q y)) : Mx N hh Q := by
  rcases h with ⟨h1, h2⟩ | ⟨k, h1, h2, h3, h4⟩
  · exact Or.inl ⟨h1, fun y hy q => h2 y hy ((e y hy).mpr q)⟩
  · exact Or.inr ⟨k, h1, h2, (e k h1).mp h3, fun y hy q => h4 y hy ((e y hy).mpr q)⟩
theorem Mx.lt {N : Nat} {hh : Int32} {P : Nat → Prop} (h : Mx N hh P) (hN : N ≤ 100) {m : Nat} (hm : m ≤ 100) : nI m ≤ hh ↔ ∃ y, y < N ∧ P y ∧ m ≤ y := by
  rcases h with ⟨h1, h2⟩ | ⟨k, h1, h2, h3, h4⟩
  · constructor
    · intro q
      rw [h1] at q
      have := (i3_le _ _).mp q
      rw [ir (by omega)] at this
      have e : (-4 : Int32).toInt = -4 := rfl
      omega
    · rintro ⟨y, y1, y2, y3⟩
      exact absurd y2 (h2 y y1)
  · rw [h2, nI_leI (by omega) (by omega)]
    constructor
    · intro q; exact ⟨k, h1, h3, q⟩
    · rintro ⟨y, y1, y2, y3⟩
      have := h4 y y1 y2
      omega
def D0 (σ ρ : S0) : Prop := (∃ h, 1 ≤ h ∧ h ≤ 6 ∧ σ 4 0 = nI h ∧ ρ 98 9 = nI h) ∧ ∃ g, g ≤ 9 ∧ σ 4 1 = nI g ∧ ρ 98 10 = nI g
def D1 (σ ρ : S0) : Prop := ∃ p q, p ≤ 1 ∧ q ≤ 1 ∧ σ 3 2 = nI p ∧ σ 3 3 = nI q ∧ ρ 98 15 = nI (p + 2 * q)
def Dh (σ ρ : S0) : Prop := σ 14 7 = 0 ∧ ρ 102 66 = 0
def DBs (σ ρ : S0) (B : Nat) : Prop := B ≤ 12 ∧ σ 14 0 = nI B ∧ ρ 98 11 = nI B ∧ ∀ b, b < B → DB σ ρ b
def DTs (σ ρ : S0) (T : Nat) : Prop := T ≤ 6 ∧ σ 4 2 = nI T ∧ ρ 98 12 = nI T ∧ ∀ t, t < T → DT σ ρ t
def DR (σ ρ : S0) : Prop := D0 σ ρ ∧ D1 σ ρ ∧ DF σ ρ ∧ Dh σ ρ ∧ (∃ B, DBs σ ρ B ∧ Mx 6 (ρ 98 13) (th ρ B)) ∧ ∃ T, DTs σ ρ T ∧ Mx 12 (ρ 98 14) (sbr ρ T)
theorem D0.c {σ τ ρ μ : S0} (h : D0 σ ρ) (x0 : τ 4 0 = σ 4 0) (x1 : τ 4 1 = σ 4 1) (y0 : μ 98 9 = ρ 98 9) (y1 : μ 98 10 = ρ 98 10) : D0 τ μ := by
  unfold D0
  rw [x0, x1, y0, y1]
  exact h
theorem D1.c {σ τ ρ μ : S0} (h : D1 σ ρ) (x0 : τ 3 2 = σ 3 2) (x1 : τ 3 3 = σ 3 3) (y0 : μ 98 15 = ρ 98 15) : D1 τ μ := by
  unfold D1
  rw [x0, x1, y0]
  exact h
theorem DF.c {σ τ ρ μ : S0} (h : DF σ ρ) (x0 : τ 20 = σ 20) (y0 : ∀ j, 60 ≤ j → j < 66 → μ 102 j = ρ 102 j) : DF τ μ := by
  obtain ⟨fo, f1, f2, f3⟩ := h
  exact ⟨fo, fun x hx => ⟨(f1 x hx).1, by rw [x0]; exact (f1 x hx).2.1, by rw [y0 _ (by omega) (by omega)]; exact (f1 x hx).2.2⟩, f2, f3⟩
theorem Dh.c {σ τ ρ μ : S0} (h : Dh σ ρ) (x0 : τ 14 7 = σ 14 7) (y0 : μ 102 66 = ρ 102 66) : Dh τ μ := ⟨x0.trans h.1, y0.trans h.2⟩
theorem DB.c {σ τ ρ μ : S0} {b : Nat} (h : DB σ ρ b) (x0 : ∀ k, 15 ≤ k → k ≤ 19 → τ k b = σ k b) (y0 : ∀ j, 5 * b ≤ j → j < 5 * b + 5 → μ 102 j = ρ 102 j) : DB τ μ b := by
  unfold DB
  rw [x0 15 (by omega) (by omega), x0 16 (by omega) (by omega), x0 17 (by omega) (by omega), x0 18 (by omega) (by omega), x0 19 (by omega) (by omega), y0 (5 * b) (by omega) (by omega), y0 (5 * b + 1) (by omega) (by omega), y0 (5 * b + 2) (by omega) (by omega), y0 (5 * b + 3) (by omega) (by omega), y0 (5 * b + 4) (by omega) (by omega)]
  exact h
theorem DT.c {σ τ ρ μ : S0} {t : Nat} (h : DT σ ρ t) (x5 : τ 5 t = σ 5 t) (x6 : τ 6 t = σ 6 t) (x8 : τ (8 + t) = σ (8 + t)) (y0 : ∀ j, 14 * t ≤ j → j < 14 * t + 14 → μ 103 j = ρ 103 j) : DT τ μ t := by
  obtain ⟨m, a1, a2, a3, a4, ⟨w, w1, w2, w3⟩, a6⟩ := h
  refine ⟨m, a1, a2, x6.trans a3, by rw [y0 _ (by omega) (by omega)]; exact a4, ⟨w, w1, x5.trans w2, by rw [y0 _ (by omega) (by omega)]; exact w3⟩, fun i hi => ?_⟩
  obtain ⟨b, c1, c2, c3⟩ := a6 i hi
  exact ⟨b, c1, by rw [x8]; exact c2, by rw [y0 _ (by omega) (by omega)]; exact c3⟩
/-- nothing of the draft has changed -/
theorem DR.cg {σ τ ρ μ : S0} (h : DR σ ρ) (x : ∀ k, 4 ≤ k → k ≤ 21 → τ k = σ k) (x3 : ∀ j, j ≤ 4 → τ 3 j = σ 3 j) (y : ∀ j, 9 ≤ j → j ≤ 15 → μ 98 j = ρ 98 j) (y2 : μ 102 = ρ 102) (y3 : μ 103 = ρ 103) : DR τ μ := by
  obtain ⟨h0, h1, h2, h3, ⟨B, hB, hM⟩, T, hT, hN⟩ := h
  refine ⟨h0.c (by rw [x 4 (by omega) (by omega)]) (by rw [x 4 (by omega) (by omega)]) (y 9 (by omega) (by omega)) (y 10 (by omega) (by omega)), h1.c (x3 2 (by omega)) (x3 3 (by omega)) (y 15 (by omega) (by omega)), h2.c (x 20 (by omega) (by omega)) (fun j _ _ => by rw [y2]), h3.c (by rw [x 14 (by omega) (by omega)]) (by rw [y2]), ⟨B, ⟨hB.1, by rw [x 14 (by omega) (by omega)]; exact hB.2.1, by rw [y 11 (by omega) (by omega)]; exact hB.2.2.1, fun b hb => (hB.2.2.2 b hb).c (fun k k1 k2 => by rw [x k (by omega) (by omega)]) (fun j _ _ => by rw [y2])⟩, ?_⟩, T, ⟨hT.1, by rw [x 4 (by omega) (by omega)]; exact hT.2.1, by rw [y 12 (by omega) (by omega)]; exact hT.2.2.1, fun t ht => (hT.2.2.2 t ht).c (by rw [x 5 (by omega) (by omega)]) (by rw [x 6 (by omega) (by omega)]) (x (8 + t) (by omega) (by have := hT.1; omega)) (fun j _ _ => by rw [y3])⟩, ?_⟩
  · rw [y 13 (by omega) (by omega)]
    unfold th at hM ⊢
    rw [y2]
    exact hM
  · rw [y 14 (by omega) (by omega)]
    unfold sbr at hN ⊢
    rw [y3]
    exact hN
theorem DR.a {σ τ ρ μ : S0} (h : DR σ ρ) (o : onA σ τ) (q : on8 ρ μ) : DR τ μ := h.cg (fun k k1 k2 => o.c (by omega) (by omega)) (fun j hj => o 3 j (by omega)) (fun j j1 j2 => q 98 j (by omega)) (q.c (by omega)) (q.c (by omega))
/-- what a line comes to -/
def LR (a : Nat → Nat) (n p : Nat) (σ ρ : S0) (r : Int32) (τ μ : S0) : Prop := kX σ τ ∧ kM ρ μ ∧ τ 3 4 = σ 3 4 ∧ ((r = 1 ∧ DR τ μ ∧ ∃ p', tS a n p < p' ∧ Cur a n p' τ μ) ∨ (r = 0 ∧ Flt τ μ))
