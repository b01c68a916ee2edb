/-! WINE -/
theorem full_t : ∀ T : Fin 7, ∀ t : Fin 7, t.1 < T.1 → bitp ((1 : Int32) <<< (nI T.1 &&& 31) - 1) t.1 := by decide
abbrev fullb (T : Nat) : Int32 := (1 : Int32) <<< (nI T &&& 31) - 1
abbrev sw (f g : Nat → Int32) (T h : Nat) : Int32 := smr f g h (fullb T) T
theorem strokesOf_s {f g : Nat → Int32} {σ : S0} {T h : Nat} (hT : T ≤ 6) (hh : h < 6) (e : σ 22 2 = nI T) (hF : ∀ u, u < T → FT f g u σ) : fX2_strokesOf σ (nI h) = some (sw f g T h, σ) := by
  unfold fX2_strokesOf
  rw [e, strokesIn_s hT hh (by rw [e]) hF]
  rfl
theorem wineM_a (f g : Nat → Int32) {T : Nat} (hT : T ≤ 6) (x1 x2 : Int32) (ok : ∀ u, u < T → okT f g u (ln g u)) : ∀ (d t m : Nat) (σ : S0), T - t = d → t ≤ T → d < m → σ 99 = f → σ 101 = g → σ 98 5 = nI T → (∀ h, h < 6 → σ 105 h = smr f g h (fullb T) t) → ∃ τ, fX11_wine_h28 m σ x1 x2 (nI t) = fX11_wine_h52 400 τ x1 x2 0 0 ∧ onlyG σ τ ∧ ∀ h, h < 6 → τ 105 h = sw f g T h := by
  intro d
  induction d with
  | zero =>
    intro t m σ h1 h2 h3 e1 e2 e3 s1
    obtain ⟨m, rfl⟩ : ∃ q, m = q + 1 := ⟨m - 1, by omega⟩
    have : t = T := by omega
    subst this
    refine ⟨σ, ?_, onlyG.rf σ, s1⟩
    show fX11_wine_b28 _ _ _ _ _ = _
    unfold fX11_wine_b28
    rw [if_pos (show σ 98 5 ≤ nI t from by rw [e3]; exact nI_le (Nat.le_refl _) (by omega))]
  | succ d ih =>
    intro t m σ h1 h2 h3 e1 e2 e3 s1
    obtain ⟨m, rfl⟩ : ∃ q, m = q + 1 := ⟨m - 1, by omega⟩
    have c : bitp (fullb T) t := full_t ⟨T, by omega⟩ ⟨t, by omega⟩ (by show t < T; omega)
    have es : ∀ h, smr f g h (fullb T) (t + 1) = if bitp (fullb T) t then smr f g h (fullb T) t + rc f g t h (ln g t) else smr f g h (fullb T) t := fun _ => rfl
    obtain ⟨ν, q1, q2, q3, q4, q5, q6, q7⟩ := rings_s (σ := σ) (t := t) (n := ln g t) (by omega) (by rw [e1, e2]; exact ok t (by omega))
    obtain ⟨τ, t1, t2, t3⟩ := ih (t + 1) m ν (by omega) (by omega) (by omega) (by rw [q2.c (by omega) (by omega), e1]) (by rw [q2.c (by omega) (by omega), e2]) (by rw [q2 98 5 (by omega) (by omega), e3]) (fun h hh => by rw [q7 h hh, s1 h hh, es h, if_pos c, e1, e2])
    refine ⟨τ, ?_, q2.g.tr t2, t3⟩
    show fX11_wine_b28 _ _ _ _ _ = _
    unfold fX11_wine_b28
    rw [if_neg (show ¬ (σ 98 5 ≤ nI t) from by rw [e3]; exact nI_ge (by omega) (by omega)), q1]
    simp only [obp, ol, nI_1]
    exact t1
/-- all strokes that ring, of the first i houses -/
def al (F : Nat → Int32) : Nat → Int32
  | 0 => 0
  | i + 1 => al F i + F i
/-- the pouring, after i houses: what is left, who stands ahead -/
def po (F : Nat → Int32) (w h a : Int32) (rest : Int32) : Nat → Int32 × Int32
  | 0 => (w, 0)
  | i + 1 => ((po F w h a rest i).1 - w * F i / a, if rest < w * F i - w * F i / a * a ∨ (w * F i - w * F i / a * a = rest ∧ ¬ h ≤ nI i) then (po F w h a rest i).2 + 1 else (po F w h a rest i).2)
def rst (F : Nat → Int32) (w : Int32) (h : Nat) (a : Int32) : Int32 := w * F h - w * F h / a * a
def poA (F : Nat → Int32) (w : Int32) (h : Nat) (a : Int32) (H : Nat) : Int32 := w * F h / a + (if (po F w (nI h) a (rst F w h a) H).1 ≤ (po F w (nI h) a (rst F w h a) H).2 then 0 else 1)
def wiA (F : Nat → Int32) (w : Int32) (h H : Nat) : Int32 := if al F H = 0 then -4 else poA F w h (al F H) H
theorem pour_l {σ : S0} (F : Nat → Int32) {H : Nat} (hH : H ≤ 6) (e0 : σ 22 0 = nI H) (hS : ∀ u, u < H → fX2_strokesOf σ (nI u) = some (F u, σ)) (w : Int32) {h : Nat} {a : Int32} (ha : ¬ a = 0) : ∀ (d i m : Nat), H - i = d → i ≤ H → d < m → fX10_pour_h27 m σ w (nI h) a (w * F h) (rst F w h a) (po F w (nI h) a (rst F w h a) i).1 (po F w (nI h) a (rst F w h a) i).2 (nI i) = some (poA F w h a H, σ) := by
  intro d
  induction d with
  | zero =>
    intro i m h1 h2 h3
    obtain ⟨m, rfl⟩ : ∃ q, m = q + 1 := ⟨m - 1, by omega⟩
    have : i = H := by omega
    subst this
    show fX10_pour_b27 _ _ _ _ _ _ _ _ _ _ = _
    unfold fX10_pour_b27 poA
    rw [if_pos (show σ 22 0 ≤ nI i from by rw [e0]; exact nI_le (Nat.le_refl _) (by omega)), og_t ha]
    simp only [ol]
    by_cases c : (po F w (nI h) a (rst F w h a) i).1 ≤ (po F w (nI h) a (rst F w h a) i).2
    · rw [if_pos c, if_pos c]
    · rw [if_neg c, if_neg c]
  | succ d ih =>
    intro i m h1 h2 h3
    obtain ⟨m, rfl⟩ : ∃ q, m = q + 1 := ⟨m - 1, by omega⟩
    have ih' := ih (i + 1) m (by omega) (by omega) (by omega)
    have ep : po F w (nI h) a (rst F w h a) (i + 1) = ((po F w (nI h) a (rst F w h a) i).1 - w * F i / a, if rst F w h a < w * F i - w * F i / a * a ∨ (w * F i - w * F i / a * a = rst F w h a ∧ ¬ nI h ≤ nI i) then (po F w (nI h) a (rst F w h a) i).2 + 1 else (po F w (nI h) a (rst F w h a) i).2) := rfl
    rw [ep] at ih'
    show fX10_pour_b27 _ _ _ _ _ _ _ _ _ _ = _
    unfold fX10_pour_b27 fX10_pour_b87 fX10_pour_b90
    rw [if_neg (show ¬ (σ 22 0 ≤ nI i) from by rw [e0]; exact nI_ge (by omega) (by omega)), hS i (by omega)]
    simp only [obp, ol, og_t ha, nI_1]
    by_cases c1 : rst F w h a < w * F i - w * F i / a * a
    · rw [if_pos c1]
      rw [if_pos (Or.inl c1)] at ih'
      exact ih'
    · rw [if_neg c1]
      by_cases c2 : w * F i - w * F i / a * a = rst F w h a
      · rw [if_neg (fun q => q c2)]
        by_cases c3 : nI h ≤ nI i
        · rw [if_pos c3]
          rw [if_neg (fun q => q.elim c1 (fun q => q.2 c3))] at ih'
          exact ih'
        · rw [if_neg c3]
          rw [if_pos (Or.inr ⟨c2, c3⟩)] at ih'
          exact ih'
      · rw [if_pos c2]
        rw [if_neg (fun q => q.elim c1 (fun q => c2 q.1))] at ih'
        exact ih'
theorem wineX_l {σ : S0} (F : Nat → Int32) {H : Nat} (hH : H ≤ 6) (e0 : σ 22 0 = nI H) (hS : ∀ u, u < H → fX2_strokesOf σ (nI u) = some (F u, σ)) (w : Int32) {h : Nat} (hh : h < H) : ∀ (d i m : Nat), H - i = d → i ≤ H → d < m → fX10_wine_h36 m σ w (nI h) (al F i) (nI i) = some (wiA F w h H, σ) := by
  intro d
  induction d with
  | zero =>
    intro i m h1 h2 h3
    obtain ⟨m, rfl⟩ : ∃ q, m = q + 1 := ⟨m - 1, by omega⟩
    have : i = H := by omega
    subst this
    show fX10_wine_b36 _ _ _ _ _ _ = _
    unfold fX10_wine_b36 wiA
    rw [if_pos (show σ 22 0 ≤ nI i from by rw [e0]; exact nI_le (Nat.le_refl _) (by omega))]
    by_cases c : al F i = 0
    · rw [if_neg (fun q => q c), if_pos c]
    · rw [if_pos c, if_neg c]
      unfold fX10_pour
      rw [hS h hh]
      simp only [obp, ol, og_t c]
      have := pour_l F hH e0 hS w (h := h) c i 0 400 (by omega) (by omega) (by omega)
      have e : fX10_pour_h27 400 σ w (nI h) (al F i) (w * F h) (w * F h - w * F h / al F i * al F i) w 0 0 = some (poA F w h (al F i) i, σ) := this
      rw [e]
  | succ d ih =>
    intro i m h1 h2 h3
    obtain ⟨m, rfl⟩ : ∃ q, m = q + 1 := ⟨m - 1, by omega⟩
    have ih' := ih (i + 1) m (by omega) (by omega) (by omega)
    show fX10_wine_b36 _ _ _ _ _ _ = _
    unfold fX10_wine_b36
    rw [if_neg (show ¬ (σ 22 0 ≤ nI i) from by rw [e0]; exact nI_ge (by omega) (by omega)), hS i (by omega)]
    simp only [obp, ol, nI_1]
    exact ih'
theorem pourM_l {σ : S0} (F : Nat → Int32) {H : Nat} (hH : H ≤ 6) (e0 : σ 98 2 = nI H) (hS : ∀ u, u < 6 → σ 105 u = F u) (w : Int32) {h : Nat} (hh : h < 6) {a : Int32} (ha : ¬ a = 0) : ∀ (d i m : Nat), H - i = d → i ≤ H → d < m → fX11_wine_h105 m σ w (nI h) a (po F w (nI h) a (rst F w h a) i).1 (po F w (nI h) a (rst F w h a) i).2 (rst F w h a) (nI i) = some (poA F w h a H, σ) := by
  have hone : ¬ (1 : Int32) = 0 := by decide
  intro d
  induction d with
  | zero =>
    intro i m h1 h2 h3
    obtain ⟨m, rfl⟩ : ∃ q, m = q + 1 := ⟨m - 1, by omega⟩
    have : i = H := by omega
    subst this
    show fX11_wine_b105 _ _ _ _ _ _ _ _ _ = _
    unfold fX11_wine_b105 fX11_wine_b204 fX11_flag poA
    rw [if_pos (show σ 98 2 ≤ nI i from by rw [e0]; exact nI_le (Nat.le_refl _) (by omega)), og_t (ix_ok hh (by omega)), nI_clamp (by omega)]
    simp only [ol, hS h hh, og_t ha]
    by_cases c : (po F w (nI h) a (rst F w h a) i).1 ≤ (po F w (nI h) a (rst F w h a) i).2
    · rw [if_pos c, if_pos c]
      rfl
    · rw [if_neg c, if_neg c]
      rfl
  | succ d ih =>
    intro i m h1 h2 h3
    obtain ⟨m, rfl⟩ : ∃ q, m = q + 1 := ⟨m - 1, by omega⟩
    have ih' := ih (i + 1) m (by omega) (by omega) (by omega)
    have ep : po F w (nI h) a (rst F w h a) (i + 1) = ((po F w (nI h) a (rst F w h a) i).1 - w * F i / a, if rst F w h a < w * F i - w * F i / a * a ∨ (w * F i - w * F i / a * a = rst F w h a ∧ ¬ nI h ≤ nI i) then (po F w (nI h) a (rst F w h a) i).2 + 1 else (po F w (nI h) a (rst F w h a) i).2) := rfl
    rw [ep] at ih'
    have hgi := ix_ok (j := i) (n := 6) (by omega) (by omega)
    have hci : (nI i).toNatClampNeg = i := nI_clamp (by omega)
    have hgi2 : ¬ (nI i < 0 ∨ 6 ≤ i) := fun q => hgi (by rw [hci]; exact q)
    show fX11_wine_b105 _ _ _ _ _ _ _ _ _ = _
    unfold fX11_wine_b105 fX11_wine_b165 fX11_wine_b169 fX11_wine_b170 fX11_flag
    rw [if_neg (show ¬ (σ 98 2 ≤ nI i) from by rw [e0]; exact nI_ge (by omega) (by omega))]
    simp only [obp, ol, og_t ha, nI_1, og_t hgi, og_t hgi2, hci, hS i (by omega), if_neg hone, if_true, Int32.add_zero]
    by_cases c1 : rst F w h a < w * F i - w * F i / a * a
    · rw [if_pos c1]
      rw [if_pos (Or.inl c1)] at ih'
      exact ih'
    · rw [if_neg c1]
      by_cases c2 : w * F i - w * F i / a * a = rst F w h a
      · rw [if_neg (fun q => q c2)]
        by_cases c3 : nI h ≤ nI i
        · rw [if_pos c3]
          rw [if_neg (fun q => q.elim c1 (fun q => q.2 c3))] at ih'
          exact ih'
        · rw [if_neg c3]
          rw [if_pos (Or.inr ⟨c2, c3⟩)] at ih'
          exact ih'
      · rw [if_pos c2]
        rw [if_neg (fun q => q.elim c1 (fun q => c2 q.1))] at ih'
        exact ih'
theorem wineM_l {σ : S0} (F : Nat → Int32) {H : Nat} (hH : H ≤ 6) (e0 : σ 98 2 = nI H) (hS : ∀ u, u < 6 → σ 105 u = F u) (w : Int32) {h : Nat} (hh : h < H) : ∀ (d i m : Nat), H - i = d → i ≤ H → d < m → fX11_wine_h52 m σ w (nI h) (al F i) (nI i) = some (wiA F w h H, σ) := by
  intro d
  induction d with
  | zero =>
    intro i m h1 h2 h3
    obtain ⟨m, rfl⟩ : ∃ q, m = q + 1 := ⟨m - 1, by omega⟩
    have : i = H := by omega
    subst this
    show fX11_wine_b52 _ _ _ _ _ _ = _
    unfold fX11_wine_b52 wiA
    rw [if_pos (show σ 98 2 ≤ nI i from by rw [e0]; exact nI_le (Nat.le_refl _) (by omega))]
    by_cases c : al F i = 0
    · rw [if_neg (fun q => q c), if_pos c]
    · rw [if_pos c, if_neg c, og_t (ix_ok (by omega) (by omega)), nI_clamp (by omega)]
      simp only [ol, og_t c, hS h (by omega)]
      exact pourM_l F hH e0 hS w (h := h) (by omega) c i 0 400 (by omega) (by omega) (by omega)
  | succ d ih =>
    intro i m h1 h2 h3
    obtain ⟨m, rfl⟩ : ∃ q, m = q + 1 := ⟨m - 1, by omega⟩
    have ih' := ih (i + 1) m (by omega) (by omega) (by omega)
    show fX11_wine_b52 _ _ _ _ _ _ = _
    unfold fX11_wine_b52
    rw [if_neg (show ¬ (σ 98 2 ≤ nI i) from by rw [e0]; exact nI_ge (by omega) (by omega)), og_t (ix_ok (by omega) (by omega)), nI_clamp (by omega), hS i (by omega)]
    simp only [ol, nI_1]
    exact ih'
theorem sim_wine (x y : Int32) : Sim (fun σ => fX10_wine σ x y) (fun σ => fX11_wine σ x y) := by
  intro σ hR
  show An (fX10_wine σ x y) (fun r τ => An (fX11_wine τ x y) (fun q ρ => r = q ∧ R ρ))
  obtain ⟨H, G, B, T, h⟩ := id hR
  obtain ⟨⟨b1, b2, b3, b4, b5⟩, ⟨e1, e2, e5, e6⟩, e3, e4, e7⟩ := h.1
  have a1 : x < 0 ↔ x.toInt < 0 := i3_lt _ _
  have a2 : (999 : Int32) < x ↔ 999 < x.toInt := i3_lt _ _
  by_cases c : 0 ≤ x.toInt ∧ x.toInt ≤ 999
  · have c1 : ¬ x < 0 := by rw [a1]; omega
    have c2 : ¬ (999 : Int32) < x := by rw [a2]; omega
    rcases ixc y H (by omega) with ⟨w, hw, rfl⟩ | hy
    · obtain ⟨τ, p1, p2, p3⟩ := ringAll_s h
      have hτ := h.cg p2.e
      have hS : ∀ u, u < H → fX2_strokesOf τ (nI u) = some (sw (σ 99) (σ 101) T u, τ) := fun u hu => strokesOf_s b5 (by omega) (by rw [p2 22 (by omega)]; exact e7) p3
      have hx := wineX_l (sw (σ 99) (σ 101) T) b2 (by rw [p2 22 (by omega)]; exact e3) hS x hw H 0 400 (by omega) (by omega) (by omega)
      have o : onlyG τ (nr τ 0) := fun k j _ hk => by rw [nr_ne hk]
      obtain ⟨ρ, q1, q2, q3⟩ := wineM_a (σ 99) (σ 101) b5 x (nI w) (fun u hu => (RT h hu).1) T 0 400 (nr τ 0) (by omega) (by omega) (by omega) (by rw [o.c (by omega) (by omega), p2 99 (by omega)]) (by rw [o.c (by omega) (by omega), p2 101 (by omega)]) (by rw [o 98 5 (by omega) (by omega), p2 98 (by omega)]; exact e6) (fun u hu => by rw [nr_in hu]; rfl)
      have o2 := o.tr q2
      have hm := wineM_l (σ := ρ) (sw (σ 99) (σ 101) T) b2 (by rw [o2 98 2 (by omega) (by omega), p2 98 (by omega)]; exact e1) q3 x hw H 0 400 (by omega) (by omega) (by omega)
      refine ⟨wiA (sw (σ 99) (σ 101) T) x w H, τ, ?_, wiA (sw (σ 99) (σ 101) T) x w H, ρ, ?_, rfl, H, G, B, T, hτ.cg o2.e⟩
      · unfold fX10_wine
        rw [if_neg c1, if_neg c2, hh_y e3 (by omega) hw]
        simp only [obp]
        rw [if_pos (by decide), p1]
        exact hx
      · unfold fX11_wine
        rw [in_i τ x 0 999 0 999 rfl rfl, if_pos c]
        simp only [obp]
        rw [if_neg (by decide), ih_y (by rw [p2 98 (by omega)]; exact e1) (by omega) hw]
        simp only
        rw [if_pos (by decide), noRung_s]
        simp only
        exact q1.trans hm
    · refine Sim.same (fun τ => fX11_wine τ x y) (a := -1) hR ?_ ?_
      · unfold fX10_wine
        rw [if_neg c1, if_neg c2, hh_n e3 (by omega) hy]
        rfl
      · show fX11_wine σ x y = _
        unfold fX11_wine
        rw [in_i σ x 0 999 0 999 rfl rfl, if_pos c]
        simp only [obp]
        rw [if_neg (by decide), ih_n e1 (by omega) hy]
        rfl
  · refine Sim.same (fun τ => fX11_wine τ x y) (a := -1) hR ?_ ?_
    · unfold fX10_wine
      by_cases c1 : x < 0
      · rw [if_pos c1]
      · rw [if_neg c1, if_pos (by rw [a1] at c1; rw [a2]; omega)]
    · show fX11_wine σ x y = _
      unfold fX11_wine
      rw [in_i σ x 0 999 0 999 rfl rfl, if_neg c]
      rfl
