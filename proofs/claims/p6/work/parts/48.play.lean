/-! A TUNE PLAYED by the class, held against rg -/
theorem bits_t : ∀ m : Fin 64, ∀ w : Fin 6, (nI m.1 &&& ((1 : Int32) <<< (nI w.1 &&& 31)) = 0) ↔ ¬ ((nI m.1 >>> (nI w.1 &&& 31)) &&& 1 = 1) := by decide
theorem bits_n {m w : Nat} (hm : m < 64) (hw : w < 6) : (nI m &&& ((1 : Int32) <<< (nI w &&& 31)) = 0) ↔ ¬ ((nI m >>> (nI w &&& 31)) &&& 1 = 1) := bits_t ⟨m, hm⟩ ⟨w, hw⟩
theorem bits_0 (w : Int32) : (0 : Int32) &&& w = 0 := Int32.zero_and
def okP (f g : Nat → Int32) (t n : Nat) (a : S0) : Prop := a 24 t = nI n ∧ (∀ i, i < n → ∃ b, b < 12 ∧ g (14 * t + 2 + i) = nI b ∧ a (26 + t) i = nI b ∧ a 33 b = f (5 * b) ∧ a 34 b = f (5 * b + 1) ∧ a 35 b = f (5 * b + 2) ∧ a 36 b = f (5 * b + 3) ∧ (f (5 * b + 3) = 0 ∨ f (5 * b + 3) = 1)) ∧ ∀ h, h < 6 → a 38 h = f (60 + h) ∧ ∃ m, m < 64 ∧ f (60 + h) = nI m
/-- nothing but the class's sums of a tune played has changed -/
def onlyP (σ τ : S0) : Prop := ∀ k, k ≠ 40 → τ k = σ k
theorem onlyP.tr {a b c : S0} (h1 : onlyP a b) (h2 : onlyP b c) : onlyP a c := fun k x => (h2 k x).trans (h1 k x)
theorem onlyP.su {a b : S0} (h : onlyP a b) (j : Nat) (v : Int32) : onlyP a (su b 40 j v) := fun k x => (su_ne x).trans (h k x)
theorem onlyP.rf (a : S0) : onlyP a a := fun _ _ => rfl
theorem onlyP.e {a b : S0} (h : onlyP a b) : eqv a b := fun k j hr => by
  rw [h k (fun q => by
    subst q
    unfold rel at hr
    have := of_decide_eq_true hr
    omega)]
theorem okP.cg {f g : Nat → Int32} {t n : Nat} {a b : S0} (ht : t < 6) (h : okP f g t n a) (o : onlyP a b) : okP f g t n b := by
  unfold okP at h ⊢
  rw [o 24 (by omega), o (26 + t) (by omega), o 33 (by omega), o 34 (by omega), o 35 (by omega), o 36 (by omega), o 38 (by omega)]
  exact h
def lk (f : Nat → Int32) (last x3 : Int32) : Prop := (last = -4 ∧ x3 = 0) ∨ ∃ a, a < 6 ∧ last = nI a ∧ x3 = f (60 + a)
theorem play_l (f g : Nat → Int32) (G : Int32) {t n : Nat} (ht : t < 6) (ok : okT f g t n) : ∀ (d i m : Nat) (σ : S0) (x2 x3 : Int32), n - i = d → i ≤ n → d < m → okP f g t n σ → σ 22 1 = G → σ 40 2 = (rg f g t i).1 → σ 40 3 = (rg f g t i).2.1 → σ 40 4 = (rg f g t i).2.2.1 → x2 = G * (rg f g t i).2.2.2.1 → lk f (rg f g t i).2.2.2.2 x3 →
    ∃ τ, fX6_play_h22 m σ (nI t) x2 x3 (nI i) = some (0, τ) ∧ onlyP σ τ ∧ τ 40 2 = (rg f g t n).1 ∧ τ 40 3 = (rg f g t n).2.1 ∧ τ 40 4 = (rg f g t n).2.2.1 ∧ τ 40 5 = σ 23 t - (rg f g t n).1 - (rg f g t n).2.1 - G * (rg f g t n).2.2.2.1 := by
  have hgt := ix_ok (j := t) (n := 6) ht (by omega)
  have hct : (nI t).toNatClampNeg = t := nI_clamp (by omega)
  have hgt2 : ¬ (nI t < 0 ∨ 6 ≤ t) := fun q => hgt (by rw [hct]; exact q)
  intro d
  induction d with
  | zero =>
    intro i m σ x2 x3 h1 h2 h3 hp hG s1 s2 s3 s4 hl
    obtain ⟨m, rfl⟩ : ∃ q, m = q + 1 := ⟨m - 1, by omega⟩
    have : i = n := by omega
    subst this
    show ∃ τ, fX6_play_b22 _ _ _ _ _ _ = _ ∧ _
    unfold fX6_play_b22
    simp only [og_t hgt, og_t hgt2, hct, ol]
    rw [hp.1, if_pos (nI_le (Nat.le_refl _) (by have := ok.1; omega))]
    refine ⟨_, rfl, onlyP.su (onlyP.rf _) _ _, ?_, ?_, ?_, ?_⟩
    · rw [su_j (by omega)]; exact s1
    · rw [su_j (by omega)]; exact s2
    · rw [su_j (by omega)]; exact s3
    · rw [su_s, s1, s2, s4]
  | succ d ih =>
    intro i m σ x2 x3 h1 h2 h3 hp hG s1 s2 s3 s4 hl
    obtain ⟨m, rfl⟩ : ∃ q, m = q + 1 := ⟨m - 1, by omega⟩
    have hn := ok.1
    obtain ⟨b, w, hb, hw, g1, g2⟩ := ok.2.2 i (by omega)
    obtain ⟨b', hb', g1', p1, p2, p3, p4, p5, p6⟩ := hp.2.1 i (by omega)
    have : b' = b := (nI_eq (by omega) (by omega)).mp (g1'.symm.trans g1)
    subst this
    have hst : stk g t i = b' := by unfold stk; rw [g1]; exact nI_clamp (by omega)
    have hgi := ix_ok (j := i) (n := 12) (by omega) (by omega)
    have hci : (nI i).toNatClampNeg = i := nI_clamp (by omega)
    have hgi2 : ¬ (nI i < 0 ∨ 12 ≤ i) := fun q => hgi (by rw [hci]; exact q)
    have hgb := ix_ok (j := b') (n := 12) (by omega) (by omega)
    have hcb : (nI b').toNatClampNeg = b' := nI_clamp (by omega)
    have hgb2 : ¬ (nI b' < 0 ∨ 12 ≤ b') := fun q => hgb (by rw [hcb]; exact q)
    have hgw := ix_ok (j := w) (n := 6) (by omega) (by omega)
    have hcw : (nI w).toNatClampNeg = w := nI_clamp (by omega)
    have hgw2 : ¬ (nI w < 0 ∨ 6 ≤ w) := fun q => hgw (by rw [hcw]; exact q)
    have hn1 : nI i + 1 = nI (i + 1) := nI_1 i
    have silent : sil f b' (rg f g t i).2.2.2.2 → ∃ τ, fX6_play_b84 (fX6_play_h22 m) σ (nI t) x2 x3 (nI i) = some (0, τ) ∧ onlyP σ τ ∧ τ 40 2 = (rg f g t n).1 ∧ τ 40 3 = (rg f g t n).2.1 ∧ τ 40 4 = (rg f g t n).2.2.1 ∧ τ 40 5 = σ 23 t - (rg f g t n).1 - (rg f g t n).2.1 - G * (rg f g t n).2.2.2.1 := fun hs => by
      have er : rg f g t (i + 1) = ((rg f g t i).1, (rg f g t i).2.1, (rg f g t i).2.2.1 ||| ((1 : Int32) <<< (nI i &&& 31)), (rg f g t i).2.2.2.1 + 1, (rg f g t i).2.2.2.2) := by
        show (if sil f (stk g t i) _ then _ else _) = _
        rw [hst, if_pos hs]
      have o1 : onlyP σ (su σ 40 4 (σ 40 4 ||| ((1 : Int32) <<< (nI i &&& 31)))) := onlyP.su (onlyP.rf _) _ _
      obtain ⟨τ, q1, q2, q3, q4, q5, q6⟩ := ih (i + 1) m (su σ 40 4 (σ 40 4 ||| ((1 : Int32) <<< (nI i &&& 31)))) (x2 + su σ 40 4 (σ 40 4 ||| ((1 : Int32) <<< (nI i &&& 31))) 22 1) x3 (by omega) (by omega) (by omega) (hp.cg ht o1) (by rw [su_ne (by omega)]; exact hG) (by rw [er, su_j (by omega)]; exact s1) (by rw [er, su_j (by omega)]; exact s2) (by rw [er, su_s, s3]) (by rw [er, su_ne (by omega), hG, s4, Int32.mul_add, Int32.mul_one]) (by rw [er]; exact hl)
      unfold fX6_play_b84 fX6_play_b159
      simp only [ol]
      refine ⟨τ, by rw [hn1]; exact q1, o1.tr q2, q3, q4, q5, ?_⟩
      rw [q6, su_ne (by omega)]
    show ∃ τ, fX6_play_b22 _ _ _ _ _ _ = _ ∧ _
    unfold fX6_play_b22
    simp only [og_t hgt, og_t hgt2, hct, ol]
    rw [hp.1, if_neg (nI_ge (by omega) (by omega))]
    simp only [og_t hgi, og_t hgi2, hci, Nat.one_mul, p1, og_t hgb, og_t hgb2, hcb, p2, p5, g2]
    by_cases c1 : f (5 * b' + 3) = 0
    · rw [if_neg (by simp [c1])]
      have hsl : sil f b' (rg f g t i).2.2.2.2 ↔ ¬ (x3 &&& ((1 : Int32) <<< (nI w &&& 31))) = 0 := by
        rcases hl with ⟨l1, l2⟩ | ⟨a, ha, l1, l2⟩
        · rw [l2, bits_0]
          constructor
          · intro q
            rcases q with q | q
            · rw [c1] at q; exact absurd q (by decide)
            · exact absurd l1 q.1
          · intro q; exact absurd rfl q
        · obtain ⟨-, m6, hm6, e6⟩ := hp.2.2 a ha
          rw [l2, e6, bits_n hm6 hw]
          constructor
          · intro q
            rcases q with q | q
            · rw [c1] at q; exact absurd q (by decide)
            · have q2 := q.2
              rw [l1, nI_clamp (by omega), g2, e6] at q2
              exact fun x => x q2
          · intro q
            refine Or.inr ⟨by rw [l1]; exact nI_m4 (by omega), ?_⟩
            rw [l1, nI_clamp (by omega), g2, e6]
            exact Classical.not_not.mp q
      by_cases c2 : (x3 &&& ((1 : Int32) <<< (nI w &&& 31))) = 0
      · rw [if_pos c2]
        have hs : ¬ sil f b' (rg f g t i).2.2.2.2 := fun q => hsl.mp q c2
        have er : rg f g t (i + 1) = ((rg f g t i).1 + f (5 * b' + 1), (rg f g t i).2.1 + f (5 * b' + 2), (rg f g t i).2.2.1, (rg f g t i).2.2.2.1, nI w) := by
          show (if sil f (stk g t i) _ then _ else _) = _
          rw [hst, if_neg hs, g2]
        have o1 : onlyP σ (su (su σ 40 2 (σ 40 2 + σ 34 b')) 40 3 (su σ 40 2 (σ 40 2 + σ 34 b') 40 3 + su σ 40 2 (σ 40 2 + σ 34 b') 35 b')) := onlyP.su (onlyP.su (onlyP.rf _) _ _) _ _
        have hp1 := hp.cg ht o1
        obtain ⟨τ, q1, q2, q3, q4, q5, q6⟩ := ih (i + 1) m _ x2 (su (su σ 40 2 (σ 40 2 + σ 34 b')) 40 3 (su σ 40 2 (σ 40 2 + σ 34 b') 40 3 + su σ 40 2 (σ 40 2 + σ 34 b') 35 b') 38 w) (by omega) (by omega) (by omega) hp1 (by rw [o1 22 (by omega)]; exact hG) (by rw [er, su_j (by omega), su_s, s1, p3]) (by rw [er, su_s, su_j (by omega), su_ne (by omega), s2, p4]) (by rw [er, su_j (by omega), su_j (by omega)]; exact s3) (by rw [er]; exact s4) (by rw [er]; exact Or.inr ⟨w, hw, rfl, (hp1.2.2 w hw).1⟩)
        simp only [og_t hgw, og_t hgw2, hcw]
        unfold fX6_play_b159
        simp only [ol]
        refine ⟨τ, by rw [hn1]; exact q1, o1.tr q2, q3, q4, q5, ?_⟩
        rw [q6, o1 23 (by omega)]
      · rw [if_neg c2]
        exact silent (hsl.mpr c2)
    · rw [if_pos c1]
      exact silent (Or.inl (p6.resolve_left c1))
