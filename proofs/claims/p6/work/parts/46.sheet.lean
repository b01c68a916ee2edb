/-- the sheets alone have changed -/
theorem R_sh {σ τ : S0} {H G B T : Nat} (h : Rall σ H G B T) (hs2 : Rs τ) (ta : ∀ x, x < 90 ∨ (97 < x ∧ x < 108) → τ x = σ x) : Rall τ H G B T := by
  obtain ⟨hn, hk, hm, ht, hi, hp, -, hf, hq⟩ := h
  have hB := hn.1.2.2.2.1
  have hT := hn.1.2.2.2.2
  exact ⟨hn.c (by rw [ta 98 (by omega)]) (by rw [ta 98 (by omega)]) (by rw [ta 98 (by omega)]) (by rw [ta 98 (by omega)]) (ta 22 (by omega)), hk.c (fun d hd => ta _ (by omega)) (fun i h1 h2 => by rw [ta 99 (by omega)]) hB, hm.c (fun i h1 h2 => by rw [ta 99 (by omega)]) hB, ht.c (ta _ (by omega)) (ta _ (by omega)) (ta _ (by omega)) (fun t h => ta _ (by omega)), hi.c (ta _ (by omega)) (ta _ (by omega)) (fun x h1 h2 => ta _ (by omega)) (fun i h1 h2 => by rw [ta 99 (by omega)]) hB, hp.c (by rw [ta 1 (by omega)]) (by rw [ta 98 (by omega)]) (ta _ (by omega)) (ta _ (by omega)), hs2, by rw [ta 3 (by omega), ta 98 (by omega)]; exact hf, by rw [ta 0 (by omega), ta 98 (by omega)]; exact hq⟩
/-- the tape alone has changed -/
theorem R_tp {σ τ : S0} {H G B T : Nat} (h : Rall σ H G B T) (hp2 : Rp τ) (ta : ∀ x, x ≠ 1 → x ≠ 2 → x ≠ 98 → x ≠ 104 → τ x = σ x) (tb : ∀ i, i ≠ 17 → τ 98 i = σ 98 i) : Rall τ H G B T := by
  obtain ⟨hn, hk, hm, ht, hi, hp, hs, hf, hq⟩ := h
  have hB := hn.1.2.2.2.1
  have hT := hn.1.2.2.2.2
  exact ⟨hn.c (tb _ (by omega)) (tb _ (by omega)) (tb _ (by omega)) (tb _ (by omega)) (ta 22 (by omega) (by omega) (by omega) (by omega)), hk.c (fun d hd => ta _ (by omega) (by omega) (by omega) (by omega)) (fun i h1 h2 => by rw [ta 99 (by omega) (by omega) (by omega) (by omega)]) hB, hm.c (fun i h1 h2 => by rw [ta 99 (by omega) (by omega) (by omega) (by omega)]) hB, ht.c (ta _ (by omega) (by omega) (by omega) (by omega)) (ta _ (by omega) (by omega) (by omega) (by omega)) (ta _ (by omega) (by omega) (by omega) (by omega)) (fun t h => ta _ (by omega) (by omega) (by omega) (by omega)), hi.c (ta _ (by omega) (by omega) (by omega) (by omega)) (ta _ (by omega) (by omega) (by omega) (by omega)) (fun x h1 h2 => ta _ (by omega) (by omega) (by omega) (by omega)) (fun i h1 h2 => by rw [ta 99 (by omega) (by omega) (by omega) (by omega)]) hB, hp2, hs.c (ta _ (by omega) (by omega) (by omega) (by omega)) (ta _ (by omega) (by omega) (by omega) (by omega)) (ta _ (by omega) (by omega) (by omega) (by omega)) (fun x h1 h2 => ta _ (by omega) (by omega) (by omega) (by omega)), by rw [ta 3 (by omega) (by omega) (by omega) (by omega), tb _ (by omega)]; exact hf, by rw [ta 0 (by omega) (by omega) (by omega) (by omega), tb _ (by omega)]; exact hq⟩
theorem sim_end (x : Int32) : Sim (fun σ => fX10_end σ x) (fun σ => fX11_end σ x) := by
  intro σ hR
  show An (fX10_end σ x) (fun r τ => An (fX11_end τ x) (fun q ρ => r = q ∧ R ρ))
  obtain ⟨H, G, B, T, h⟩ := id hR
  obtain ⟨n, n1, p1, p2, p3⟩ := h.2.2.2.2.2.1
  rcases ixc x (n + 1) (by omega) with ⟨j, hj, rfl⟩ | hx
  · refine ⟨nI n, su σ 1 1 (nI j), ?_, nI n, su (su σ 1 1 (nI j)) 98 17 (nI j), ?_, rfl, H, G, B, T, R_tp h ⟨j, by omega, by rw [su_ne (by omega), su_s], su_s, fun i hi => ?_⟩ (fun y h1 h2 h3 h4 => by rw [su_ne h3, su_ne h1]) (fun i hi => by rw [su_j hi, su_ne (by omega)])⟩
    · unfold fX10_end
      have hle : nI j ≤ σ 1 1 := by rw [p1]; exact nI_le (by omega) (by omega)
      rw [if_neg (nI_pos (by omega)), if_pos hle]
      simp only [ol]
      rw [p1]
    · unfold fX11_end
      rw [in_i _ (nI j) 0 _ 0 (n : Int) rfl (by rw [Int32.toInt_toInt64, su_ne (by omega), p2, ir (by omega)]), ir (by omega), if_pos (by omega)]
      simp only [obp, ol]
      rw [if_pos (by decide), su_ne (by omega), p2]
    · rw [su_ne (by omega), su_ne (by omega), su_ne (by omega), su_ne (by omega)]
      exact p3 i (by omega)
  · refine Sim.same (fun τ => fX11_end τ x) (a := -1) hR ?_ ?_
    · unfold fX10_end
      simp only [i3_lt, i3_le, p1]
      rw [ir (by omega)]
      have e0 : (0 : Int32).toInt = 0 := rfl
      rw [e0]
      by_cases h1 : x.toInt < 0
      · rw [if_pos h1]
      · rw [if_neg h1, if_neg (by omega)]
    · show fX11_end _ _ = _
      unfold fX11_end
      rw [in_i _ x 0 _ 0 (n : Int) rfl (by rw [Int32.toInt_toInt64, p2, ir (by omega)]), if_neg (by omega)]
      rfl
def flld (σ : S0) (k i n : Nat) (v : Int32) : S0 := fun x y => if x = k ∧ i ≤ y ∧ y < n then v else σ x y
theorem flld_su (σ : S0) (k i n : Nat) (v : Int32) (h : i < n) : flld (su σ k i v) k (i + 1) n v = flld σ k i n v := by
  funext x y
  unfold flld
  rw [su_at]
  by_cases hx : x = k
  · subst hx
    by_cases hy : y = i
    · subst hy
      simp [h]
    · by_cases h2 : i + 1 ≤ y ∧ y < n
      · rw [if_pos ⟨rfl, h2⟩, if_pos ⟨rfl, by omega, h2.2⟩]
      · rw [if_neg (by omega), if_pos rfl, if_neg hy, if_neg (by omega)]
  · simp [hx]
theorem flld_ne {σ : S0} {k i n : Nat} {v : Int32} {x : Nat} (h : x ≠ k) : flld σ k i n v x = σ x := by
  funext y
  unfold flld
  rw [if_neg (fun q => h q.1)]
theorem flld_in {σ : S0} {k i n : Nat} {v : Int32} {y : Nat} (h1 : i ≤ y) (h2 : y < n) : flld σ k i n v k y = v := if_pos ⟨rfl, h1, h2⟩
theorem flld_out {σ : S0} {k i n : Nat} {v : Int32} {y : Nat} (h : ¬ (i ≤ y ∧ y < n)) : flld σ k i n v k y = σ k y := if_neg (fun q => h q.2)
theorem flld_0 (σ : S0) (k n : Nat) (v : Int32) : flld σ k n n v = σ := by
  funext x y
  unfold flld
  rw [if_neg (by omega)]
theorem fill_s (k n : Nat) (v : Int32) (hn : n < 2 ^ 31) : ∀ (d i m : Nat) (σ : S0), n - i = d → i ≤ n → d < m → fJ7_fill_53178_h5 m σ n k v (nI i) (nI n) = some (0, flld σ k i n v) := by
  intro d
  induction d with
  | zero =>
    intro i m σ h1 h2 h3
    obtain ⟨m, rfl⟩ : ∃ q, m = q + 1 := ⟨m - 1, by omega⟩
    have : i = n := by omega
    subst this
    show fJ7_fill_53178_b5 _ _ _ _ _ _ _ = _
    unfold fJ7_fill_53178_b5
    rw [if_pos (nI_le (Nat.le_refl _) hn), flld_0]
  | succ d ih =>
    intro i m σ h1 h2 h3
    obtain ⟨m, rfl⟩ : ∃ q, m = q + 1 := ⟨m - 1, by omega⟩
    show fJ7_fill_53178_b5 _ _ _ _ _ _ _ = _
    unfold fJ7_fill_53178_b5
    rw [if_neg (nI_ge (by omega) hn), og_t (ix_ok (by omega) hn)]
    simp only [ol]
    rw [nI_clamp (by omega), nI_1, ih (i + 1) m _ (by omega) (by omega) (by omega), flld_su σ k i n v (by omega)]
theorem fill_all (σ : S0) (k n : Nat) (v : Int32) (hn : n < 400) : fJ7_fill_53178 σ n k v = some (0, flld σ k 0 n v) := by
  unfold fJ7_fill_53178
  exact fill_s k n v (by omega) n 0 400 σ (by omega) (by omega) hn
/-- the reference's row of cells of a sheet, emptied -/
theorem sheetm_s (k : Nat) (hk : k < 4) : ∀ (d i m : Nat) (σ : S0), 40 - i = d → i ≤ 40 → d < m → fX11_sheet_h40 m σ (nI k) (nI i) = some (1, flld σ 110 (40 * k + i) (40 * k + 40) 0) := by
  intro d
  induction d with
  | zero =>
    intro i m σ h1 h2 h3
    obtain ⟨m, rfl⟩ : ∃ q, m = q + 1 := ⟨m - 1, by omega⟩
    have : i = 40 := by omega
    subst this
    show fX11_sheet_b40 _ _ _ _ = _
    unfold fX11_sheet_b40
    rw [if_pos (show (40 : Int32) ≤ nI 40 from by decide), flld_0]
  | succ d ih =>
    intro i m σ h1 h2 h3
    obtain ⟨m, rfl⟩ : ∃ q, m = q + 1 := ⟨m - 1, by omega⟩
    show fX11_sheet_b40 _ _ _ _ = _
    unfold fX11_sheet_b40
    rw [if_neg (show ¬ ((40 : Int32) ≤ nI i) from nI_ge (b := 40) (by omega) (by omega))]
    simp only [ol]
    have e : (40 : Int32) * nI k + nI i = nI (40 * k + i) := by rw [show (40 : Int32) = nI 40 from rfl, pk_mul, nI_add]
    rw [e, og_t (ix_ok (by omega) (by omega)), nI_clamp (by omega), nI_1, ih (i + 1) m _ (by omega) (by omega) (by omega), ← Nat.add_assoc, flld_su σ 110 (40 * k + i) (40 * k + 40) 0 (by omega)]
theorem xs_s (σ : S0) (x : Int32) : fX10_isSheet σ x = some (if 0 ≤ x.toInt ∧ x.toInt < 4 then 1 else 0, σ) := by
  unfold fX10_isSheet
  simp only [i3_lt, i3_le]
  have e0 : (0 : Int32).toInt = 0 := rfl
  have e4 : (4 : Int32).toInt = 4 := rfl
  rw [e0, e4]
  by_cases h1 : x.toInt < 0
  · rw [if_pos h1, if_neg (by omega)]
  · by_cases h2 : 4 ≤ x.toInt
    · rw [if_neg h1, if_pos h2, if_neg (by omega)]
    · rw [if_neg h1, if_neg h2, if_pos (by omega)]
theorem xl_s (σ : S0) (x : Int32) : fX10_isLane σ x = some (if 0 ≤ x.toInt ∧ x.toInt < 3 then 1 else 0, σ) := by
  unfold fX10_isLane
  simp only [i3_lt, i3_le]
  have e0 : (0 : Int32).toInt = 0 := rfl
  have e4 : (3 : Int32).toInt = 3 := rfl
  rw [e0, e4]
  by_cases h1 : x.toInt < 0
  · rw [if_pos h1, if_neg (by omega)]
  · by_cases h2 : 3 ≤ x.toInt
    · rw [if_neg h1, if_pos h2, if_neg (by omega)]
    · rw [if_neg h1, if_neg h2, if_pos (by omega)]
theorem xi_s (σ : S0) (x : Int32) : fX10_isImage σ x = some (if 0 ≤ x.toInt ∧ x.toInt < 2 then 1 else 0, σ) := by
  unfold fX10_isImage
  simp only [i3_lt, i3_le]
  have e0 : (0 : Int32).toInt = 0 := rfl
  have e4 : (2 : Int32).toInt = 2 := rfl
  rw [e0, e4]
  by_cases h1 : x.toInt < 0
  · rw [if_pos h1, if_neg (by omega)]
  · by_cases h2 : 2 ≤ x.toInt
    · rw [if_neg h1, if_pos h2, if_neg (by omega)]
    · rw [if_neg h1, if_neg h2, if_pos (by omega)]
theorem ms_s (σ : S0) (x y : Int32) : fX11_isSheet σ x y = some (if (0 ≤ x.toInt ∧ x.toInt < 4) ∧ (0 ≤ y.toInt ∧ y.toInt < 3) then 1 else 0, σ) := by
  unfold fX11_isSheet
  rw [in_i σ x 0 3 0 3 rfl rfl]
  by_cases h1 : 0 ≤ x.toInt ∧ x.toInt < 4
  · rw [if_pos (by omega)]
    simp only [obp]
    rw [if_neg (by decide), in_i σ y 0 2 0 2 rfl rfl]
    by_cases h2 : 0 ≤ y.toInt ∧ y.toInt < 3
    · rw [if_pos (by omega), if_pos ⟨h1, h2⟩]; rfl
    · rw [if_neg (by omega), if_neg (by omega)]; rfl
  · rw [if_neg (by omega), if_neg (by omega)]; rfl
theorem sim_sheet (x y w : Int32) : Sim (fun σ => fX10_sheet σ x y w) (fun σ => fX11_sheet σ x y w) := by
  intro σ hR
  show An (fX10_sheet σ x y w) (fun r τ => An (fX11_sheet τ x y w) (fun q ρ => r = q ∧ R ρ))
  obtain ⟨H, G, B, T, h⟩ := id hR
  by_cases hv : (0 ≤ x.toInt ∧ x.toInt < 4) ∧ (0 ≤ y.toInt ∧ y.toInt < 3)
  · obtain ⟨k, hk, rfl⟩ : ∃ j, j < 4 ∧ x = nI j := by
      rcases ixc x 4 (by omega) with q | q
      · exact q
      · omega
    obtain ⟨l, hl, rfl⟩ : ∃ j, j < 3 ∧ y = nI j := by
      rcases ixc y 3 (by omega) with q | q
      · exact q
      · omega
    have hg := ix_ok (j := k) (n := 4) (by omega) (by omega)
    have hc : (nI k).toNatClampNeg = k := nI_clamp (by omega)
    have hX : fX10_sheet σ (nI k) (nI l) w = if w ≤ 40 then (if 0 ≤ w then obp (fX7_renew σ (90 + 2 * k) (nI l) w) (fun r13 σ14 => some (1, σ14)) else some (-14, σ)) else some (-1, σ) := by
      unfold fX10_sheet
      rw [xs_s, if_pos hv.1]
      simp only [obp]
      rw [if_neg (by decide), xl_s, if_pos hv.2]
      simp only [obp, ol, og_t hg]
      rw [if_neg (by decide), hc]
    have hM : ∀ τ : S0, fX11_sheet τ (nI k) (nI l) w = if w ≤ 40 then (if 0 ≤ w then fX11_sheet_h40 400 (su (su τ 108 k (nI l)) 109 k w) (nI k) 0 else some (-14, τ)) else some (-1, τ) := fun τ => by
      unfold fX11_sheet
      rw [ms_s, if_pos hv]
      simp only [obp, ol, og_t hg]
      rw [if_neg (by decide), hc]
    by_cases h40 : w ≤ 40
    · by_cases h00 : 0 ≤ w
      · obtain ⟨n, hn, rfl⟩ : ∃ j, j < 41 ∧ w = nI j := by
          rcases ixc w 41 (by omega) with q | q
          · exact q
          · have a1 := (i3_le _ _).mp h40
            have a2 := (i3_le _ _).mp h00
            have e0 : (0 : Int32).toInt = 0 := rfl
            have e4 : (40 : Int32).toInt = 40 := rfl
            omega
        have r1 : fX7_renew σ (90 + 2 * k) (nI l) (nI n) = some (0, flld (su (su σ (90 + 2 * k) 0 (nI l)) (90 + 2 * k) 1 (nI n)) (90 + 2 * k + 1) 0 40 0) := by
          unfold fX7_renew
          simp only [ol]
          rw [fill_all _ _ _ _ (by omega)]
          rfl
        refine ⟨1, flld (su (su σ (90 + 2 * k) 0 (nI l)) (90 + 2 * k) 1 (nI n)) (90 + 2 * k + 1) 0 40 0, by rw [hX, if_pos h40, if_pos h00, r1]; rfl, 1, _, by rw [hM, if_pos h40, if_pos h00]; exact sheetm_s k hk 40 0 400 _ (by omega) (by omega) (by omega), rfl, H, G, B, T, ?_⟩
        refine R_sh h ?_ (fun z hz => ?_)
        · intro i hi
          have hs := h.2.2.2.2.2.2.1 i hi
          by_cases hik : i = k
          · subst hik
            refine ⟨Or.inr ⟨l, n, hl, by omega, ?_, ?_, ?_, ?_⟩, fun j hj => ?_⟩
            · rw [flld_ne (by omega), su_ne (by omega), su_s]
            · rw [flld_ne (by omega), su_ne (by omega), su_ne (by omega), flld_ne (by omega), su_j (by omega), su_s]
            · rw [flld_ne (by omega), su_s]
            · rw [flld_ne (by omega), su_ne (by omega), su_ne (by omega), flld_ne (by omega), su_s]
            · rw [flld_in (by omega) (by omega), flld_ne (by omega), su_ne (by omega), su_ne (by omega), show 91 + 2 * i = 90 + 2 * i + 1 by omega, flld_in (by omega) hj]
          · rw [show ∀ (τ : S0), flld (su (su τ 108 k (nI l)) 109 k (nI n)) 110 (40 * k + 0) (40 * k + 40) 0 (90 + 2 * i) = τ (90 + 2 * i) from fun τ => by rw [flld_ne (by omega), su_ne (by omega), su_ne (by omega)], show ∀ (τ : S0), flld (su (su τ 108 k (nI l)) 109 k (nI n)) 110 (40 * k + 0) (40 * k + 40) 0 (91 + 2 * i) = τ (91 + 2 * i) from fun τ => by rw [flld_ne (by omega), su_ne (by omega), su_ne (by omega)], show ∀ (τ : S0), flld (su (su τ 108 k (nI l)) 109 k (nI n)) 110 (40 * k + 0) (40 * k + 40) 0 108 i = τ 108 i from fun τ => by rw [flld_ne (by omega), su_ne (by omega), su_j hik], show ∀ (τ : S0), flld (su (su τ 108 k (nI l)) 109 k (nI n)) 110 (40 * k + 0) (40 * k + 40) 0 109 i = τ 109 i from fun τ => by rw [flld_ne (by omega), su_j hik, su_ne (by omega)]]
            rw [flld_ne (x := 90 + 2 * i) (by omega), su_ne (x := 90 + 2 * i) (by omega), su_ne (x := 90 + 2 * i) (by omega), flld_ne (x := 91 + 2 * i) (by omega), su_ne (x := 91 + 2 * i) (by omega), su_ne (x := 91 + 2 * i) (by omega), flld_ne (x := 108) (by omega), su_ne (x := 108) (by omega), su_ne (x := 108) (by omega), flld_ne (x := 109) (by omega), su_ne (x := 109) (by omega), su_ne (x := 109) (by omega)]
            refine ⟨hs.1, fun j hj => ?_⟩
            rw [flld_out (by omega), su_ne (by omega), su_ne (by omega), flld_ne (by omega), su_ne (by omega), su_ne (by omega)]
            exact hs.2 j hj
        · rw [flld_ne (by omega), su_ne (by omega), su_ne (by omega), flld_ne (by omega), su_ne (by omega), su_ne (by omega)]
      · refine Sim.same (fun τ => fX11_sheet τ (nI k) (nI l) w) (a := -14) hR (by rw [hX, if_pos h40, if_neg h00]) ?_
        show fX11_sheet _ _ _ _ = _
        rw [hM, if_pos h40, if_neg h00]
    · refine Sim.same (fun τ => fX11_sheet τ (nI k) (nI l) w) (a := -1) hR (by rw [hX, if_neg h40]) ?_
      show fX11_sheet _ _ _ _ = _
      rw [hM, if_neg h40]
  · refine Sim.same (fun τ => fX11_sheet τ x y w) (a := -1) hR ?_ ?_
    · unfold fX10_sheet
      rw [xs_s]
      by_cases h1 : 0 ≤ x.toInt ∧ x.toInt < 4
      · rw [if_pos h1]
        simp only [obp]
        rw [if_neg (by decide), xl_s, if_neg (by omega)]
        rfl
      · rw [if_neg h1]
        rfl
    · show fX11_sheet _ _ _ _ = _
      unfold fX11_sheet
      rw [ms_s, if_neg hv]
      rfl
