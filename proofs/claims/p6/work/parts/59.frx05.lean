theorem rx_fX10_settled (ρ : S0)   (σ : S0)   : fX10_settled  (mix σ ρ)  = mo ρ (fX10_settled  σ ) := by
  simp (disch := omega) only [fX10_settled, ↓ol_n, ↓ol_su, ↓ol_up, ↓mo_ol, ↓mo_obp, ↓mo_og, ↓mo_ite, mix_lo, mo_some, mo_none, rx_fX10_settled_h2]
theorem rx_fX10_fair (ρ : S0)   (σ : S0) (x1 : Int32) (x2 : Int32) (x3 : Int32)  : fX10_fair  (mix σ ρ) x1 x2 x3 = mo ρ (fX10_fair  σ x1 x2 x3) := by
  simp (disch := omega) only [fX10_fair, ↓ol_n, ↓ol_su, ↓ol_up, ↓mo_ol, ↓mo_obp, ↓mo_og, ↓mo_ite, ↓ox_fX2_choose, mix_lo, mo_some, mo_none, rx_fX2_choose]
theorem ox_fX10_fair (ρ : S0) (σ : S0) (x1 : Int32) (x2 : Int32) (x3 : Int32)  (kk : Int32 → S0 → Option (Int32 × S0)) : obp (fX10_fair (mix σ ρ) x1 x2 x3) kk = obp (fX10_fair σ x1 x2 x3) (fun r s => kk r (mix s ρ)) := by
  rw [rx_fX10_fair ρ σ x1 x2 x3 , obp_mo]
theorem rx_fX10_feast (ρ : S0)   (σ : S0) (x1 : Int32) (x2 : Int32)  : fX10_feast  (mix σ ρ) x1 x2 = mo ρ (fX10_feast  σ x1 x2) := by
  simp (disch := omega) only [fX10_feast, ↓ol_n, ↓ol_su, ↓ol_up, ↓mo_ol, ↓mo_obp, ↓mo_og, ↓mo_ite, ↓ox_fX10_fair, mix_lo, mo_some, mo_none, rx_fX10_fair]
theorem rx_fX10_nearest_b42 (ρ : S0)   (σ : S0) (x1 : Int32) (x2 : Int32) (x3 : Int32)  : fX10_nearest_b42  (mix σ ρ) x1 x2 x3 = mo ρ (fX10_nearest_b42  σ x1 x2 x3) := by
  simp (disch := omega) only [fX10_nearest_b42, ↓ol_n, ↓ol_su, ↓ol_up, ↓mo_ol, ↓mo_obp, ↓mo_og, ↓mo_ite, ↓ox_fX4_find, mix_lo, mo_some, mo_none, rx_fX4_find]
theorem rx_fX10_nearest (ρ : S0)   (σ : S0) (x1 : Int32) (x2 : Int32) (x3 : Int32)  : fX10_nearest  (mix σ ρ) x1 x2 x3 = mo ρ (fX10_nearest  σ x1 x2 x3) := by
  simp (disch := omega) only [fX10_nearest, ↓ol_n, ↓ol_su, ↓ol_up, ↓mo_ol, ↓mo_obp, ↓mo_og, ↓mo_ite, ↓ox_fX9_hasTune, ↓ox_fX1_hasBell, ↓ox_fX9_asksStroke, mix_lo, mo_some, mo_none, rx_fX9_hasTune, rx_fX1_hasBell, rx_fX10_nearest_b42, rx_fX9_asksStroke]
theorem rx_fX10_dear_b65 (ρ : S0) (sf_21 : S0 → Int32 → Int32 → Int32 → Int32 → Option (Int32 × S0)) (hsf_21 : ∀ (σ : S0) (a0 : Int32) (a1 : Int32) (a2 : Int32) (a3 : Int32), sf_21 (mix σ ρ) a0 a1 a2 a3 = mo ρ (sf_21 σ a0 a1 a2 a3)) (σ : S0) (x1 : Int32) (x2 : Int32) (x3 : Int32) (x4 : Int32)  : fX10_dear_b65 sf_21 (mix σ ρ) x1 x2 x3 x4 = mo ρ (fX10_dear_b65 sf_21 σ x1 x2 x3 x4) := by
  simp (disch := omega) only [fX10_dear_b65, ↓ol_n, ↓ol_su, ↓ol_up, ↓mo_ol, ↓mo_obp, ↓mo_og, ↓mo_ite, mix_lo, mo_some, mo_none, hsf_21]
theorem rx_fX10_dear_b21 (ρ : S0) (sf_21 : S0 → Int32 → Int32 → Int32 → Int32 → Option (Int32 × S0)) (hsf_21 : ∀ (σ : S0) (a0 : Int32) (a1 : Int32) (a2 : Int32) (a3 : Int32), sf_21 (mix σ ρ) a0 a1 a2 a3 = mo ρ (sf_21 σ a0 a1 a2 a3)) (σ : S0) (x1 : Int32) (x2 : Int32) (x3 : Int32) (x4 : Int32)  : fX10_dear_b21 sf_21 (mix σ ρ) x1 x2 x3 x4 = mo ρ (fX10_dear_b21 sf_21 σ x1 x2 x3 x4) := by
  simp (disch := omega) only [fX10_dear_b21, ↓ol_n, ↓ol_su, ↓ol_up, ↓mo_ol, ↓mo_obp, ↓mo_og, ↓mo_ite, ↓ox_fX4_find, mix_lo, mo_some, mo_none, hsf_21, rx_fX4_find, rx_fX10_dear_b65]
theorem rx_fX10_dear_h21 (ρ : S0)   : ∀ (n : Nat) (σ : S0) (x1 : Int32) (x2 : Int32) (x3 : Int32) (x4 : Int32), fX10_dear_h21  n (mix σ ρ) x1 x2 x3 x4 = mo ρ (fX10_dear_h21  n σ x1 x2 x3 x4)
  | 0, _, _, _, _, _ => rfl
  | n + 1, σ, x1, x2, x3, x4 => rx_fX10_dear_b21 ρ  (fX10_dear_h21  n)  (rx_fX10_dear_h21 ρ   n) σ x1 x2 x3 x4 
theorem rx_fX10_dear (ρ : S0)   (σ : S0) (x1 : Int32)  : fX10_dear  (mix σ ρ) x1 = mo ρ (fX10_dear  σ x1) := by
  simp (disch := omega) only [fX10_dear, ↓ol_n, ↓ol_su, ↓ol_up, ↓mo_ol, ↓mo_obp, ↓mo_og, ↓mo_ite, ↓ox_fX9_hasTune, mix_lo, mo_some, mo_none, rx_fX9_hasTune, rx_fX10_dear_h21]
theorem rx_fX10_storm_b79 (ρ : S0) (sf_33 : S0 → Int32 → Int32 → Int32 → Int32 → Int32 → Int32 → Option (Int32 × S0)) (hsf_33 : ∀ (σ : S0) (a0 : Int32) (a1 : Int32) (a2 : Int32) (a3 : Int32) (a4 : Int32) (a5 : Int32), sf_33 (mix σ ρ) a0 a1 a2 a3 a4 a5 = mo ρ (sf_33 σ a0 a1 a2 a3 a4 a5)) (σ : S0) (x1 : Int32) (x2 : Int32) (x3 : Int32) (x5 : Int32) (x6 : Int32) (t0 : Int32) (t1 : Int32)  : fX10_storm_b79 sf_33 (mix σ ρ) x1 x2 x3 x5 x6 t0 t1 = mo ρ (fX10_storm_b79 sf_33 σ x1 x2 x3 x5 x6 t0 t1) := by
  simp (disch := omega) only [fX10_storm_b79, ↓ol_n, ↓ol_su, ↓ol_up, ↓mo_ol, ↓mo_obp, ↓mo_og, ↓mo_ite, mix_lo, mo_some, mo_none, hsf_33]
theorem rx_fX10_storm_b33 (ρ : S0) (sf_33 : S0 → Int32 → Int32 → Int32 → Int32 → Int32 → Int32 → Option (Int32 × S0)) (hsf_33 : ∀ (σ : S0) (a0 : Int32) (a1 : Int32) (a2 : Int32) (a3 : Int32) (a4 : Int32) (a5 : Int32), sf_33 (mix σ ρ) a0 a1 a2 a3 a4 a5 = mo ρ (sf_33 σ a0 a1 a2 a3 a4 a5)) (σ : S0) (x1 : Int32) (x2 : Int32) (x3 : Int32) (x4 : Int32) (x5 : Int32) (x6 : Int32)  : fX10_storm_b33 sf_33 (mix σ ρ) x1 x2 x3 x4 x5 x6 = mo ρ (fX10_storm_b33 sf_33 σ x1 x2 x3 x4 x5 x6) := by
  simp (disch := omega) only [fX10_storm_b33, ↓ol_n, ↓ol_su, ↓ol_up, ↓mo_ol, ↓mo_obp, ↓mo_og, ↓mo_ite, ↓ox_fX1_shareOf, mix_lo, mo_some, mo_none, hsf_33, rx_fX1_shareOf, rx_fX10_storm_b79]
theorem rx_fX10_storm_h33 (ρ : S0)   : ∀ (n : Nat) (σ : S0) (x1 : Int32) (x2 : Int32) (x3 : Int32) (x4 : Int32) (x5 : Int32) (x6 : Int32), fX10_storm_h33  n (mix σ ρ) x1 x2 x3 x4 x5 x6 = mo ρ (fX10_storm_h33  n σ x1 x2 x3 x4 x5 x6)
  | 0, _, _, _, _, _, _, _ => rfl
  | n + 1, σ, x1, x2, x3, x4, x5, x6 => rx_fX10_storm_b33 ρ  (fX10_storm_h33  n)  (rx_fX10_storm_h33 ρ   n) σ x1 x2 x3 x4 x5 x6 
theorem rx_fX10_storm (ρ : S0)   (σ : S0) (x1 : Int32) (x2 : Int32)  : fX10_storm  (mix σ ρ) x1 x2 = mo ρ (fX10_storm  σ x1 x2) := by
  simp (disch := omega) only [fX10_storm, ↓ol_n, ↓ol_su, ↓ol_up, ↓mo_ol, ↓mo_obp, ↓mo_og, ↓mo_ite, ↓ox_fX9_hasHouse, mix_lo, mo_some, mo_none, rx_fX9_hasHouse, rx_fX10_storm_h33]
theorem rx_fX10_pour_b90 (ρ : S0) (sf_27 : S0 → Int32 → Int32 → Int32 → Int32 → Int32 → Int32 → Int32 → Int32 → Option (Int32 × S0)) (hsf_27 : ∀ (σ : S0) (a0 : Int32) (a1 : Int32) (a2 : Int32) (a3 : Int32) (a4 : Int32) (a5 : Int32) (a6 : Int32) (a7 : Int32), sf_27 (mix σ ρ) a0 a1 a2 a3 a4 a5 a6 a7 = mo ρ (sf_27 σ a0 a1 a2 a3 a4 a5 a6 a7)) (σ : S0) (x1 : Int32) (x2 : Int32) (x3 : Int32) (x4 : Int32) (x5 : Int32) (x6 : Int32) (x7 : Int32) (x8 : Int32)  : fX10_pour_b90 sf_27 (mix σ ρ) x1 x2 x3 x4 x5 x6 x7 x8 = mo ρ (fX10_pour_b90 sf_27 σ x1 x2 x3 x4 x5 x6 x7 x8) := by
  simp (disch := omega) only [fX10_pour_b90, ↓ol_n, ↓ol_su, ↓ol_up, ↓mo_ol, ↓mo_obp, ↓mo_og, ↓mo_ite, mix_lo, mo_some, mo_none, hsf_27]
theorem rx_fX10_pour_b87 (ρ : S0) (sf_27 : S0 → Int32 → Int32 → Int32 → Int32 → Int32 → Int32 → Int32 → Int32 → Option (Int32 × S0)) (hsf_27 : ∀ (σ : S0) (a0 : Int32) (a1 : Int32) (a2 : Int32) (a3 : Int32) (a4 : Int32) (a5 : Int32) (a6 : Int32) (a7 : Int32), sf_27 (mix σ ρ) a0 a1 a2 a3 a4 a5 a6 a7 = mo ρ (sf_27 σ a0 a1 a2 a3 a4 a5 a6 a7)) (σ : S0) (x1 : Int32) (x2 : Int32) (x3 : Int32) (x4 : Int32) (x5 : Int32) (x6 : Int32) (x7 : Int32) (x8 : Int32)  : fX10_pour_b87 sf_27 (mix σ ρ) x1 x2 x3 x4 x5 x6 x7 x8 = mo ρ (fX10_pour_b87 sf_27 σ x1 x2 x3 x4 x5 x6 x7 x8) := by
  simp (disch := omega) only [fX10_pour_b87, ↓ol_n, ↓ol_su, ↓ol_up, ↓mo_ol, ↓mo_obp, ↓mo_og, ↓mo_ite, mix_lo, mo_some, mo_none, hsf_27, rx_fX10_pour_b90]
theorem rx_fX10_pour_b27 (ρ : S0) (sf_27 : S0 → Int32 → Int32 → Int32 → Int32 → Int32 → Int32 → Int32 → Int32 → Option (Int32 × S0)) (hsf_27 : ∀ (σ : S0) (a0 : Int32) (a1 : Int32) (a2 : Int32) (a3 : Int32) (a4 : Int32) (a5 : Int32) (a6 : Int32) (a7 : Int32), sf_27 (mix σ ρ) a0 a1 a2 a3 a4 a5 a6 a7 = mo ρ (sf_27 σ a0 a1 a2 a3 a4 a5 a6 a7)) (σ : S0) (x1 : Int32) (x2 : Int32) (x3 : Int32) (x4 : Int32) (x5 : Int32) (x6 : Int32) (x7 : Int32) (x8 : Int32)  : fX10_pour_b27 sf_27 (mix σ ρ) x1 x2 x3 x4 x5 x6 x7 x8 = mo ρ (fX10_pour_b27 sf_27 σ x1 x2 x3 x4 x5 x6 x7 x8) := by
  simp (disch := omega) only [fX10_pour_b27, ↓ol_n, ↓ol_su, ↓ol_up, ↓mo_ol, ↓mo_obp, ↓mo_og, ↓mo_ite, ↓ox_fX2_strokesOf, mix_lo, mo_some, mo_none, hsf_27, rx_fX2_strokesOf, rx_fX10_pour_b87, rx_fX10_pour_b90]
theorem rx_fX10_pour_h27 (ρ : S0)   : ∀ (n : Nat) (σ : S0) (x1 : Int32) (x2 : Int32) (x3 : Int32) (x4 : Int32) (x5 : Int32) (x6 : Int32) (x7 : Int32) (x8 : Int32), fX10_pour_h27  n (mix σ ρ) x1 x2 x3 x4 x5 x6 x7 x8 = mo ρ (fX10_pour_h27  n σ x1 x2 x3 x4 x5 x6 x7 x8)
  | 0, _, _, _, _, _, _, _, _, _ => rfl
  | n + 1, σ, x1, x2, x3, x4, x5, x6, x7, x8 => rx_fX10_pour_b27 ρ  (fX10_pour_h27  n)  (rx_fX10_pour_h27 ρ   n) σ x1 x2 x3 x4 x5 x6 x7 x8 
theorem rx_fX10_pour (ρ : S0)   (σ : S0) (x1 : Int32) (x2 : Int32) (x3 : Int32)  : fX10_pour  (mix σ ρ) x1 x2 x3 = mo ρ (fX10_pour  σ x1 x2 x3) := by
  simp (disch := omega) only [fX10_pour, ↓ol_n, ↓ol_su, ↓ol_up, ↓mo_ol, ↓mo_obp, ↓mo_og, ↓mo_ite, ↓ox_fX2_strokesOf, mix_lo, mo_some, mo_none, rx_fX2_strokesOf, rx_fX10_pour_h27]
theorem ox_fX10_pour (ρ : S0) (σ : S0) (x1 : Int32) (x2 : Int32) (x3 : Int32)  (kk : Int32 → S0 → Option (Int32 × S0)) : obp (fX10_pour (mix σ ρ) x1 x2 x3) kk = obp (fX10_pour σ x1 x2 x3) (fun r s => kk r (mix s ρ)) := by
  rw [rx_fX10_pour ρ σ x1 x2 x3 , obp_mo]
theorem rx_fX10_wine_b36 (ρ : S0) (sf_36 : S0 → Int32 → Int32 → Int32 → Int32 → Option (Int32 × S0)) (hsf_36 : ∀ (σ : S0) (a0 : Int32) (a1 : Int32) (a2 : Int32) (a3 : Int32), sf_36 (mix σ ρ) a0 a1 a2 a3 = mo ρ (sf_36 σ a0 a1 a2 a3)) (σ : S0) (x1 : Int32) (x2 : Int32) (x3 : Int32) (x4 : Int32)  : fX10_wine_b36 sf_36 (mix σ ρ) x1 x2 x3 x4 = mo ρ (fX10_wine_b36 sf_36 σ x1 x2 x3 x4) := by
  simp (disch := omega) only [fX10_wine_b36, ↓ol_n, ↓ol_su, ↓ol_up, ↓mo_ol, ↓mo_obp, ↓mo_og, ↓mo_ite, ↓ox_fX10_pour, ↓ox_fX2_strokesOf, mix_lo, mo_some, mo_none, hsf_36, rx_fX10_pour, rx_fX2_strokesOf]
theorem rx_fX10_wine_h36 (ρ : S0)   : ∀ (n : Nat) (σ : S0) (x1 : Int32) (x2 : Int32) (x3 : Int32) (x4 : Int32), fX10_wine_h36  n (mix σ ρ) x1 x2 x3 x4 = mo ρ (fX10_wine_h36  n σ x1 x2 x3 x4)
  | 0, _, _, _, _, _ => rfl
  | n + 1, σ, x1, x2, x3, x4 => rx_fX10_wine_b36 ρ  (fX10_wine_h36  n)  (rx_fX10_wine_h36 ρ   n) σ x1 x2 x3 x4 
theorem rx_fX10_wine (ρ : S0)   (σ : S0) (x1 : Int32) (x2 : Int32)  : fX10_wine  (mix σ ρ) x1 x2 = mo ρ (fX10_wine  σ x1 x2) := by
  simp (disch := omega) only [fX10_wine, ↓ol_n, ↓ol_su, ↓ol_up, ↓mo_ol, ↓mo_obp, ↓mo_og, ↓mo_ite, ↓ox_fX9_hasHouse, ↓ox_fX2_ringAll, mix_lo, mo_some, mo_none, rx_fX9_hasHouse, rx_fX2_ringAll, rx_fX10_wine_h36]
theorem rx_fX10_hear (ρ : S0)   (σ : S0) (x1 : Int32)  : fX10_hear  (mix σ ρ) x1 = mo ρ (fX10_hear  σ x1) := by
  simp (disch := omega) only [fX10_hear, ↓ol_n, ↓ol_su, ↓ol_up, ↓mo_ol, ↓mo_obp, ↓mo_og, ↓mo_ite, ↓ox_fX1_canBeHeard, ↓ox_fX1_addHeard, mix_lo, mo_some, mo_none, rx_fX1_canBeHeard, rx_fX1_addHeard]
theorem rx_fX10_hush (ρ : S0)   (σ : S0)   : fX10_hush  (mix σ ρ)  = mo ρ (fX10_hush  σ ) := by
  simp (disch := omega) only [fX10_hush, ↓ol_n, ↓ol_su, ↓ol_up, ↓mo_ol, ↓mo_obp, ↓mo_og, ↓mo_ite, mix_lo, mo_some, mo_none]
theorem rx_fX10_fits (ρ : S0)   (σ : S0) (x1 : Int32)  : fX10_fits  (mix σ ρ) x1 = mo ρ (fX10_fits  σ x1) := by
  simp (disch := omega) only [fX10_fits, ↓ol_n, ↓ol_su, ↓ol_up, ↓mo_ol, ↓mo_obp, ↓mo_og, ↓mo_ite, ↓ox_fX9_hasTune, ↓ox_fX3_canBe, mix_lo, mo_some, mo_none, rx_fX9_hasTune, rx_fX3_canBe]
theorem rx_fX10_which (ρ : S0)   (σ : S0) (x1 : Int32)  : fX10_which  (mix σ ρ) x1 = mo ρ (fX10_which  σ x1) := by
  simp (disch := omega) only [fX10_which, ↓ol_n, ↓ol_su, ↓ol_up, ↓mo_ol, ↓mo_obp, ↓mo_og, ↓mo_ite, ↓ox_fX3_compareAll, mix_lo, mo_some, mo_none, rx_fX3_compareAll]
theorem rx_fX10_isImage (ρ : S0)   (σ : S0) (x0 : Int32)  : fX10_isImage  (mix σ ρ) x0 = mo ρ (fX10_isImage  σ x0) := by
  simp (disch := omega) only [fX10_isImage, ↓ol_n, ↓ol_su, ↓ol_up, ↓mo_ol, ↓mo_obp, ↓mo_og, ↓mo_ite, mix_lo, mo_some, mo_none]
theorem ox_fX10_isImage (ρ : S0) (σ : S0) (x0 : Int32)  (kk : Int32 → S0 → Option (Int32 × S0)) : obp (fX10_isImage (mix σ ρ) x0) kk = obp (fX10_isImage σ x0) (fun r s => kk r (mix s ρ)) := by
  rw [rx_fX10_isImage ρ σ x0 , obp_mo]
theorem rx_fX10_keep_b23 (ρ : S0)   (σ : S0) (x1 : Int32) (t0 : Int32)  : fX10_keep_b23  (mix σ ρ) x1 t0 = mo ρ (fX10_keep_b23  σ x1 t0) := by
  by_cases g0 : (x1 < 0 ∨ 2 ≤ x1.toNatClampNeg)
  · simp (disch := omega) only [fX10_keep_b23, ↓ol_n, ↓ol_su, ↓ol_up, ↓mo_ol, ↓mo_obp, ↓mo_og, ↓mo_ite, ↓ox_fX1_copyFrom, mix_lo, mo_some, mo_none, rx_fX1_copyFrom, og_g g0]
  · have h0 : x1.toNatClampNeg < 2 := by omega
    simp (disch := omega) only [fX10_keep_b23, ↓ol_n, ↓ol_su, ↓ol_up, ↓mo_ol, ↓mo_obp, ↓mo_og, ↓mo_ite, ↓ox_fX1_copyFrom, mix_lo, mo_some, mo_none, rx_fX1_copyFrom]
theorem rx_fX10_keep (ρ : S0)   (σ : S0) (x1 : Int32)  : fX10_keep  (mix σ ρ) x1 = mo ρ (fX10_keep  σ x1) := by
  simp (disch := omega) only [fX10_keep, ↓ol_n, ↓ol_su, ↓ol_up, ↓mo_ol, ↓mo_obp, ↓mo_og, ↓mo_ite, ↓ox_fX10_isImage, mix_lo, mo_some, mo_none, rx_fX10_isImage, rx_fX10_keep_b23]
theorem rx_fX10_back (ρ : S0)   (σ : S0) (x1 : Int32)  : fX10_back  (mix σ ρ) x1 = mo ρ (fX10_back  σ x1) := by
  by_cases g0 : (x1 < 0 ∨ 2 ≤ x1.toNatClampNeg)
  · simp (disch := omega) only [fX10_back, ↓ol_n, ↓ol_su, ↓ol_up, ↓mo_ol, ↓mo_obp, ↓mo_og, ↓mo_ite, ↓ox_fX10_isImage, ↓ox_fX1_copyFrom, ↓ox_fX6_tuneTaken, mix_lo, mo_some, mo_none, rx_fX10_isImage, rx_fX1_copyFrom, rx_fX6_tuneTaken, og_g g0]
  · have h0 : x1.toNatClampNeg < 2 := by omega
    simp (disch := omega) only [fX10_back, ↓ol_n, ↓ol_su, ↓ol_up, ↓mo_ol, ↓mo_obp, ↓mo_og, ↓mo_ite, ↓ox_fX10_isImage, ↓ox_fX1_copyFrom, ↓ox_fX6_tuneTaken, mix_lo, mo_some, mo_none, rx_fX10_isImage, rx_fX1_copyFrom, rx_fX6_tuneTaken]
theorem rx_fX10_isSheet (ρ : S0)   (σ : S0) (x0 : Int32)  : fX10_isSheet  (mix σ ρ) x0 = mo ρ (fX10_isSheet  σ x0) := by
  simp (disch := omega) only [fX10_isSheet, ↓ol_n, ↓ol_su, ↓ol_up, ↓mo_ol, ↓mo_obp, ↓mo_og, ↓mo_ite, mix_lo, mo_some, mo_none]
theorem ox_fX10_isSheet (ρ : S0) (σ : S0) (x0 : Int32)  (kk : Int32 → S0 → Option (Int32 × S0)) : obp (fX10_isSheet (mix σ ρ) x0) kk = obp (fX10_isSheet σ x0) (fun r s => kk r (mix s ρ)) := by
  rw [rx_fX10_isSheet ρ σ x0 , obp_mo]
theorem rx_fX10_isLane (ρ : S0)   (σ : S0) (x0 : Int32)  : fX10_isLane  (mix σ ρ) x0 = mo ρ (fX10_isLane  σ x0) := by
  simp (disch := omega) only [fX10_isLane, ↓ol_n, ↓ol_su, ↓ol_up, ↓mo_ol, ↓mo_obp, ↓mo_og, ↓mo_ite, mix_lo, mo_some, mo_none]
theorem ox_fX10_isLane (ρ : S0) (σ : S0) (x0 : Int32)  (kk : Int32 → S0 → Option (Int32 × S0)) : obp (fX10_isLane (mix σ ρ) x0) kk = obp (fX10_isLane σ x0) (fun r s => kk r (mix s ρ)) := by
  rw [rx_fX10_isLane ρ σ x0 , obp_mo]
theorem rx_fX10_sheet (ρ : S0)   (σ : S0) (x1 : Int32) (x2 : Int32) (x3 : Int32)  : fX10_sheet  (mix σ ρ) x1 x2 x3 = mo ρ (fX10_sheet  σ x1 x2 x3) := by
  by_cases g0 : (x1 < 0 ∨ 4 ≤ x1.toNatClampNeg)
  · simp (disch := omega) only [fX10_sheet, ↓ol_n, ↓ol_su, ↓ol_up, ↓mo_ol, ↓mo_obp, ↓mo_og, ↓mo_ite, ↓ox_fX10_isSheet, ↓ox_fX10_isLane, ↓ox_fX7_renew, mix_lo, mo_some, mo_none, rx_fX10_isSheet, rx_fX10_isLane, rx_fX7_renew, og_g g0]
  · have h0 : x1.toNatClampNeg < 4 := by omega
    simp (disch := omega) only [fX10_sheet, ↓ol_n, ↓ol_su, ↓ol_up, ↓mo_ol, ↓mo_obp, ↓mo_og, ↓mo_ite, ↓ox_fX10_isSheet, ↓ox_fX10_isLane, ↓ox_fX7_renew, mix_lo, mo_some, mo_none, rx_fX10_isSheet, rx_fX10_isLane, rx_fX7_renew]
theorem rx_fX10_lay (ρ : S0)   (σ : S0) (x1 : Int32) (x2 : Int32) (x3 : Int32)  : fX10_lay  (mix σ ρ) x1 x2 x3 = mo ρ (fX10_lay  σ x1 x2 x3) := by
  by_cases g0 : (x1 < 0 ∨ 4 ≤ x1.toNatClampNeg)
  · simp (disch := omega) only [fX10_lay, ↓ol_n, ↓ol_su, ↓ol_up, ↓mo_ol, ↓mo_obp, ↓mo_og, ↓mo_ite, ↓ox_fX10_isSheet, ↓ox_fX7_faultAt, ↓ox_fX7_put, mix_lo, mo_some, mo_none, rx_fX10_isSheet, rx_fX7_faultAt, rx_fX7_put, og_g g0]
  · have h0 : x1.toNatClampNeg < 4 := by omega
    simp (disch := omega) only [fX10_lay, ↓ol_n, ↓ol_su, ↓ol_up, ↓mo_ol, ↓mo_obp, ↓mo_og, ↓mo_ite, ↓ox_fX10_isSheet, ↓ox_fX7_faultAt, ↓ox_fX7_put, mix_lo, mo_some, mo_none, rx_fX10_isSheet, rx_fX7_faultAt, rx_fX7_put]
theorem rx_fX10_read_b128 (ρ : S0) (sf_128 : S0 → Int32 → Nat → Int32 → Int32 → Int32 → Option (Int32 × S0)) (hsf_128 : ∀ (σ : S0) (a0 : Int32) (a1 : Nat) (a2 : Int32) (a3 : Int32) (a4 : Int32), a1 < 97 → sf_128 (mix σ ρ) a0 a1 a2 a3 a4 = mo ρ (sf_128 σ a0 a1 a2 a3 a4)) (σ : S0) (x3 : Int32) (x5 : Nat) (x6 : Int32) (x7 : Int32) (x8 : Int32) (cx5 : x5 < 97) : fX10_read_b128 sf_128 (mix σ ρ) x3 x5 x6 x7 x8 = mo ρ (fX10_read_b128 sf_128 σ x3 x5 x6 x7 x8) := by
  simp (disch := omega) only [fX10_read_b128, ↓ol_n, ↓ol_su, ↓ol_up, ↓mo_ol, ↓mo_obp, ↓mo_og, ↓mo_ite, ↓ox_fX1_addHeard, mix_lo, mo_some, mo_none, hsf_128, rx_fX1_addHeard]
theorem rx_fX10_read_h128 (ρ : S0)   : ∀ (n : Nat) (σ : S0) (x3 : Int32) (x5 : Nat) (x6 : Int32) (x7 : Int32) (x8 : Int32), x5 < 97 → fX10_read_h128  n (mix σ ρ) x3 x5 x6 x7 x8 = mo ρ (fX10_read_h128  n σ x3 x5 x6 x7 x8)
  | 0, _, _, _, _, _, _ => fun _ => rfl
  | n + 1, σ, x3, x5, x6, x7, x8 => fun cx5 => rx_fX10_read_b128 ρ  (fX10_read_h128  n)  (rx_fX10_read_h128 ρ   n) σ x3 x5 x6 x7 x8 cx5
theorem rx_fX10_read_b125 (ρ : S0)   (σ : S0) (x3 : Int32) (x5 : Nat) (x6 : Int32) (x7 : Int32) (cx5 : x5 < 97) : fX10_read_b125  (mix σ ρ) x3 x5 x6 x7 = mo ρ (fX10_read_b125  σ x3 x5 x6 x7) := by
  simp (disch := omega) only [fX10_read_b125, ↓ol_n, ↓ol_su, ↓ol_up, ↓mo_ol, ↓mo_obp, ↓mo_og, ↓mo_ite, mix_lo, mo_some, mo_none, rx_fX10_read_h128]
theorem rx_fX10_read_b45 (ρ : S0) (sf_45 : S0 → Int32 → Int32 → Int32 → Nat → Int32 → Int32 → Int32 → Option (Int32 × S0)) (hsf_45 : ∀ (σ : S0) (a0 : Int32) (a1 : Int32) (a2 : Int32) (a3 : Nat) (a4 : Int32) (a5 : Int32) (a6 : Int32), a3 < 97 → sf_45 (mix σ ρ) a0 a1 a2 a3 a4 a5 a6 = mo ρ (sf_45 σ a0 a1 a2 a3 a4 a5 a6)) (σ : S0) (x2 : Int32) (x3 : Int32) (x4 : Int32) (x5 : Nat) (x6 : Int32) (x7 : Int32) (x8 : Int32) (cx5 : x5 < 97) : fX10_read_b45 sf_45 (mix σ ρ) x2 x3 x4 x5 x6 x7 x8 = mo ρ (fX10_read_b45 sf_45 σ x2 x3 x4 x5 x6 x7 x8) := by
  simp (disch := omega) only [fX10_read_b45, ↓ol_n, ↓ol_su, ↓ol_up, ↓mo_ol, ↓mo_obp, ↓mo_og, ↓mo_ite, ↓ox_fX7_faultAt, ↓ox_fX1_canBeHeard, mix_lo, mo_some, mo_none, hsf_45, rx_fX10_read_b125, rx_fX7_faultAt, rx_fX1_canBeHeard]
theorem rx_fX10_read_h45 (ρ : S0)   : ∀ (n : Nat) (σ : S0) (x2 : Int32) (x3 : Int32) (x4 : Int32) (x5 : Nat) (x6 : Int32) (x7 : Int32) (x8 : Int32), x5 < 97 → fX10_read_h45  n (mix σ ρ) x2 x3 x4 x5 x6 x7 x8 = mo ρ (fX10_read_h45  n σ x2 x3 x4 x5 x6 x7 x8)
  | 0, _, _, _, _, _, _, _, _ => fun _ => rfl
  | n + 1, σ, x2, x3, x4, x5, x6, x7, x8 => fun cx5 => rx_fX10_read_b45 ρ  (fX10_read_h45  n)  (rx_fX10_read_h45 ρ   n) σ x2 x3 x4 x5 x6 x7 x8 cx5
theorem rx_fX10_read (ρ : S0)   (σ : S0) (x1 : Int32) (x2 : Int32) (x3 : Int32) (x4 : Int32)  : fX10_read  (mix σ ρ) x1 x2 x3 x4 = mo ρ (fX10_read  σ x1 x2 x3 x4) := by
  by_cases g0 : (x1 < 0 ∨ 4 ≤ x1.toNatClampNeg)
  · simp (disch := omega) only [fX10_read, ↓ol_n, ↓ol_su, ↓ol_up, ↓mo_ol, ↓mo_obp, ↓mo_og, ↓mo_ite, ↓ox_fX10_isSheet, ↓ox_fX10_isLane, mix_lo, mo_some, mo_none, rx_fX10_isSheet, rx_fX10_isLane, rx_fX10_read_h45, og_g g0]
  · have h0 : x1.toNatClampNeg < 4 := by omega
    simp (disch := omega) only [fX10_read, ↓ol_n, ↓ol_su, ↓ol_up, ↓mo_ol, ↓mo_obp, ↓mo_og, ↓mo_ite, ↓ox_fX10_isSheet, ↓ox_fX10_isLane, mix_lo, mo_some, mo_none, rx_fX10_isSheet, rx_fX10_isLane, rx_fX10_read_h45]
theorem rx_fX10_torn (ρ : S0)   (σ : S0)   : fX10_torn  (mix σ ρ)  = mo ρ (fX10_torn  σ ) := by
  simp (disch := omega) only [fX10_torn, ↓ol_n, ↓ol_su, ↓ol_up, ↓mo_ol, ↓mo_obp, ↓mo_og, ↓mo_ite, mix_lo, mo_some, mo_none]
