theorem rx_fX0_weighTune_b175 (ρ : S0) (sf_44 : S0 → Int32 → Int32 → Int32 → Option (Int32 × S0)) (hsf_44 : ∀ (σ : S0) (a0 : Int32) (a1 : Int32) (a2 : Int32), sf_44 (mix σ ρ) a0 a1 a2 = mo ρ (sf_44 σ a0 a1 a2)) (σ : S0) (x1 : Int32) (x2 : Int32) (x3 : Int32)  : fX0_weighTune_b175 sf_44 (mix σ ρ) x1 x2 x3 = mo ρ (fX0_weighTune_b175 sf_44 σ x1 x2 x3) := by
  simp (disch := omega) only [fX0_weighTune_b175, ↓ol_n, ↓ol_su, ↓ol_up, ↓mo_ol, ↓mo_obp, ↓mo_og, ↓mo_ite, mix_lo, mo_some, mo_none, hsf_44]
theorem rx_fX0_weighTune_b44 (ρ : S0) (sf_44 : S0 → Int32 → Int32 → Int32 → Option (Int32 × S0)) (hsf_44 : ∀ (σ : S0) (a0 : Int32) (a1 : Int32) (a2 : Int32), sf_44 (mix σ ρ) a0 a1 a2 = mo ρ (sf_44 σ a0 a1 a2)) (σ : S0) (x1 : Int32) (x2 : Int32) (x3 : Int32)  : fX0_weighTune_b44 sf_44 (mix σ ρ) x1 x2 x3 = mo ρ (fX0_weighTune_b44 sf_44 σ x1 x2 x3) := by
  by_cases g0 : (x2 < 0 ∨ 6 ≤ x2.toNatClampNeg)
  · simp (disch := omega) only [fX0_weighTune_b44, ↓ol_n, ↓ol_su, ↓ol_up, ↓mo_ol, ↓mo_obp, ↓mo_og, ↓mo_ite, ↓ox_fX6_rang, ↓ox_fX1_partsOf, mix_lo, mo_some, mo_none, hsf_44, rx_fX6_rang, rx_fX1_partsOf, rx_fX0_weighTune_b175, og_g g0]
  · have h0 : x2.toNatClampNeg < 6 := by omega
    simp (disch := omega) only [fX0_weighTune_b44, ↓ol_n, ↓ol_su, ↓ol_up, ↓mo_ol, ↓mo_obp, ↓mo_og, ↓mo_ite, ↓ox_fX6_rang, ↓ox_fX1_partsOf, mix_lo, mo_some, mo_none, hsf_44, rx_fX6_rang, rx_fX1_partsOf, rx_fX0_weighTune_b175]
theorem rx_fX0_weighTune_h44 (ρ : S0)   : ∀ (n : Nat) (σ : S0) (x1 : Int32) (x2 : Int32) (x3 : Int32), fX0_weighTune_h44  n (mix σ ρ) x1 x2 x3 = mo ρ (fX0_weighTune_h44  n σ x1 x2 x3)
  | 0, _, _, _, _ => rfl
  | n + 1, σ, x1, x2, x3 => rx_fX0_weighTune_b44 ρ  (fX0_weighTune_h44  n)  (rx_fX0_weighTune_h44 ρ   n) σ x1 x2 x3 
theorem rx_fX0_weighTune (ρ : S0)   (σ : S0) (x1 : Int32) (x2 : Int32)  : fX0_weighTune  (mix σ ρ) x1 x2 = mo ρ (fX0_weighTune  σ x1 x2) := by
  simp (disch := omega) only [fX0_weighTune, ↓ol_n, ↓ol_su, ↓ol_up, ↓mo_ol, ↓mo_obp, ↓mo_og, ↓mo_ite, ↓ox_fX6_play, mix_lo, mo_some, mo_none, rx_fX6_play, rx_fX0_weighTune_h44]
theorem ox_fX0_weighTune (ρ : S0) (σ : S0) (x1 : Int32) (x2 : Int32)  (kk : Int32 → S0 → Option (Int32 × S0)) : obp (fX0_weighTune (mix σ ρ) x1 x2) kk = obp (fX0_weighTune σ x1 x2) (fun r s => kk r (mix s ρ)) := by
  rw [rx_fX0_weighTune ρ σ x1 x2 , obp_mo]
theorem rx_fX0_weigh_b2 (ρ : S0) (sf_2 : S0 → Int32 → Int32 → Option (Int32 × S0)) (hsf_2 : ∀ (σ : S0) (a0 : Int32) (a1 : Int32), sf_2 (mix σ ρ) a0 a1 = mo ρ (sf_2 σ a0 a1)) (σ : S0) (x1 : Int32) (x2 : Int32)  : fX0_weigh_b2 sf_2 (mix σ ρ) x1 x2 = mo ρ (fX0_weigh_b2 sf_2 σ x1 x2) := by
  simp (disch := omega) only [fX0_weigh_b2, ↓ol_n, ↓ol_su, ↓ol_up, ↓mo_ol, ↓mo_obp, ↓mo_og, ↓mo_ite, ↓ox_fX0_weighTune, mix_lo, mo_some, mo_none, hsf_2, rx_fX0_weighTune]
theorem rx_fX0_weigh_h2 (ρ : S0)   : ∀ (n : Nat) (σ : S0) (x1 : Int32) (x2 : Int32), fX0_weigh_h2  n (mix σ ρ) x1 x2 = mo ρ (fX0_weigh_h2  n σ x1 x2)
  | 0, _, _, _ => rfl
  | n + 1, σ, x1, x2 => rx_fX0_weigh_b2 ρ  (fX0_weigh_h2  n)  (rx_fX0_weigh_h2 ρ   n) σ x1 x2 
theorem rx_fX0_weigh (ρ : S0)   (σ : S0) (x1 : Int32)  : fX0_weigh  (mix σ ρ) x1 = mo ρ (fX0_weigh  σ x1) := by
  simp (disch := omega) only [fX0_weigh, ↓ol_n, ↓ol_su, ↓ol_up, ↓mo_ol, ↓mo_obp, ↓mo_og, ↓mo_ite, mix_lo, mo_some, mo_none, rx_fX0_weigh_h2]
theorem ox_fX0_weigh (ρ : S0) (σ : S0) (x1 : Int32)  (kk : Int32 → S0 → Option (Int32 × S0)) : obp (fX0_weigh (mix σ ρ) x1) kk = obp (fX0_weigh σ x1) (fun r s => kk r (mix s ρ)) := by
  rw [rx_fX0_weigh ρ σ x1 , obp_mo]
theorem rx_fX0_bringsAt_b65 (ρ : S0) (sf_7 : S0 → Int32 → Int32 → Int32 → Int32 → Option (Int32 × S0)) (hsf_7 : ∀ (σ : S0) (a0 : Int32) (a1 : Int32) (a2 : Int32) (a3 : Int32), sf_7 (mix σ ρ) a0 a1 a2 a3 = mo ρ (sf_7 σ a0 a1 a2 a3)) (σ : S0) (x1 : Int32) (x2 : Int32) (x3 : Int32) (x4 : Int32)  : fX0_bringsAt_b65 sf_7 (mix σ ρ) x1 x2 x3 x4 = mo ρ (fX0_bringsAt_b65 sf_7 σ x1 x2 x3 x4) := by
  simp (disch := omega) only [fX0_bringsAt_b65, ↓ol_n, ↓ol_su, ↓ol_up, ↓mo_ol, ↓mo_obp, ↓mo_og, ↓mo_ite, mix_lo, mo_some, mo_none, hsf_7]
theorem rx_fX0_bringsAt_b7 (ρ : S0) (sf_7 : S0 → Int32 → Int32 → Int32 → Int32 → Option (Int32 × S0)) (hsf_7 : ∀ (σ : S0) (a0 : Int32) (a1 : Int32) (a2 : Int32) (a3 : Int32), sf_7 (mix σ ρ) a0 a1 a2 a3 = mo ρ (sf_7 σ a0 a1 a2 a3)) (σ : S0) (x1 : Int32) (x2 : Int32) (x3 : Int32) (x4 : Int32)  : fX0_bringsAt_b7 sf_7 (mix σ ρ) x1 x2 x3 x4 = mo ρ (fX0_bringsAt_b7 sf_7 σ x1 x2 x3 x4) := by
  simp (disch := omega) only [fX0_bringsAt_b7, ↓ol_n, ↓ol_su, ↓ol_up, ↓mo_ol, ↓mo_obp, ↓mo_og, ↓mo_ite, mix_lo, mo_some, mo_none, hsf_7, rx_fX0_bringsAt_b65]
theorem rx_fX0_bringsAt_h7 (ρ : S0)   : ∀ (n : Nat) (σ : S0) (x1 : Int32) (x2 : Int32) (x3 : Int32) (x4 : Int32), fX0_bringsAt_h7  n (mix σ ρ) x1 x2 x3 x4 = mo ρ (fX0_bringsAt_h7  n σ x1 x2 x3 x4)
  | 0, _, _, _, _, _ => rfl
  | n + 1, σ, x1, x2, x3, x4 => rx_fX0_bringsAt_b7 ρ  (fX0_bringsAt_h7  n)  (rx_fX0_bringsAt_h7 ρ   n) σ x1 x2 x3 x4 
theorem rx_fX0_bringsAt (ρ : S0)   (σ : S0) (x1 : Int32)  : fX0_bringsAt  (mix σ ρ) x1 = mo ρ (fX0_bringsAt  σ x1) := by
  simp (disch := omega) only [fX0_bringsAt, ↓ol_n, ↓ol_su, ↓ol_up, ↓mo_ol, ↓mo_obp, ↓mo_og, ↓mo_ite, mix_lo, mo_some, mo_none, rx_fX0_bringsAt_h7]
theorem ox_fX0_bringsAt (ρ : S0) (σ : S0) (x1 : Int32)  (kk : Int32 → S0 → Option (Int32 × S0)) : obp (fX0_bringsAt (mix σ ρ) x1) kk = obp (fX0_bringsAt σ x1) (fun r s => kk r (mix s ρ)) := by
  rw [rx_fX0_bringsAt ρ σ x1 , obp_mo]
theorem rx_fX0_choose_b51 (ρ : S0) (sf_21 : S0 → Int32 → Option (Int32 × S0)) (hsf_21 : ∀ (σ : S0) (a0 : Int32), sf_21 (mix σ ρ) a0 = mo ρ (sf_21 σ a0)) (σ : S0) (x2 : Int32)  : fX0_choose_b51 sf_21 (mix σ ρ) x2 = mo ρ (fX0_choose_b51 sf_21 σ x2) := by
  simp (disch := omega) only [fX0_choose_b51, ↓ol_n, ↓ol_su, ↓ol_up, ↓mo_ol, ↓mo_obp, ↓mo_og, ↓mo_ite, mix_lo, mo_some, mo_none, hsf_21]
theorem rx_fX0_choose_b21 (ρ : S0) (sf_21 : S0 → Int32 → Option (Int32 × S0)) (hsf_21 : ∀ (σ : S0) (a0 : Int32), sf_21 (mix σ ρ) a0 = mo ρ (sf_21 σ a0)) (σ : S0) (x2 : Int32)  : fX0_choose_b21 sf_21 (mix σ ρ) x2 = mo ρ (fX0_choose_b21 sf_21 σ x2) := by
  simp (disch := omega) only [fX0_choose_b21, ↓ol_n, ↓ol_su, ↓ol_up, ↓mo_ol, ↓mo_obp, ↓mo_og, ↓mo_ite, ↓ox_fX0_bringsAt, mix_lo, mo_some, mo_none, hsf_21, rx_fX0_bringsAt, rx_fX0_choose_b51]
theorem rx_fX0_choose_h21 (ρ : S0)   : ∀ (n : Nat) (σ : S0) (x2 : Int32), fX0_choose_h21  n (mix σ ρ) x2 = mo ρ (fX0_choose_h21  n σ x2)
  | 0, _, _ => rfl
  | n + 1, σ, x2 => rx_fX0_choose_b21 ρ  (fX0_choose_h21  n)  (rx_fX0_choose_h21 ρ   n) σ x2 
theorem rx_fX0_choose (ρ : S0)   (σ : S0) (x1 : Int32)  : fX0_choose  (mix σ ρ) x1 = mo ρ (fX0_choose  σ x1) := by
  simp (disch := omega) only [fX0_choose, ↓ol_n, ↓ol_su, ↓ol_up, ↓mo_ol, ↓mo_obp, ↓mo_og, ↓mo_ite, ↓ox_fX0_weigh, ↓ox_fX0_bringsAt, mix_lo, mo_some, mo_none, rx_fX0_weigh, rx_fX0_bringsAt, rx_fX0_choose_h21]
theorem ox_fX0_choose (ρ : S0) (σ : S0) (x1 : Int32)  (kk : Int32 → S0 → Option (Int32 × S0)) : obp (fX0_choose (mix σ ρ) x1) kk = obp (fX0_choose σ x1) (fun r s => kk r (mix s ρ)) := by
  rw [rx_fX0_choose ρ σ x1 , obp_mo]
theorem rx_fX0_wantsOther (ρ : S0)   (σ : S0) (x1 : Int32)  : fX0_wantsOther  (mix σ ρ) x1 = mo ρ (fX0_wantsOther  σ x1) := by
  simp (disch := omega) only [fX0_wantsOther, ↓ol_n, ↓ol_su, ↓ol_up, ↓mo_ol, ↓mo_obp, ↓mo_og, ↓mo_ite, ↓ox_fX0_choose, ↓ox_fX6_wageOf, mix_lo, mo_some, mo_none, rx_fX0_choose, rx_fX6_wageOf]
theorem ox_fX0_wantsOther (ρ : S0) (σ : S0) (x1 : Int32)  (kk : Int32 → S0 → Option (Int32 × S0)) : obp (fX0_wantsOther (mix σ ρ) x1) kk = obp (fX0_wantsOther σ x1) (fun r s => kk r (mix s ρ)) := by
  rw [rx_fX0_wantsOther ρ σ x1 , obp_mo]
theorem rx_fX0_setFees_b36 (ρ : S0) (sf_2 : S0 → Int32 → Int32 → Int32 → Option (Int32 × S0)) (hsf_2 : ∀ (σ : S0) (a0 : Int32) (a1 : Int32) (a2 : Int32), sf_2 (mix σ ρ) a0 a1 a2 = mo ρ (sf_2 σ a0 a1 a2)) (σ : S0) (x1 : Int32) (x2 : Int32) (x3 : Int32)  : fX0_setFees_b36 sf_2 (mix σ ρ) x1 x2 x3 = mo ρ (fX0_setFees_b36 sf_2 σ x1 x2 x3) := by
  simp (disch := omega) only [fX0_setFees_b36, ↓ol_n, ↓ol_su, ↓ol_up, ↓mo_ol, ↓mo_obp, ↓mo_og, ↓mo_ite, mix_lo, mo_some, mo_none, hsf_2]
theorem rx_fX0_setFees_b2 (ρ : S0) (sf_2 : S0 → Int32 → Int32 → Int32 → Option (Int32 × S0)) (hsf_2 : ∀ (σ : S0) (a0 : Int32) (a1 : Int32) (a2 : Int32), sf_2 (mix σ ρ) a0 a1 a2 = mo ρ (sf_2 σ a0 a1 a2)) (σ : S0) (x1 : Int32) (x2 : Int32) (x3 : Int32)  : fX0_setFees_b2 sf_2 (mix σ ρ) x1 x2 x3 = mo ρ (fX0_setFees_b2 sf_2 σ x1 x2 x3) := by
  simp (disch := omega) only [fX0_setFees_b2, ↓ol_n, ↓ol_su, ↓ol_up, ↓mo_ol, ↓mo_obp, ↓mo_og, ↓mo_ite, mix_lo, mo_some, mo_none, hsf_2, rx_fX0_setFees_b36]
theorem rx_fX0_setFees_h2 (ρ : S0)   : ∀ (n : Nat) (σ : S0) (x1 : Int32) (x2 : Int32) (x3 : Int32), fX0_setFees_h2  n (mix σ ρ) x1 x2 x3 = mo ρ (fX0_setFees_h2  n σ x1 x2 x3)
  | 0, _, _, _, _ => rfl
  | n + 1, σ, x1, x2, x3 => rx_fX0_setFees_b2 ρ  (fX0_setFees_h2  n)  (rx_fX0_setFees_h2 ρ   n) σ x1 x2 x3 
theorem rx_fX0_setFees (ρ : S0)   (σ : S0) (x1 : Int32) (x2 : Int32)  : fX0_setFees  (mix σ ρ) x1 x2 = mo ρ (fX0_setFees  σ x1 x2) := by
  simp (disch := omega) only [fX0_setFees, ↓ol_n, ↓ol_su, ↓ol_up, ↓mo_ol, ↓mo_obp, ↓mo_og, ↓mo_ite, mix_lo, mo_some, mo_none, rx_fX0_setFees_h2]
theorem ox_fX0_setFees (ρ : S0) (σ : S0) (x1 : Int32) (x2 : Int32)  (kk : Int32 → S0 → Option (Int32 × S0)) : obp (fX0_setFees (mix σ ρ) x1 x2) kk = obp (fX0_setFees σ x1 x2) (fun r s => kk r (mix s ρ)) := by
  rw [rx_fX0_setFees ρ σ x1 x2 , obp_mo]
theorem rx_fX0_changeInRound_b34 (ρ : S0) (sf_4 : S0 → Int32 → Int32 → Option (Int32 × S0)) (hsf_4 : ∀ (σ : S0) (a0 : Int32) (a1 : Int32), sf_4 (mix σ ρ) a0 a1 = mo ρ (sf_4 σ a0 a1)) (σ : S0) (x1 : Int32) (x2 : Int32)  : fX0_changeInRound_b34 sf_4 (mix σ ρ) x1 x2 = mo ρ (fX0_changeInRound_b34 sf_4 σ x1 x2) := by
  simp (disch := omega) only [fX0_changeInRound_b34, ↓ol_n, ↓ol_su, ↓ol_up, ↓mo_ol, ↓mo_obp, ↓mo_og, ↓mo_ite, mix_lo, mo_some, mo_none, hsf_4]
theorem rx_fX0_changeInRound_b4 (ρ : S0) (sf_4 : S0 → Int32 → Int32 → Option (Int32 × S0)) (hsf_4 : ∀ (σ : S0) (a0 : Int32) (a1 : Int32), sf_4 (mix σ ρ) a0 a1 = mo ρ (sf_4 σ a0 a1)) (σ : S0) (x1 : Int32) (x2 : Int32)  : fX0_changeInRound_b4 sf_4 (mix σ ρ) x1 x2 = mo ρ (fX0_changeInRound_b4 sf_4 σ x1 x2) := by
  simp (disch := omega) only [fX0_changeInRound_b4, ↓ol_n, ↓ol_su, ↓ol_up, ↓mo_ol, ↓mo_obp, ↓mo_og, ↓mo_ite, ↓ox_fX0_wantsOther, ↓ox_fX0_setFees, mix_lo, mo_some, mo_none, hsf_4, rx_fX0_wantsOther, rx_fX0_changeInRound_b34, rx_fX0_setFees]
theorem rx_fX0_changeInRound_h4 (ρ : S0)   : ∀ (n : Nat) (σ : S0) (x1 : Int32) (x2 : Int32), fX0_changeInRound_h4  n (mix σ ρ) x1 x2 = mo ρ (fX0_changeInRound_h4  n σ x1 x2)
  | 0, _, _, _ => rfl
  | n + 1, σ, x1, x2 => rx_fX0_changeInRound_b4 ρ  (fX0_changeInRound_h4  n)  (rx_fX0_changeInRound_h4 ρ   n) σ x1 x2 
theorem rx_fX0_changeInRound (ρ : S0)   (σ : S0)   : fX0_changeInRound  (mix σ ρ)  = mo ρ (fX0_changeInRound  σ ) := by
  simp (disch := omega) only [fX0_changeInRound, ↓ol_n, ↓ol_su, ↓ol_up, ↓mo_ol, ↓mo_obp, ↓mo_og, ↓mo_ite, mix_lo, mo_some, mo_none, rx_fX0_changeInRound_h4]
theorem ox_fX0_changeInRound (ρ : S0) (σ : S0)   (kk : Int32 → S0 → Option (Int32 × S0)) : obp (fX0_changeInRound (mix σ ρ) ) kk = obp (fX0_changeInRound σ ) (fun r s => kk r (mix s ρ)) := by
  rw [rx_fX0_changeInRound ρ σ  , obp_mo]
theorem rx_fX2_ringAll_b103 (ρ : S0) (sf_2 : S0 → Int32 → Option (Int32 × S0)) (sf_46 : S0 → Int32 → Int32 → Option (Int32 × S0)) (hsf_2 : ∀ (σ : S0) (a0 : Int32), sf_2 (mix σ ρ) a0 = mo ρ (sf_2 σ a0)) (hsf_46 : ∀ (σ : S0) (a0 : Int32) (a1 : Int32), sf_46 (mix σ ρ) a0 a1 = mo ρ (sf_46 σ a0 a1)) (σ : S0) (x1 : Int32) (x2 : Int32)  : fX2_ringAll_b103 sf_2 sf_46 (mix σ ρ) x1 x2 = mo ρ (fX2_ringAll_b103 sf_2 sf_46 σ x1 x2) := by
  simp (disch := omega) only [fX2_ringAll_b103, ↓ol_n, ↓ol_su, ↓ol_up, ↓mo_ol, ↓mo_obp, ↓mo_og, ↓mo_ite, mix_lo, mo_some, mo_none, hsf_2, hsf_46]
theorem rx_fX2_ringAll_b46 (ρ : S0) (sf_2 : S0 → Int32 → Option (Int32 × S0)) (sf_46 : S0 → Int32 → Int32 → Option (Int32 × S0)) (hsf_2 : ∀ (σ : S0) (a0 : Int32), sf_2 (mix σ ρ) a0 = mo ρ (sf_2 σ a0)) (hsf_46 : ∀ (σ : S0) (a0 : Int32) (a1 : Int32), sf_46 (mix σ ρ) a0 a1 = mo ρ (sf_46 σ a0 a1)) (σ : S0) (x1 : Int32) (x2 : Int32)  : fX2_ringAll_b46 sf_2 sf_46 (mix σ ρ) x1 x2 = mo ρ (fX2_ringAll_b46 sf_2 sf_46 σ x1 x2) := by
  by_cases g0 : (x1 < 0 ∨ 6 ≤ x1.toNatClampNeg)
  · simp (disch := omega) only [fX2_ringAll_b46, ↓ol_n, ↓ol_su, ↓ol_up, ↓mo_ol, ↓mo_obp, ↓mo_og, ↓mo_ite, ↓ox_fX6_rang, mix_lo, mo_some, mo_none, hsf_2, hsf_46, rx_fX6_rang, rx_fX2_ringAll_b103, og_g g0]
  · have h0 : x1.toNatClampNeg < 6 := by omega
    simp (disch := omega) only [fX2_ringAll_b46, ↓ol_n, ↓ol_su, ↓ol_up, ↓mo_ol, ↓mo_obp, ↓mo_og, ↓mo_ite, ↓ox_fX6_rang, mix_lo, mo_some, mo_none, hsf_2, hsf_46, rx_fX6_rang, rx_fX2_ringAll_b103]
theorem rx_fX2_ringAll_h46 (ρ : S0) (sf_2 : S0 → Int32 → Option (Int32 × S0)) (hsf_2 : ∀ (σ : S0) (a0 : Int32), sf_2 (mix σ ρ) a0 = mo ρ (sf_2 σ a0)) : ∀ (n : Nat) (σ : S0) (x1 : Int32) (x2 : Int32), fX2_ringAll_h46 sf_2 n (mix σ ρ) x1 x2 = mo ρ (fX2_ringAll_h46 sf_2 n σ x1 x2)
  | 0, _, _, _ => rfl
  | n + 1, σ, x1, x2 => rx_fX2_ringAll_b46 ρ sf_2 (fX2_ringAll_h46 sf_2 n) hsf_2 (rx_fX2_ringAll_h46 ρ sf_2 hsf_2 n) σ x1 x2 
theorem rx_fX2_ringAll_b2 (ρ : S0) (sf_2 : S0 → Int32 → Option (Int32 × S0)) (hsf_2 : ∀ (σ : S0) (a0 : Int32), sf_2 (mix σ ρ) a0 = mo ρ (sf_2 σ a0)) (σ : S0) (x1 : Int32)  : fX2_ringAll_b2 sf_2 (mix σ ρ) x1 = mo ρ (fX2_ringAll_b2 sf_2 σ x1) := by
  by_cases g0 : (x1 < 0 ∨ 6 ≤ x1.toNatClampNeg)
  · simp (disch := omega) only [fX2_ringAll_b2, ↓ol_n, ↓ol_su, ↓ol_up, ↓mo_ol, ↓mo_obp, ↓mo_og, ↓mo_ite, ↓ox_fX6_play, ↓ox_fJ7_fill_53178, mix_lo, mo_some, mo_none, hsf_2, rx_fX6_play, rx_fJ7_fill_53178, rx_fX2_ringAll_h46, og_g g0]
  · have h0 : x1.toNatClampNeg < 6 := by omega
    simp (disch := omega) only [fX2_ringAll_b2, ↓ol_n, ↓ol_su, ↓ol_up, ↓mo_ol, ↓mo_obp, ↓mo_og, ↓mo_ite, ↓ox_fX6_play, ↓ox_fJ7_fill_53178, mix_lo, mo_some, mo_none, hsf_2, rx_fX6_play, rx_fJ7_fill_53178, rx_fX2_ringAll_h46]
theorem rx_fX2_ringAll_h2 (ρ : S0)   : ∀ (n : Nat) (σ : S0) (x1 : Int32), fX2_ringAll_h2  n (mix σ ρ) x1 = mo ρ (fX2_ringAll_h2  n σ x1)
  | 0, _, _ => rfl
  | n + 1, σ, x1 => rx_fX2_ringAll_b2 ρ  (fX2_ringAll_h2  n)  (rx_fX2_ringAll_h2 ρ   n) σ x1 
theorem rx_fX2_ringAll (ρ : S0)   (σ : S0)   : fX2_ringAll  (mix σ ρ)  = mo ρ (fX2_ringAll  σ ) := by
  simp (disch := omega) only [fX2_ringAll, ↓ol_n, ↓ol_su, ↓ol_up, ↓mo_ol, ↓mo_obp, ↓mo_og, ↓mo_ite, mix_lo, mo_some, mo_none, rx_fX2_ringAll_h2]
theorem ox_fX2_ringAll (ρ : S0) (σ : S0)   (kk : Int32 → S0 → Option (Int32 × S0)) : obp (fX2_ringAll (mix σ ρ) ) kk = obp (fX2_ringAll σ ) (fun r s => kk r (mix s ρ)) := by
  rw [rx_fX2_ringAll ρ σ  , obp_mo]
theorem rx_fX2_strokesIn_b38 (ρ : S0) (sf_5 : S0 → Int32 → Int32 → Int32 → Int32 → Option (Int32 × S0)) (hsf_5 : ∀ (σ : S0) (a0 : Int32) (a1 : Int32) (a2 : Int32) (a3 : Int32), sf_5 (mix σ ρ) a0 a1 a2 a3 = mo ρ (sf_5 σ a0 a1 a2 a3)) (σ : S0) (x1 : Int32) (x2 : Int32) (x3 : Int32) (x4 : Int32)  : fX2_strokesIn_b38 sf_5 (mix σ ρ) x1 x2 x3 x4 = mo ρ (fX2_strokesIn_b38 sf_5 σ x1 x2 x3 x4) := by
  simp (disch := omega) only [fX2_strokesIn_b38, ↓ol_n, ↓ol_su, ↓ol_up, ↓mo_ol, ↓mo_obp, ↓mo_og, ↓mo_ite, mix_lo, mo_some, mo_none, hsf_5]
theorem rx_fX2_strokesIn_b5 (ρ : S0) (sf_5 : S0 → Int32 → Int32 → Int32 → Int32 → Option (Int32 × S0)) (hsf_5 : ∀ (σ : S0) (a0 : Int32) (a1 : Int32) (a2 : Int32) (a3 : Int32), sf_5 (mix σ ρ) a0 a1 a2 a3 = mo ρ (sf_5 σ a0 a1 a2 a3)) (σ : S0) (x1 : Int32) (x2 : Int32) (x3 : Int32) (x4 : Int32)  : fX2_strokesIn_b5 sf_5 (mix σ ρ) x1 x2 x3 x4 = mo ρ (fX2_strokesIn_b5 sf_5 σ x1 x2 x3 x4) := by
  by_cases g0 : (x4 < 0 ∨ 6 ≤ x4.toNatClampNeg)
  · simp (disch := omega) only [fX2_strokesIn_b5, ↓ol_n, ↓ol_su, ↓ol_up, ↓mo_ol, ↓mo_obp, ↓mo_og, ↓mo_ite, mix_lo, mo_some, mo_none, hsf_5, rx_fX2_strokesIn_b38, og_g g0]
  · have h0 : x4.toNatClampNeg < 6 := by omega
    simp (disch := omega) only [fX2_strokesIn_b5, ↓ol_n, ↓ol_su, ↓ol_up, ↓mo_ol, ↓mo_obp, ↓mo_og, ↓mo_ite, mix_lo, mo_some, mo_none, hsf_5, rx_fX2_strokesIn_b38]
theorem rx_fX2_strokesIn_h5 (ρ : S0)   : ∀ (n : Nat) (σ : S0) (x1 : Int32) (x2 : Int32) (x3 : Int32) (x4 : Int32), fX2_strokesIn_h5  n (mix σ ρ) x1 x2 x3 x4 = mo ρ (fX2_strokesIn_h5  n σ x1 x2 x3 x4)
  | 0, _, _, _, _, _ => rfl
  | n + 1, σ, x1, x2, x3, x4 => rx_fX2_strokesIn_b5 ρ  (fX2_strokesIn_h5  n)  (rx_fX2_strokesIn_h5 ρ   n) σ x1 x2 x3 x4 
theorem rx_fX2_strokesIn (ρ : S0)   (σ : S0) (x1 : Int32) (x2 : Int32)  : fX2_strokesIn  (mix σ ρ) x1 x2 = mo ρ (fX2_strokesIn  σ x1 x2) := by
  simp (disch := omega) only [fX2_strokesIn, ↓ol_n, ↓ol_su, ↓ol_up, ↓mo_ol, ↓mo_obp, ↓mo_og, ↓mo_ite, mix_lo, mo_some, mo_none, rx_fX2_strokesIn_h5]
theorem ox_fX2_strokesIn (ρ : S0) (σ : S0) (x1 : Int32) (x2 : Int32)  (kk : Int32 → S0 → Option (Int32 × S0)) : obp (fX2_strokesIn (mix σ ρ) x1 x2) kk = obp (fX2_strokesIn σ x1 x2) (fun r s => kk r (mix s ρ)) := by
  rw [rx_fX2_strokesIn ρ σ x1 x2 , obp_mo]
theorem rx_fX2_strokesOf (ρ : S0)   (σ : S0) (x1 : Int32)  : fX2_strokesOf  (mix σ ρ) x1 = mo ρ (fX2_strokesOf  σ x1) := by
  simp (disch := omega) only [fX2_strokesOf, ↓ol_n, ↓ol_su, ↓ol_up, ↓mo_ol, ↓mo_obp, ↓mo_og, ↓mo_ite, ↓ox_fX2_strokesIn, mix_lo, mo_some, mo_none, rx_fX2_strokesIn]
theorem ox_fX2_strokesOf (ρ : S0) (σ : S0) (x1 : Int32)  (kk : Int32 → S0 → Option (Int32 × S0)) : obp (fX2_strokesOf (mix σ ρ) x1) kk = obp (fX2_strokesOf σ x1) (fun r s => kk r (mix s ρ)) := by
  rw [rx_fX2_strokesOf ρ σ x1 , obp_mo]
theorem rx_fX2_isWithin_b2 (ρ : S0) (sf_2 : S0 → Int32 → Int32 → Int32 → Option (Int32 × S0)) (hsf_2 : ∀ (σ : S0) (a0 : Int32) (a1 : Int32) (a2 : Int32), sf_2 (mix σ ρ) a0 a1 a2 = mo ρ (sf_2 σ a0 a1 a2)) (σ : S0) (x1 : Int32) (x2 : Int32) (x3 : Int32)  : fX2_isWithin_b2 sf_2 (mix σ ρ) x1 x2 x3 = mo ρ (fX2_isWithin_b2 sf_2 σ x1 x2 x3) := by
  simp (disch := omega) only [fX2_isWithin_b2, ↓ol_n, ↓ol_su, ↓ol_up, ↓mo_ol, ↓mo_obp, ↓mo_og, ↓mo_ite, ↓ox_fX2_strokesIn, mix_lo, mo_some, mo_none, hsf_2, rx_fX2_strokesIn]
theorem rx_fX2_isWithin_h2 (ρ : S0)   : ∀ (n : Nat) (σ : S0) (x1 : Int32) (x2 : Int32) (x3 : Int32), fX2_isWithin_h2  n (mix σ ρ) x1 x2 x3 = mo ρ (fX2_isWithin_h2  n σ x1 x2 x3)
  | 0, _, _, _, _ => rfl
  | n + 1, σ, x1, x2, x3 => rx_fX2_isWithin_b2 ρ  (fX2_isWithin_h2  n)  (rx_fX2_isWithin_h2 ρ   n) σ x1 x2 x3 
theorem rx_fX2_isWithin (ρ : S0)   (σ : S0) (x1 : Int32) (x2 : Int32)  : fX2_isWithin  (mix σ ρ) x1 x2 = mo ρ (fX2_isWithin  σ x1 x2) := by
  simp (disch := omega) only [fX2_isWithin, ↓ol_n, ↓ol_su, ↓ol_up, ↓mo_ol, ↓mo_obp, ↓mo_og, ↓mo_ite, mix_lo, mo_some, mo_none, rx_fX2_isWithin_h2]
theorem ox_fX2_isWithin (ρ : S0) (σ : S0) (x1 : Int32) (x2 : Int32)  (kk : Int32 → S0 → Option (Int32 × S0)) : obp (fX2_isWithin (mix σ ρ) x1 x2) kk = obp (fX2_isWithin σ x1 x2) (fun r s => kk r (mix s ρ)) := by
  rw [rx_fX2_isWithin ρ σ x1 x2 , obp_mo]
theorem rx_fX2_costOf_b32 (ρ : S0) (sf_4 : S0 → Int32 → Int32 → Int32 → Option (Int32 × S0)) (hsf_4 : ∀ (σ : S0) (a0 : Int32) (a1 : Int32) (a2 : Int32), sf_4 (mix σ ρ) a0 a1 a2 = mo ρ (sf_4 σ a0 a1 a2)) (σ : S0) (x1 : Int32) (x2 : Int32) (x3 : Int32)  : fX2_costOf_b32 sf_4 (mix σ ρ) x1 x2 x3 = mo ρ (fX2_costOf_b32 sf_4 σ x1 x2 x3) := by
  simp (disch := omega) only [fX2_costOf_b32, ↓ol_n, ↓ol_su, ↓ol_up, ↓mo_ol, ↓mo_obp, ↓mo_og, ↓mo_ite, mix_lo, mo_some, mo_none, hsf_4]
theorem rx_fX2_costOf_b4 (ρ : S0) (sf_4 : S0 → Int32 → Int32 → Int32 → Option (Int32 × S0)) (hsf_4 : ∀ (σ : S0) (a0 : Int32) (a1 : Int32) (a2 : Int32), sf_4 (mix σ ρ) a0 a1 a2 = mo ρ (sf_4 σ a0 a1 a2)) (σ : S0) (x1 : Int32) (x2 : Int32) (x3 : Int32)  : fX2_costOf_b4 sf_4 (mix σ ρ) x1 x2 x3 = mo ρ (fX2_costOf_b4 sf_4 σ x1 x2 x3) := by
  simp (disch := omega) only [fX2_costOf_b4, ↓ol_n, ↓ol_su, ↓ol_up, ↓mo_ol, ↓mo_obp, ↓mo_og, ↓mo_ite, mix_lo, mo_some, mo_none, hsf_4, rx_fX2_costOf_b32]
theorem rx_fX2_costOf_h4 (ρ : S0)   : ∀ (n : Nat) (σ : S0) (x1 : Int32) (x2 : Int32) (x3 : Int32), fX2_costOf_h4  n (mix σ ρ) x1 x2 x3 = mo ρ (fX2_costOf_h4  n σ x1 x2 x3)
  | 0, _, _, _, _ => rfl
  | n + 1, σ, x1, x2, x3 => rx_fX2_costOf_b4 ρ  (fX2_costOf_h4  n)  (rx_fX2_costOf_h4 ρ   n) σ x1 x2 x3 
theorem rx_fX2_costOf (ρ : S0)   (σ : S0) (x1 : Int32)  : fX2_costOf  (mix σ ρ) x1 = mo ρ (fX2_costOf  σ x1) := by
  simp (disch := omega) only [fX2_costOf, ↓ol_n, ↓ol_su, ↓ol_up, ↓mo_ol, ↓mo_obp, ↓mo_og, ↓mo_ite, mix_lo, mo_some, mo_none, rx_fX2_costOf_h4]
theorem ox_fX2_costOf (ρ : S0) (σ : S0) (x1 : Int32)  (kk : Int32 → S0 → Option (Int32 × S0)) : obp (fX2_costOf (mix σ ρ) x1) kk = obp (fX2_costOf σ x1) (fun r s => kk r (mix s ρ)) := by
  rw [rx_fX2_costOf ρ σ x1 , obp_mo]
theorem rx_fX2_choose_b75 (ρ : S0) (sf_11 : S0 → Int32 → Int32 → Int32 → Option (Int32 × S0)) (hsf_11 : ∀ (σ : S0) (a0 : Int32) (a1 : Int32) (a2 : Int32), sf_11 (mix σ ρ) a0 a1 a2 = mo ρ (sf_11 σ a0 a1 a2)) (σ : S0) (x1 : Int32) (x2 : Int32) (x3 : Int32)  : fX2_choose_b75 sf_11 (mix σ ρ) x1 x2 x3 = mo ρ (fX2_choose_b75 sf_11 σ x1 x2 x3) := by
  simp (disch := omega) only [fX2_choose_b75, ↓ol_n, ↓ol_su, ↓ol_up, ↓mo_ol, ↓mo_obp, ↓mo_og, ↓mo_ite, mix_lo, mo_some, mo_none, hsf_11]
theorem rx_fX2_choose_b64 (ρ : S0) (sf_11 : S0 → Int32 → Int32 → Int32 → Option (Int32 × S0)) (hsf_11 : ∀ (σ : S0) (a0 : Int32) (a1 : Int32) (a2 : Int32), sf_11 (mix σ ρ) a0 a1 a2 = mo ρ (sf_11 σ a0 a1 a2)) (σ : S0) (x1 : Int32) (x2 : Int32) (x3 : Int32) (x4 : Int32)  : fX2_choose_b64 sf_11 (mix σ ρ) x1 x2 x3 x4 = mo ρ (fX2_choose_b64 sf_11 σ x1 x2 x3 x4) := by
  simp (disch := omega) only [fX2_choose_b64, ↓ol_n, ↓ol_su, ↓ol_up, ↓mo_ol, ↓mo_obp, ↓mo_og, ↓mo_ite, mix_lo, mo_some, mo_none, hsf_11, rx_fX2_choose_b75]
theorem rx_fX2_choose_b11 (ρ : S0) (sf_11 : S0 → Int32 → Int32 → Int32 → Option (Int32 × S0)) (hsf_11 : ∀ (σ : S0) (a0 : Int32) (a1 : Int32) (a2 : Int32), sf_11 (mix σ ρ) a0 a1 a2 = mo ρ (sf_11 σ a0 a1 a2)) (σ : S0) (x1 : Int32) (x2 : Int32) (x3 : Int32)  : fX2_choose_b11 sf_11 (mix σ ρ) x1 x2 x3 = mo ρ (fX2_choose_b11 sf_11 σ x1 x2 x3) := by
  simp (disch := omega) only [fX2_choose_b11, ↓ol_n, ↓ol_su, ↓ol_up, ↓mo_ol, ↓mo_obp, ↓mo_og, ↓mo_ite, ↓ox_fJ6_bitCount_0f7a4, ↓ox_fX2_isWithin, ↓ox_fX2_costOf, mix_lo, mo_some, mo_none, hsf_11, rx_fJ6_bitCount_0f7a4, rx_fX2_choose_b75, rx_fX2_isWithin, rx_fX2_costOf, rx_fX2_choose_b64]
theorem rx_fX2_choose_h11 (ρ : S0)   : ∀ (n : Nat) (σ : S0) (x1 : Int32) (x2 : Int32) (x3 : Int32), fX2_choose_h11  n (mix σ ρ) x1 x2 x3 = mo ρ (fX2_choose_h11  n σ x1 x2 x3)
  | 0, _, _, _, _ => rfl
  | n + 1, σ, x1, x2, x3 => rx_fX2_choose_b11 ρ  (fX2_choose_h11  n)  (rx_fX2_choose_h11 ρ   n) σ x1 x2 x3 
theorem rx_fX2_choose (ρ : S0)   (σ : S0) (x1 : Int32) (x2 : Int32)  : fX2_choose  (mix σ ρ) x1 x2 = mo ρ (fX2_choose  σ x1 x2) := by
  simp (disch := omega) only [fX2_choose, ↓ol_n, ↓ol_su, ↓ol_up, ↓mo_ol, ↓mo_obp, ↓mo_og, ↓mo_ite, ↓ox_fX2_ringAll, mix_lo, mo_some, mo_none, rx_fX2_ringAll, rx_fX2_choose_h11]
theorem ox_fX2_choose (ρ : S0) (σ : S0) (x1 : Int32) (x2 : Int32)  (kk : Int32 → S0 → Option (Int32 × S0)) : obp (fX2_choose (mix σ ρ) x1 x2) kk = obp (fX2_choose σ x1 x2) (fun r s => kk r (mix s ρ)) := by
  rw [rx_fX2_choose ρ σ x1 x2 , obp_mo]
