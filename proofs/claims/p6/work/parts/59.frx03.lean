theorem rx_fX4_leastBehind_b99 (ρ : S0) (sf_6 : S0 → Int32 → Int32 → Int32 → Int32 → Option (Int32 × S0)) (hsf_6 : ∀ (σ : S0) (a0 : Int32) (a1 : Int32) (a2 : Int32) (a3 : Int32), sf_6 (mix σ ρ) a0 a1 a2 a3 = mo ρ (sf_6 σ a0 a1 a2 a3)) (σ : S0) (x1 : Int32) (x2 : Int32) (x3 : Int32) (x4 : Int32)  : fX4_leastBehind_b99 sf_6 (mix σ ρ) x1 x2 x3 x4 = mo ρ (fX4_leastBehind_b99 sf_6 σ x1 x2 x3 x4) := by
  simp (disch := omega) only [fX4_leastBehind_b99, ↓ol_n, ↓ol_su, ↓ol_up, ↓mo_ol, ↓mo_obp, ↓mo_og, ↓mo_ite, mix_lo, mo_some, mo_none, hsf_6]
theorem rx_fX4_leastBehind_b93 (ρ : S0) (sf_6 : S0 → Int32 → Int32 → Int32 → Int32 → Option (Int32 × S0)) (hsf_6 : ∀ (σ : S0) (a0 : Int32) (a1 : Int32) (a2 : Int32) (a3 : Int32), sf_6 (mix σ ρ) a0 a1 a2 a3 = mo ρ (sf_6 σ a0 a1 a2 a3)) (σ : S0) (x1 : Int32) (x2 : Int32) (x3 : Int32) (x4 : Int32) (t0 : Int32) (t1 : Int32)  : fX4_leastBehind_b93 sf_6 (mix σ ρ) x1 x2 x3 x4 t0 t1 = mo ρ (fX4_leastBehind_b93 sf_6 σ x1 x2 x3 x4 t0 t1) := by
  simp (disch := omega) only [fX4_leastBehind_b93, ↓ol_n, ↓ol_su, ↓ol_up, ↓mo_ol, ↓mo_obp, ↓mo_og, ↓mo_ite, mix_lo, mo_some, mo_none, hsf_6, rx_fX4_leastBehind_b99]
theorem rx_fX4_leastBehind_b58 (ρ : S0) (sf_6 : S0 → Int32 → Int32 → Int32 → Int32 → Option (Int32 × S0)) (hsf_6 : ∀ (σ : S0) (a0 : Int32) (a1 : Int32) (a2 : Int32) (a3 : Int32), sf_6 (mix σ ρ) a0 a1 a2 a3 = mo ρ (sf_6 σ a0 a1 a2 a3)) (σ : S0) (x1 : Int32) (x2 : Int32) (x3 : Int32) (x4 : Int32) (t0 : Int32)  : fX4_leastBehind_b58 sf_6 (mix σ ρ) x1 x2 x3 x4 t0 = mo ρ (fX4_leastBehind_b58 sf_6 σ x1 x2 x3 x4 t0) := by
  by_cases g0 : (x1 < 0 ∨ 12 ≤ x1.toNatClampNeg)
  · simp (disch := omega) only [fX4_leastBehind_b58, ↓ol_n, ↓ol_su, ↓ol_up, ↓mo_ol, ↓mo_obp, ↓mo_og, ↓mo_ite, mix_lo, mo_some, mo_none, hsf_6, rx_fX4_leastBehind_b99, rx_fX4_leastBehind_b93, og_g g0]
  · have h0 : x1.toNatClampNeg < 12 := by omega
    simp (disch := omega) only [fX4_leastBehind_b58, ↓ol_n, ↓ol_su, ↓ol_up, ↓mo_ol, ↓mo_obp, ↓mo_og, ↓mo_ite, mix_lo, mo_some, mo_none, hsf_6, rx_fX4_leastBehind_b99, rx_fX4_leastBehind_b93]
theorem rx_fX4_leastBehind_b53 (ρ : S0) (sf_6 : S0 → Int32 → Int32 → Int32 → Int32 → Option (Int32 × S0)) (hsf_6 : ∀ (σ : S0) (a0 : Int32) (a1 : Int32) (a2 : Int32) (a3 : Int32), sf_6 (mix σ ρ) a0 a1 a2 a3 = mo ρ (sf_6 σ a0 a1 a2 a3)) (σ : S0) (x1 : Int32) (x2 : Int32) (x3 : Int32) (x4 : Int32)  : fX4_leastBehind_b53 sf_6 (mix σ ρ) x1 x2 x3 x4 = mo ρ (fX4_leastBehind_b53 sf_6 σ x1 x2 x3 x4) := by
  simp (disch := omega) only [fX4_leastBehind_b53, ↓ol_n, ↓ol_su, ↓ol_up, ↓mo_ol, ↓mo_obp, ↓mo_og, ↓mo_ite, mix_lo, mo_some, mo_none, hsf_6, rx_fX4_leastBehind_b58]
theorem rx_fX4_leastBehind_b6 (ρ : S0) (sf_6 : S0 → Int32 → Int32 → Int32 → Int32 → Option (Int32 × S0)) (hsf_6 : ∀ (σ : S0) (a0 : Int32) (a1 : Int32) (a2 : Int32) (a3 : Int32), sf_6 (mix σ ρ) a0 a1 a2 a3 = mo ρ (sf_6 σ a0 a1 a2 a3)) (σ : S0) (x1 : Int32) (x2 : Int32) (x3 : Int32) (x4 : Int32)  : fX4_leastBehind_b6 sf_6 (mix σ ρ) x1 x2 x3 x4 = mo ρ (fX4_leastBehind_b6 sf_6 σ x1 x2 x3 x4) := by
  simp (disch := omega) only [fX4_leastBehind_b6, ↓ol_n, ↓ol_su, ↓ol_up, ↓mo_ol, ↓mo_obp, ↓mo_og, ↓mo_ite, ↓ox_fX1_areFoes, mix_lo, mo_some, mo_none, hsf_6, rx_fX4_leastBehind_b53, rx_fX1_areFoes, rx_fX4_leastBehind_b58]
theorem rx_fX4_leastBehind_h6 (ρ : S0)   : ∀ (n : Nat) (σ : S0) (x1 : Int32) (x2 : Int32) (x3 : Int32) (x4 : Int32), fX4_leastBehind_h6  n (mix σ ρ) x1 x2 x3 x4 = mo ρ (fX4_leastBehind_h6  n σ x1 x2 x3 x4)
  | 0, _, _, _, _, _ => rfl
  | n + 1, σ, x1, x2, x3, x4 => rx_fX4_leastBehind_b6 ρ  (fX4_leastBehind_h6  n)  (rx_fX4_leastBehind_h6 ρ   n) σ x1 x2 x3 x4 
theorem rx_fX4_leastBehind (ρ : S0)   (σ : S0) (x1 : Int32) (x2 : Int32)  : fX4_leastBehind  (mix σ ρ) x1 x2 = mo ρ (fX4_leastBehind  σ x1 x2) := by
  simp (disch := omega) only [fX4_leastBehind, ↓ol_n, ↓ol_su, ↓ol_up, ↓mo_ol, ↓mo_obp, ↓mo_og, ↓mo_ite, mix_lo, mo_some, mo_none, rx_fX4_leastBehind_h6]
theorem ox_fX4_leastBehind (ρ : S0) (σ : S0) (x1 : Int32) (x2 : Int32)  (kk : Int32 → S0 → Option (Int32 × S0)) : obp (fX4_leastBehind (mix σ ρ) x1 x2) kk = obp (fX4_leastBehind σ x1 x2) (fun r s => kk r (mix s ρ)) := by
  rw [rx_fX4_leastBehind ρ σ x1 x2 , obp_mo]
theorem rx_fX4_farFrom (ρ : S0)   (σ : S0) (x1 : Int32) (x2 : Int32) (x3 : Int32) (x4 : Int32)  : fX4_farFrom  (mix σ ρ) x1 x2 x3 x4 = mo ρ (fX4_farFrom  σ x1 x2 x3 x4) := by
  by_cases g0 : (x1 < 0 ∨ 6 ≤ x1.toNatClampNeg)
  · simp (disch := omega) only [fX4_farFrom, ↓ol_i, ↓ol_n, ↓ol_su, ↓ol_up, ↓mo_ol, ↓mo_obp, ↓mo_og, ↓mo_ite, ↓ox_fX4_leastBehind, mix_lo, mo_some, mo_none, rx_fX4_leastBehind, og_g g0]
  · have h0 : x1.toNatClampNeg < 6 := by omega
    by_cases g1 : ((x2 + 1) < 0 ∨ 12 ≤ (x2 + 1).toNatClampNeg)
    · simp (disch := omega) only [fX4_farFrom, ↓ol_i, ↓ol_n, ↓ol_su, ↓ol_up, ↓mo_ol, ↓mo_obp, ↓mo_og, ↓mo_ite, ↓ox_fX4_leastBehind, mix_lo, mo_some, mo_none, rx_fX4_leastBehind, og_g g1]
    · have h1 : (x2 + 1).toNatClampNeg < 12 := by omega
      simp (disch := omega) only [fX4_farFrom, ↓ol_i, ↓ol_n, ↓ol_su, ↓ol_up, ↓mo_ol, ↓mo_obp, ↓mo_og, ↓mo_ite, ↓ox_fX4_leastBehind, mix_lo, mo_some, mo_none, rx_fX4_leastBehind]
theorem ox_fX4_farFrom (ρ : S0) (σ : S0) (x1 : Int32) (x2 : Int32) (x3 : Int32) (x4 : Int32)  (kk : Int32 → S0 → Option (Int32 × S0)) : obp (fX4_farFrom (mix σ ρ) x1 x2 x3 x4) kk = obp (fX4_farFrom σ x1 x2 x3 x4) (fun r s => kk r (mix s ρ)) := by
  rw [rx_fX4_farFrom ρ σ x1 x2 x3 x4 , obp_mo]
theorem rx_fX4_find_b112 (ρ : S0) (sf_112 : S0 → Int32 → Int32 → Option (Int32 × S0)) (hsf_112 : ∀ (σ : S0) (a0 : Int32) (a1 : Int32), sf_112 (mix σ ρ) a0 a1 = mo ρ (sf_112 σ a0 a1)) (σ : S0) (x3 : Int32) (x5 : Int32)  : fX4_find_b112 sf_112 (mix σ ρ) x3 x5 = mo ρ (fX4_find_b112 sf_112 σ x3 x5) := by
  simp (disch := omega) only [fX4_find_b112, ↓ol_n, ↓ol_su, ↓ol_up, ↓mo_ol, ↓mo_obp, ↓mo_og, ↓mo_ite, ↓ox_fX4_leastBehind, mix_lo, mo_some, mo_none, hsf_112, rx_fX4_leastBehind]
theorem rx_fX4_find_h112 (ρ : S0)   : ∀ (n : Nat) (σ : S0) (x3 : Int32) (x5 : Int32), fX4_find_h112  n (mix σ ρ) x3 x5 = mo ρ (fX4_find_h112  n σ x3 x5)
  | 0, _, _, _ => rfl
  | n + 1, σ, x3, x5 => rx_fX4_find_b112 ρ  (fX4_find_h112  n)  (rx_fX4_find_h112 ρ   n) σ x3 x5 
theorem rx_fX4_find_b98 (ρ : S0)   (σ : S0) (x3 : Int32) (x4 : Int32) (t0 : Int32)  : fX4_find_b98  (mix σ ρ) x3 x4 t0 = mo ρ (fX4_find_b98  σ x3 x4 t0) := by
  simp (disch := omega) only [fX4_find_b98, ↓ol_n, ↓ol_su, ↓ol_up, ↓mo_ol, ↓mo_obp, ↓mo_og, ↓mo_ite, mix_lo, mo_some, mo_none, rx_fX4_find_h112, cl_0]
theorem rx_fX4_find_b23 (ρ : S0) (sf_15 : S0 → Int32 → Int32 → Int32 → Int32 → Option (Int32 × S0)) (sf_23 : S0 → Int32 → Int32 → Int32 → Int32 → Int32 → Option (Int32 × S0)) (hsf_15 : ∀ (σ : S0) (a0 : Int32) (a1 : Int32) (a2 : Int32) (a3 : Int32), sf_15 (mix σ ρ) a0 a1 a2 a3 = mo ρ (sf_15 σ a0 a1 a2 a3)) (hsf_23 : ∀ (σ : S0) (a0 : Int32) (a1 : Int32) (a2 : Int32) (a3 : Int32) (a4 : Int32), sf_23 (mix σ ρ) a0 a1 a2 a3 a4 = mo ρ (sf_23 σ a0 a1 a2 a3 a4)) (σ : S0) (x1 : Int32) (x2 : Int32) (x3 : Int32) (x4 : Int32) (x5 : Int32)  : fX4_find_b23 sf_15 sf_23 (mix σ ρ) x1 x2 x3 x4 x5 = mo ρ (fX4_find_b23 sf_15 sf_23 σ x1 x2 x3 x4 x5) := by
  by_cases g0 : (x4 < 0 ∨ 12 ≤ x4.toNatClampNeg)
  · simp (disch := omega) only [fX4_find_b23, ↓ol_n, ↓ol_su, ↓ol_up, ↓mo_ol, ↓mo_obp, ↓mo_og, ↓mo_ite, ↓ox_fX4_farFrom, mix_lo, mo_some, mo_none, hsf_15, hsf_23, rx_fX4_farFrom, og_g g0]
  · have h0 : x4.toNatClampNeg < 12 := by omega
    simp (disch := omega) only [fX4_find_b23, ↓ol_n, ↓ol_su, ↓ol_up, ↓mo_ol, ↓mo_obp, ↓mo_og, ↓mo_ite, ↓ox_fX4_farFrom, mix_lo, mo_some, mo_none, hsf_15, hsf_23, rx_fX4_farFrom]
theorem rx_fX4_find_h23 (ρ : S0) (sf_15 : S0 → Int32 → Int32 → Int32 → Int32 → Option (Int32 × S0)) (hsf_15 : ∀ (σ : S0) (a0 : Int32) (a1 : Int32) (a2 : Int32) (a3 : Int32), sf_15 (mix σ ρ) a0 a1 a2 a3 = mo ρ (sf_15 σ a0 a1 a2 a3)) : ∀ (n : Nat) (σ : S0) (x1 : Int32) (x2 : Int32) (x3 : Int32) (x4 : Int32) (x5 : Int32), fX4_find_h23 sf_15 n (mix σ ρ) x1 x2 x3 x4 x5 = mo ρ (fX4_find_h23 sf_15 n σ x1 x2 x3 x4 x5)
  | 0, _, _, _, _, _, _ => rfl
  | n + 1, σ, x1, x2, x3, x4, x5 => rx_fX4_find_b23 ρ sf_15 (fX4_find_h23 sf_15 n) hsf_15 (rx_fX4_find_h23 ρ sf_15 hsf_15 n) σ x1 x2 x3 x4 x5 
theorem rx_fX4_find_b15 (ρ : S0) (sf_15 : S0 → Int32 → Int32 → Int32 → Int32 → Option (Int32 × S0)) (hsf_15 : ∀ (σ : S0) (a0 : Int32) (a1 : Int32) (a2 : Int32) (a3 : Int32), sf_15 (mix σ ρ) a0 a1 a2 a3 = mo ρ (sf_15 σ a0 a1 a2 a3)) (σ : S0) (x1 : Int32) (x2 : Int32) (x3 : Int32) (x4 : Int32)  : fX4_find_b15 sf_15 (mix σ ρ) x1 x2 x3 x4 = mo ρ (fX4_find_b15 sf_15 σ x1 x2 x3 x4) := by
  simp (disch := omega) only [fX4_find_b15, ↓ol_n, ↓ol_su, ↓ol_up, ↓mo_ol, ↓mo_obp, ↓mo_og, ↓mo_ite, ↓ox_fX4_leastBehind, mix_lo, mo_some, mo_none, hsf_15, rx_fX4_leastBehind, rx_fX4_find_b98, rx_fX4_find_h23, cl_0]
theorem rx_fX4_find_h15 (ρ : S0)   : ∀ (n : Nat) (σ : S0) (x1 : Int32) (x2 : Int32) (x3 : Int32) (x4 : Int32), fX4_find_h15  n (mix σ ρ) x1 x2 x3 x4 = mo ρ (fX4_find_h15  n σ x1 x2 x3 x4)
  | 0, _, _, _, _, _ => rfl
  | n + 1, σ, x1, x2, x3, x4 => rx_fX4_find_b15 ρ  (fX4_find_h15  n)  (rx_fX4_find_h15 ρ   n) σ x1 x2 x3 x4 
theorem rx_fX4_find (ρ : S0)   (σ : S0) (x1 : Int32) (x2 : Int32)  : fX4_find  (mix σ ρ) x1 x2 = mo ρ (fX4_find  σ x1 x2) := by
  simp (disch := omega) only [fX4_find, ↓ol_n, ↓ol_su, ↓ol_up, ↓mo_ol, ↓mo_obp, ↓mo_og, ↓mo_ite, mix_lo, mo_some, mo_none, rx_fX4_find_h15]
theorem ox_fX4_find (ρ : S0) (σ : S0) (x1 : Int32) (x2 : Int32)  (kk : Int32 → S0 → Option (Int32 × S0)) : obp (fX4_find (mix σ ρ) x1 x2) kk = obp (fX4_find σ x1 x2) (fun r s => kk r (mix s ρ)) := by
  rw [rx_fX4_find ρ σ x1 x2 , obp_mo]
theorem rx_fX3_refusedBy_b53 (ρ : S0) (sf_4 : S0 → Int32 → Int32 → Int32 → Option (Int32 × S0)) (hsf_4 : ∀ (σ : S0) (a0 : Int32) (a1 : Int32) (a2 : Int32), sf_4 (mix σ ρ) a0 a1 a2 = mo ρ (sf_4 σ a0 a1 a2)) (σ : S0) (x1 : Int32) (x2 : Int32) (x3 : Int32)  : fX3_refusedBy_b53 sf_4 (mix σ ρ) x1 x2 x3 = mo ρ (fX3_refusedBy_b53 sf_4 σ x1 x2 x3) := by
  simp (disch := omega) only [fX3_refusedBy_b53, ↓ol_n, ↓ol_su, ↓ol_up, ↓mo_ol, ↓mo_obp, ↓mo_og, ↓mo_ite, mix_lo, mo_some, mo_none, hsf_4]
theorem rx_fX3_refusedBy_b4 (ρ : S0) (sf_4 : S0 → Int32 → Int32 → Int32 → Option (Int32 × S0)) (hsf_4 : ∀ (σ : S0) (a0 : Int32) (a1 : Int32) (a2 : Int32), sf_4 (mix σ ρ) a0 a1 a2 = mo ρ (sf_4 σ a0 a1 a2)) (σ : S0) (x1 : Int32) (x2 : Int32) (x3 : Int32)  : fX3_refusedBy_b4 sf_4 (mix σ ρ) x1 x2 x3 = mo ρ (fX3_refusedBy_b4 sf_4 σ x1 x2 x3) := by
  by_cases g0 : (x1 < 0 ∨ 6 ≤ x1.toNatClampNeg)
  · simp (disch := omega) only [fX3_refusedBy_b4, ↓ol_n, ↓ol_su, ↓ol_up, ↓mo_ol, ↓mo_obp, ↓mo_og, ↓mo_ite, mix_lo, mo_some, mo_none, hsf_4, rx_fX3_refusedBy_b53, og_g g0]
  · have h0 : x1.toNatClampNeg < 6 := by omega
    simp (disch := omega) only [fX3_refusedBy_b4, ↓ol_n, ↓ol_su, ↓ol_up, ↓mo_ol, ↓mo_obp, ↓mo_og, ↓mo_ite, mix_lo, mo_some, mo_none, hsf_4, rx_fX3_refusedBy_b53]
theorem rx_fX3_refusedBy_h4 (ρ : S0)   : ∀ (n : Nat) (σ : S0) (x1 : Int32) (x2 : Int32) (x3 : Int32), fX3_refusedBy_h4  n (mix σ ρ) x1 x2 x3 = mo ρ (fX3_refusedBy_h4  n σ x1 x2 x3)
  | 0, _, _, _, _ => rfl
  | n + 1, σ, x1, x2, x3 => rx_fX3_refusedBy_b4 ρ  (fX3_refusedBy_h4  n)  (rx_fX3_refusedBy_h4 ρ   n) σ x1 x2 x3 
theorem rx_fX3_refusedBy (ρ : S0)   (σ : S0) (x1 : Int32)  : fX3_refusedBy  (mix σ ρ) x1 = mo ρ (fX3_refusedBy  σ x1) := by
  simp (disch := omega) only [fX3_refusedBy, ↓ol_n, ↓ol_su, ↓ol_up, ↓mo_ol, ↓mo_obp, ↓mo_og, ↓mo_ite, mix_lo, mo_some, mo_none, rx_fX3_refusedBy_h4]
theorem ox_fX3_refusedBy (ρ : S0) (σ : S0) (x1 : Int32)  (kk : Int32 → S0 → Option (Int32 × S0)) : obp (fX3_refusedBy (mix σ ρ) x1) kk = obp (fX3_refusedBy σ x1) (fun r s => kk r (mix s ρ)) := by
  rw [rx_fX3_refusedBy ρ σ x1 , obp_mo]
theorem rx_fX3_canBe_b96 (ρ : S0) (sf_25 : S0 → Int32 → Int32 → Int32 → Option (Int32 × S0)) (hsf_25 : ∀ (σ : S0) (a0 : Int32) (a1 : Int32) (a2 : Int32), sf_25 (mix σ ρ) a0 a1 a2 = mo ρ (sf_25 σ a0 a1 a2)) (σ : S0) (x1 : Int32) (x3 : Int32) (t0 : Int32) (t1 : Int32)  : fX3_canBe_b96 sf_25 (mix σ ρ) x1 x3 t0 t1 = mo ρ (fX3_canBe_b96 sf_25 σ x1 x3 t0 t1) := by
  simp (disch := omega) only [fX3_canBe_b96, ↓ol_n, ↓ol_su, ↓ol_up, ↓mo_ol, ↓mo_obp, ↓mo_og, ↓mo_ite, mix_lo, mo_some, mo_none, hsf_25]
theorem rx_fX3_canBe_b72 (ρ : S0) (sf_25 : S0 → Int32 → Int32 → Int32 → Option (Int32 × S0)) (hsf_25 : ∀ (σ : S0) (a0 : Int32) (a1 : Int32) (a2 : Int32), sf_25 (mix σ ρ) a0 a1 a2 = mo ρ (sf_25 σ a0 a1 a2)) (σ : S0) (x1 : Int32) (x2 : Int32) (x3 : Int32) (x4 : Int32)  : fX3_canBe_b72 sf_25 (mix σ ρ) x1 x2 x3 x4 = mo ρ (fX3_canBe_b72 sf_25 σ x1 x2 x3 x4) := by
  simp (disch := omega) only [fX3_canBe_b72, ↓ol_n, ↓ol_su, ↓ol_up, ↓mo_ol, ↓mo_obp, ↓mo_og, ↓mo_ite, mix_lo, mo_some, mo_none, hsf_25, rx_fX3_canBe_b96]
theorem rx_fX3_canBe_b25 (ρ : S0) (sf_25 : S0 → Int32 → Int32 → Int32 → Option (Int32 × S0)) (hsf_25 : ∀ (σ : S0) (a0 : Int32) (a1 : Int32) (a2 : Int32), sf_25 (mix σ ρ) a0 a1 a2 = mo ρ (sf_25 σ a0 a1 a2)) (σ : S0) (x1 : Int32) (x2 : Int32) (x3 : Int32)  : fX3_canBe_b25 sf_25 (mix σ ρ) x1 x2 x3 = mo ρ (fX3_canBe_b25 sf_25 σ x1 x2 x3) := by
  by_cases g0 : (x1 < 0 ∨ 6 ≤ x1.toNatClampNeg)
  · simp (disch := omega) only [fX3_canBe_b25, ↓ol_n, ↓ol_su, ↓ol_up, ↓mo_ol, ↓mo_obp, ↓mo_og, ↓mo_ite, ↓ox_fX3_refusedBy, mix_lo, mo_some, mo_none, hsf_25, rx_fX3_refusedBy, rx_fX3_canBe_b72, og_g g0]
  · have h0 : x1.toNatClampNeg < 6 := by omega
    simp (disch := omega) only [fX3_canBe_b25, ↓ol_n, ↓ol_su, ↓ol_up, ↓mo_ol, ↓mo_obp, ↓mo_og, ↓mo_ite, ↓ox_fX3_refusedBy, mix_lo, mo_some, mo_none, hsf_25, rx_fX3_refusedBy, rx_fX3_canBe_b72]
theorem rx_fX3_canBe_h25 (ρ : S0)   : ∀ (n : Nat) (σ : S0) (x1 : Int32) (x2 : Int32) (x3 : Int32), fX3_canBe_h25  n (mix σ ρ) x1 x2 x3 = mo ρ (fX3_canBe_h25  n σ x1 x2 x3)
  | 0, _, _, _, _ => rfl
  | n + 1, σ, x1, x2, x3 => rx_fX3_canBe_b25 ρ  (fX3_canBe_h25  n)  (rx_fX3_canBe_h25 ρ   n) σ x1 x2 x3 
theorem rx_fX3_canBe (ρ : S0)   (σ : S0) (x1 : Int32)  : fX3_canBe  (mix σ ρ) x1 = mo ρ (fX3_canBe  σ x1) := by
  simp (disch := omega) only [fX3_canBe, ↓ol_n, ↓ol_su, ↓ol_up, ↓mo_ol, ↓mo_obp, ↓mo_og, ↓mo_ite, mix_lo, mo_some, mo_none, rx_fX3_canBe_h25]
theorem ox_fX3_canBe (ρ : S0) (σ : S0) (x1 : Int32)  (kk : Int32 → S0 → Option (Int32 × S0)) : obp (fX3_canBe (mix σ ρ) x1) kk = obp (fX3_canBe σ x1) (fun r s => kk r (mix s ρ)) := by
  rw [rx_fX3_canBe ρ σ x1 , obp_mo]
theorem rx_fX3_addFitting_b28 (ρ : S0)   (σ : S0) (x2 : Int32)  : fX3_addFitting_b28  (mix σ ρ) x2 = mo ρ (fX3_addFitting_b28  σ x2) := by
  simp (disch := omega) only [fX3_addFitting_b28, ↓ol_n, ↓ol_su, ↓ol_up, ↓mo_ol, ↓mo_obp, ↓mo_og, ↓mo_ite, mix_lo, mo_some, mo_none]
theorem rx_fX3_addFitting (ρ : S0)   (σ : S0) (x1 : Int32)  : fX3_addFitting  (mix σ ρ) x1 = mo ρ (fX3_addFitting  σ x1) := by
  simp (disch := omega) only [fX3_addFitting, ↓ol_n, ↓ol_su, ↓ol_up, ↓mo_ol, ↓mo_obp, ↓mo_og, ↓mo_ite, ↓ox_fX3_refusedBy, mix_lo, mo_some, mo_none, rx_fX3_refusedBy, rx_fX3_addFitting_b28]
theorem ox_fX3_addFitting (ρ : S0) (σ : S0) (x1 : Int32)  (kk : Int32 → S0 → Option (Int32 × S0)) : obp (fX3_addFitting (mix σ ρ) x1) kk = obp (fX3_addFitting σ x1) (fun r s => kk r (mix s ρ)) := by
  rw [rx_fX3_addFitting ρ σ x1 , obp_mo]
theorem rx_fX3_compareAll_b31 (ρ : S0) (sf_7 : S0 → Int32 → Option (Int32 × S0)) (hsf_7 : ∀ (σ : S0) (a0 : Int32), sf_7 (mix σ ρ) a0 = mo ρ (sf_7 σ a0)) (σ : S0) (x1 : Int32)  : fX3_compareAll_b31 sf_7 (mix σ ρ) x1 = mo ρ (fX3_compareAll_b31 sf_7 σ x1) := by
  simp (disch := omega) only [fX3_compareAll_b31, ↓ol_n, ↓ol_su, ↓ol_up, ↓mo_ol, ↓mo_obp, ↓mo_og, ↓mo_ite, mix_lo, mo_some, mo_none, hsf_7]
theorem rx_fX3_compareAll_b7 (ρ : S0) (sf_7 : S0 → Int32 → Option (Int32 × S0)) (hsf_7 : ∀ (σ : S0) (a0 : Int32), sf_7 (mix σ ρ) a0 = mo ρ (sf_7 σ a0)) (σ : S0) (x1 : Int32)  : fX3_compareAll_b7 sf_7 (mix σ ρ) x1 = mo ρ (fX3_compareAll_b7 sf_7 σ x1) := by
  simp (disch := omega) only [fX3_compareAll_b7, ↓ol_n, ↓ol_su, ↓ol_up, ↓mo_ol, ↓mo_obp, ↓mo_og, ↓mo_ite, ↓ox_fX3_canBe, ↓ox_fX3_addFitting, mix_lo, mo_some, mo_none, hsf_7, rx_fX3_canBe, rx_fX3_compareAll_b31, rx_fX3_addFitting]
theorem rx_fX3_compareAll_h7 (ρ : S0)   : ∀ (n : Nat) (σ : S0) (x1 : Int32), fX3_compareAll_h7  n (mix σ ρ) x1 = mo ρ (fX3_compareAll_h7  n σ x1)
  | 0, _, _ => rfl
  | n + 1, σ, x1 => rx_fX3_compareAll_b7 ρ  (fX3_compareAll_h7  n)  (rx_fX3_compareAll_h7 ρ   n) σ x1 
theorem rx_fX3_compareAll (ρ : S0)   (σ : S0)   : fX3_compareAll  (mix σ ρ)  = mo ρ (fX3_compareAll  σ ) := by
  simp (disch := omega) only [fX3_compareAll, ↓ol_n, ↓ol_su, ↓ol_up, ↓mo_ol, ↓mo_obp, ↓mo_og, ↓mo_ite, mix_lo, mo_some, mo_none, rx_fX3_compareAll_h7]
theorem ox_fX3_compareAll (ρ : S0) (σ : S0)   (kk : Int32 → S0 → Option (Int32 × S0)) : obp (fX3_compareAll (mix σ ρ) ) kk = obp (fX3_compareAll σ ) (fun r s => kk r (mix s ρ)) := by
  rw [rx_fX3_compareAll ρ σ  , obp_mo]
theorem rx_fX5_refuse (ρ : S0)   (σ : S0) (x1 : Int32)  : fX5_refuse  (mix σ ρ) x1 = mo ρ (fX5_refuse  σ x1) := by
  simp (disch := omega) only [fX5_refuse, ↓ol_n, ↓ol_su, ↓ol_up, ↓mo_ol, ↓mo_obp, ↓mo_og, ↓mo_ite, mix_lo, mo_some, mo_none]
theorem ox_fX5_refuse (ρ : S0) (σ : S0) (x1 : Int32)  (kk : Int32 → S0 → Option (Int32 × S0)) : obp (fX5_refuse (mix σ ρ) x1) kk = obp (fX5_refuse σ x1) (fun r s => kk r (mix s ρ)) := by
  rw [rx_fX5_refuse ρ σ x1 , obp_mo]
theorem rx_fX5_advance_b26 (ρ : S0)   (σ : S0)   : fX5_advance_b26  (mix σ ρ)  = mo ρ (fX5_advance_b26  σ ) := by
  simp (disch := omega) only [fX5_advance_b26, ↓ol_n, ↓ol_su, ↓ol_up, ↓mo_ol, ↓mo_obp, ↓mo_og, ↓mo_ite, mix_lo, mo_some, mo_none]
theorem rx_fX5_advance (ρ : S0)   (σ : S0)   : fX5_advance  (mix σ ρ)  = mo ρ (fX5_advance  σ ) := by
  simp (disch := omega) only [fX5_advance, ↓ol_n, ↓ol_su, ↓ol_up, ↓mo_ol, ↓mo_obp, ↓mo_og, ↓mo_ite, ↓ox_fX8_readToken, ↓ox_fX5_refuse, mix_lo, mo_some, mo_none, rx_fX8_readToken, rx_fX5_advance_b26, rx_fX5_refuse]
theorem ox_fX5_advance (ρ : S0) (σ : S0)   (kk : Int32 → S0 → Option (Int32 × S0)) : obp (fX5_advance (mix σ ρ) ) kk = obp (fX5_advance σ ) (fun r s => kk r (mix s ρ)) := by
  rw [rx_fX5_advance ρ σ  , obp_mo]
theorem rx_fX5_faultOfNumber_b48 (ρ : S0)   (σ : S0)   : fX5_faultOfNumber_b48  (mix σ ρ)  = mo ρ (fX5_faultOfNumber_b48  σ ) := by
  simp (disch := omega) only [fX5_faultOfNumber_b48, ↓ol_n, ↓ol_su, ↓ol_up, ↓mo_ol, ↓mo_obp, ↓mo_og, ↓mo_ite, mix_lo, mo_some, mo_none]
theorem rx_fX5_faultOfNumber (ρ : S0)   (σ : S0) (x1 : Int32) (x2 : Int32)  : fX5_faultOfNumber  (mix σ ρ) x1 x2 = mo ρ (fX5_faultOfNumber  σ x1 x2) := by
  simp (disch := omega) only [fX5_faultOfNumber, ↓ol_n, ↓ol_su, ↓ol_up, ↓mo_ol, ↓mo_obp, ↓mo_og, ↓mo_ite, mix_lo, mo_some, mo_none, rx_fX5_faultOfNumber_b48]
theorem ox_fX5_faultOfNumber (ρ : S0) (σ : S0) (x1 : Int32) (x2 : Int32)  (kk : Int32 → S0 → Option (Int32 × S0)) : obp (fX5_faultOfNumber (mix σ ρ) x1 x2) kk = obp (fX5_faultOfNumber σ x1 x2) (fun r s => kk r (mix s ρ)) := by
  rw [rx_fX5_faultOfNumber ρ σ x1 x2 , obp_mo]
theorem rx_fX5_nextNumber_b26 (ρ : S0)   (σ : S0)   : fX5_nextNumber_b26  (mix σ ρ)  = mo ρ (fX5_nextNumber_b26  σ ) := by
  simp (disch := omega) only [fX5_nextNumber_b26, ↓ol_n, ↓ol_su, ↓ol_up, ↓mo_ol, ↓mo_obp, ↓mo_og, ↓mo_ite, mix_lo, mo_some, mo_none]
theorem rx_fX5_nextNumber (ρ : S0)   (σ : S0) (x1 : Int32) (x2 : Int32)  : fX5_nextNumber  (mix σ ρ) x1 x2 = mo ρ (fX5_nextNumber  σ x1 x2) := by
  simp (disch := omega) only [fX5_nextNumber, ↓ol_n, ↓ol_su, ↓ol_up, ↓mo_ol, ↓mo_obp, ↓mo_og, ↓mo_ite, ↓ox_fX8_readToken, ↓ox_fX5_faultOfNumber, ↓ox_fX5_refuse, mix_lo, mo_some, mo_none, rx_fX8_readToken, rx_fX5_faultOfNumber, rx_fX5_nextNumber_b26, rx_fX5_refuse]
theorem ox_fX5_nextNumber (ρ : S0) (σ : S0) (x1 : Int32) (x2 : Int32)  (kk : Int32 → S0 → Option (Int32 × S0)) : obp (fX5_nextNumber (mix σ ρ) x1 x2) kk = obp (fX5_nextNumber σ x1 x2) (fun r s => kk r (mix s ρ)) := by
  rw [rx_fX5_nextNumber ρ σ x1 x2 , obp_mo]
theorem rx_fX5_endLine (ρ : S0)   (σ : S0)   : fX5_endLine  (mix σ ρ)  = mo ρ (fX5_endLine  σ ) := by
  simp (disch := omega) only [fX5_endLine, ↓ol_n, ↓ol_su, ↓ol_up, ↓mo_ol, ↓mo_obp, ↓mo_og, ↓mo_ite, ↓ox_fX5_refuse, ↓ox_fX5_advance, mix_lo, mo_some, mo_none, rx_fX5_refuse, rx_fX5_advance]
theorem ox_fX5_endLine (ρ : S0) (σ : S0)   (kk : Int32 → S0 → Option (Int32 × S0)) : obp (fX5_endLine (mix σ ρ) ) kk = obp (fX5_endLine σ ) (fun r s => kk r (mix s ρ)) := by
  rw [rx_fX5_endLine ρ σ  , obp_mo]
theorem rx_fX5_readHouses (ρ : S0)   (σ : S0)   : fX5_readHouses  (mix σ ρ)  = mo ρ (fX5_readHouses  σ ) := by
  simp (disch := omega) only [fX5_readHouses, ↓ol_n, ↓ol_su, ↓ol_up, ↓mo_ol, ↓mo_obp, ↓mo_og, ↓mo_ite, ↓ox_fX5_nextNumber, ↓ox_fX5_advance, ↓ox_fX5_endLine, ↓ox_fX5_refuse, mix_lo, mo_some, mo_none, rx_fX5_nextNumber, rx_fX5_advance, rx_fX5_endLine, rx_fX5_refuse]
theorem ox_fX5_readHouses (ρ : S0) (σ : S0)   (kk : Int32 → S0 → Option (Int32 × S0)) : obp (fX5_readHouses (mix σ ρ) ) kk = obp (fX5_readHouses σ ) (fun r s => kk r (mix s ρ)) := by
  rw [rx_fX5_readHouses ρ σ  , obp_mo]
theorem rx_fX5_readGap (ρ : S0)   (σ : S0)   : fX5_readGap  (mix σ ρ)  = mo ρ (fX5_readGap  σ ) := by
  simp (disch := omega) only [fX5_readGap, ↓ol_n, ↓ol_su, ↓ol_up, ↓mo_ol, ↓mo_obp, ↓mo_og, ↓mo_ite, ↓ox_fX5_nextNumber, ↓ox_fX5_advance, ↓ox_fX5_endLine, ↓ox_fX5_refuse, mix_lo, mo_some, mo_none, rx_fX5_nextNumber, rx_fX5_advance, rx_fX5_endLine, rx_fX5_refuse]
theorem ox_fX5_readGap (ρ : S0) (σ : S0)   (kk : Int32 → S0 → Option (Int32 × S0)) : obp (fX5_readGap (mix σ ρ) ) kk = obp (fX5_readGap σ ) (fun r s => kk r (mix s ρ)) := by
  rw [rx_fX5_readGap ρ σ  , obp_mo]
theorem rx_fX5_readWiths_b65 (ρ : S0)   (σ : S0)   : fX5_readWiths_b65  (mix σ ρ)  = mo ρ (fX5_readWiths_b65  σ ) := by
  simp (disch := omega) only [fX5_readWiths_b65, ↓ol_n, ↓ol_su, ↓ol_up, ↓mo_ol, ↓mo_obp, ↓mo_og, ↓mo_ite, ↓ox_fX5_refuse, mix_lo, mo_some, mo_none, rx_fX5_refuse]
theorem rx_fX5_readWiths_b132 (ρ : S0) (sf_2 : S0 → Nat → Int32 → Int32 → Option (Int32 × S0)) (hsf_2 : ∀ (σ : S0) (a0 : Nat) (a1 : Int32) (a2 : Int32), a0 < 83 → sf_2 (mix σ ρ) a0 a1 a2 = mo ρ (sf_2 σ a0 a1 a2)) (σ : S0) (x1 : Nat) (x2 : Int32) (x3 : Int32) (cx1 : x1 < 83) : fX5_readWiths_b132 sf_2 (mix σ ρ) x1 x2 x3 = mo ρ (fX5_readWiths_b132 sf_2 σ x1 x2 x3) := by
  simp (disch := omega) only [fX5_readWiths_b132, ↓ol_n, ↓ol_su, ↓ol_up, ↓mo_ol, ↓mo_obp, ↓mo_og, ↓mo_ite, ↓ox_fX5_advance, mix_lo, mo_some, mo_none, hsf_2, rx_fX5_advance]
theorem rx_fX5_readWiths_b71 (ρ : S0) (sf_2 : S0 → Nat → Int32 → Int32 → Option (Int32 × S0)) (hsf_2 : ∀ (σ : S0) (a0 : Nat) (a1 : Int32) (a2 : Int32), a0 < 83 → sf_2 (mix σ ρ) a0 a1 a2 = mo ρ (sf_2 σ a0 a1 a2)) (σ : S0) (x1 : Nat) (x2 : Int32) (x3 : Int32) (x4 : Int32) (cx1 : x1 < 83) : fX5_readWiths_b71 sf_2 (mix σ ρ) x1 x2 x3 x4 = mo ρ (fX5_readWiths_b71 sf_2 σ x1 x2 x3 x4) := by
  simp (disch := omega) only [fX5_readWiths_b71, ↓ol_n, ↓ol_su, ↓ol_up, ↓mo_ol, ↓mo_obp, ↓mo_og, ↓mo_ite, ↓ox_fX5_nextNumber, ↓ox_fX5_refuse, mix_lo, mo_some, mo_none, hsf_2, rx_fX5_nextNumber, rx_fX5_readWiths_b132, rx_fX5_refuse]
theorem rx_fX5_readWiths_b37 (ρ : S0) (sf_2 : S0 → Nat → Int32 → Int32 → Option (Int32 × S0)) (hsf_2 : ∀ (σ : S0) (a0 : Nat) (a1 : Int32) (a2 : Int32), a0 < 83 → sf_2 (mix σ ρ) a0 a1 a2 = mo ρ (sf_2 σ a0 a1 a2)) (σ : S0) (x1 : Nat) (x2 : Int32) (x3 : Int32) (x4 : Int32) (cx1 : x1 < 83) : fX5_readWiths_b37 sf_2 (mix σ ρ) x1 x2 x3 x4 = mo ρ (fX5_readWiths_b37 sf_2 σ x1 x2 x3 x4) := by
  simp (disch := omega) only [fX5_readWiths_b37, ↓ol_n, ↓ol_su, ↓ol_up, ↓mo_ol, ↓mo_obp, ↓mo_og, ↓mo_ite, mix_lo, mo_some, mo_none, hsf_2, rx_fX5_readWiths_b71, rx_fX5_readWiths_b65]
theorem rx_fX5_readWiths_b2 (ρ : S0) (sf_2 : S0 → Nat → Int32 → Int32 → Option (Int32 × S0)) (hsf_2 : ∀ (σ : S0) (a0 : Nat) (a1 : Int32) (a2 : Int32), a0 < 83 → sf_2 (mix σ ρ) a0 a1 a2 = mo ρ (sf_2 σ a0 a1 a2)) (σ : S0) (x1 : Nat) (x2 : Int32) (x3 : Int32) (cx1 : x1 < 83) : fX5_readWiths_b2 sf_2 (mix σ ρ) x1 x2 x3 = mo ρ (fX5_readWiths_b2 sf_2 σ x1 x2 x3) := by
  simp (disch := omega) only [fX5_readWiths_b2, ↓ol_n, ↓ol_su, ↓ol_up, ↓mo_ol, ↓mo_obp, ↓mo_og, ↓mo_ite, ↓ox_fX8_isName, mix_lo, mo_some, mo_none, hsf_2, rx_fX8_isName, rx_fX5_readWiths_b37]
