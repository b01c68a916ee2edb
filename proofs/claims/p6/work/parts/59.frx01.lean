theorem rx_fX8_readToken_b226 (ρ : S0)   (σ : S0) (t0 : Int32)  : fX8_readToken_b226  (mix σ ρ) t0 = mo ρ (fX8_readToken_b226  σ t0) := by
  simp (disch := omega) only [fX8_readToken_b226, ↓ol_n, ↓ol_su, ↓ol_up, ↓mo_ol, ↓mo_obp, ↓mo_og, ↓mo_ite, mix_lo, mo_some, mo_none]
theorem rx_fX8_readToken_b267 (ρ : S0)   (σ : S0) (t0 : Int32)  : fX8_readToken_b267  (mix σ ρ) t0 = mo ρ (fX8_readToken_b267  σ t0) := by
  simp (disch := omega) only [fX8_readToken_b267, ↓ol_n, ↓ol_su, ↓ol_up, ↓mo_ol, ↓mo_obp, ↓mo_og, ↓mo_ite, mix_lo, mo_some, mo_none]
theorem rx_fX8_readToken_b196 (ρ : S0)   (σ : S0)   : fX8_readToken_b196  (mix σ ρ)  = mo ρ (fX8_readToken_b196  σ ) := by
  simp (disch := omega) only [fX8_readToken_b196, ↓ol_n, ↓ol_su, ↓ol_up, ↓mo_ol, ↓mo_obp, ↓mo_og, ↓mo_ite, mix_lo, mo_some, mo_none, rx_fX8_readToken_b267, rx_fX8_readToken_b226]
theorem rx_fX8_readToken_b120 (ρ : S0) (sf_120 : S0 → Option (Int32 × S0)) (hsf_120 : ∀ (σ : S0) , sf_120 (mix σ ρ)  = mo ρ (sf_120 σ )) (σ : S0)   : fX8_readToken_b120 sf_120 (mix σ ρ)  = mo ρ (fX8_readToken_b120 sf_120 σ ) := by
  simp (disch := omega) only [fX8_readToken_b120, ↓ol_n, ↓ol_su, ↓ol_up, ↓mo_ol, ↓mo_obp, ↓mo_og, ↓mo_ite, mix_lo, mo_some, mo_none, hsf_120, rx_fX8_readToken_b196]
theorem rx_fX8_readToken_h120 (ρ : S0)   : ∀ (n : Nat) (σ : S0) , fX8_readToken_h120  n (mix σ ρ)  = mo ρ (fX8_readToken_h120  n σ )
  | 0, _ => rfl
  | n + 1, σ => rx_fX8_readToken_b120 ρ  (fX8_readToken_h120  n)  (rx_fX8_readToken_h120 ρ   n) σ  
theorem rx_fX8_readToken_b103 (ρ : S0)   (σ : S0)   : fX8_readToken_b103  (mix σ ρ)  = mo ρ (fX8_readToken_b103  σ ) := by
  simp (disch := omega) only [fX8_readToken_b103, ↓ol_n, ↓ol_su, ↓ol_up, ↓mo_ol, ↓mo_obp, ↓mo_og, ↓mo_ite, mix_lo, mo_some, mo_none, rx_fX8_readToken_h120]
theorem rx_fX8_readToken_b51 (ρ : S0) (sf_51 : S0 → Option (Int32 × S0)) (hsf_51 : ∀ (σ : S0) , sf_51 (mix σ ρ)  = mo ρ (sf_51 σ )) (σ : S0)   : fX8_readToken_b51 sf_51 (mix σ ρ)  = mo ρ (fX8_readToken_b51 sf_51 σ ) := by
  simp (disch := omega) only [fX8_readToken_b51, ↓ol_n, ↓ol_su, ↓ol_up, ↓mo_ol, ↓mo_obp, ↓mo_og, ↓mo_ite, mix_lo, mo_some, mo_none, hsf_51, rx_fX8_readToken_b103]
theorem rx_fX8_readToken_h51 (ρ : S0)   : ∀ (n : Nat) (σ : S0) , fX8_readToken_h51  n (mix σ ρ)  = mo ρ (fX8_readToken_h51  n σ )
  | 0, _ => rfl
  | n + 1, σ => rx_fX8_readToken_b51 ρ  (fX8_readToken_h51  n)  (rx_fX8_readToken_h51 ρ   n) σ  
theorem rx_fX8_readToken_b38 (ρ : S0)   (σ : S0)   : fX8_readToken_b38  (mix σ ρ)  = mo ρ (fX8_readToken_b38  σ ) := by
  simp (disch := omega) only [fX8_readToken_b38, ↓ol_n, ↓ol_su, ↓ol_up, ↓mo_ol, ↓mo_obp, ↓mo_og, ↓mo_ite, mix_lo, mo_some, mo_none, rx_fX8_readToken_h51]
theorem rx_fX8_readToken_b0 (ρ : S0) (sf_0 : S0 → Option (Int32 × S0)) (hsf_0 : ∀ (σ : S0) , sf_0 (mix σ ρ)  = mo ρ (sf_0 σ )) (σ : S0)   : fX8_readToken_b0 sf_0 (mix σ ρ)  = mo ρ (fX8_readToken_b0 sf_0 σ ) := by
  simp (disch := omega) only [fX8_readToken_b0, ↓ol_n, ↓ol_su, ↓ol_up, ↓mo_ol, ↓mo_obp, ↓mo_og, ↓mo_ite, mix_lo, mo_some, mo_none, hsf_0, rx_fX8_readToken_b38]
theorem rx_fX8_readToken_h0 (ρ : S0)   : ∀ (n : Nat) (σ : S0) , fX8_readToken_h0  n (mix σ ρ)  = mo ρ (fX8_readToken_h0  n σ )
  | 0, _ => rfl
  | n + 1, σ => rx_fX8_readToken_b0 ρ  (fX8_readToken_h0  n)  (rx_fX8_readToken_h0 ρ   n) σ  
theorem rx_fX8_readToken (ρ : S0)   (σ : S0)   : fX8_readToken  (mix σ ρ)  = mo ρ (fX8_readToken  σ ) := by
  simp (disch := omega) only [fX8_readToken, ↓ol_n, ↓ol_su, ↓ol_up, ↓mo_ol, ↓mo_obp, ↓mo_og, ↓mo_ite, mix_lo, mo_some, mo_none, rx_fX8_readToken_h0]
theorem ox_fX8_readToken (ρ : S0) (σ : S0)   (kk : Int32 → S0 → Option (Int32 × S0)) : obp (fX8_readToken (mix σ ρ) ) kk = obp (fX8_readToken σ ) (fun r s => kk r (mix s ρ)) := by
  rw [rx_fX8_readToken ρ σ  , obp_mo]
theorem rx_fX8_isName_b28 (ρ : S0) (sf_28 : S0 → Nat → Int32 → Option (Int32 × S0)) (hsf_28 : ∀ (σ : S0) (a0 : Nat) (a1 : Int32), sf_28 (mix σ ρ) a0 a1 = mo ρ (sf_28 σ a0 a1)) (σ : S0) (i1 : Nat) (x2 : Int32)  : fX8_isName_b28 sf_28 (mix σ ρ) i1 x2 = mo ρ (fX8_isName_b28 sf_28 σ i1 x2) := by
  simp (disch := omega) only [fX8_isName_b28, ↓ol_n, ↓ol_su, ↓ol_up, ↓mo_ol, ↓mo_obp, ↓mo_og, ↓mo_ite, ↓ox_fJ0_length_8abf5, ↓ox_fJ0_charAt_5068e, mix_lo, mo_some, mo_none, hsf_28, rx_fJ0_length_8abf5, rx_fJ0_charAt_5068e]
theorem rx_fX8_isName_h28 (ρ : S0)   : ∀ (n : Nat) (σ : S0) (i1 : Nat) (x2 : Int32), fX8_isName_h28  n (mix σ ρ) i1 x2 = mo ρ (fX8_isName_h28  n σ i1 x2)
  | 0, _, _, _ => rfl
  | n + 1, σ, i1, x2 => rx_fX8_isName_b28 ρ  (fX8_isName_h28  n)  (rx_fX8_isName_h28 ρ   n) σ i1 x2 
theorem rx_fX8_isName (ρ : S0)   (σ : S0) (i1 : Nat)  : fX8_isName  (mix σ ρ) i1 = mo ρ (fX8_isName  σ i1) := by
  simp (disch := omega) only [fX8_isName, ↓ol_n, ↓ol_su, ↓ol_up, ↓mo_ol, ↓mo_obp, ↓mo_og, ↓mo_ite, ↓ox_fJ0_length_8abf5, mix_lo, mo_some, mo_none, rx_fJ0_length_8abf5, rx_fX8_isName_h28]
theorem ox_fX8_isName (ρ : S0) (σ : S0) (i1 : Nat)  (kk : Int32 → S0 → Option (Int32 × S0)) : obp (fX8_isName (mix σ ρ) i1) kk = obp (fX8_isName σ i1) (fun r s => kk r (mix s ρ)) := by
  rw [rx_fX8_isName ρ σ i1 , obp_mo]
theorem rx_fX9_empty (ρ : S0)   (σ : S0) (k : Nat) (ck : k < 23) : fX9_empty  (mix σ ρ) k = mo ρ (fX9_empty  σ k) := by
  simp (disch := omega) only [fX9_empty, ↓ol_n, ↓ol_su, ↓ol_up, ↓mo_ol, ↓mo_obp, ↓mo_og, ↓mo_ite, ↓ox_fX1_empty, mix_lo, mo_some, mo_none, rx_fX1_empty]
theorem ox_fX9_empty (ρ : S0) (σ : S0) (k : Nat) (ck : k < 23) (kk : Int32 → S0 → Option (Int32 × S0)) : obp (fX9_empty (mix σ ρ) k) kk = obp (fX9_empty σ k) (fun r s => kk r (mix s ρ)) := by
  rw [rx_fX9_empty ρ σ k ck, obp_mo]
theorem rx_fX9_copyFrom_b56 (ρ : S0) (sf_56 : S0 → Nat → Nat → Int32 → Option (Int32 × S0)) (hsf_56 : ∀ (σ : S0) (a0 : Nat) (a1 : Nat) (a2 : Int32), a0 < 23 → a1 < 23 → sf_56 (mix σ ρ) a0 a1 a2 = mo ρ (sf_56 σ a0 a1 a2)) (σ : S0) (k : Nat) (x1 : Nat) (x2 : Int32) (ck : k < 23) (cx1 : x1 < 23) : fX9_copyFrom_b56 sf_56 (mix σ ρ) k x1 x2 = mo ρ (fX9_copyFrom_b56 sf_56 σ k x1 x2) := by
  by_cases g0 : (x2 < 0 ∨ 6 ≤ x2.toNatClampNeg)
  · simp (disch := omega) only [fX9_copyFrom_b56, ↓ol_n, ↓ol_su, ↓ol_up, ↓mo_ol, ↓mo_obp, ↓mo_og, ↓mo_ite, ↓ox_fX1_copyFrom, mix_lo, mo_some, mo_none, hsf_56, rx_fX1_copyFrom, og_g g0]
  · have h0 : x2.toNatClampNeg < 6 := by omega
    simp (disch := omega) only [fX9_copyFrom_b56, ↓ol_n, ↓ol_su, ↓ol_up, ↓mo_ol, ↓mo_obp, ↓mo_og, ↓mo_ite, ↓ox_fX1_copyFrom, mix_lo, mo_some, mo_none, hsf_56, rx_fX1_copyFrom]
theorem rx_fX9_copyFrom_h56 (ρ : S0)   : ∀ (n : Nat) (σ : S0) (k : Nat) (x1 : Nat) (x2 : Int32), k < 23 → x1 < 23 → fX9_copyFrom_h56  n (mix σ ρ) k x1 x2 = mo ρ (fX9_copyFrom_h56  n σ k x1 x2)
  | 0, _, _, _, _ => fun _ _ => rfl
  | n + 1, σ, k, x1, x2 => fun ck cx1 => rx_fX9_copyFrom_b56 ρ  (fX9_copyFrom_h56  n)  (rx_fX9_copyFrom_h56 ρ   n) σ k x1 x2 ck cx1
theorem rx_fX9_copyFrom (ρ : S0)   (σ : S0) (k : Nat) (k1 : Nat) (ck : k < 23) (ck1 : k1 < 23) : fX9_copyFrom  (mix σ ρ) k k1 = mo ρ (fX9_copyFrom  σ k k1) := by
  simp (disch := omega) only [fX9_copyFrom, ↓ol_n, ↓ol_su, ↓ol_up, ↓mo_ol, ↓mo_obp, ↓mo_og, ↓mo_ite, mix_lo, mo_some, mo_none, rx_fX9_copyFrom_h56]
theorem ox_fX9_copyFrom (ρ : S0) (σ : S0) (k : Nat) (k1 : Nat) (ck : k < 23) (ck1 : k1 < 23) (kk : Int32 → S0 → Option (Int32 × S0)) : obp (fX9_copyFrom (mix σ ρ) k k1) kk = obp (fX9_copyFrom σ k k1) (fun r s => kk r (mix s ρ)) := by
  rw [rx_fX9_copyFrom ρ σ k k1 ck ck1, obp_mo]
theorem rx_fX9_hasHouse (ρ : S0)   (σ : S0) (k : Nat) (x1 : Int32) (ck : k < 23) : fX9_hasHouse  (mix σ ρ) k x1 = mo ρ (fX9_hasHouse  σ k x1) := by
  simp (disch := omega) only [fX9_hasHouse, ↓ol_n, ↓ol_su, ↓ol_up, ↓mo_ol, ↓mo_obp, ↓mo_og, ↓mo_ite, mix_lo, mo_some, mo_none]
theorem ox_fX9_hasHouse (ρ : S0) (σ : S0) (k : Nat) (x1 : Int32) (ck : k < 23) (kk : Int32 → S0 → Option (Int32 × S0)) : obp (fX9_hasHouse (mix σ ρ) k x1) kk = obp (fX9_hasHouse σ k x1) (fun r s => kk r (mix s ρ)) := by
  rw [rx_fX9_hasHouse ρ σ k x1 ck, obp_mo]
theorem rx_fX9_hasTune (ρ : S0)   (σ : S0) (k : Nat) (x1 : Int32) (ck : k < 23) : fX9_hasTune  (mix σ ρ) k x1 = mo ρ (fX9_hasTune  σ k x1) := by
  simp (disch := omega) only [fX9_hasTune, ↓ol_n, ↓ol_su, ↓ol_up, ↓mo_ol, ↓mo_obp, ↓mo_og, ↓mo_ite, mix_lo, mo_some, mo_none]
theorem ox_fX9_hasTune (ρ : S0) (σ : S0) (k : Nat) (x1 : Int32) (ck : k < 23) (kk : Int32 → S0 → Option (Int32 × S0)) : obp (fX9_hasTune (mix σ ρ) k x1) kk = obp (fX9_hasTune σ k x1) (fun r s => kk r (mix s ρ)) := by
  rw [rx_fX9_hasTune ρ σ k x1 ck, obp_mo]
theorem rx_fX9_asksStroke (ρ : S0)   (σ : S0) (k : Nat) (x1 : Int32) (x2 : Int32) (ck : k < 23) : fX9_asksStroke  (mix σ ρ) k x1 x2 = mo ρ (fX9_asksStroke  σ k x1 x2) := by
  simp (disch := omega) only [fX9_asksStroke, ↓ol_n, ↓ol_su, ↓ol_up, ↓mo_ol, ↓mo_obp, ↓mo_og, ↓mo_ite, mix_lo, mo_some, mo_none]
theorem ox_fX9_asksStroke (ρ : S0) (σ : S0) (k : Nat) (x1 : Int32) (x2 : Int32) (ck : k < 23) (kk : Int32 → S0 → Option (Int32 × S0)) : obp (fX9_asksStroke (mix σ ρ) k x1 x2) kk = obp (fX9_asksStroke σ k x1 x2) (fun r s => kk r (mix s ρ)) := by
  rw [rx_fX9_asksStroke ρ σ k x1 x2 ck, obp_mo]
theorem rx_fX9_isWhole_b61 (ρ : S0) (sf_2 : S0 → Nat → Int32 → Option (Int32 × S0)) (hsf_2 : ∀ (σ : S0) (a0 : Nat) (a1 : Int32), a0 < 23 → sf_2 (mix σ ρ) a0 a1 = mo ρ (sf_2 σ a0 a1)) (σ : S0) (k : Nat) (x1 : Int32) (ck : k < 23) : fX9_isWhole_b61 sf_2 (mix σ ρ) k x1 = mo ρ (fX9_isWhole_b61 sf_2 σ k x1) := by
  simp (disch := omega) only [fX9_isWhole_b61, ↓ol_n, ↓ol_su, ↓ol_up, ↓mo_ol, ↓mo_obp, ↓mo_og, ↓mo_ite, mix_lo, mo_some, mo_none, hsf_2]
theorem rx_fX9_isWhole_b110 (ρ : S0) (sf_100 : S0 → Nat → Int32 → Option (Int32 × S0)) (sf_110 : S0 → Nat → Int32 → Int32 → Option (Int32 × S0)) (hsf_100 : ∀ (σ : S0) (a0 : Nat) (a1 : Int32), a0 < 23 → sf_100 (mix σ ρ) a0 a1 = mo ρ (sf_100 σ a0 a1)) (hsf_110 : ∀ (σ : S0) (a0 : Nat) (a1 : Int32) (a2 : Int32), a0 < 23 → sf_110 (mix σ ρ) a0 a1 a2 = mo ρ (sf_110 σ a0 a1 a2)) (σ : S0) (k : Nat) (x1 : Int32) (x2 : Int32) (ck : k < 23) : fX9_isWhole_b110 sf_100 sf_110 (mix σ ρ) k x1 x2 = mo ρ (fX9_isWhole_b110 sf_100 sf_110 σ k x1 x2) := by
  by_cases g0 : (x1 < 0 ∨ 6 ≤ x1.toNatClampNeg)
  · simp (disch := omega) only [fX9_isWhole_b110, ↓ol_n, ↓ol_su, ↓ol_up, ↓mo_ol, ↓mo_obp, ↓mo_og, ↓mo_ite, ↓ox_fX1_hasBell, mix_lo, mo_some, mo_none, hsf_100, hsf_110, rx_fX1_hasBell, og_g g0]
  · have h0 : x1.toNatClampNeg < 6 := by omega
    simp (disch := omega) only [fX9_isWhole_b110, ↓ol_n, ↓ol_su, ↓ol_up, ↓mo_ol, ↓mo_obp, ↓mo_og, ↓mo_ite, ↓ox_fX1_hasBell, mix_lo, mo_some, mo_none, hsf_100, hsf_110, rx_fX1_hasBell]
theorem rx_fX9_isWhole_h110 (ρ : S0) (sf_100 : S0 → Nat → Int32 → Option (Int32 × S0)) (hsf_100 : ∀ (σ : S0) (a0 : Nat) (a1 : Int32), a0 < 23 → sf_100 (mix σ ρ) a0 a1 = mo ρ (sf_100 σ a0 a1)) : ∀ (n : Nat) (σ : S0) (k : Nat) (x1 : Int32) (x2 : Int32), k < 23 → fX9_isWhole_h110 sf_100 n (mix σ ρ) k x1 x2 = mo ρ (fX9_isWhole_h110 sf_100 n σ k x1 x2)
  | 0, _, _, _, _ => fun _ => rfl
  | n + 1, σ, k, x1, x2 => fun ck => rx_fX9_isWhole_b110 ρ sf_100 (fX9_isWhole_h110 sf_100 n) hsf_100 (rx_fX9_isWhole_h110 ρ sf_100 hsf_100 n) σ k x1 x2 ck
theorem rx_fX9_isWhole_b100 (ρ : S0) (sf_100 : S0 → Nat → Int32 → Option (Int32 × S0)) (hsf_100 : ∀ (σ : S0) (a0 : Nat) (a1 : Int32), a0 < 23 → sf_100 (mix σ ρ) a0 a1 = mo ρ (sf_100 σ a0 a1)) (σ : S0) (k : Nat) (x1 : Int32) (ck : k < 23) : fX9_isWhole_b100 sf_100 (mix σ ρ) k x1 = mo ρ (fX9_isWhole_b100 sf_100 σ k x1) := by
  simp (disch := omega) only [fX9_isWhole_b100, ↓ol_n, ↓ol_su, ↓ol_up, ↓mo_ol, ↓mo_obp, ↓mo_og, ↓mo_ite, mix_lo, mo_some, mo_none, hsf_100, rx_fX9_isWhole_h110]
theorem rx_fX9_isWhole_h100 (ρ : S0)   : ∀ (n : Nat) (σ : S0) (k : Nat) (x1 : Int32), k < 23 → fX9_isWhole_h100  n (mix σ ρ) k x1 = mo ρ (fX9_isWhole_h100  n σ k x1)
  | 0, _, _, _ => fun _ => rfl
  | n + 1, σ, k, x1 => fun ck => rx_fX9_isWhole_b100 ρ  (fX9_isWhole_h100  n)  (rx_fX9_isWhole_h100 ρ   n) σ k x1 ck
theorem rx_fX9_isWhole_b72 (ρ : S0) (sf_72 : S0 → Nat → Int32 → Option (Int32 × S0)) (hsf_72 : ∀ (σ : S0) (a0 : Nat) (a1 : Int32), a0 < 23 → sf_72 (mix σ ρ) a0 a1 = mo ρ (sf_72 σ a0 a1)) (σ : S0) (k : Nat) (x1 : Int32) (ck : k < 23) : fX9_isWhole_b72 sf_72 (mix σ ρ) k x1 = mo ρ (fX9_isWhole_b72 sf_72 σ k x1) := by
  simp (disch := omega) only [fX9_isWhole_b72, ↓ol_n, ↓ol_su, ↓ol_up, ↓mo_ol, ↓mo_obp, ↓mo_og, ↓mo_ite, mix_lo, mo_some, mo_none, hsf_72, rx_fX9_isWhole_h100]
theorem rx_fX9_isWhole_h72 (ρ : S0)   : ∀ (n : Nat) (σ : S0) (k : Nat) (x1 : Int32), k < 23 → fX9_isWhole_h72  n (mix σ ρ) k x1 = mo ρ (fX9_isWhole_h72  n σ k x1)
  | 0, _, _, _ => fun _ => rfl
  | n + 1, σ, k, x1 => fun ck => rx_fX9_isWhole_b72 ρ  (fX9_isWhole_h72  n)  (rx_fX9_isWhole_h72 ρ   n) σ k x1 ck
theorem rx_fX9_isWhole_b2 (ρ : S0) (sf_2 : S0 → Nat → Int32 → Option (Int32 × S0)) (hsf_2 : ∀ (σ : S0) (a0 : Nat) (a1 : Int32), a0 < 23 → sf_2 (mix σ ρ) a0 a1 = mo ρ (sf_2 σ a0 a1)) (σ : S0) (k : Nat) (x1 : Int32) (ck : k < 23) : fX9_isWhole_b2 sf_2 (mix σ ρ) k x1 = mo ρ (fX9_isWhole_b2 sf_2 σ k x1) := by
  simp (disch := omega) only [fX9_isWhole_b2, ↓ol_n, ↓ol_su, ↓ol_up, ↓mo_ol, ↓mo_obp, ↓mo_og, ↓mo_ite, ↓ox_fX9_hasHouse, mix_lo, mo_some, mo_none, hsf_2, rx_fX9_isWhole_h72, rx_fX9_hasHouse, rx_fX9_isWhole_b61]
theorem rx_fX9_isWhole_h2 (ρ : S0)   : ∀ (n : Nat) (σ : S0) (k : Nat) (x1 : Int32), k < 23 → fX9_isWhole_h2  n (mix σ ρ) k x1 = mo ρ (fX9_isWhole_h2  n σ k x1)
  | 0, _, _, _ => fun _ => rfl
  | n + 1, σ, k, x1 => fun ck => rx_fX9_isWhole_b2 ρ  (fX9_isWhole_h2  n)  (rx_fX9_isWhole_h2 ρ   n) σ k x1 ck
theorem rx_fX9_isWhole (ρ : S0)   (σ : S0) (k : Nat) (ck : k < 23) : fX9_isWhole  (mix σ ρ) k = mo ρ (fX9_isWhole  σ k) := by
  simp (disch := omega) only [fX9_isWhole, ↓ol_n, ↓ol_su, ↓ol_up, ↓mo_ol, ↓mo_obp, ↓mo_og, ↓mo_ite, mix_lo, mo_some, mo_none, rx_fX9_isWhole_h2]
theorem ox_fX9_isWhole (ρ : S0) (σ : S0) (k : Nat) (ck : k < 23) (kk : Int32 → S0 → Option (Int32 × S0)) : obp (fX9_isWhole (mix σ ρ) k) kk = obp (fX9_isWhole σ k) (fun r s => kk r (mix s ρ)) := by
  rw [rx_fX9_isWhole ρ σ k ck, obp_mo]
theorem rx_fX6_play_b159 (ρ : S0) (sf_22 : S0 → Int32 → Int32 → Int32 → Int32 → Option (Int32 × S0)) (hsf_22 : ∀ (σ : S0) (a0 : Int32) (a1 : Int32) (a2 : Int32) (a3 : Int32), sf_22 (mix σ ρ) a0 a1 a2 a3 = mo ρ (sf_22 σ a0 a1 a2 a3)) (σ : S0) (x1 : Int32) (x2 : Int32) (x3 : Int32) (x4 : Int32)  : fX6_play_b159 sf_22 (mix σ ρ) x1 x2 x3 x4 = mo ρ (fX6_play_b159 sf_22 σ x1 x2 x3 x4) := by
  simp (disch := omega) only [fX6_play_b159, ↓ol_n, ↓ol_su, ↓ol_up, ↓mo_ol, ↓mo_obp, ↓mo_og, ↓mo_ite, mix_lo, mo_some, mo_none, hsf_22]
theorem rx_fX6_play_b84 (ρ : S0) (sf_22 : S0 → Int32 → Int32 → Int32 → Int32 → Option (Int32 × S0)) (hsf_22 : ∀ (σ : S0) (a0 : Int32) (a1 : Int32) (a2 : Int32) (a3 : Int32), sf_22 (mix σ ρ) a0 a1 a2 a3 = mo ρ (sf_22 σ a0 a1 a2 a3)) (σ : S0) (x1 : Int32) (x2 : Int32) (x3 : Int32) (x4 : Int32)  : fX6_play_b84 sf_22 (mix σ ρ) x1 x2 x3 x4 = mo ρ (fX6_play_b84 sf_22 σ x1 x2 x3 x4) := by
  simp (disch := omega) only [fX6_play_b84, ↓ol_n, ↓ol_su, ↓ol_up, ↓mo_ol, ↓mo_obp, ↓mo_og, ↓mo_ite, mix_lo, mo_some, mo_none, hsf_22, rx_fX6_play_b159]
theorem rx_fX6_play_b22 (ρ : S0) (sf_22 : S0 → Int32 → Int32 → Int32 → Int32 → Option (Int32 × S0)) (hsf_22 : ∀ (σ : S0) (a0 : Int32) (a1 : Int32) (a2 : Int32) (a3 : Int32), sf_22 (mix σ ρ) a0 a1 a2 a3 = mo ρ (sf_22 σ a0 a1 a2 a3)) (σ : S0) (x1 : Int32) (x2 : Int32) (x3 : Int32) (x4 : Int32)  : fX6_play_b22 sf_22 (mix σ ρ) x1 x2 x3 x4 = mo ρ (fX6_play_b22 sf_22 σ x1 x2 x3 x4) := by
  by_cases g0 : (x1 < 0 ∨ 6 ≤ x1.toNatClampNeg)
  · simp (disch := omega) only [fX6_play_b22, ↓ol_n, ↓ol_su, ↓ol_up, ↓mo_ol, ↓mo_obp, ↓mo_og, ↓mo_ite, mix_lo, mo_some, mo_none, hsf_22, rx_fX6_play_b84, rx_fX6_play_b159, og_g g0]
  · have h0 : x1.toNatClampNeg < 6 := by omega
    simp (disch := omega) only [fX6_play_b22, ↓ol_n, ↓ol_su, ↓ol_up, ↓mo_ol, ↓mo_obp, ↓mo_og, ↓mo_ite, mix_lo, mo_some, mo_none, hsf_22, rx_fX6_play_b84, rx_fX6_play_b159]
theorem rx_fX6_play_h22 (ρ : S0)   : ∀ (n : Nat) (σ : S0) (x1 : Int32) (x2 : Int32) (x3 : Int32) (x4 : Int32), fX6_play_h22  n (mix σ ρ) x1 x2 x3 x4 = mo ρ (fX6_play_h22  n σ x1 x2 x3 x4)
  | 0, _, _, _, _, _ => rfl
  | n + 1, σ, x1, x2, x3, x4 => rx_fX6_play_b22 ρ  (fX6_play_h22  n)  (rx_fX6_play_h22 ρ   n) σ x1 x2 x3 x4 
theorem rx_fX6_play (ρ : S0)   (σ : S0) (x1 : Int32)  : fX6_play  (mix σ ρ) x1 = mo ρ (fX6_play  σ x1) := by
  simp (disch := omega) only [fX6_play, ↓ol_n, ↓ol_su, ↓ol_up, ↓mo_ol, ↓mo_obp, ↓mo_og, ↓mo_ite, mix_lo, mo_some, mo_none, rx_fX6_play_h22]
theorem ox_fX6_play (ρ : S0) (σ : S0) (x1 : Int32)  (kk : Int32 → S0 → Option (Int32 × S0)) : obp (fX6_play (mix σ ρ) x1) kk = obp (fX6_play σ x1) (fun r s => kk r (mix s ρ)) := by
  rw [rx_fX6_play ρ σ x1 , obp_mo]
theorem rx_fX6_rang (ρ : S0)   (σ : S0) (x1 : Int32)  : fX6_rang  (mix σ ρ) x1 = mo ρ (fX6_rang  σ x1) := by
  simp (disch := omega) only [fX6_rang, ↓ol_n, ↓ol_su, ↓ol_up, ↓mo_ol, ↓mo_obp, ↓mo_og, ↓mo_ite, mix_lo, mo_some, mo_none]
theorem ox_fX6_rang (ρ : S0) (σ : S0) (x1 : Int32)  (kk : Int32 → S0 → Option (Int32 × S0)) : obp (fX6_rang (mix σ ρ) x1) kk = obp (fX6_rang σ x1) (fun r s => kk r (mix s ρ)) := by
  rw [rx_fX6_rang ρ σ x1 , obp_mo]
theorem rx_fX6_tuneTaken_b38 (ρ : S0) (sf_7 : S0 → Int32 → Int32 → Int32 → Option (Int32 × S0)) (hsf_7 : ∀ (σ : S0) (a0 : Int32) (a1 : Int32) (a2 : Int32), sf_7 (mix σ ρ) a0 a1 a2 = mo ρ (sf_7 σ a0 a1 a2)) (σ : S0) (x1 : Int32) (x2 : Int32) (x3 : Int32)  : fX6_tuneTaken_b38 sf_7 (mix σ ρ) x1 x2 x3 = mo ρ (fX6_tuneTaken_b38 sf_7 σ x1 x2 x3) := by
  simp (disch := omega) only [fX6_tuneTaken_b38, ↓ol_n, ↓ol_su, ↓ol_up, ↓mo_ol, ↓mo_obp, ↓mo_og, ↓mo_ite, mix_lo, mo_some, mo_none, hsf_7]
theorem rx_fX6_tuneTaken_b7 (ρ : S0) (sf_7 : S0 → Int32 → Int32 → Int32 → Option (Int32 × S0)) (hsf_7 : ∀ (σ : S0) (a0 : Int32) (a1 : Int32) (a2 : Int32), sf_7 (mix σ ρ) a0 a1 a2 = mo ρ (sf_7 σ a0 a1 a2)) (σ : S0) (x1 : Int32) (x2 : Int32) (x3 : Int32)  : fX6_tuneTaken_b7 sf_7 (mix σ ρ) x1 x2 x3 = mo ρ (fX6_tuneTaken_b7 sf_7 σ x1 x2 x3) := by
  simp (disch := omega) only [fX6_tuneTaken_b7, ↓ol_n, ↓ol_su, ↓ol_up, ↓mo_ol, ↓mo_obp, ↓mo_og, ↓mo_ite, ↓ox_fX6_play, mix_lo, mo_some, mo_none, hsf_7, rx_fX6_play, rx_fX6_tuneTaken_b38]
theorem rx_fX6_tuneTaken_h7 (ρ : S0)   : ∀ (n : Nat) (σ : S0) (x1 : Int32) (x2 : Int32) (x3 : Int32), fX6_tuneTaken_h7  n (mix σ ρ) x1 x2 x3 = mo ρ (fX6_tuneTaken_h7  n σ x1 x2 x3)
  | 0, _, _, _, _ => rfl
  | n + 1, σ, x1, x2, x3 => rx_fX6_tuneTaken_b7 ρ  (fX6_tuneTaken_h7  n)  (rx_fX6_tuneTaken_h7 ρ   n) σ x1 x2 x3 
theorem rx_fX6_tuneTaken (ρ : S0)   (σ : S0)   : fX6_tuneTaken  (mix σ ρ)  = mo ρ (fX6_tuneTaken  σ ) := by
  simp (disch := omega) only [fX6_tuneTaken, ↓ol_n, ↓ol_su, ↓ol_up, ↓mo_ol, ↓mo_obp, ↓mo_og, ↓mo_ite, mix_lo, mo_some, mo_none, rx_fX6_tuneTaken_h7]
theorem ox_fX6_tuneTaken (ρ : S0) (σ : S0)   (kk : Int32 → S0 → Option (Int32 × S0)) : obp (fX6_tuneTaken (mix σ ρ) ) kk = obp (fX6_tuneTaken σ ) (fun r s => kk r (mix s ρ)) := by
  rw [rx_fX6_tuneTaken ρ σ  , obp_mo]
theorem rx_fX6_shareOf_b56 (ρ : S0) (sf_10 : S0 → Int32 → Int32 → Int32 → Int32 → Option (Int32 × S0)) (hsf_10 : ∀ (σ : S0) (a0 : Int32) (a1 : Int32) (a2 : Int32) (a3 : Int32), sf_10 (mix σ ρ) a0 a1 a2 a3 = mo ρ (sf_10 σ a0 a1 a2 a3)) (σ : S0) (x1 : Int32) (x2 : Int32) (x3 : Int32) (x4 : Int32)  : fX6_shareOf_b56 sf_10 (mix σ ρ) x1 x2 x3 x4 = mo ρ (fX6_shareOf_b56 sf_10 σ x1 x2 x3 x4) := by
  simp (disch := omega) only [fX6_shareOf_b56, ↓ol_n, ↓ol_su, ↓ol_up, ↓mo_ol, ↓mo_obp, ↓mo_og, ↓mo_ite, mix_lo, mo_some, mo_none, hsf_10]
theorem rx_fX6_shareOf_b10 (ρ : S0) (sf_10 : S0 → Int32 → Int32 → Int32 → Int32 → Option (Int32 × S0)) (hsf_10 : ∀ (σ : S0) (a0 : Int32) (a1 : Int32) (a2 : Int32) (a3 : Int32), sf_10 (mix σ ρ) a0 a1 a2 a3 = mo ρ (sf_10 σ a0 a1 a2 a3)) (σ : S0) (x1 : Int32) (x2 : Int32) (x3 : Int32) (x4 : Int32)  : fX6_shareOf_b10 sf_10 (mix σ ρ) x1 x2 x3 x4 = mo ρ (fX6_shareOf_b10 sf_10 σ x1 x2 x3 x4) := by
  by_cases g0 : (x2 < 0 ∨ 6 ≤ x2.toNatClampNeg)
  · simp (disch := omega) only [fX6_shareOf_b10, ↓ol_n, ↓ol_su, ↓ol_up, ↓mo_ol, ↓mo_obp, ↓mo_og, ↓mo_ite, ↓ox_fX6_rang, ↓ox_fX1_shareOf, mix_lo, mo_some, mo_none, hsf_10, rx_fX6_rang, rx_fX6_shareOf_b56, rx_fX1_shareOf, og_g g0]
  · have h0 : x2.toNatClampNeg < 6 := by omega
    simp (disch := omega) only [fX6_shareOf_b10, ↓ol_n, ↓ol_su, ↓ol_up, ↓mo_ol, ↓mo_obp, ↓mo_og, ↓mo_ite, ↓ox_fX6_rang, ↓ox_fX1_shareOf, mix_lo, mo_some, mo_none, hsf_10, rx_fX6_rang, rx_fX6_shareOf_b56, rx_fX1_shareOf]
theorem rx_fX6_shareOf_h10 (ρ : S0)   : ∀ (n : Nat) (σ : S0) (x1 : Int32) (x2 : Int32) (x3 : Int32) (x4 : Int32), fX6_shareOf_h10  n (mix σ ρ) x1 x2 x3 x4 = mo ρ (fX6_shareOf_h10  n σ x1 x2 x3 x4)
  | 0, _, _, _, _, _ => rfl
  | n + 1, σ, x1, x2, x3, x4 => rx_fX6_shareOf_b10 ρ  (fX6_shareOf_h10  n)  (rx_fX6_shareOf_h10 ρ   n) σ x1 x2 x3 x4 
theorem rx_fX6_shareOf (ρ : S0)   (σ : S0) (x1 : Int32) (x2 : Int32)  : fX6_shareOf  (mix σ ρ) x1 x2 = mo ρ (fX6_shareOf  σ x1 x2) := by
  simp (disch := omega) only [fX6_shareOf, ↓ol_n, ↓ol_su, ↓ol_up, ↓mo_ol, ↓mo_obp, ↓mo_og, ↓mo_ite, ↓ox_fX6_play, mix_lo, mo_some, mo_none, rx_fX6_play, rx_fX6_shareOf_h10]
theorem ox_fX6_shareOf (ρ : S0) (σ : S0) (x1 : Int32) (x2 : Int32)  (kk : Int32 → S0 → Option (Int32 × S0)) : obp (fX6_shareOf (mix σ ρ) x1 x2) kk = obp (fX6_shareOf σ x1 x2) (fun r s => kk r (mix s ρ)) := by
  rw [rx_fX6_shareOf ρ σ x1 x2 , obp_mo]
theorem rx_fX6_wageOf (ρ : S0)   (σ : S0) (x1 : Int32)  : fX6_wageOf  (mix σ ρ) x1 = mo ρ (fX6_wageOf  σ x1) := by
  simp (disch := omega) only [fX6_wageOf, ↓ol_n, ↓ol_su, ↓ol_up, ↓mo_ol, ↓mo_obp, ↓mo_og, ↓mo_ite, ↓ox_fX6_tuneTaken, ↓ox_fX6_shareOf, mix_lo, mo_some, mo_none, rx_fX6_tuneTaken, rx_fX6_shareOf]
theorem ox_fX6_wageOf (ρ : S0) (σ : S0) (x1 : Int32)  (kk : Int32 → S0 → Option (Int32 × S0)) : obp (fX6_wageOf (mix σ ρ) x1) kk = obp (fX6_wageOf σ x1) (fun r s => kk r (mix s ρ)) := by
  rw [rx_fX6_wageOf ρ σ x1 , obp_mo]
