section
theorem rx_fJ3_checkIndex_8e157 (ρ : S0)   (σ : S0) (a : Int32) (b : Int32)  : fJ3_checkIndex_8e157  (mix σ ρ) a b = mo ρ (fJ3_checkIndex_8e157  σ a b) := by
  simp (disch := omega) only [fJ3_checkIndex_8e157, ↓ol_n, ↓ol_su, ↓ol_up, ↓mo_ol, ↓mo_obp, ↓mo_og, ↓mo_ite, mix_lo, mo_some, mo_none]
theorem ox_fJ3_checkIndex_8e157 (ρ : S0) (σ : S0) (a : Int32) (b : Int32)  (kk : Int32 → S0 → Option (Int32 × S0)) : obp (fJ3_checkIndex_8e157 (mix σ ρ) a b) kk = obp (fJ3_checkIndex_8e157 σ a b) (fun r s => kk r (mix s ρ)) := by
  rw [rx_fJ3_checkIndex_8e157 ρ σ a b , obp_mo]
theorem rx_fJ0_checkIndex_df160 (ρ : S0)   (σ : S0) (a : Int32) (b : Int32)  : fJ0_checkIndex_df160  (mix σ ρ) a b = mo ρ (fJ0_checkIndex_df160  σ a b) := by
  simp (disch := omega) only [fJ0_checkIndex_df160, ↓ol_n, ↓ol_su, ↓ol_up, ↓mo_ol, ↓mo_obp, ↓mo_og, ↓mo_ite, ↓ox_fJ3_checkIndex_8e157, mix_lo, mo_some, mo_none, rx_fJ3_checkIndex_8e157]
theorem ox_fJ0_checkIndex_df160 (ρ : S0) (σ : S0) (a : Int32) (b : Int32)  (kk : Int32 → S0 → Option (Int32 × S0)) : obp (fJ0_checkIndex_df160 (mix σ ρ) a b) kk = obp (fJ0_checkIndex_df160 σ a b) (fun r s => kk r (mix s ρ)) := by
  rw [rx_fJ0_checkIndex_df160 ρ σ a b , obp_mo]
theorem rx_fJ6_bitCount_0f7a4 (ρ : S0)   (σ : S0) (x0 : Int32)  : fJ6_bitCount_0f7a4  (mix σ ρ) x0 = mo ρ (fJ6_bitCount_0f7a4  σ x0) := by
  simp (disch := omega) only [fJ6_bitCount_0f7a4, ↓ol_n, ↓ol_su, ↓ol_up, ↓mo_ol, ↓mo_obp, ↓mo_og, ↓mo_ite, mix_lo, mo_some, mo_none]
theorem ox_fJ6_bitCount_0f7a4 (ρ : S0) (σ : S0) (x0 : Int32)  (kk : Int32 → S0 → Option (Int32 × S0)) : obp (fJ6_bitCount_0f7a4 (mix σ ρ) x0) kk = obp (fJ6_bitCount_0f7a4 σ x0) (fun r s => kk r (mix s ρ)) := by
  rw [rx_fJ6_bitCount_0f7a4 ρ σ x0 , obp_mo]
theorem rx_fJ7_fill_53178_b5 (ρ : S0) (sf_5 : S0 → Nat → Nat → Int32 → Int32 → Int32 → Option (Int32 × S0)) (hsf_5 : ∀ (σ : S0) (a0 : Nat) (a1 : Nat) (a2 : Int32) (a3 : Int32) (a4 : Int32), a1 < 98 → sf_5 (mix σ ρ) a0 a1 a2 a3 a4 = mo ρ (sf_5 σ a0 a1 a2 a3 a4)) (σ : S0) (n0 : Nat) (k : Nat) (x1 : Int32) (x2 : Int32) (x3 : Int32) (ck : k < 98) : fJ7_fill_53178_b5 sf_5 (mix σ ρ) n0 k x1 x2 x3 = mo ρ (fJ7_fill_53178_b5 sf_5 σ n0 k x1 x2 x3) := by
  simp (disch := omega) only [fJ7_fill_53178_b5, ↓ol_n, ↓ol_su, ↓ol_up, ↓mo_ol, ↓mo_obp, ↓mo_og, ↓mo_ite, mix_lo, mo_some, mo_none, hsf_5]
theorem rx_fJ7_fill_53178_h5 (ρ : S0)   : ∀ (n : Nat) (σ : S0) (n0 : Nat) (k : Nat) (x1 : Int32) (x2 : Int32) (x3 : Int32), k < 98 → fJ7_fill_53178_h5  n (mix σ ρ) n0 k x1 x2 x3 = mo ρ (fJ7_fill_53178_h5  n σ n0 k x1 x2 x3)
  | 0, _, _, _, _, _, _ => fun _ => rfl
  | n + 1, σ, n0, k, x1, x2, x3 => fun ck => rx_fJ7_fill_53178_b5 ρ  (fJ7_fill_53178_h5  n)  (rx_fJ7_fill_53178_h5 ρ   n) σ n0 k x1 x2 x3 ck
theorem rx_fJ7_fill_53178 (ρ : S0)   (σ : S0) (n0 : Nat) (k0 : Nat) (x1 : Int32) (ck0 : k0 < 98) : fJ7_fill_53178  (mix σ ρ) n0 k0 x1 = mo ρ (fJ7_fill_53178  σ n0 k0 x1) := by
  simp (disch := omega) only [fJ7_fill_53178, ↓ol_n, ↓ol_su, ↓ol_up, ↓mo_ol, ↓mo_obp, ↓mo_og, ↓mo_ite, mix_lo, mo_some, mo_none, rx_fJ7_fill_53178_h5]
theorem ox_fJ7_fill_53178 (ρ : S0) (σ : S0) (n0 : Nat) (k0 : Nat) (x1 : Int32) (ck0 : k0 < 98) (kk : Int32 → S0 → Option (Int32 × S0)) : obp (fJ7_fill_53178 (mix σ ρ) n0 k0 x1) kk = obp (fJ7_fill_53178 σ n0 k0 x1) (fun r s => kk r (mix s ρ)) := by
  rw [rx_fJ7_fill_53178 ρ σ n0 k0 x1 ck0, obp_mo]
theorem rx_fJ0_coder_7d493 (ρ : S0)   (σ : S0) (i0 : Nat)  : fJ0_coder_7d493  (mix σ ρ) i0 = mo ρ (fJ0_coder_7d493  σ i0) := by
  simp (disch := omega) only [fJ0_coder_7d493, ↓ol_n, ↓ol_su, ↓ol_up, ↓mo_ol, ↓mo_obp, ↓mo_og, ↓mo_ite, mix_lo, mo_some, mo_none]
theorem ox_fJ0_coder_7d493 (ρ : S0) (σ : S0) (i0 : Nat)  (kk : Int32 → S0 → Option (Int32 × S0)) : obp (fJ0_coder_7d493 (mix σ ρ) i0) kk = obp (fJ0_coder_7d493 σ i0) (fun r s => kk r (mix s ρ)) := by
  rw [rx_fJ0_coder_7d493 ρ σ i0 , obp_mo]
theorem rx_fJ0_isLatin1_aae02 (ρ : S0)   (σ : S0) (i0 : Nat)  : fJ0_isLatin1_aae02  (mix σ ρ) i0 = mo ρ (fJ0_isLatin1_aae02  σ i0) := by
  simp (disch := omega) only [fJ0_isLatin1_aae02, ↓ol_n, ↓ol_su, ↓ol_up, ↓mo_ol, ↓mo_obp, ↓mo_og, ↓mo_ite, mix_lo, mo_some, mo_none]
theorem ox_fJ0_isLatin1_aae02 (ρ : S0) (σ : S0) (i0 : Nat)  (kk : Int32 → S0 → Option (Int32 × S0)) : obp (fJ0_isLatin1_aae02 (mix σ ρ) i0) kk = obp (fJ0_isLatin1_aae02 σ i0) (fun r s => kk r (mix s ρ)) := by
  rw [rx_fJ0_isLatin1_aae02 ρ σ i0 , obp_mo]
theorem rx_fJ0_length_8abf5 (ρ : S0)   (σ : S0) (i0 : Nat)  : fJ0_length_8abf5  (mix σ ρ) i0 = mo ρ (fJ0_length_8abf5  σ i0) := by
  simp (disch := omega) only [fJ0_length_8abf5, ↓ol_n, ↓ol_su, ↓ol_up, ↓mo_ol, ↓mo_obp, ↓mo_og, ↓mo_ite, ↓ox_fJ0_coder_7d493, mix_lo, mo_some, mo_none, rx_fJ0_coder_7d493]
theorem ox_fJ0_length_8abf5 (ρ : S0) (σ : S0) (i0 : Nat)  (kk : Int32 → S0 → Option (Int32 × S0)) : obp (fJ0_length_8abf5 (mix σ ρ) i0) kk = obp (fJ0_length_8abf5 σ i0) (fun r s => kk r (mix s ρ)) := by
  rw [rx_fJ0_length_8abf5 ρ σ i0 , obp_mo]
theorem rx_fJ1_charAt_3b067 (ρ : S0)   (σ : S0) (i0 : Nat) (x1 : Int32)  : fJ1_charAt_3b067  (mix σ ρ) i0 x1 = mo ρ (fJ1_charAt_3b067  σ i0 x1) := by
  simp (disch := omega) only [fJ1_charAt_3b067, ↓ol_n, ↓ol_su, ↓ol_up, ↓mo_ol, ↓mo_obp, ↓mo_og, ↓mo_ite, ↓ox_fJ0_checkIndex_df160, mix_lo, mo_some, mo_none, rx_fJ0_checkIndex_df160]
theorem ox_fJ1_charAt_3b067 (ρ : S0) (σ : S0) (i0 : Nat) (x1 : Int32)  (kk : Int32 → S0 → Option (Int32 × S0)) : obp (fJ1_charAt_3b067 (mix σ ρ) i0 x1) kk = obp (fJ1_charAt_3b067 σ i0 x1) (fun r s => kk r (mix s ρ)) := by
  rw [rx_fJ1_charAt_3b067 ρ σ i0 x1 , obp_mo]
theorem rx_fJ0_charAt_5068e (ρ : S0)   (σ : S0) (i0 : Nat) (x1 : Int32)  : fJ0_charAt_5068e  (mix σ ρ) i0 x1 = mo ρ (fJ0_charAt_5068e  σ i0 x1) := by
  simp (disch := omega) only [fJ0_charAt_5068e, ↓ol_n, ↓ol_su, ↓ol_up, ↓mo_ol, ↓mo_obp, ↓mo_og, ↓mo_ite, ↓ox_fJ0_isLatin1_aae02, ↓ox_fJ1_charAt_3b067, mix_lo, mo_some, mo_none, rx_fJ0_isLatin1_aae02, rx_fJ1_charAt_3b067]
theorem ox_fJ0_charAt_5068e (ρ : S0) (σ : S0) (i0 : Nat) (x1 : Int32)  (kk : Int32 → S0 → Option (Int32 × S0)) : obp (fJ0_charAt_5068e (mix σ ρ) i0 x1) kk = obp (fJ0_charAt_5068e σ i0 x1) (fun r s => kk r (mix s ρ)) := by
  rw [rx_fJ0_charAt_5068e ρ σ i0 x1 , obp_mo]
theorem rx_fX1_empty (ρ : S0)   (σ : S0) (k : Nat) (ck : k < 83) : fX1_empty  (mix σ ρ) k = mo ρ (fX1_empty  σ k) := by
  simp (disch := omega) only [fX1_empty, ↓ol_n, ↓ol_su, ↓ol_up, ↓mo_ol, ↓mo_obp, ↓mo_og, ↓mo_ite, ↓ox_fJ7_fill_53178, mix_lo, mo_some, mo_none, rx_fJ7_fill_53178]
theorem ox_fX1_empty (ρ : S0) (σ : S0) (k : Nat) (ck : k < 83) (kk : Int32 → S0 → Option (Int32 × S0)) : obp (fX1_empty (mix σ ρ) k) kk = obp (fX1_empty σ k) (fun r s => kk r (mix s ρ)) := by
  rw [rx_fX1_empty ρ σ k ck, obp_mo]
theorem rx_fX1_copyFrom (ρ : S0)   (σ : S0) (k : Nat) (k1 : Nat) (ck : k < 83) (ck1 : k1 < 83) : fX1_copyFrom  (mix σ ρ) k k1 = mo ρ (fX1_copyFrom  σ k k1) := by
  simp (disch := omega) only [fX1_copyFrom, ↓ol_n, ↓ol_su, ↓ol_up, ↓mo_ol, ↓mo_obp, ↓mo_og, ↓mo_ite, mix_lo, mo_some, mo_none]
theorem ox_fX1_copyFrom (ρ : S0) (σ : S0) (k : Nat) (k1 : Nat) (ck : k < 83) (ck1 : k1 < 83) (kk : Int32 → S0 → Option (Int32 × S0)) : obp (fX1_copyFrom (mix σ ρ) k k1) kk = obp (fX1_copyFrom σ k k1) (fun r s => kk r (mix s ρ)) := by
  rw [rx_fX1_copyFrom ρ σ k k1 ck ck1, obp_mo]
theorem rx_fX1_hasBell (ρ : S0)   (σ : S0) (k : Nat) (x1 : Int32) (ck : k < 83) : fX1_hasBell  (mix σ ρ) k x1 = mo ρ (fX1_hasBell  σ k x1) := by
  simp (disch := omega) only [fX1_hasBell, ↓ol_n, ↓ol_su, ↓ol_up, ↓mo_ol, ↓mo_obp, ↓mo_og, ↓mo_ite, mix_lo, mo_some, mo_none]
theorem ox_fX1_hasBell (ρ : S0) (σ : S0) (k : Nat) (x1 : Int32) (ck : k < 83) (kk : Int32 → S0 → Option (Int32 × S0)) : obp (fX1_hasBell (mix σ ρ) k x1) kk = obp (fX1_hasBell σ k x1) (fun r s => kk r (mix s ρ)) := by
  rw [rx_fX1_hasBell ρ σ k x1 ck, obp_mo]
theorem rx_fX1_areFoes (ρ : S0)   (σ : S0) (k : Nat) (x1 : Int32) (x2 : Int32) (ck : k < 83) : fX1_areFoes  (mix σ ρ) k x1 x2 = mo ρ (fX1_areFoes  σ k x1 x2) := by
  simp (disch := omega) only [fX1_areFoes, ↓ol_n, ↓ol_su, ↓ol_up, ↓mo_ol, ↓mo_obp, ↓mo_og, ↓mo_ite, mix_lo, mo_some, mo_none]
theorem ox_fX1_areFoes (ρ : S0) (σ : S0) (k : Nat) (x1 : Int32) (x2 : Int32) (ck : k < 83) (kk : Int32 → S0 → Option (Int32 × S0)) : obp (fX1_areFoes (mix σ ρ) k x1 x2) kk = obp (fX1_areFoes σ k x1 x2) (fun r s => kk r (mix s ρ)) := by
  rw [rx_fX1_areFoes ρ σ k x1 x2 ck, obp_mo]
theorem rx_fX1_setFoes_b69 (ρ : S0)   (σ : S0) (t0 : Int32) (t1 : Int32) (t2 : Nat) (ct2 : t2 < 98) : fX1_setFoes_b69  (mix σ ρ) t0 t1 t2 = mo ρ (fX1_setFoes_b69  σ t0 t1 t2) := by
  simp (disch := omega) only [fX1_setFoes_b69, ↓ol_n, ↓ol_su, ↓ol_up, ↓mo_ol, ↓mo_obp, ↓mo_og, ↓mo_ite, mix_lo, mo_some, mo_none]
theorem rx_fX1_setFoes_b34 (ρ : S0)   (σ : S0) (k : Nat) (x1 : Int32) (x2 : Int32) (x3 : Int32) (t0 : Int32) (t1 : Int32) (t2 : Nat) (ck : k < 83) (ct2 : t2 < 98) : fX1_setFoes_b34  (mix σ ρ) k x1 x2 x3 t0 t1 t2 = mo ρ (fX1_setFoes_b34  σ k x1 x2 x3 t0 t1 t2) := by
  simp (disch := omega) only [fX1_setFoes_b34, ↓ol_n, ↓ol_su, ↓ol_up, ↓mo_ol, ↓mo_obp, ↓mo_og, ↓mo_ite, mix_lo, mo_some, mo_none, rx_fX1_setFoes_b69]
theorem rx_fX1_setFoes (ρ : S0)   (σ : S0) (k : Nat) (x1 : Int32) (x2 : Int32) (x3 : Int32) (ck : k < 83) : fX1_setFoes  (mix σ ρ) k x1 x2 x3 = mo ρ (fX1_setFoes  σ k x1 x2 x3) := by
  simp (disch := omega) only [fX1_setFoes, ↓ol_n, ↓ol_su, ↓ol_up, ↓mo_ol, ↓mo_obp, ↓mo_og, ↓mo_ite, mix_lo, mo_some, mo_none, rx_fX1_setFoes_b34]
theorem ox_fX1_setFoes (ρ : S0) (σ : S0) (k : Nat) (x1 : Int32) (x2 : Int32) (x3 : Int32) (ck : k < 83) (kk : Int32 → S0 → Option (Int32 × S0)) : obp (fX1_setFoes (mix σ ρ) k x1 x2 x3) kk = obp (fX1_setFoes σ k x1 x2 x3) (fun r s => kk r (mix s ρ)) := by
  rw [rx_fX1_setFoes ρ σ k x1 x2 x3 ck, obp_mo]
theorem rx_fX1_feudPairs_b4 (ρ : S0) (sf_4 : S0 → Nat → Int32 → Int32 → Option (Int32 × S0)) (hsf_4 : ∀ (σ : S0) (a0 : Nat) (a1 : Int32) (a2 : Int32), a0 < 83 → sf_4 (mix σ ρ) a0 a1 a2 = mo ρ (sf_4 σ a0 a1 a2)) (σ : S0) (k : Nat) (x1 : Int32) (x2 : Int32) (ck : k < 83) : fX1_feudPairs_b4 sf_4 (mix σ ρ) k x1 x2 = mo ρ (fX1_feudPairs_b4 sf_4 σ k x1 x2) := by
  simp (disch := omega) only [fX1_feudPairs_b4, ↓ol_n, ↓ol_su, ↓ol_up, ↓mo_ol, ↓mo_obp, ↓mo_og, ↓mo_ite, ↓ox_fJ6_bitCount_0f7a4, mix_lo, mo_some, mo_none, hsf_4, rx_fJ6_bitCount_0f7a4]
theorem rx_fX1_feudPairs_h4 (ρ : S0)   : ∀ (n : Nat) (σ : S0) (k : Nat) (x1 : Int32) (x2 : Int32), k < 83 → fX1_feudPairs_h4  n (mix σ ρ) k x1 x2 = mo ρ (fX1_feudPairs_h4  n σ k x1 x2)
  | 0, _, _, _, _ => fun _ => rfl
  | n + 1, σ, k, x1, x2 => fun ck => rx_fX1_feudPairs_b4 ρ  (fX1_feudPairs_h4  n)  (rx_fX1_feudPairs_h4 ρ   n) σ k x1 x2 ck
theorem rx_fX1_feudPairs (ρ : S0)   (σ : S0) (k : Nat) (ck : k < 83) : fX1_feudPairs  (mix σ ρ) k = mo ρ (fX1_feudPairs  σ k) := by
  simp (disch := omega) only [fX1_feudPairs, ↓ol_n, ↓ol_su, ↓ol_up, ↓mo_ol, ↓mo_obp, ↓mo_og, ↓mo_ite, mix_lo, mo_some, mo_none, rx_fX1_feudPairs_h4]
theorem ox_fX1_feudPairs (ρ : S0) (σ : S0) (k : Nat) (ck : k < 83) (kk : Int32 → S0 → Option (Int32 × S0)) : obp (fX1_feudPairs (mix σ ρ) k) kk = obp (fX1_feudPairs σ k) (fun r s => kk r (mix s ρ)) := by
  rw [rx_fX1_feudPairs ρ σ k ck, obp_mo]
theorem rx_fX1_partsOf (ρ : S0)   (σ : S0) (k : Nat) (x1 : Int32) (x2 : Int32) (ck : k < 83) : fX1_partsOf  (mix σ ρ) k x1 x2 = mo ρ (fX1_partsOf  σ k x1 x2) := by
  simp (disch := omega) only [fX1_partsOf, ↓ol_n, ↓ol_su, ↓ol_up, ↓mo_ol, ↓mo_obp, ↓mo_og, ↓mo_ite, mix_lo, mo_some, mo_none]
theorem ox_fX1_partsOf (ρ : S0) (σ : S0) (k : Nat) (x1 : Int32) (x2 : Int32) (ck : k < 83) (kk : Int32 → S0 → Option (Int32 × S0)) : obp (fX1_partsOf (mix σ ρ) k x1 x2) kk = obp (fX1_partsOf σ k x1 x2) (fun r s => kk r (mix s ρ)) := by
  rw [rx_fX1_partsOf ρ σ k x1 x2 ck, obp_mo]
theorem rx_fX1_shareOf (ρ : S0)   (σ : S0) (k : Nat) (x1 : Int32) (x2 : Int32) (ck : k < 83) : fX1_shareOf  (mix σ ρ) k x1 x2 = mo ρ (fX1_shareOf  σ k x1 x2) := by
  simp (disch := omega) only [fX1_shareOf, ↓ol_n, ↓ol_su, ↓ol_up, ↓mo_ol, ↓mo_obp, ↓mo_og, ↓mo_ite, ↓ox_fX1_partsOf, mix_lo, mo_some, mo_none, rx_fX1_partsOf]
theorem ox_fX1_shareOf (ρ : S0) (σ : S0) (k : Nat) (x1 : Int32) (x2 : Int32) (ck : k < 83) (kk : Int32 → S0 → Option (Int32 × S0)) : obp (fX1_shareOf (mix σ ρ) k x1 x2) kk = obp (fX1_shareOf σ k x1 x2) (fun r s => kk r (mix s ρ)) := by
  rw [rx_fX1_shareOf ρ σ k x1 x2 ck, obp_mo]
theorem rx_fX1_canBeHeard_b14 (ρ : S0)   (σ : S0)   : fX1_canBeHeard_b14  (mix σ ρ)  = mo ρ (fX1_canBeHeard_b14  σ ) := by
  simp (disch := omega) only [fX1_canBeHeard_b14, ↓ol_n, ↓ol_su, ↓ol_up, ↓mo_ol, ↓mo_obp, ↓mo_og, ↓mo_ite, mix_lo, mo_some, mo_none]
theorem rx_fX1_canBeHeard (ρ : S0)   (σ : S0) (k : Nat) (x1 : Int32) (ck : k < 83) : fX1_canBeHeard  (mix σ ρ) k x1 = mo ρ (fX1_canBeHeard  σ k x1) := by
  simp (disch := omega) only [fX1_canBeHeard, ↓ol_n, ↓ol_su, ↓ol_up, ↓mo_ol, ↓mo_obp, ↓mo_og, ↓mo_ite, ↓ox_fX1_hasBell, mix_lo, mo_some, mo_none, rx_fX1_canBeHeard_b14, rx_fX1_hasBell]
theorem ox_fX1_canBeHeard (ρ : S0) (σ : S0) (k : Nat) (x1 : Int32) (ck : k < 83) (kk : Int32 → S0 → Option (Int32 × S0)) : obp (fX1_canBeHeard (mix σ ρ) k x1) kk = obp (fX1_canBeHeard σ k x1) (fun r s => kk r (mix s ρ)) := by
  rw [rx_fX1_canBeHeard ρ σ k x1 ck, obp_mo]
theorem rx_fX1_addHeard (ρ : S0)   (σ : S0) (k : Nat) (x1 : Int32) (ck : k < 83) : fX1_addHeard  (mix σ ρ) k x1 = mo ρ (fX1_addHeard  σ k x1) := by
  simp (disch := omega) only [fX1_addHeard, ↓ol_n, ↓ol_su, ↓ol_up, ↓mo_ol, ↓mo_obp, ↓mo_og, ↓mo_ite, mix_lo, mo_some, mo_none]
theorem ox_fX1_addHeard (ρ : S0) (σ : S0) (k : Nat) (x1 : Int32) (ck : k < 83) (kk : Int32 → S0 → Option (Int32 × S0)) : obp (fX1_addHeard (mix σ ρ) k x1) kk = obp (fX1_addHeard σ k x1) (fun r s => kk r (mix s ρ)) := by
  rw [rx_fX1_addHeard ρ σ k x1 ck, obp_mo]
theorem rx_fX7_isNothing (ρ : S0)   (σ : S0) (k : Nat) (ck : k < 97) : fX7_isNothing  (mix σ ρ) k = mo ρ (fX7_isNothing  σ k) := by
  simp (disch := omega) only [fX7_isNothing, ↓ol_n, ↓ol_su, ↓ol_up, ↓mo_ol, ↓mo_obp, ↓mo_og, ↓mo_ite, mix_lo, mo_some, mo_none]
theorem ox_fX7_isNothing (ρ : S0) (σ : S0) (k : Nat) (ck : k < 97) (kk : Int32 → S0 → Option (Int32 × S0)) : obp (fX7_isNothing (mix σ ρ) k) kk = obp (fX7_isNothing σ k) (fun r s => kk r (mix s ρ)) := by
  rw [rx_fX7_isNothing ρ σ k ck, obp_mo]
theorem rx_fX7_renew (ρ : S0)   (σ : S0) (k : Nat) (x1 : Int32) (x2 : Int32) (ck : k < 97) : fX7_renew  (mix σ ρ) k x1 x2 = mo ρ (fX7_renew  σ k x1 x2) := by
  simp (disch := omega) only [fX7_renew, ↓ol_n, ↓ol_su, ↓ol_up, ↓mo_ol, ↓mo_obp, ↓mo_og, ↓mo_ite, ↓ox_fJ7_fill_53178, mix_lo, mo_some, mo_none, rx_fJ7_fill_53178]
theorem ox_fX7_renew (ρ : S0) (σ : S0) (k : Nat) (x1 : Int32) (x2 : Int32) (ck : k < 97) (kk : Int32 → S0 → Option (Int32 × S0)) : obp (fX7_renew (mix σ ρ) k x1 x2) kk = obp (fX7_renew σ k x1 x2) (fun r s => kk r (mix s ρ)) := by
  rw [rx_fX7_renew ρ σ k x1 x2 ck, obp_mo]
theorem rx_fX7_faultAt_b31 (ρ : S0)   (σ : S0)   : fX7_faultAt_b31  (mix σ ρ)  = mo ρ (fX7_faultAt_b31  σ ) := by
  simp (disch := omega) only [fX7_faultAt_b31, ↓ol_n, ↓ol_su, ↓ol_up, ↓mo_ol, ↓mo_obp, ↓mo_og, ↓mo_ite, mix_lo, mo_some, mo_none]
theorem rx_fX7_faultAt (ρ : S0)   (σ : S0) (k : Nat) (x1 : Int32) (x2 : Int32) (ck : k < 97) : fX7_faultAt  (mix σ ρ) k x1 x2 = mo ρ (fX7_faultAt  σ k x1 x2) := by
  simp (disch := omega) only [fX7_faultAt, ↓ol_n, ↓ol_su, ↓ol_up, ↓mo_ol, ↓mo_obp, ↓mo_og, ↓mo_ite, ↓ox_fX7_isNothing, mix_lo, mo_some, mo_none, rx_fX7_isNothing, rx_fX7_faultAt_b31]
theorem ox_fX7_faultAt (ρ : S0) (σ : S0) (k : Nat) (x1 : Int32) (x2 : Int32) (ck : k < 97) (kk : Int32 → S0 → Option (Int32 × S0)) : obp (fX7_faultAt (mix σ ρ) k x1 x2) kk = obp (fX7_faultAt σ k x1 x2) (fun r s => kk r (mix s ρ)) := by
  rw [rx_fX7_faultAt ρ σ k x1 x2 ck, obp_mo]
theorem rx_fX7_put (ρ : S0)   (σ : S0) (k : Nat) (x1 : Int32) (x2 : Int32) (ck : k < 97) : fX7_put  (mix σ ρ) k x1 x2 = mo ρ (fX7_put  σ k x1 x2) := by
  simp (disch := omega) only [fX7_put, ↓ol_n, ↓ol_su, ↓ol_up, ↓mo_ol, ↓mo_obp, ↓mo_og, ↓mo_ite, mix_lo, mo_some, mo_none]
theorem ox_fX7_put (ρ : S0) (σ : S0) (k : Nat) (x1 : Int32) (x2 : Int32) (ck : k < 97) (kk : Int32 → S0 → Option (Int32 × S0)) : obp (fX7_put (mix σ ρ) k x1 x2) kk = obp (fX7_put σ k x1 x2) (fun r s => kk r (mix s ρ)) := by
  rw [rx_fX7_put ρ σ k x1 x2 ck, obp_mo]
theorem rx_fX8_append_b3 (ρ : S0) (sf_3 : S0 → Int64 → Int32 → Option (Int32 × S0)) (hsf_3 : ∀ (σ : S0) (a0 : Int64) (a1 : Int32), sf_3 (mix σ ρ) a0 a1 = mo ρ (sf_3 σ a0 a1)) (σ : S0) (x1 : Int64) (x3 : Int32)  : fX8_append_b3 sf_3 (mix σ ρ) x1 x3 = mo ρ (fX8_append_b3 sf_3 σ x1 x3) := by
  simp (disch := omega) only [fX8_append_b3, ↓ol_n, ↓ol_su, ↓ol_up, ↓mo_ol, ↓mo_obp, ↓mo_og, ↓mo_ite, mix_lo, mo_some, mo_none, hsf_3]
theorem rx_fX8_append_h3 (ρ : S0)   : ∀ (n : Nat) (σ : S0) (x1 : Int64) (x3 : Int32), fX8_append_h3  n (mix σ ρ) x1 x3 = mo ρ (fX8_append_h3  n σ x1 x3)
  | 0, _, _, _ => rfl
  | n + 1, σ, x1, x3 => rx_fX8_append_b3 ρ  (fX8_append_h3  n)  (rx_fX8_append_h3 ρ   n) σ x1 x3 
theorem rx_fX8_append (ρ : S0)   (σ : S0) (x1 : Int64)  : fX8_append  (mix σ ρ) x1 = mo ρ (fX8_append  σ x1) := by
  simp (disch := omega) only [fX8_append, ↓ol_n, ↓ol_su, ↓ol_up, ↓mo_ol, ↓mo_obp, ↓mo_og, ↓mo_ite, mix_lo, mo_some, mo_none, rx_fX8_append_h3]
theorem ox_fX8_append (ρ : S0) (σ : S0) (x1 : Int64)  (kk : Int32 → S0 → Option (Int32 × S0)) : obp (fX8_append (mix σ ρ) x1) kk = obp (fX8_append σ x1) (fun r s => kk r (mix s ρ)) := by
  rw [rx_fX8_append ρ σ x1 , obp_mo]
theorem rx_fX8_rewind (ρ : S0)   (σ : S0)   : fX8_rewind  (mix σ ρ)  = mo ρ (fX8_rewind  σ ) := by
  simp (disch := omega) only [fX8_rewind, ↓ol_n, ↓ol_su, ↓ol_up, ↓mo_ol, ↓mo_obp, ↓mo_og, ↓mo_ite, mix_lo, mo_some, mo_none]
theorem ox_fX8_rewind (ρ : S0) (σ : S0)   (kk : Int32 → S0 → Option (Int32 × S0)) : obp (fX8_rewind (mix σ ρ) ) kk = obp (fX8_rewind σ ) (fun r s => kk r (mix s ρ)) := by
  rw [rx_fX8_rewind ρ σ  , obp_mo]
end
section
theorem rx_fX8_readToken_b226 (ρ : S0)   (σ : S0) (t0 : Int32)  : fX8_readToken_b226  (mix σ ρ) t0 = mo ρ (fX8_readToken_b226  σ t0) := by
  simp (disch := omega) only [fX8_readToken_b226, ↓ol_n, ↓ol_su, ↓ol_up, ↓mo_ol, ↓mo_obp, ↓mo_og, ↓mo_ite, mix_lo, mo_some, mo_none]
theorem rx_fX8_readToken_b267 (ρ : S0)   (σ : S0) (t0 : Int32)  : fX8_readToken_b267  (mix σ ρ) t0 = mo ρ (fX8_readToken_b267  σ t0) := by
  simp (disch := omega) only [fX8_readToken_b267, ↓ol_n, ↓ol_su, ↓ol_up, ↓mo_ol, ↓mo_obp, ↓mo_og, ↓mo_ite, mix_lo, mo_some, mo_none]
theorem rx_fX8_readToken_b196 (ρ : S0)   (σ : S0)   : fX8_readToken_b196  (mix σ ρ)  = mo ρ (fX8_readToken_b196  σ ) := by
  simp (disch := omega) only [fX8_readToken_b196, ↓ol_n, ↓ol_su, ↓ol_up, ↓mo_ol, ↓mo_obp, ↓mo_og, ↓mo_ite, mix_lo, mo_some, mo_none, rx_fX8_readToken_b267, rx_fX8_readToken_b226]
theorem rx_fX8_readToken_b120 (ρ : S0) (sf_120 : S0 → Option (Int32 × S0)) (hsf_120 : ∀ (σ : S0) , sf_120 (mix σ ρ)  = mo ρ (sf_120 σ )) (σ : S0)   : fX8_readToken_b120 sf_120 (mix σ ρ)  = mo ρ (fX8_readToken_b120 sf_120 σ ) := by
  simp (disch := omega) only [fX8_readToken_b120, ↓ol_n, ↓ol_su, ↓ol_up, ↓mo_ol, ↓mo_obp, ↓mo_og, ↓mo_ite, mix_lo, mo_some, mo_none, hsf_120, rx_fX8_readToken_b196]
theorem rx_fX8_readToken_h120 (ρ : S0)   : ∀ (n : Nat) (σ : S0) , fX8_readToken_h120  n (mix σ ρ)  = mo ρ (fX8_readToken_h120  n σ )
  | 0, _ => rfl
  | n + 1, σ => rx_fX8_readToken_b120 ρ  (fX8_readToken_h120  n)  (rx_fX8_readToken_h120 ρ   n) σ  
theorem rx_fX8_readToken_b103 (ρ : S0)   (σ : S0)   : fX8_readToken_b103  (mix σ ρ)  = mo ρ (fX8_readToken_b103  σ ) := by
  simp (disch := omega) only [fX8_readToken_b103, ↓ol_n, ↓ol_su, ↓ol_up, ↓mo_ol, ↓mo_obp, ↓mo_og, ↓mo_ite, mix_lo, mo_some, mo_none, rx_fX8_readToken_h120]
theorem rx_fX8_readToken_b51 (ρ : S0) (sf_51 : S0 → Option (Int32 × S0)) (hsf_51 : ∀ (σ : S0) , sf_51 (mix σ ρ)  = mo ρ (sf_51 σ )) (σ : S0)   : fX8_readToken_b51 sf_51 (mix σ ρ)  = mo ρ (fX8_readToken_b51 sf_51 σ ) := by
  simp (disch := omega) only [fX8_readToken_b51, ↓ol_n, ↓ol_su, ↓ol_up, ↓mo_ol, ↓mo_obp, ↓mo_og, ↓mo_ite, mix_lo, mo_some, mo_none, hsf_51, rx_fX8_readToken_b103]
theorem rx_fX8_readToken_h51 (ρ : S0)   : ∀ (n : Nat) (σ : S0) , fX8_readToken_h51  n (mix σ ρ)  = mo ρ (fX8_readToken_h51  n σ )
  | 0, _ => rfl
  | n + 1, σ => rx_fX8_readToken_b51 ρ  (fX8_readToken_h51  n)  (rx_fX8_readToken_h51 ρ   n) σ  
theorem rx_fX8_readToken_b38 (ρ : S0)   (σ : S0)   : fX8_readToken_b38  (mix σ ρ)  = mo ρ (fX8_readToken_b38  σ ) := by
  simp (disch := omega) only [fX8_readToken_b38, ↓ol_n, ↓ol_su, ↓ol_up, ↓mo_ol, ↓mo_obp, ↓mo_og, ↓mo_ite, mix_lo, mo_some, mo_none, rx_fX8_readToken_h51]
theorem rx_fX8_readToken_b0 (ρ : S0) (sf_0 : S0 → Option (Int32 × S0)) (hsf_0 : ∀ (σ : S0) , sf_0 (mix σ ρ)  = mo ρ (sf_0 σ )) (σ : S0)   : fX8_readToken_b0 sf_0 (mix σ ρ)  = mo ρ (fX8_readToken_b0 sf_0 σ ) := by
  simp (disch := omega) only [fX8_readToken_b0, ↓ol_n, ↓ol_su, ↓ol_up, ↓mo_ol, ↓mo_obp, ↓mo_og, ↓mo_ite, mix_lo, mo_some, mo_none, hsf_0, rx_fX8_readToken_b38]
theorem rx_fX8_readToken_h0 (ρ : S0)   : ∀ (n : Nat) (σ : S0) , fX8_readToken_h0  n (mix σ ρ)  = mo ρ (fX8_readToken_h0  n σ )
  | 0, _ => rfl
  | n + 1, σ => rx_fX8_readToken_b0 ρ  (fX8_readToken_h0  n)  (rx_fX8_readToken_h0 ρ   n) σ  
theorem rx_fX8_readToken (ρ : S0)   (σ : S0)   : fX8_readToken  (mix σ ρ)  = mo ρ (fX8_readToken  σ ) := by
  simp (disch := omega) only [fX8_readToken, ↓ol_n, ↓ol_su, ↓ol_up, ↓mo_ol, ↓mo_obp, ↓mo_og, ↓mo_ite, mix_lo, mo_some, mo_none, rx_fX8_readToken_h0]
theorem ox_fX8_readToken (ρ : S0) (σ : S0)   (kk : Int32 → S0 → Option (Int32 × S0)) : obp (fX8_readToken (mix σ ρ) ) kk = obp (fX8_readToken σ ) (fun r s => kk r (mix s ρ)) := by
  rw [rx_fX8_readToken ρ σ  , obp_mo]
theorem rx_fX8_isName_b28 (ρ : S0) (sf_28 : S0 → Nat → Int32 → Option (Int32 × S0)) (hsf_28 : ∀ (σ : S0) (a0 : Nat) (a1 : Int32), sf_28 (mix σ ρ) a0 a1 = mo ρ (sf_28 σ a0 a1)) (σ : S0) (i1 : Nat) (x2 : Int32)  : fX8_isName_b28 sf_28 (mix σ ρ) i1 x2 = mo ρ (fX8_isName_b28 sf_28 σ i1 x2) := by
  simp (disch := omega) only [fX8_isName_b28, ↓ol_n, ↓ol_su, ↓ol_up, ↓mo_ol, ↓mo_obp, ↓mo_og, ↓mo_ite, ↓ox_fJ0_length_8abf5, ↓ox_fJ0_charAt_5068e, mix_lo, mo_some, mo_none, hsf_28, rx_fJ0_length_8abf5, rx_fJ0_charAt_5068e]
theorem rx_fX8_isName_h28 (ρ : S0)   : ∀ (n : Nat) (σ : S0) (i1 : Nat) (x2 : Int32), fX8_isName_h28  n (mix σ ρ) i1 x2 = mo ρ (fX8_isName_h28  n σ i1 x2)
  | 0, _, _, _ => rfl
  | n + 1, σ, i1, x2 => rx_fX8_isName_b28 ρ  (fX8_isName_h28  n)  (rx_fX8_isName_h28 ρ   n) σ i1 x2 
theorem rx_fX8_isName (ρ : S0)   (σ : S0) (i1 : Nat)  : fX8_isName  (mix σ ρ) i1 = mo ρ (fX8_isName  σ i1) := by
  simp (disch := omega) only [fX8_isName, ↓ol_n, ↓ol_su, ↓ol_up, ↓mo_ol, ↓mo_obp, ↓mo_og, ↓mo_ite, ↓ox_fJ0_length_8abf5, mix_lo, mo_some, mo_none, rx_fJ0_length_8abf5, rx_fX8_isName_h28]
theorem ox_fX8_isName (ρ : S0) (σ : S0) (i1 : Nat)  (kk : Int32 → S0 → Option (Int32 × S0)) : obp (fX8_isName (mix σ ρ) i1) kk = obp (fX8_isName σ i1) (fun r s => kk r (mix s ρ)) := by
  rw [rx_fX8_isName ρ σ i1 , obp_mo]
theorem rx_fX9_empty (ρ : S0)   (σ : S0) (k : Nat) (ck : k < 23) : fX9_empty  (mix σ ρ) k = mo ρ (fX9_empty  σ k) := by
  simp (disch := omega) only [fX9_empty, ↓ol_n, ↓ol_su, ↓ol_up, ↓mo_ol, ↓mo_obp, ↓mo_og, ↓mo_ite, ↓ox_fX1_empty, mix_lo, mo_some, mo_none, rx_fX1_empty]
theorem ox_fX9_empty (ρ : S0) (σ : S0) (k : Nat) (ck : k < 23) (kk : Int32 → S0 → Option (Int32 × S0)) : obp (fX9_empty (mix σ ρ) k) kk = obp (fX9_empty σ k) (fun r s => kk r (mix s ρ)) := by
  rw [rx_fX9_empty ρ σ k ck, obp_mo]
theorem rx_fX9_copyFrom_b56 (ρ : S0) (sf_56 : S0 → Nat → Nat → Int32 → Option (Int32 × S0)) (hsf_56 : ∀ (σ : S0) (a0 : Nat) (a1 : Nat) (a2 : Int32), a0 < 23 → a1 < 23 → sf_56 (mix σ ρ) a0 a1 a2 = mo ρ (sf_56 σ a0 a1 a2)) (σ : S0) (k : Nat) (x1 : Nat) (x2 : Int32) (ck : k < 23) (cx1 : x1 < 23) : fX9_copyFrom_b56 sf_56 (mix σ ρ) k x1 x2 = mo ρ (fX9_copyFrom_b56 sf_56 σ k x1 x2) := by
  by_cases g0 : (x2 < 0 ∨ 6 ≤ x2.toNatClampNeg)
  · simp (disch := omega) only [fX9_copyFrom_b56, ↓ol_n, ↓ol_su, ↓ol_up, ↓mo_ol, ↓mo_obp, ↓mo_og, ↓mo_ite, ↓ox_fX1_copyFrom, mix_lo, mo_some, mo_none, hsf_56, rx_fX1_copyFrom, og_g g0]
  · have h0 : x2.toNatClampNeg < 6 := by omega
    simp (disch := omega) only [fX9_copyFrom_b56, ↓ol_n, ↓ol_su, ↓ol_up, ↓mo_ol, ↓mo_obp, ↓mo_og, ↓mo_ite, ↓ox_fX1_copyFrom, mix_lo, mo_some, mo_none, hsf_56, rx_fX1_copyFrom]
theorem rx_fX9_copyFrom_h56 (ρ : S0)   : ∀ (n : Nat) (σ : S0) (k : Nat) (x1 : Nat) (x2 : Int32), k < 23 → x1 < 23 → fX9_copyFrom_h56  n (mix σ ρ) k x1 x2 = mo ρ (fX9_copyFrom_h56  n σ k x1 x2)
  | 0, _, _, _, _ => fun _ _ => rfl
  | n + 1, σ, k, x1, x2 => fun ck cx1 => rx_fX9_copyFrom_b56 ρ  (fX9_copyFrom_h56  n)  (rx_fX9_copyFrom_h56 ρ   n) σ k x1 x2 ck cx1
theorem rx_fX9_copyFrom (ρ : S0)   (σ : S0) (k : Nat) (k1 : Nat) (ck : k < 23) (ck1 : k1 < 23) : fX9_copyFrom  (mix σ ρ) k k1 = mo ρ (fX9_copyFrom  σ k k1) := by
  simp (disch := omega) only [fX9_copyFrom, ↓ol_n, ↓ol_su, ↓ol_up, ↓mo_ol, ↓mo_obp, ↓mo_og, ↓mo_ite, mix_lo, mo_some, mo_none, rx_fX9_copyFrom_h56]
theorem ox_fX9_copyFrom (ρ : S0) (σ : S0) (k : Nat) (k1 : Nat) (ck : k < 23) (ck1 : k1 < 23) (kk : Int32 → S0 → Option (Int32 × S0)) : obp (fX9_copyFrom (mix σ ρ) k k1) kk = obp (fX9_copyFrom σ k k1) (fun r s => kk r (mix s ρ)) := by
  rw [rx_fX9_copyFrom ρ σ k k1 ck ck1, obp_mo]
theorem rx_fX9_hasHouse (ρ : S0)   (σ : S0) (k : Nat) (x1 : Int32) (ck : k < 23) : fX9_hasHouse  (mix σ ρ) k x1 = mo ρ (fX9_hasHouse  σ k x1) := by
  simp (disch := omega) only [fX9_hasHouse, ↓ol_n, ↓ol_su, ↓ol_up, ↓mo_ol, ↓mo_obp, ↓mo_og, ↓mo_ite, mix_lo, mo_some, mo_none]
theorem ox_fX9_hasHouse (ρ : S0) (σ : S0) (k : Nat) (x1 : Int32) (ck : k < 23) (kk : Int32 → S0 → Option (Int32 × S0)) : obp (fX9_hasHouse (mix σ ρ) k x1) kk = obp (fX9_hasHouse σ k x1) (fun r s => kk r (mix s ρ)) := by
  rw [rx_fX9_hasHouse ρ σ k x1 ck, obp_mo]
theorem rx_fX9_hasTune (ρ : S0)   (σ : S0) (k : Nat) (x1 : Int32) (ck : k < 23) : fX9_hasTune  (mix σ ρ) k x1 = mo ρ (fX9_hasTune  σ k x1) := by
  simp (disch := omega) only [fX9_hasTune, ↓ol_n, ↓ol_su, ↓ol_up, ↓mo_ol, ↓mo_obp, ↓mo_og, ↓mo_ite, mix_lo, mo_some, mo_none]
theorem ox_fX9_hasTune (ρ : S0) (σ : S0) (k : Nat) (x1 : Int32) (ck : k < 23) (kk : Int32 → S0 → Option (Int32 × S0)) : obp (fX9_hasTune (mix σ ρ) k x1) kk = obp (fX9_hasTune σ k x1) (fun r s => kk r (mix s ρ)) := by
  rw [rx_fX9_hasTune ρ σ k x1 ck, obp_mo]
theorem rx_fX9_asksStroke (ρ : S0)   (σ : S0) (k : Nat) (x1 : Int32) (x2 : Int32) (ck : k < 23) : fX9_asksStroke  (mix σ ρ) k x1 x2 = mo ρ (fX9_asksStroke  σ k x1 x2) := by
  simp (disch := omega) only [fX9_asksStroke, ↓ol_n, ↓ol_su, ↓ol_up, ↓mo_ol, ↓mo_obp, ↓mo_og, ↓mo_ite, mix_lo, mo_some, mo_none]
theorem ox_fX9_asksStroke (ρ : S0) (σ : S0) (k : Nat) (x1 : Int32) (x2 : Int32) (ck : k < 23) (kk : Int32 → S0 → Option (Int32 × S0)) : obp (fX9_asksStroke (mix σ ρ) k x1 x2) kk = obp (fX9_asksStroke σ k x1 x2) (fun r s => kk r (mix s ρ)) := by
  rw [rx_fX9_asksStroke ρ σ k x1 x2 ck, obp_mo]
theorem rx_fX9_isWhole_b61 (ρ : S0) (sf_2 : S0 → Nat → Int32 → Option (Int32 × S0)) (hsf_2 : ∀ (σ : S0) (a0 : Nat) (a1 : Int32), a0 < 23 → sf_2 (mix σ ρ) a0 a1 = mo ρ (sf_2 σ a0 a1)) (σ : S0) (k : Nat) (x1 : Int32) (ck : k < 23) : fX9_isWhole_b61 sf_2 (mix σ ρ) k x1 = mo ρ (fX9_isWhole_b61 sf_2 σ k x1) := by
  simp (disch := omega) only [fX9_isWhole_b61, ↓ol_n, ↓ol_su, ↓ol_up, ↓mo_ol, ↓mo_obp, ↓mo_og, ↓mo_ite, mix_lo, mo_some, mo_none, hsf_2]
theorem rx_fX9_isWhole_b110 (ρ : S0) (sf_100 : S0 → Nat → Int32 → Option (Int32 × S0)) (sf_110 : S0 → Nat → Int32 → Int32 → Option (Int32 × S0)) (hsf_100 : ∀ (σ : S0) (a0 : Nat) (a1 : Int32), a0 < 23 → sf_100 (mix σ ρ) a0 a1 = mo ρ (sf_100 σ a0 a1)) (hsf_110 : ∀ (σ : S0) (a0 : Nat) (a1 : Int32) (a2 : Int32), a0 < 23 → sf_110 (mix σ ρ) a0 a1 a2 = mo ρ (sf_110 σ a0 a1 a2)) (σ : S0) (k : Nat) (x1 : Int32) (x2 : Int32) (ck : k < 23) : fX9_isWhole_b110 sf_100 sf_110 (mix σ ρ) k x1 x2 = mo ρ (fX9_isWhole_b110 sf_100 sf_110 σ k x1 x2) := by
  by_cases g0 : (x1 < 0 ∨ 6 ≤ x1.toNatClampNeg)
  · simp (disch := omega) only [fX9_isWhole_b110, ↓ol_n, ↓ol_su, ↓ol_up, ↓mo_ol, ↓mo_obp, ↓mo_og, ↓mo_ite, ↓ox_fX1_hasBell, mix_lo, mo_some, mo_none, hsf_100, hsf_110, rx_fX1_hasBell, og_g g0]
  · have h0 : x1.toNatClampNeg < 6 := by omega
    simp (disch := omega) only [fX9_isWhole_b110, ↓ol_n, ↓ol_su, ↓ol_up, ↓mo_ol, ↓mo_obp, ↓mo_og, ↓mo_ite, ↓ox_fX1_hasBell, mix_lo, mo_some, mo_none, hsf_100, hsf_110, rx_fX1_hasBell]
theorem rx_fX9_isWhole_h110 (ρ : S0) (sf_100 : S0 → Nat → Int32 → Option (Int32 × S0)) (hsf_100 : ∀ (σ : S0) (a0 : Nat) (a1 : Int32), a0 < 23 → sf_100 (mix σ ρ) a0 a1 = mo ρ (sf_100 σ a0 a1)) : ∀ (n : Nat) (σ : S0) (k : Nat) (x1 : Int32) (x2 : Int32), k < 23 → fX9_isWhole_h110 sf_100 n (mix σ ρ) k x1 x2 = mo ρ (fX9_isWhole_h110 sf_100 n σ k x1 x2)
  | 0, _, _, _, _ => fun _ => rfl
  | n + 1, σ, k, x1, x2 => fun ck => rx_fX9_isWhole_b110 ρ sf_100 (fX9_isWhole_h110 sf_100 n) hsf_100 (rx_fX9_isWhole_h110 ρ sf_100 hsf_100 n) σ k x1 x2 ck
theorem rx_fX9_isWhole_b100 (ρ : S0) (sf_100 : S0 → Nat → Int32 → Option (Int32 × S0)) (hsf_100 : ∀ (σ : S0) (a0 : Nat) (a1 : Int32), a0 < 23 → sf_100 (mix σ ρ) a0 a1 = mo ρ (sf_100 σ a0 a1)) (σ : S0) (k : Nat) (x1 : Int32) (ck : k < 23) : fX9_isWhole_b100 sf_100 (mix σ ρ) k x1 = mo ρ (fX9_isWhole_b100 sf_100 σ k x1) := by
  simp (disch := omega) only [fX9_isWhole_b100, ↓ol_n, ↓ol_su, ↓ol_up, ↓mo_ol, ↓mo_obp, ↓mo_og, ↓mo_ite, mix_lo, mo_some, mo_none, hsf_100, rx_fX9_isWhole_h110]
theorem rx_fX9_isWhole_h100 (ρ : S0)   : ∀ (n : Nat) (σ : S0) (k : Nat) (x1 : Int32), k < 23 → fX9_isWhole_h100  n (mix σ ρ) k x1 = mo ρ (fX9_isWhole_h100  n σ k x1)
  | 0, _, _, _ => fun _ => rfl
  | n + 1, σ, k, x1 => fun ck => rx_fX9_isWhole_b100 ρ  (fX9_isWhole_h100  n)  (rx_fX9_isWhole_h100 ρ   n) σ k x1 ck
theorem rx_fX9_isWhole_b72 (ρ : S0) (sf_72 : S0 → Nat → Int32 → Option (Int32 × S0)) (hsf_72 : ∀ (σ : S0) (a0 : Nat) (a1 : Int32), a0 < 23 → sf_72 (mix σ ρ) a0 a1 = mo ρ (sf_72 σ a0 a1)) (σ : S0) (k : Nat) (x1 : Int32) (ck : k < 23) : fX9_isWhole_b72 sf_72 (mix σ ρ) k x1 = mo ρ (fX9_isWhole_b72 sf_72 σ k x1) := by
  simp (disch := omega) only [fX9_isWhole_b72, ↓ol_n, ↓ol_su, ↓ol_up, ↓mo_ol, ↓mo_obp, ↓mo_og, ↓mo_ite, mix_lo, mo_some, mo_none, hsf_72, rx_fX9_isWhole_h100]
theorem rx_fX9_isWhole_h72 (ρ : S0)   : ∀ (n : Nat) (σ : S0) (k : Nat) (x1 : Int32), k < 23 → fX9_isWhole_h72  n (mix σ ρ) k x1 = mo ρ (fX9_isWhole_h72  n σ k x1)
  | 0, _, _, _ => fun _ => rfl
  | n + 1, σ, k, x1 => fun ck => rx_fX9_isWhole_b72 ρ  (fX9_isWhole_h72  n)  (rx_fX9_isWhole_h72 ρ   n) σ k x1 ck
theorem rx_fX9_isWhole_b2 (ρ : S0) (sf_2 : S0 → Nat → Int32 → Option (Int32 × S0)) (hsf_2 : ∀ (σ : S0) (a0 : Nat) (a1 : Int32), a0 < 23 → sf_2 (mix σ ρ) a0 a1 = mo ρ (sf_2 σ a0 a1)) (σ : S0) (k : Nat) (x1 : Int32) (ck : k < 23) : fX9_isWhole_b2 sf_2 (mix σ ρ) k x1 = mo ρ (fX9_isWhole_b2 sf_2 σ k x1) := by
  simp (disch := omega) only [fX9_isWhole_b2, ↓ol_n, ↓ol_su, ↓ol_up, ↓mo_ol, ↓mo_obp, ↓mo_og, ↓mo_ite, ↓ox_fX9_hasHouse, mix_lo, mo_some, mo_none, hsf_2, rx_fX9_isWhole_h72, rx_fX9_hasHouse, rx_fX9_isWhole_b61]
theorem rx_fX9_isWhole_h2 (ρ : S0)   : ∀ (n : Nat) (σ : S0) (k : Nat) (x1 : Int32), k < 23 → fX9_isWhole_h2  n (mix σ ρ) k x1 = mo ρ (fX9_isWhole_h2  n σ k x1)
  | 0, _, _, _ => fun _ => rfl
  | n + 1, σ, k, x1 => fun ck => rx_fX9_isWhole_b2 ρ  (fX9_isWhole_h2  n)  (rx_fX9_isWhole_h2 ρ   n) σ k x1 ck
theorem rx_fX9_isWhole (ρ : S0)   (σ : S0) (k : Nat) (ck : k < 23) : fX9_isWhole  (mix σ ρ) k = mo ρ (fX9_isWhole  σ k) := by
  simp (disch := omega) only [fX9_isWhole, ↓ol_n, ↓ol_su, ↓ol_up, ↓mo_ol, ↓mo_obp, ↓mo_og, ↓mo_ite, mix_lo, mo_some, mo_none, rx_fX9_isWhole_h2]
theorem ox_fX9_isWhole (ρ : S0) (σ : S0) (k : Nat) (ck : k < 23) (kk : Int32 → S0 → Option (Int32 × S0)) : obp (fX9_isWhole (mix σ ρ) k) kk = obp (fX9_isWhole σ k) (fun r s => kk r (mix s ρ)) := by
  rw [rx_fX9_isWhole ρ σ k ck, obp_mo]
theorem rx_fX6_play_b159 (ρ : S0) (sf_22 : S0 → Int32 → Int32 → Int32 → Int32 → Option (Int32 × S0)) (hsf_22 : ∀ (σ : S0) (a0 : Int32) (a1 : Int32) (a2 : Int32) (a3 : Int32), sf_22 (mix σ ρ) a0 a1 a2 a3 = mo ρ (sf_22 σ a0 a1 a2 a3)) (σ : S0) (x1 : Int32) (x2 : Int32) (x3 : Int32) (x4 : Int32)  : fX6_play_b159 sf_22 (mix σ ρ) x1 x2 x3 x4 = mo ρ (fX6_play_b159 sf_22 σ x1 x2 x3 x4) := by
  simp (disch := omega) only [fX6_play_b159, ↓ol_n, ↓ol_su, ↓ol_up, ↓mo_ol, ↓mo_obp, ↓mo_og, ↓mo_ite, mix_lo, mo_some, mo_none, hsf_22]
theorem rx_fX6_play_b84 (ρ : S0) (sf_22 : S0 → Int32 → Int32 → Int32 → Int32 → Option (Int32 × S0)) (hsf_22 : ∀ (σ : S0) (a0 : Int32) (a1 : Int32) (a2 : Int32) (a3 : Int32), sf_22 (mix σ ρ) a0 a1 a2 a3 = mo ρ (sf_22 σ a0 a1 a2 a3)) (σ : S0) (x1 : Int32) (x2 : Int32) (x3 : Int32) (x4 : Int32)  : fX6_play_b84 sf_22 (mix σ ρ) x1 x2 x3 x4 = mo ρ (fX6_play_b84 sf_22 σ x1 x2 x3 x4) := by
  simp (disch := omega) only [fX6_play_b84, ↓ol_n, ↓ol_su, ↓ol_up, ↓mo_ol, ↓mo_obp, ↓mo_og, ↓mo_ite, mix_lo, mo_some, mo_none, hsf_22, rx_fX6_play_b159]
theorem rx_fX6_play_b22 (ρ : S0) (sf_22 : S0 → Int32 → Int32 → Int32 → Int32 → Option (Int32 × S0)) (hsf_22 : ∀ (σ : S0) (a0 : Int32) (a1 : Int32) (a2 : Int32) (a3 : Int32), sf_22 (mix σ ρ) a0 a1 a2 a3 = mo ρ (sf_22 σ a0 a1 a2 a3)) (σ : S0) (x1 : Int32) (x2 : Int32) (x3 : Int32) (x4 : Int32)  : fX6_play_b22 sf_22 (mix σ ρ) x1 x2 x3 x4 = mo ρ (fX6_play_b22 sf_22 σ x1 x2 x3 x4) := by
  by_cases g0 : (x1 < 0 ∨ 6 ≤ x1.toNatClampNeg)
  · simp (disch := omega) only [fX6_play_b22, ↓ol_n, ↓ol_su, ↓ol_up, ↓mo_ol, ↓mo_obp, ↓mo_og, ↓mo_ite, mix_lo, mo_some, mo_none, hsf_22, rx_fX6_play_b84, rx_fX6_play_b159, og_g g0]
  · have h0 : x1.toNatClampNeg < 6 := by omega
    simp (disch := omega) only [fX6_play_b22, ↓ol_n, ↓ol_su, ↓ol_up, ↓mo_ol, ↓mo_obp, ↓mo_og, ↓mo_ite, mix_lo, mo_some, mo_none, hsf_22, rx_fX6_play_b84, rx_fX6_play_b159]
theorem rx_fX6_play_h22 (ρ : S0)   : ∀ (n : Nat) (σ : S0) (x1 : Int32) (x2 : Int32) (x3 : Int32) (x4 : Int32), fX6_play_h22  n (mix σ ρ) x1 x2 x3 x4 = mo ρ (fX6_play_h22  n σ x1 x2 x3 x4)
  | 0, _, _, _, _, _ => rfl
  | n + 1, σ, x1, x2, x3, x4 => rx_fX6_play_b22 ρ  (fX6_play_h22  n)  (rx_fX6_play_h22 ρ   n) σ x1 x2 x3 x4 
theorem rx_fX6_play (ρ : S0)   (σ : S0) (x1 : Int32)  : fX6_play  (mix σ ρ) x1 = mo ρ (fX6_play  σ x1) := by
  simp (disch := omega) only [fX6_play, ↓ol_n, ↓ol_su, ↓ol_up, ↓mo_ol, ↓mo_obp, ↓mo_og, ↓mo_ite, mix_lo, mo_some, mo_none, rx_fX6_play_h22]
theorem ox_fX6_play (ρ : S0) (σ : S0) (x1 : Int32)  (kk : Int32 → S0 → Option (Int32 × S0)) : obp (fX6_play (mix σ ρ) x1) kk = obp (fX6_play σ x1) (fun r s => kk r (mix s ρ)) := by
  rw [rx_fX6_play ρ σ x1 , obp_mo]
theorem rx_fX6_rang (ρ : S0)   (σ : S0) (x1 : Int32)  : fX6_rang  (mix σ ρ) x1 = mo ρ (fX6_rang  σ x1) := by
  simp (disch := omega) only [fX6_rang, ↓ol_n, ↓ol_su, ↓ol_up, ↓mo_ol, ↓mo_obp, ↓mo_og, ↓mo_ite, mix_lo, mo_some, mo_none]
theorem ox_fX6_rang (ρ : S0) (σ : S0) (x1 : Int32)  (kk : Int32 → S0 → Option (Int32 × S0)) : obp (fX6_rang (mix σ ρ) x1) kk = obp (fX6_rang σ x1) (fun r s => kk r (mix s ρ)) := by
  rw [rx_fX6_rang ρ σ x1 , obp_mo]
theorem rx_fX6_tuneTaken_b38 (ρ : S0) (sf_7 : S0 → Int32 → Int32 → Int32 → Option (Int32 × S0)) (hsf_7 : ∀ (σ : S0) (a0 : Int32) (a1 : Int32) (a2 : Int32), sf_7 (mix σ ρ) a0 a1 a2 = mo ρ (sf_7 σ a0 a1 a2)) (σ : S0) (x1 : Int32) (x2 : Int32) (x3 : Int32)  : fX6_tuneTaken_b38 sf_7 (mix σ ρ) x1 x2 x3 = mo ρ (fX6_tuneTaken_b38 sf_7 σ x1 x2 x3) := by
  simp (disch := omega) only [fX6_tuneTaken_b38, ↓ol_n, ↓ol_su, ↓ol_up, ↓mo_ol, ↓mo_obp, ↓mo_og, ↓mo_ite, mix_lo, mo_some, mo_none, hsf_7]
theorem rx_fX6_tuneTaken_b7 (ρ : S0) (sf_7 : S0 → Int32 → Int32 → Int32 → Option (Int32 × S0)) (hsf_7 : ∀ (σ : S0) (a0 : Int32) (a1 : Int32) (a2 : Int32), sf_7 (mix σ ρ) a0 a1 a2 = mo ρ (sf_7 σ a0 a1 a2)) (σ : S0) (x1 : Int32) (x2 : Int32) (x3 : Int32)  : fX6_tuneTaken_b7 sf_7 (mix σ ρ) x1 x2 x3 = mo ρ (fX6_tuneTaken_b7 sf_7 σ x1 x2 x3) := by
  simp (disch := omega) only [fX6_tuneTaken_b7, ↓ol_n, ↓ol_su, ↓ol_up, ↓mo_ol, ↓mo_obp, ↓mo_og, ↓mo_ite, ↓ox_fX6_play, mix_lo, mo_some, mo_none, hsf_7, rx_fX6_play, rx_fX6_tuneTaken_b38]
theorem rx_fX6_tuneTaken_h7 (ρ : S0)   : ∀ (n : Nat) (σ : S0) (x1 : Int32) (x2 : Int32) (x3 : Int32), fX6_tuneTaken_h7  n (mix σ ρ) x1 x2 x3 = mo ρ (fX6_tuneTaken_h7  n σ x1 x2 x3)
  | 0, _, _, _, _ => rfl
  | n + 1, σ, x1, x2, x3 => rx_fX6_tuneTaken_b7 ρ  (fX6_tuneTaken_h7  n)  (rx_fX6_tuneTaken_h7 ρ   n) σ x1 x2 x3 
theorem rx_fX6_tuneTaken (ρ : S0)   (σ : S0)   : fX6_tuneTaken  (mix σ ρ)  = mo ρ (fX6_tuneTaken  σ ) := by
  simp (disch := omega) only [fX6_tuneTaken, ↓ol_n, ↓ol_su, ↓ol_up, ↓mo_ol, ↓mo_obp, ↓mo_og, ↓mo_ite, mix_lo, mo_some, mo_none, rx_fX6_tuneTaken_h7]
theorem ox_fX6_tuneTaken (ρ : S0) (σ : S0)   (kk : Int32 → S0 → Option (Int32 × S0)) : obp (fX6_tuneTaken (mix σ ρ) ) kk = obp (fX6_tuneTaken σ ) (fun r s => kk r (mix s ρ)) := by
  rw [rx_fX6_tuneTaken ρ σ  , obp_mo]
theorem rx_fX6_shareOf_b56 (ρ : S0) (sf_10 : S0 → Int32 → Int32 → Int32 → Int32 → Option (Int32 × S0)) (hsf_10 : ∀ (σ : S0) (a0 : Int32) (a1 : Int32) (a2 : Int32) (a3 : Int32), sf_10 (mix σ ρ) a0 a1 a2 a3 = mo ρ (sf_10 σ a0 a1 a2 a3)) (σ : S0) (x1 : Int32) (x2 : Int32) (x3 : Int32) (x4 : Int32)  : fX6_shareOf_b56 sf_10 (mix σ ρ) x1 x2 x3 x4 = mo ρ (fX6_shareOf_b56 sf_10 σ x1 x2 x3 x4) := by
  simp (disch := omega) only [fX6_shareOf_b56, ↓ol_n, ↓ol_su, ↓ol_up, ↓mo_ol, ↓mo_obp, ↓mo_og, ↓mo_ite, mix_lo, mo_some, mo_none, hsf_10]
theorem rx_fX6_shareOf_b10 (ρ : S0) (sf_10 : S0 → Int32 → Int32 → Int32 → Int32 → Option (Int32 × S0)) (hsf_10 : ∀ (σ : S0) (a0 : Int32) (a1 : Int32) (a2 : Int32) (a3 : Int32), sf_10 (mix σ ρ) a0 a1 a2 a3 = mo ρ (sf_10 σ a0 a1 a2 a3)) (σ : S0) (x1 : Int32) (x2 : Int32) (x3 : Int32) (x4 : Int32)  : fX6_shareOf_b10 sf_10 (mix σ ρ) x1 x2 x3 x4 = mo ρ (fX6_shareOf_b10 sf_10 σ x1 x2 x3 x4) := by
  by_cases g0 : (x2 < 0 ∨ 6 ≤ x2.toNatClampNeg)
  · simp (disch := omega) only [fX6_shareOf_b10, ↓ol_n, ↓ol_su, ↓ol_up, ↓mo_ol, ↓mo_obp, ↓mo_og, ↓mo_ite, ↓ox_fX6_rang, ↓ox_fX1_shareOf, mix_lo, mo_some, mo_none, hsf_10, rx_fX6_rang, rx_fX6_shareOf_b56, rx_fX1_shareOf, og_g g0]
  · have h0 : x2.toNatClampNeg < 6 := by omega
    simp (disch := omega) only [fX6_shareOf_b10, ↓ol_n, ↓ol_su, ↓ol_up, ↓mo_ol, ↓mo_obp, ↓mo_og, ↓mo_ite, ↓ox_fX6_rang, ↓ox_fX1_shareOf, mix_lo, mo_some, mo_none, hsf_10, rx_fX6_rang, rx_fX6_shareOf_b56, rx_fX1_shareOf]
theorem rx_fX6_shareOf_h10 (ρ : S0)   : ∀ (n : Nat) (σ : S0) (x1 : Int32) (x2 : Int32) (x3 : Int32) (x4 : Int32), fX6_shareOf_h10  n (mix σ ρ) x1 x2 x3 x4 = mo ρ (fX6_shareOf_h10  n σ x1 x2 x3 x4)
  | 0, _, _, _, _, _ => rfl
  | n + 1, σ, x1, x2, x3, x4 => rx_fX6_shareOf_b10 ρ  (fX6_shareOf_h10  n)  (rx_fX6_shareOf_h10 ρ   n) σ x1 x2 x3 x4 
theorem rx_fX6_shareOf (ρ : S0)   (σ : S0) (x1 : Int32) (x2 : Int32)  : fX6_shareOf  (mix σ ρ) x1 x2 = mo ρ (fX6_shareOf  σ x1 x2) := by
  simp (disch := omega) only [fX6_shareOf, ↓ol_n, ↓ol_su, ↓ol_up, ↓mo_ol, ↓mo_obp, ↓mo_og, ↓mo_ite, ↓ox_fX6_play, mix_lo, mo_some, mo_none, rx_fX6_play, rx_fX6_shareOf_h10]
theorem ox_fX6_shareOf (ρ : S0) (σ : S0) (x1 : Int32) (x2 : Int32)  (kk : Int32 → S0 → Option (Int32 × S0)) : obp (fX6_shareOf (mix σ ρ) x1 x2) kk = obp (fX6_shareOf σ x1 x2) (fun r s => kk r (mix s ρ)) := by
  rw [rx_fX6_shareOf ρ σ x1 x2 , obp_mo]
theorem rx_fX6_wageOf (ρ : S0)   (σ : S0) (x1 : Int32)  : fX6_wageOf  (mix σ ρ) x1 = mo ρ (fX6_wageOf  σ x1) := by
  simp (disch := omega) only [fX6_wageOf, ↓ol_n, ↓ol_su, ↓ol_up, ↓mo_ol, ↓mo_obp, ↓mo_og, ↓mo_ite, ↓ox_fX6_tuneTaken, ↓ox_fX6_shareOf, mix_lo, mo_some, mo_none, rx_fX6_tuneTaken, rx_fX6_shareOf]
theorem ox_fX6_wageOf (ρ : S0) (σ : S0) (x1 : Int32)  (kk : Int32 → S0 → Option (Int32 × S0)) : obp (fX6_wageOf (mix σ ρ) x1) kk = obp (fX6_wageOf σ x1) (fun r s => kk r (mix s ρ)) := by
  rw [rx_fX6_wageOf ρ σ x1 , obp_mo]
end
section
theorem rx_fX0_weighTune_b175 (ρ : S0) (sf_44 : S0 → Int32 → Int32 → Int32 → Option (Int32 × S0)) (hsf_44 : ∀ (σ : S0) (a0 : Int32) (a1 : Int32) (a2 : Int32), sf_44 (mix σ ρ) a0 a1 a2 = mo ρ (sf_44 σ a0 a1 a2)) (σ : S0) (x1 : Int32) (x2 : Int32) (x3 : Int32)  : fX0_weighTune_b175 sf_44 (mix σ ρ) x1 x2 x3 = mo ρ (fX0_weighTune_b175 sf_44 σ x1 x2 x3) := by
  simp (disch := omega) only [fX0_weighTune_b175, ↓ol_n, ↓ol_su, ↓ol_up, ↓mo_ol, ↓mo_obp, ↓mo_og, ↓mo_ite, mix_lo, mo_some, mo_none, hsf_44]
theorem rx_fX0_weighTune_b44 (ρ : S0) (sf_44 : S0 → Int32 → Int32 → Int32 → Option (Int32 × S0)) (hsf_44 : ∀ (σ : S0) (a0 : Int32) (a1 : Int32) (a2 : Int32), sf_44 (mix σ ρ) a0 a1 a2 = mo ρ (sf_44 σ a0 a1 a2)) (σ : S0) (x1 : Int32) (x2 : Int32) (x3 : Int32)  : fX0_weighTune_b44 sf_44 (mix σ ρ) x1 x2 x3 = mo ρ (fX0_weighTune_b44 sf_44 σ x1 x2 x3) := by
  by_cases g0 : (x2 < 0 ∨ 6 ≤ x2.toNatClampNeg)
  · simp (disch := omega) only [fX0_weighTune_b44, ↓ol_n, ↓ol_su, ↓ol_up, ↓mo_ol, ↓mo_obp, ↓mo_og, ↓mo_ite, ↓ox_fX6_rang, ↓ox_fX1_partsOf, mix_lo, mo_some, mo_none, hsf_44, rx_fX6_rang, rx_fX1_partsOf, rx_fX0_weighTune_b175, og_g g0]
  · have h0 : x2.toNatClampNeg < 6 := by omega
    simp (disch := omega) only [fX0_weighTune_b44, ↓ol_n, ↓ol_su, ↓ol_up, ↓mo_ol, ↓mo_obp, ↓mo_og, ↓mo_ite, ↓ox_fX6_rang, ↓ox_fX1_partsOf, mix_lo, mo_some, mo_none, hsf_44, rx_fX6_rang, rx_fX1_partsOf, rx_fX0_weighTune_b175]
theorem rx_fX0_weighTune_h44 (ρ : S0)   : ∀ (n : Nat) (σ : S0) (x1 : Int32) (x2 : Int32) (x3 : Int32), fX0_weighTune_h44  n (mix σ ρ) x1 x2 x3 = mo ρ (fX0_weighTune_h44  n σ x1 x2 x3)
  | 0, _, _, _, _ => rfl
  | n + 1, σ, x1, x2, x3 => rx_fX0_weighTune_b44 ρ  (fX0_weighTune_h44  n)  (rx_fX0_weighTune_h44 ρ   n) σ x1 x2 x3 
theorem rx_fX0_weighTune (ρ : S0)   (σ : S0) (x1 : Int32) (x2 : Int32)  : fX0_weighTune  (mix σ ρ) x1 x2 = mo ρ (fX0_weighTune  σ x1 x2) := by
  simp (disch := omega) only [fX0_weighTune, ↓ol_n, ↓ol_su, ↓ol_up, ↓mo_ol, ↓mo_obp, ↓mo_og, ↓mo_ite, ↓ox_fX6_play, mix_lo, mo_some, mo_none, rx_fX6_play, rx_fX0_weighTune_h44]
theorem ox_fX0_weighTune (ρ : S0) (σ : S0) (x1 : Int32) (x2 : Int32)  (kk : Int32 → S0 → Option (Int32 × S0)) : obp (fX0_weighTune (mix σ ρ) x1 x2) kk = obp (fX0_weighTune σ x1 x2) (fun r s => kk r (mix s ρ)) := by
  rw [rx_fX0_weighTune ρ σ x1 x2 , obp_mo]
theorem rx_fX0_weigh_b2 (ρ : S0) (sf_2 : S0 → Int32 → Int32 → Option (Int32 × S0)) (hsf_2 : ∀ (σ : S0) (a0 : Int32) (a1 : Int32), sf_2 (mix σ ρ) a0 a1 = mo ρ (sf_2 σ a0 a1)) (σ : S0) (x1 : Int32) (x2 : Int32)  : fX0_weigh_b2 sf_2 (mix σ ρ) x1 x2 = mo ρ (fX0_weigh_b2 sf_2 σ x1 x2) := by
  simp (disch := omega) only [fX0_weigh_b2, ↓ol_n, ↓ol_su, ↓ol_up, ↓mo_ol, ↓mo_obp, ↓mo_og, ↓mo_ite, ↓ox_fX0_weighTune, mix_lo, mo_some, mo_none, hsf_2, rx_fX0_weighTune]
theorem rx_fX0_weigh_h2 (ρ : S0)   : ∀ (n : Nat) (σ : S0) (x1 : Int32) (x2 : Int32), fX0_weigh_h2  n (mix σ ρ) x1 x2 = mo ρ (fX0_weigh_h2  n σ x1 x2)
  | 0, _, _, _ => rfl
  | n + 1, σ, x1, x2 => rx_fX0_weigh_b2 ρ  (fX0_weigh_h2  n)  (rx_fX0_weigh_h2 ρ   n) σ x1 x2 
theorem rx_fX0_weigh (ρ : S0)   (σ : S0) (x1 : Int32)  : fX0_weigh  (mix σ ρ) x1 = mo ρ (fX0_weigh  σ x1) := by
  simp (disch := omega) only [fX0_weigh, ↓ol_n, ↓ol_su, ↓ol_up, ↓mo_ol, ↓mo_obp, ↓mo_og, ↓mo_ite, mix_lo, mo_some, mo_none, rx_fX0_weigh_h2]
theorem ox_fX0_weigh (ρ : S0) (σ : S0) (x1 : Int32)  (kk : Int32 → S0 → Option (Int32 × S0)) : obp (fX0_weigh (mix σ ρ) x1) kk = obp (fX0_weigh σ x1) (fun r s => kk r (mix s ρ)) := by
  rw [rx_fX0_weigh ρ σ x1 , obp_mo]
theorem rx_fX0_bringsAt_b65 (ρ : S0) (sf_7 : S0 → Int32 → Int32 → Int32 → Int32 → Option (Int32 × S0)) (hsf_7 : ∀ (σ : S0) (a0 : Int32) (a1 : Int32) (a2 : Int32) (a3 : Int32), sf_7 (mix σ ρ) a0 a1 a2 a3 = mo ρ (sf_7 σ a0 a1 a2 a3)) (σ : S0) (x1 : Int32) (x2 : Int32) (x3 : Int32) (x4 : Int32)  : fX0_bringsAt_b65 sf_7 (mix σ ρ) x1 x2 x3 x4 = mo ρ (fX0_bringsAt_b65 sf_7 σ x1 x2 x3 x4) := by
  simp (disch := omega) only [fX0_bringsAt_b65, ↓ol_n, ↓ol_su, ↓ol_up, ↓mo_ol, ↓mo_obp, ↓mo_og, ↓mo_ite, mix_lo, mo_some, mo_none, hsf_7]
theorem rx_fX0_bringsAt_b7 (ρ : S0) (sf_7 : S0 → Int32 → Int32 → Int32 → Int32 → Option (Int32 × S0)) (hsf_7 : ∀ (σ : S0) (a0 : Int32) (a1 : Int32) (a2 : Int32) (a3 : Int32), sf_7 (mix σ ρ) a0 a1 a2 a3 = mo ρ (sf_7 σ a0 a1 a2 a3)) (σ : S0) (x1 : Int32) (x2 : Int32) (x3 : Int32) (x4 : Int32)  : fX0_bringsAt_b7 sf_7 (mix σ ρ) x1 x2 x3 x4 = mo ρ (fX0_bringsAt_b7 sf_7 σ x1 x2 x3 x4) := by
  simp (disch := omega) only [fX0_bringsAt_b7, ↓ol_n, ↓ol_su, ↓ol_up, ↓mo_ol, ↓mo_obp, ↓mo_og, ↓mo_ite, mix_lo, mo_some, mo_none, hsf_7, rx_fX0_bringsAt_b65]
theorem rx_fX0_bringsAt_h7 (ρ : S0)   : ∀ (n : Nat) (σ : S0) (x1 : Int32) (x2 : Int32) (x3 : Int32) (x4 : Int32), fX0_bringsAt_h7  n (mix σ ρ) x1 x2 x3 x4 = mo ρ (fX0_bringsAt_h7  n σ x1 x2 x3 x4)
  | 0, _, _, _, _, _ => rfl
  | n + 1, σ, x1, x2, x3, x4 => rx_fX0_bringsAt_b7 ρ  (fX0_bringsAt_h7  n)  (rx_fX0_bringsAt_h7 ρ   n) σ x1 x2 x3 x4 
theorem rx_fX0_bringsAt (ρ : S0)   (σ : S0) (x1 : Int32)  : fX0_bringsAt  (mix σ ρ) x1 = mo ρ (fX0_bringsAt  σ x1) := by
  simp (disch := omega) only [fX0_bringsAt, ↓ol_n, ↓ol_su, ↓ol_up, ↓mo_ol, ↓mo_obp, ↓mo_og, ↓mo_ite, mix_lo, mo_some, mo_none, rx_fX0_bringsAt_h7]
theorem ox_fX0_bringsAt (ρ : S0) (σ : S0) (x1 : Int32)  (kk : Int32 → S0 → Option (Int32 × S0)) : obp (fX0_bringsAt (mix σ ρ) x1) kk = obp (fX0_bringsAt σ x1) (fun r s => kk r (mix s ρ)) := by
  rw [rx_fX0_bringsAt ρ σ x1 , obp_mo]
theorem rx_fX0_choose_b51 (ρ : S0) (sf_21 : S0 → Int32 → Option (Int32 × S0)) (hsf_21 : ∀ (σ : S0) (a0 : Int32), sf_21 (mix σ ρ) a0 = mo ρ (sf_21 σ a0)) (σ : S0) (x2 : Int32)  : fX0_choose_b51 sf_21 (mix σ ρ) x2 = mo ρ (fX0_choose_b51 sf_21 σ x2) := by
  simp (disch := omega) only [fX0_choose_b51, ↓ol_n, ↓ol_su, ↓ol_up, ↓mo_ol, ↓mo_obp, ↓mo_og, ↓mo_ite, mix_lo, mo_some, mo_none, hsf_21]
theorem rx_fX0_choose_b21 (ρ : S0) (sf_21 : S0 → Int32 → Option (Int32 × S0)) (hsf_21 : ∀ (σ : S0) (a0 : Int32), sf_21 (mix σ ρ) a0 = mo ρ (sf_21 σ a0)) (σ : S0) (x2 : Int32)  : fX0_choose_b21 sf_21 (mix σ ρ) x2 = mo ρ (fX0_choose_b21 sf_21 σ x2) := by
  simp (disch := omega) only [fX0_choose_b21, ↓ol_n, ↓ol_su, ↓ol_up, ↓mo_ol, ↓mo_obp, ↓mo_og, ↓mo_ite, ↓ox_fX0_bringsAt, mix_lo, mo_some, mo_none, hsf_21, rx_fX0_bringsAt, rx_fX0_choose_b51]
theorem rx_fX0_choose_h21 (ρ : S0)   : ∀ (n : Nat) (σ : S0) (x2 : Int32), fX0_choose_h21  n (mix σ ρ) x2 = mo ρ (fX0_choose_h21  n σ x2)
  | 0, _, _ => rfl
  | n + 1, σ, x2 => rx_fX0_choose_b21 ρ  (fX0_choose_h21  n)  (rx_fX0_choose_h21 ρ   n) σ x2 
theorem rx_fX0_choose (ρ : S0)   (σ : S0) (x1 : Int32)  : fX0_choose  (mix σ ρ) x1 = mo ρ (fX0_choose  σ x1) := by
  simp (disch := omega) only [fX0_choose, ↓ol_n, ↓ol_su, ↓ol_up, ↓mo_ol, ↓mo_obp, ↓mo_og, ↓mo_ite, ↓ox_fX0_weigh, ↓ox_fX0_bringsAt, mix_lo, mo_some, mo_none, rx_fX0_weigh, rx_fX0_bringsAt, rx_fX0_choose_h21]
theorem ox_fX0_choose (ρ : S0) (σ : S0) (x1 : Int32)  (kk : Int32 → S0 → Option (Int32 × S0)) : obp (fX0_choose (mix σ ρ) x1) kk = obp (fX0_choose σ x1) (fun r s => kk r (mix s ρ)) := by
  rw [rx_fX0_choose ρ σ x1 , obp_mo]
theorem rx_fX0_wantsOther (ρ : S0)   (σ : S0) (x1 : Int32)  : fX0_wantsOther  (mix σ ρ) x1 = mo ρ (fX0_wantsOther  σ x1) := by
  simp (disch := omega) only [fX0_wantsOther, ↓ol_n, ↓ol_su, ↓ol_up, ↓mo_ol, ↓mo_obp, ↓mo_og, ↓mo_ite, ↓ox_fX0_choose, ↓ox_fX6_wageOf, mix_lo, mo_some, mo_none, rx_fX0_choose, rx_fX6_wageOf]
theorem ox_fX0_wantsOther (ρ : S0) (σ : S0) (x1 : Int32)  (kk : Int32 → S0 → Option (Int32 × S0)) : obp (fX0_wantsOther (mix σ ρ) x1) kk = obp (fX0_wantsOther σ x1) (fun r s => kk r (mix s ρ)) := by
  rw [rx_fX0_wantsOther ρ σ x1 , obp_mo]
theorem rx_fX0_setFees_b36 (ρ : S0) (sf_2 : S0 → Int32 → Int32 → Int32 → Option (Int32 × S0)) (hsf_2 : ∀ (σ : S0) (a0 : Int32) (a1 : Int32) (a2 : Int32), sf_2 (mix σ ρ) a0 a1 a2 = mo ρ (sf_2 σ a0 a1 a2)) (σ : S0) (x1 : Int32) (x2 : Int32) (x3 : Int32)  : fX0_setFees_b36 sf_2 (mix σ ρ) x1 x2 x3 = mo ρ (fX0_setFees_b36 sf_2 σ x1 x2 x3) := by
  simp (disch := omega) only [fX0_setFees_b36, ↓ol_n, ↓ol_su, ↓ol_up, ↓mo_ol, ↓mo_obp, ↓mo_og, ↓mo_ite, mix_lo, mo_some, mo_none, hsf_2]
theorem rx_fX0_setFees_b2 (ρ : S0) (sf_2 : S0 → Int32 → Int32 → Int32 → Option (Int32 × S0)) (hsf_2 : ∀ (σ : S0) (a0 : Int32) (a1 : Int32) (a2 : Int32), sf_2 (mix σ ρ) a0 a1 a2 = mo ρ (sf_2 σ a0 a1 a2)) (σ : S0) (x1 : Int32) (x2 : Int32) (x3 : Int32)  : fX0_setFees_b2 sf_2 (mix σ ρ) x1 x2 x3 = mo ρ (fX0_setFees_b2 sf_2 σ x1 x2 x3) := by
  simp (disch := omega) only [fX0_setFees_b2, ↓ol_n, ↓ol_su, ↓ol_up, ↓mo_ol, ↓mo_obp, ↓mo_og, ↓mo_ite, mix_lo, mo_some, mo_none, hsf_2, rx_fX0_setFees_b36]
theorem rx_fX0_setFees_h2 (ρ : S0)   : ∀ (n : Nat) (σ : S0) (x1 : Int32) (x2 : Int32) (x3 : Int32), fX0_setFees_h2  n (mix σ ρ) x1 x2 x3 = mo ρ (fX0_setFees_h2  n σ x1 x2 x3)
  | 0, _, _, _, _ => rfl
  | n + 1, σ, x1, x2, x3 => rx_fX0_setFees_b2 ρ  (fX0_setFees_h2  n)  (rx_fX0_setFees_h2 ρ   n) σ x1 x2 x3 
theorem rx_fX0_setFees (ρ : S0)   (σ : S0) (x1 : Int32) (x2 : Int32)  : fX0_setFees  (mix σ ρ) x1 x2 = mo ρ (fX0_setFees  σ x1 x2) := by
  simp (disch := omega) only [fX0_setFees, ↓ol_n, ↓ol_su, ↓ol_up, ↓mo_ol, ↓mo_obp, ↓mo_og, ↓mo_ite, mix_lo, mo_some, mo_none, rx_fX0_setFees_h2]
theorem ox_fX0_setFees (ρ : S0) (σ : S0) (x1 : Int32) (x2 : Int32)  (kk : Int32 → S0 → Option (Int32 × S0)) : obp (fX0_setFees (mix σ ρ) x1 x2) kk = obp (fX0_setFees σ x1 x2) (fun r s => kk r (mix s ρ)) := by
  rw [rx_fX0_setFees ρ σ x1 x2 , obp_mo]
theorem rx_fX0_changeInRound_b34 (ρ : S0) (sf_4 : S0 → Int32 → Int32 → Option (Int32 × S0)) (hsf_4 : ∀ (σ : S0) (a0 : Int32) (a1 : Int32), sf_4 (mix σ ρ) a0 a1 = mo ρ (sf_4 σ a0 a1)) (σ : S0) (x1 : Int32) (x2 : Int32)  : fX0_changeInRound_b34 sf_4 (mix σ ρ) x1 x2 = mo ρ (fX0_changeInRound_b34 sf_4 σ x1 x2) := by
  simp (disch := omega) only [fX0_changeInRound_b34, ↓ol_n, ↓ol_su, ↓ol_up, ↓mo_ol, ↓mo_obp, ↓mo_og, ↓mo_ite, mix_lo, mo_some, mo_none, hsf_4]
theorem rx_fX0_changeInRound_b4 (ρ : S0) (sf_4 : S0 → Int32 → Int32 → Option (Int32 × S0)) (hsf_4 : ∀ (σ : S0) (a0 : Int32) (a1 : Int32), sf_4 (mix σ ρ) a0 a1 = mo ρ (sf_4 σ a0 a1)) (σ : S0) (x1 : Int32) (x2 : Int32)  : fX0_changeInRound_b4 sf_4 (mix σ ρ) x1 x2 = mo ρ (fX0_changeInRound_b4 sf_4 σ x1 x2) := by
  simp (disch := omega) only [fX0_changeInRound_b4, ↓ol_n, ↓ol_su, ↓ol_up, ↓mo_ol, ↓mo_obp, ↓mo_og, ↓mo_ite, ↓ox_fX0_wantsOther, ↓ox_fX0_setFees, mix_lo, mo_some, mo_none, hsf_4, rx_fX0_wantsOther, rx_fX0_changeInRound_b34, rx_fX0_setFees]
theorem rx_fX0_changeInRound_h4 (ρ : S0)   : ∀ (n : Nat) (σ : S0) (x1 : Int32) (x2 : Int32), fX0_changeInRound_h4  n (mix σ ρ) x1 x2 = mo ρ (fX0_changeInRound_h4  n σ x1 x2)
  | 0, _, _, _ => rfl
  | n + 1, σ, x1, x2 => rx_fX0_changeInRound_b4 ρ  (fX0_changeInRound_h4  n)  (rx_fX0_changeInRound_h4 ρ   n) σ x1 x2 
theorem rx_fX0_changeInRound (ρ : S0)   (σ : S0)   : fX0_changeInRound  (mix σ ρ)  = mo ρ (fX0_changeInRound  σ ) := by
  simp (disch := omega) only [fX0_changeInRound, ↓ol_n, ↓ol_su, ↓ol_up, ↓mo_ol, ↓mo_obp, ↓mo_og, ↓mo_ite, mix_lo, mo_some, mo_none, rx_fX0_changeInRound_h4]
theorem ox_fX0_changeInRound (ρ : S0) (σ : S0)   (kk : Int32 → S0 → Option (Int32 × S0)) : obp (fX0_changeInRound (mix σ ρ) ) kk = obp (fX0_changeInRound σ ) (fun r s => kk r (mix s ρ)) := by
  rw [rx_fX0_changeInRound ρ σ  , obp_mo]
theorem rx_fX2_ringAll_b103 (ρ : S0) (sf_2 : S0 → Int32 → Option (Int32 × S0)) (sf_46 : S0 → Int32 → Int32 → Option (Int32 × S0)) (hsf_2 : ∀ (σ : S0) (a0 : Int32), sf_2 (mix σ ρ) a0 = mo ρ (sf_2 σ a0)) (hsf_46 : ∀ (σ : S0) (a0 : Int32) (a1 : Int32), sf_46 (mix σ ρ) a0 a1 = mo ρ (sf_46 σ a0 a1)) (σ : S0) (x1 : Int32) (x2 : Int32)  : fX2_ringAll_b103 sf_2 sf_46 (mix σ ρ) x1 x2 = mo ρ (fX2_ringAll_b103 sf_2 sf_46 σ x1 x2) := by
  simp (disch := omega) only [fX2_ringAll_b103, ↓ol_n, ↓ol_su, ↓ol_up, ↓mo_ol, ↓mo_obp, ↓mo_og, ↓mo_ite, mix_lo, mo_some, mo_none, hsf_2, hsf_46]
theorem rx_fX2_ringAll_b46 (ρ : S0) (sf_2 : S0 → Int32 → Option (Int32 × S0)) (sf_46 : S0 → Int32 → Int32 → Option (Int32 × S0)) (hsf_2 : ∀ (σ : S0) (a0 : Int32), sf_2 (mix σ ρ) a0 = mo ρ (sf_2 σ a0)) (hsf_46 : ∀ (σ : S0) (a0 : Int32) (a1 : Int32), sf_46 (mix σ ρ) a0 a1 = mo ρ (sf_46 σ a0 a1)) (σ : S0) (x1 : Int32) (x2 : Int32)  : fX2_ringAll_b46 sf_2 sf_46 (mix σ ρ) x1 x2 = mo ρ (fX2_ringAll_b46 sf_2 sf_46 σ x1 x2) := by
  by_cases g0 : (x1 < 0 ∨ 6 ≤ x1.toNatClampNeg)
  · simp (disch := omega) only [fX2_ringAll_b46, ↓ol_n, ↓ol_su, ↓ol_up, ↓mo_ol, ↓mo_obp, ↓mo_og, ↓mo_ite, ↓ox_fX6_rang, mix_lo, mo_some, mo_none, hsf_2, hsf_46, rx_fX6_rang, rx_fX2_ringAll_b103, og_g g0]
  · have h0 : x1.toNatClampNeg < 6 := by omega
    simp (disch := omega) only [fX2_ringAll_b46, ↓ol_n, ↓ol_su, ↓ol_up, ↓mo_ol, ↓mo_obp, ↓mo_og, ↓mo_ite, ↓ox_fX6_rang, mix_lo, mo_some, mo_none, hsf_2, hsf_46, rx_fX6_rang, rx_fX2_ringAll_b103]
theorem rx_fX2_ringAll_h46 (ρ : S0) (sf_2 : S0 → Int32 → Option (Int32 × S0)) (hsf_2 : ∀ (σ : S0) (a0 : Int32), sf_2 (mix σ ρ) a0 = mo ρ (sf_2 σ a0)) : ∀ (n : Nat) (σ : S0) (x1 : Int32) (x2 : Int32), fX2_ringAll_h46 sf_2 n (mix σ ρ) x1 x2 = mo ρ (fX2_ringAll_h46 sf_2 n σ x1 x2)
  | 0, _, _, _ => rfl
  | n + 1, σ, x1, x2 => rx_fX2_ringAll_b46 ρ sf_2 (fX2_ringAll_h46 sf_2 n) hsf_2 (rx_fX2_ringAll_h46 ρ sf_2 hsf_2 n) σ x1 x2 
theorem rx_fX2_ringAll_b2 (ρ : S0) (sf_2 : S0 → Int32 → Option (Int32 × S0)) (hsf_2 : ∀ (σ : S0) (a0 : Int32), sf_2 (mix σ ρ) a0 = mo ρ (sf_2 σ a0)) (σ : S0) (x1 : Int32)  : fX2_ringAll_b2 sf_2 (mix σ ρ) x1 = mo ρ (fX2_ringAll_b2 sf_2 σ x1) := by
  by_cases g0 : (x1 < 0 ∨ 6 ≤ x1.toNatClampNeg)
  · simp (disch := omega) only [fX2_ringAll_b2, ↓ol_n, ↓ol_su, ↓ol_up, ↓mo_ol, ↓mo_obp, ↓mo_og, ↓mo_ite, ↓ox_fX6_play, ↓ox_fJ7_fill_53178, mix_lo, mo_some, mo_none, hsf_2, rx_fX6_play, rx_fJ7_fill_53178, rx_fX2_ringAll_h46, og_g g0]
  · have h0 : x1.toNatClampNeg < 6 := by omega
    simp (disch := omega) only [fX2_ringAll_b2, ↓ol_n, ↓ol_su, ↓ol_up, ↓mo_ol, ↓mo_obp, ↓mo_og, ↓mo_ite, ↓ox_fX6_play, ↓ox_fJ7_fill_53178, mix_lo, mo_some, mo_none, hsf_2, rx_fX6_play, rx_fJ7_fill_53178, rx_fX2_ringAll_h46]
theorem rx_fX2_ringAll_h2 (ρ : S0)   : ∀ (n : Nat) (σ : S0) (x1 : Int32), fX2_ringAll_h2  n (mix σ ρ) x1 = mo ρ (fX2_ringAll_h2  n σ x1)
  | 0, _, _ => rfl
  | n + 1, σ, x1 => rx_fX2_ringAll_b2 ρ  (fX2_ringAll_h2  n)  (rx_fX2_ringAll_h2 ρ   n) σ x1 
theorem rx_fX2_ringAll (ρ : S0)   (σ : S0)   : fX2_ringAll  (mix σ ρ)  = mo ρ (fX2_ringAll  σ ) := by
  simp (disch := omega) only [fX2_ringAll, ↓ol_n, ↓ol_su, ↓ol_up, ↓mo_ol, ↓mo_obp, ↓mo_og, ↓mo_ite, mix_lo, mo_some, mo_none, rx_fX2_ringAll_h2]
theorem ox_fX2_ringAll (ρ : S0) (σ : S0)   (kk : Int32 → S0 → Option (Int32 × S0)) : obp (fX2_ringAll (mix σ ρ) ) kk = obp (fX2_ringAll σ ) (fun r s => kk r (mix s ρ)) := by
  rw [rx_fX2_ringAll ρ σ  , obp_mo]
theorem rx_fX2_strokesIn_b38 (ρ : S0) (sf_5 : S0 → Int32 → Int32 → Int32 → Int32 → Option (Int32 × S0)) (hsf_5 : ∀ (σ : S0) (a0 : Int32) (a1 : Int32) (a2 : Int32) (a3 : Int32), sf_5 (mix σ ρ) a0 a1 a2 a3 = mo ρ (sf_5 σ a0 a1 a2 a3)) (σ : S0) (x1 : Int32) (x2 : Int32) (x3 : Int32) (x4 : Int32)  : fX2_strokesIn_b38 sf_5 (mix σ ρ) x1 x2 x3 x4 = mo ρ (fX2_strokesIn_b38 sf_5 σ x1 x2 x3 x4) := by
  simp (disch := omega) only [fX2_strokesIn_b38, ↓ol_n, ↓ol_su, ↓ol_up, ↓mo_ol, ↓mo_obp, ↓mo_og, ↓mo_ite, mix_lo, mo_some, mo_none, hsf_5]
theorem rx_fX2_strokesIn_b5 (ρ : S0) (sf_5 : S0 → Int32 → Int32 → Int32 → Int32 → Option (Int32 × S0)) (hsf_5 : ∀ (σ : S0) (a0 : Int32) (a1 : Int32) (a2 : Int32) (a3 : Int32), sf_5 (mix σ ρ) a0 a1 a2 a3 = mo ρ (sf_5 σ a0 a1 a2 a3)) (σ : S0) (x1 : Int32) (x2 : Int32) (x3 : Int32) (x4 : Int32)  : fX2_strokesIn_b5 sf_5 (mix σ ρ) x1 x2 x3 x4 = mo ρ (fX2_strokesIn_b5 sf_5 σ x1 x2 x3 x4) := by
  by_cases g0 : (x4 < 0 ∨ 6 ≤ x4.toNatClampNeg)
  · simp (disch := omega) only [fX2_strokesIn_b5, ↓ol_n, ↓ol_su, ↓ol_up, ↓mo_ol, ↓mo_obp, ↓mo_og, ↓mo_ite, mix_lo, mo_some, mo_none, hsf_5, rx_fX2_strokesIn_b38, og_g g0]
  · have h0 : x4.toNatClampNeg < 6 := by omega
    simp (disch := omega) only [fX2_strokesIn_b5, ↓ol_n, ↓ol_su, ↓ol_up, ↓mo_ol, ↓mo_obp, ↓mo_og, ↓mo_ite, mix_lo, mo_some, mo_none, hsf_5, rx_fX2_strokesIn_b38]
theorem rx_fX2_strokesIn_h5 (ρ : S0)   : ∀ (n : Nat) (σ : S0) (x1 : Int32) (x2 : Int32) (x3 : Int32) (x4 : Int32), fX2_strokesIn_h5  n (mix σ ρ) x1 x2 x3 x4 = mo ρ (fX2_strokesIn_h5  n σ x1 x2 x3 x4)
  | 0, _, _, _, _, _ => rfl
  | n + 1, σ, x1, x2, x3, x4 => rx_fX2_strokesIn_b5 ρ  (fX2_strokesIn_h5  n)  (rx_fX2_strokesIn_h5 ρ   n) σ x1 x2 x3 x4 
theorem rx_fX2_strokesIn (ρ : S0)   (σ : S0) (x1 : Int32) (x2 : Int32)  : fX2_strokesIn  (mix σ ρ) x1 x2 = mo ρ (fX2_strokesIn  σ x1 x2) := by
  simp (disch := omega) only [fX2_strokesIn, ↓ol_n, ↓ol_su, ↓ol_up, ↓mo_ol, ↓mo_obp, ↓mo_og, ↓mo_ite, mix_lo, mo_some, mo_none, rx_fX2_strokesIn_h5]
theorem ox_fX2_strokesIn (ρ : S0) (σ : S0) (x1 : Int32) (x2 : Int32)  (kk : Int32 → S0 → Option (Int32 × S0)) : obp (fX2_strokesIn (mix σ ρ) x1 x2) kk = obp (fX2_strokesIn σ x1 x2) (fun r s => kk r (mix s ρ)) := by
  rw [rx_fX2_strokesIn ρ σ x1 x2 , obp_mo]
theorem rx_fX2_strokesOf (ρ : S0)   (σ : S0) (x1 : Int32)  : fX2_strokesOf  (mix σ ρ) x1 = mo ρ (fX2_strokesOf  σ x1) := by
  simp (disch := omega) only [fX2_strokesOf, ↓ol_n, ↓ol_su, ↓ol_up, ↓mo_ol, ↓mo_obp, ↓mo_og, ↓mo_ite, ↓ox_fX2_strokesIn, mix_lo, mo_some, mo_none, rx_fX2_strokesIn]
theorem ox_fX2_strokesOf (ρ : S0) (σ : S0) (x1 : Int32)  (kk : Int32 → S0 → Option (Int32 × S0)) : obp (fX2_strokesOf (mix σ ρ) x1) kk = obp (fX2_strokesOf σ x1) (fun r s => kk r (mix s ρ)) := by
  rw [rx_fX2_strokesOf ρ σ x1 , obp_mo]
theorem rx_fX2_isWithin_b2 (ρ : S0) (sf_2 : S0 → Int32 → Int32 → Int32 → Option (Int32 × S0)) (hsf_2 : ∀ (σ : S0) (a0 : Int32) (a1 : Int32) (a2 : Int32), sf_2 (mix σ ρ) a0 a1 a2 = mo ρ (sf_2 σ a0 a1 a2)) (σ : S0) (x1 : Int32) (x2 : Int32) (x3 : Int32)  : fX2_isWithin_b2 sf_2 (mix σ ρ) x1 x2 x3 = mo ρ (fX2_isWithin_b2 sf_2 σ x1 x2 x3) := by
  simp (disch := omega) only [fX2_isWithin_b2, ↓ol_n, ↓ol_su, ↓ol_up, ↓mo_ol, ↓mo_obp, ↓mo_og, ↓mo_ite, ↓ox_fX2_strokesIn, mix_lo, mo_some, mo_none, hsf_2, rx_fX2_strokesIn]
theorem rx_fX2_isWithin_h2 (ρ : S0)   : ∀ (n : Nat) (σ : S0) (x1 : Int32) (x2 : Int32) (x3 : Int32), fX2_isWithin_h2  n (mix σ ρ) x1 x2 x3 = mo ρ (fX2_isWithin_h2  n σ x1 x2 x3)
  | 0, _, _, _, _ => rfl
  | n + 1, σ, x1, x2, x3 => rx_fX2_isWithin_b2 ρ  (fX2_isWithin_h2  n)  (rx_fX2_isWithin_h2 ρ   n) σ x1 x2 x3 
theorem rx_fX2_isWithin (ρ : S0)   (σ : S0) (x1 : Int32) (x2 : Int32)  : fX2_isWithin  (mix σ ρ) x1 x2 = mo ρ (fX2_isWithin  σ x1 x2) := by
  simp (disch := omega) only [fX2_isWithin, ↓ol_n, ↓ol_su, ↓ol_up, ↓mo_ol, ↓mo_obp, ↓mo_og, ↓mo_ite, mix_lo, mo_some, mo_none, rx_fX2_isWithin_h2]
theorem ox_fX2_isWithin (ρ : S0) (σ : S0) (x1 : Int32) (x2 : Int32)  (kk : Int32 → S0 → Option (Int32 × S0)) : obp (fX2_isWithin (mix σ ρ) x1 x2) kk = obp (fX2_isWithin σ x1 x2) (fun r s => kk r (mix s ρ)) := by
  rw [rx_fX2_isWithin ρ σ x1 x2 , obp_mo]
theorem rx_fX2_costOf_b32 (ρ : S0) (sf_4 : S0 → Int32 → Int32 → Int32 → Option (Int32 × S0)) (hsf_4 : ∀ (σ : S0) (a0 : Int32) (a1 : Int32) (a2 : Int32), sf_4 (mix σ ρ) a0 a1 a2 = mo ρ (sf_4 σ a0 a1 a2)) (σ : S0) (x1 : Int32) (x2 : Int32) (x3 : Int32)  : fX2_costOf_b32 sf_4 (mix σ ρ) x1 x2 x3 = mo ρ (fX2_costOf_b32 sf_4 σ x1 x2 x3) := by
  simp (disch := omega) only [fX2_costOf_b32, ↓ol_n, ↓ol_su, ↓ol_up, ↓mo_ol, ↓mo_obp, ↓mo_og, ↓mo_ite, mix_lo, mo_some, mo_none, hsf_4]
theorem rx_fX2_costOf_b4 (ρ : S0) (sf_4 : S0 → Int32 → Int32 → Int32 → Option (Int32 × S0)) (hsf_4 : ∀ (σ : S0) (a0 : Int32) (a1 : Int32) (a2 : Int32), sf_4 (mix σ ρ) a0 a1 a2 = mo ρ (sf_4 σ a0 a1 a2)) (σ : S0) (x1 : Int32) (x2 : Int32) (x3 : Int32)  : fX2_costOf_b4 sf_4 (mix σ ρ) x1 x2 x3 = mo ρ (fX2_costOf_b4 sf_4 σ x1 x2 x3) := by
  simp (disch := omega) only [fX2_costOf_b4, ↓ol_n, ↓ol_su, ↓ol_up, ↓mo_ol, ↓mo_obp, ↓mo_og, ↓mo_ite, mix_lo, mo_some, mo_none, hsf_4, rx_fX2_costOf_b32]
theorem rx_fX2_costOf_h4 (ρ : S0)   : ∀ (n : Nat) (σ : S0) (x1 : Int32) (x2 : Int32) (x3 : Int32), fX2_costOf_h4  n (mix σ ρ) x1 x2 x3 = mo ρ (fX2_costOf_h4  n σ x1 x2 x3)
  | 0, _, _, _, _ => rfl
  | n + 1, σ, x1, x2, x3 => rx_fX2_costOf_b4 ρ  (fX2_costOf_h4  n)  (rx_fX2_costOf_h4 ρ   n) σ x1 x2 x3 
theorem rx_fX2_costOf (ρ : S0)   (σ : S0) (x1 : Int32)  : fX2_costOf  (mix σ ρ) x1 = mo ρ (fX2_costOf  σ x1) := by
  simp (disch := omega) only [fX2_costOf, ↓ol_n, ↓ol_su, ↓ol_up, ↓mo_ol, ↓mo_obp, ↓mo_og, ↓mo_ite, mix_lo, mo_some, mo_none, rx_fX2_costOf_h4]
theorem ox_fX2_costOf (ρ : S0) (σ : S0) (x1 : Int32)  (kk : Int32 → S0 → Option (Int32 × S0)) : obp (fX2_costOf (mix σ ρ) x1) kk = obp (fX2_costOf σ x1) (fun r s => kk r (mix s ρ)) := by
  rw [rx_fX2_costOf ρ σ x1 , obp_mo]
theorem rx_fX2_choose_b75 (ρ : S0) (sf_11 : S0 → Int32 → Int32 → Int32 → Option (Int32 × S0)) (hsf_11 : ∀ (σ : S0) (a0 : Int32) (a1 : Int32) (a2 : Int32), sf_11 (mix σ ρ) a0 a1 a2 = mo ρ (sf_11 σ a0 a1 a2)) (σ : S0) (x1 : Int32) (x2 : Int32) (x3 : Int32)  : fX2_choose_b75 sf_11 (mix σ ρ) x1 x2 x3 = mo ρ (fX2_choose_b75 sf_11 σ x1 x2 x3) := by
  simp (disch := omega) only [fX2_choose_b75, ↓ol_n, ↓ol_su, ↓ol_up, ↓mo_ol, ↓mo_obp, ↓mo_og, ↓mo_ite, mix_lo, mo_some, mo_none, hsf_11]
theorem rx_fX2_choose_b64 (ρ : S0) (sf_11 : S0 → Int32 → Int32 → Int32 → Option (Int32 × S0)) (hsf_11 : ∀ (σ : S0) (a0 : Int32) (a1 : Int32) (a2 : Int32), sf_11 (mix σ ρ) a0 a1 a2 = mo ρ (sf_11 σ a0 a1 a2)) (σ : S0) (x1 : Int32) (x2 : Int32) (x3 : Int32) (x4 : Int32)  : fX2_choose_b64 sf_11 (mix σ ρ) x1 x2 x3 x4 = mo ρ (fX2_choose_b64 sf_11 σ x1 x2 x3 x4) := by
  simp (disch := omega) only [fX2_choose_b64, ↓ol_n, ↓ol_su, ↓ol_up, ↓mo_ol, ↓mo_obp, ↓mo_og, ↓mo_ite, mix_lo, mo_some, mo_none, hsf_11, rx_fX2_choose_b75]
theorem rx_fX2_choose_b11 (ρ : S0) (sf_11 : S0 → Int32 → Int32 → Int32 → Option (Int32 × S0)) (hsf_11 : ∀ (σ : S0) (a0 : Int32) (a1 : Int32) (a2 : Int32), sf_11 (mix σ ρ) a0 a1 a2 = mo ρ (sf_11 σ a0 a1 a2)) (σ : S0) (x1 : Int32) (x2 : Int32) (x3 : Int32)  : fX2_choose_b11 sf_11 (mix σ ρ) x1 x2 x3 = mo ρ (fX2_choose_b11 sf_11 σ x1 x2 x3) := by
  simp (disch := omega) only [fX2_choose_b11, ↓ol_n, ↓ol_su, ↓ol_up, ↓mo_ol, ↓mo_obp, ↓mo_og, ↓mo_ite, ↓ox_fJ6_bitCount_0f7a4, ↓ox_fX2_isWithin, ↓ox_fX2_costOf, mix_lo, mo_some, mo_none, hsf_11, rx_fJ6_bitCount_0f7a4, rx_fX2_choose_b75, rx_fX2_isWithin, rx_fX2_costOf, rx_fX2_choose_b64]
theorem rx_fX2_choose_h11 (ρ : S0)   : ∀ (n : Nat) (σ : S0) (x1 : Int32) (x2 : Int32) (x3 : Int32), fX2_choose_h11  n (mix σ ρ) x1 x2 x3 = mo ρ (fX2_choose_h11  n σ x1 x2 x3)
  | 0, _, _, _, _ => rfl
  | n + 1, σ, x1, x2, x3 => rx_fX2_choose_b11 ρ  (fX2_choose_h11  n)  (rx_fX2_choose_h11 ρ   n) σ x1 x2 x3 
theorem rx_fX2_choose (ρ : S0)   (σ : S0) (x1 : Int32) (x2 : Int32)  : fX2_choose  (mix σ ρ) x1 x2 = mo ρ (fX2_choose  σ x1 x2) := by
  simp (disch := omega) only [fX2_choose, ↓ol_n, ↓ol_su, ↓ol_up, ↓mo_ol, ↓mo_obp, ↓mo_og, ↓mo_ite, ↓ox_fX2_ringAll, mix_lo, mo_some, mo_none, rx_fX2_ringAll, rx_fX2_choose_h11]
theorem ox_fX2_choose (ρ : S0) (σ : S0) (x1 : Int32) (x2 : Int32)  (kk : Int32 → S0 → Option (Int32 × S0)) : obp (fX2_choose (mix σ ρ) x1 x2) kk = obp (fX2_choose σ x1 x2) (fun r s => kk r (mix s ρ)) := by
  rw [rx_fX2_choose ρ σ x1 x2 , obp_mo]
end
section
theorem rx_fX4_leastBehind_b99 (ρ : S0) (sf_6 : S0 → Int32 → Int32 → Int32 → Int32 → Option (Int32 × S0)) (hsf_6 : ∀ (σ : S0) (a0 : Int32) (a1 : Int32) (a2 : Int32) (a3 : Int32), sf_6 (mix σ ρ) a0 a1 a2 a3 = mo ρ (sf_6 σ a0 a1 a2 a3)) (σ : S0) (x1 : Int32) (x2 : Int32) (x3 : Int32) (x4 : Int32)  : fX4_leastBehind_b99 sf_6 (mix σ ρ) x1 x2 x3 x4 = mo ρ (fX4_leastBehind_b99 sf_6 σ x1 x2 x3 x4) := by
  simp (disch := omega) only [fX4_leastBehind_b99, ↓ol_n, ↓ol_su, ↓ol_up, ↓mo_ol, ↓mo_obp, ↓mo_og, ↓mo_ite, mix_lo, mo_some, mo_none, hsf_6]
theorem rx_fX4_leastBehind_b93 (ρ : S0) (sf_6 : S0 → Int32 → Int32 → Int32 → Int32 → Option (Int32 × S0)) (hsf_6 : ∀ (σ : S0) (a0 : Int32) (a1 : Int32) (a2 : Int32) (a3 : Int32), sf_6 (mix σ ρ) a0 a1 a2 a3 = mo ρ (sf_6 σ a0 a1 a2 a3)) (σ : S0) (x1 : Int32) (x2 : Int32) (x3 : Int32) (x4 : Int32) (t0 : Int32) (t1 : Int32)  : fX4_leastBehind_b93 sf_6 (mix σ ρ) x1 x2 x3 x4 t0 t1 = mo ρ (fX4_leastBehind_b93 sf_6 σ x1 x2 x3 x4 t0 t1) := by
  simp (disch := omega) only [fX4_leastBehind_b93, ↓ol_n, ↓ol_su, ↓ol_up, ↓mo_ol, ↓mo_obp, ↓mo_og, ↓mo_ite, mix_lo, mo_some, mo_none, hsf_6, rx_fX4_leastBehind_b99]
theorem rx_fX4_leastBehind_b58 (ρ : S0) (sf_6 : S0 → Int32 → Int32 → Int32 → Int32 → Option (Int32 × S0)) (hsf_6 : ∀ (σ : S0) (a0 : Int32) (a1 : Int32) (a2 : Int32) (a3 : Int32), sf_6 (mix σ ρ) a0 a1 a2 a3 = mo ρ (sf_6 σ a0 a1 a2 a3)) (σ : S0) (x1 : Int32) (x2 : Int32) (x3 : Int32) (x4 : Int32) (t0 : Int32)  : fX4_leastBehind_b58 sf_6 (mix σ ρ) x1 x2 x3 x4 t0 = mo ρ (fX4_leastBehind_b58 sf_6 σ x1 x2 x3 x4 t0) := by
  by_cases g0 : (x1 < 0 ∨ 12 ≤ x1.toNatClampNeg)
  · simp (disch := omega) only [fX4_leastBehind_b58, ↓ol_n, ↓ol_su, ↓ol_up, ↓mo_ol, ↓mo_obp, ↓mo_og, ↓mo_ite, mix_lo, mo_some, mo_none, hsf_6, rx_fX4_leastBehind_b99, rx_fX4_leastBehind_b93, og_g g0]
  · have h0 : x1.toNatClampNeg < 12 := by omega
    simp (disch := omega) only [fX4_leastBehind_b58, ↓ol_n, ↓ol_su, ↓ol_up, ↓mo_ol, ↓mo_obp, ↓mo_og, ↓mo_ite, mix_lo, mo_some, mo_none, hsf_6, rx_fX4_leastBehind_b99, rx_fX4_leastBehind_b93]
theorem rx_fX4_leastBehind_b53 (ρ : S0) (sf_6 : S0 → Int32 → Int32 → Int32 → Int32 → Option (Int32 × S0)) (hsf_6 : ∀ (σ : S0) (a0 : Int32) (a1 : Int32) (a2 : Int32) (a3 : Int32), sf_6 (mix σ ρ) a0 a1 a2 a3 = mo ρ (sf_6 σ a0 a1 a2 a3)) (σ : S0) (x1 : Int32) (x2 : Int32) (x3 : Int32) (x4 : Int32)  : fX4_leastBehind_b53 sf_6 (mix σ ρ) x1 x2 x3 x4 = mo ρ (fX4_leastBehind_b53 sf_6 σ x1 x2 x3 x4) := by
  simp (disch := omega) only [fX4_leastBehind_b53, ↓ol_n, ↓ol_su, ↓ol_up, ↓mo_ol, ↓mo_obp, ↓mo_og, ↓mo_ite, mix_lo, mo_some, mo_none, hsf_6, rx_fX4_leastBehind_b58]
theorem rx_fX4_leastBehind_b6 (ρ : S0) (sf_6 : S0 → Int32 → Int32 → Int32 → Int32 → Option (Int32 × S0)) (hsf_6 : ∀ (σ : S0) (a0 : Int32) (a1 : Int32) (a2 : Int32) (a3 : Int32), sf_6 (mix σ ρ) a0 a1 a2 a3 = mo ρ (sf_6 σ a0 a1 a2 a3)) (σ : S0) (x1 : Int32) (x2 : Int32) (x3 : Int32) (x4 : Int32)  : fX4_leastBehind_b6 sf_6 (mix σ ρ) x1 x2 x3 x4 = mo ρ (fX4_leastBehind_b6 sf_6 σ x1 x2 x3 x4) := by
  simp (disch := omega) only [fX4_leastBehind_b6, ↓ol_n, ↓ol_su, ↓ol_up, ↓mo_ol, ↓mo_obp, ↓mo_og, ↓mo_ite, ↓ox_fX1_areFoes, mix_lo, mo_some, mo_none, hsf_6, rx_fX4_leastBehind_b53, rx_fX1_areFoes, rx_fX4_leastBehind_b58]
theorem rx_fX4_leastBehind_h6 (ρ : S0)   : ∀ (n : Nat) (σ : S0) (x1 : Int32) (x2 : Int32) (x3 : Int32) (x4 : Int32), fX4_leastBehind_h6  n (mix σ ρ) x1 x2 x3 x4 = mo ρ (fX4_leastBehind_h6  n σ x1 x2 x3 x4)
  | 0, _, _, _, _, _ => rfl
  | n + 1, σ, x1, x2, x3, x4 => rx_fX4_leastBehind_b6 ρ  (fX4_leastBehind_h6  n)  (rx_fX4_leastBehind_h6 ρ   n) σ x1 x2 x3 x4 
theorem rx_fX4_leastBehind (ρ : S0)   (σ : S0) (x1 : Int32) (x2 : Int32)  : fX4_leastBehind  (mix σ ρ) x1 x2 = mo ρ (fX4_leastBehind  σ x1 x2) := by
  simp (disch := omega) only [fX4_leastBehind, ↓ol_n, ↓ol_su, ↓ol_up, ↓mo_ol, ↓mo_obp, ↓mo_og, ↓mo_ite, mix_lo, mo_some, mo_none, rx_fX4_leastBehind_h6]
theorem ox_fX4_leastBehind (ρ : S0) (σ : S0) (x1 : Int32) (x2 : Int32)  (kk : Int32 → S0 → Option (Int32 × S0)) : obp (fX4_leastBehind (mix σ ρ) x1 x2) kk = obp (fX4_leastBehind σ x1 x2) (fun r s => kk r (mix s ρ)) := by
  rw [rx_fX4_leastBehind ρ σ x1 x2 , obp_mo]
theorem rx_fX4_farFrom (ρ : S0)   (σ : S0) (x1 : Int32) (x2 : Int32) (x3 : Int32) (x4 : Int32)  : fX4_farFrom  (mix σ ρ) x1 x2 x3 x4 = mo ρ (fX4_farFrom  σ x1 x2 x3 x4) := by
  by_cases g0 : (x1 < 0 ∨ 6 ≤ x1.toNatClampNeg)
  · simp (disch := omega) only [fX4_farFrom, ↓ol_i, ↓ol_n, ↓ol_su, ↓ol_up, ↓mo_ol, ↓mo_obp, ↓mo_og, ↓mo_ite, ↓ox_fX4_leastBehind, mix_lo, mo_some, mo_none, rx_fX4_leastBehind, og_g g0]
  · have h0 : x1.toNatClampNeg < 6 := by omega
    by_cases g1 : ((x2 + 1) < 0 ∨ 12 ≤ (x2 + 1).toNatClampNeg)
    · simp (disch := omega) only [fX4_farFrom, ↓ol_i, ↓ol_n, ↓ol_su, ↓ol_up, ↓mo_ol, ↓mo_obp, ↓mo_og, ↓mo_ite, ↓ox_fX4_leastBehind, mix_lo, mo_some, mo_none, rx_fX4_leastBehind, og_g g1]
    · have h1 : (x2 + 1).toNatClampNeg < 12 := by omega
      simp (disch := omega) only [fX4_farFrom, ↓ol_i, ↓ol_n, ↓ol_su, ↓ol_up, ↓mo_ol, ↓mo_obp, ↓mo_og, ↓mo_ite, ↓ox_fX4_leastBehind, mix_lo, mo_some, mo_none, rx_fX4_leastBehind]
theorem ox_fX4_farFrom (ρ : S0) (σ : S0) (x1 : Int32) (x2 : Int32) (x3 : Int32) (x4 : Int32)  (kk : Int32 → S0 → Option (Int32 × S0)) : obp (fX4_farFrom (mix σ ρ) x1 x2 x3 x4) kk = obp (fX4_farFrom σ x1 x2 x3 x4) (fun r s => kk r (mix s ρ)) := by
  rw [rx_fX4_farFrom ρ σ x1 x2 x3 x4 , obp_mo]
theorem rx_fX4_find_b112 (ρ : S0) (sf_112 : S0 → Int32 → Int32 → Option (Int32 × S0)) (hsf_112 : ∀ (σ : S0) (a0 : Int32) (a1 : Int32), sf_112 (mix σ ρ) a0 a1 = mo ρ (sf_112 σ a0 a1)) (σ : S0) (x3 : Int32) (x5 : Int32)  : fX4_find_b112 sf_112 (mix σ ρ) x3 x5 = mo ρ (fX4_find_b112 sf_112 σ x3 x5) := by
  simp (disch := omega) only [fX4_find_b112, ↓ol_n, ↓ol_su, ↓ol_up, ↓mo_ol, ↓mo_obp, ↓mo_og, ↓mo_ite, ↓ox_fX4_leastBehind, mix_lo, mo_some, mo_none, hsf_112, rx_fX4_leastBehind]
theorem rx_fX4_find_h112 (ρ : S0)   : ∀ (n : Nat) (σ : S0) (x3 : Int32) (x5 : Int32), fX4_find_h112  n (mix σ ρ) x3 x5 = mo ρ (fX4_find_h112  n σ x3 x5)
  | 0, _, _, _ => rfl
  | n + 1, σ, x3, x5 => rx_fX4_find_b112 ρ  (fX4_find_h112  n)  (rx_fX4_find_h112 ρ   n) σ x3 x5 
theorem rx_fX4_find_b98 (ρ : S0)   (σ : S0) (x3 : Int32) (x4 : Int32) (t0 : Int32)  : fX4_find_b98  (mix σ ρ) x3 x4 t0 = mo ρ (fX4_find_b98  σ x3 x4 t0) := by
  simp (disch := omega) only [fX4_find_b98, ↓ol_n, ↓ol_su, ↓ol_up, ↓mo_ol, ↓mo_obp, ↓mo_og, ↓mo_ite, mix_lo, mo_some, mo_none, rx_fX4_find_h112, cl_0]
theorem rx_fX4_find_b23 (ρ : S0) (sf_15 : S0 → Int32 → Int32 → Int32 → Int32 → Option (Int32 × S0)) (sf_23 : S0 → Int32 → Int32 → Int32 → Int32 → Int32 → Option (Int32 × S0)) (hsf_15 : ∀ (σ : S0) (a0 : Int32) (a1 : Int32) (a2 : Int32) (a3 : Int32), sf_15 (mix σ ρ) a0 a1 a2 a3 = mo ρ (sf_15 σ a0 a1 a2 a3)) (hsf_23 : ∀ (σ : S0) (a0 : Int32) (a1 : Int32) (a2 : Int32) (a3 : Int32) (a4 : Int32), sf_23 (mix σ ρ) a0 a1 a2 a3 a4 = mo ρ (sf_23 σ a0 a1 a2 a3 a4)) (σ : S0) (x1 : Int32) (x2 : Int32) (x3 : Int32) (x4 : Int32) (x5 : Int32)  : fX4_find_b23 sf_15 sf_23 (mix σ ρ) x1 x2 x3 x4 x5 = mo ρ (fX4_find_b23 sf_15 sf_23 σ x1 x2 x3 x4 x5) := by
  by_cases g0 : (x4 < 0 ∨ 12 ≤ x4.toNatClampNeg)
  · simp (disch := omega) only [fX4_find_b23, ↓ol_n, ↓ol_su, ↓ol_up, ↓mo_ol, ↓mo_obp, ↓mo_og, ↓mo_ite, ↓ox_fX4_farFrom, mix_lo, mo_some, mo_none, hsf_15, hsf_23, rx_fX4_farFrom, og_g g0]
  · have h0 : x4.toNatClampNeg < 12 := by omega
    simp (disch := omega) only [fX4_find_b23, ↓ol_n, ↓ol_su, ↓ol_up, ↓mo_ol, ↓mo_obp, ↓mo_og, ↓mo_ite, ↓ox_fX4_farFrom, mix_lo, mo_some, mo_none, hsf_15, hsf_23, rx_fX4_farFrom]
theorem rx_fX4_find_h23 (ρ : S0) (sf_15 : S0 → Int32 → Int32 → Int32 → Int32 → Option (Int32 × S0)) (hsf_15 : ∀ (σ : S0) (a0 : Int32) (a1 : Int32) (a2 : Int32) (a3 : Int32), sf_15 (mix σ ρ) a0 a1 a2 a3 = mo ρ (sf_15 σ a0 a1 a2 a3)) : ∀ (n : Nat) (σ : S0) (x1 : Int32) (x2 : Int32) (x3 : Int32) (x4 : Int32) (x5 : Int32), fX4_find_h23 sf_15 n (mix σ ρ) x1 x2 x3 x4 x5 = mo ρ (fX4_find_h23 sf_15 n σ x1 x2 x3 x4 x5)
  | 0, _, _, _, _, _, _ => rfl
  | n + 1, σ, x1, x2, x3, x4, x5 => rx_fX4_find_b23 ρ sf_15 (fX4_find_h23 sf_15 n) hsf_15 (rx_fX4_find_h23 ρ sf_15 hsf_15 n) σ x1 x2 x3 x4 x5 
theorem rx_fX4_find_b15 (ρ : S0) (sf_15 : S0 → Int32 → Int32 → Int32 → Int32 → Option (Int32 × S0)) (hsf_15 : ∀ (σ : S0) (a0 : Int32) (a1 : Int32) (a2 : Int32) (a3 : Int32), sf_15 (mix σ ρ) a0 a1 a2 a3 = mo ρ (sf_15 σ a0 a1 a2 a3)) (σ : S0) (x1 : Int32) (x2 : Int32) (x3 : Int32) (x4 : Int32)  : fX4_find_b15 sf_15 (mix σ ρ) x1 x2 x3 x4 = mo ρ (fX4_find_b15 sf_15 σ x1 x2 x3 x4) := by
  simp (disch := omega) only [fX4_find_b15, ↓ol_n, ↓ol_su, ↓ol_up, ↓mo_ol, ↓mo_obp, ↓mo_og, ↓mo_ite, ↓ox_fX4_leastBehind, mix_lo, mo_some, mo_none, hsf_15, rx_fX4_leastBehind, rx_fX4_find_b98, rx_fX4_find_h23, cl_0]
theorem rx_fX4_find_h15 (ρ : S0)   : ∀ (n : Nat) (σ : S0) (x1 : Int32) (x2 : Int32) (x3 : Int32) (x4 : Int32), fX4_find_h15  n (mix σ ρ) x1 x2 x3 x4 = mo ρ (fX4_find_h15  n σ x1 x2 x3 x4)
  | 0, _, _, _, _, _ => rfl
  | n + 1, σ, x1, x2, x3, x4 => rx_fX4_find_b15 ρ  (fX4_find_h15  n)  (rx_fX4_find_h15 ρ   n) σ x1 x2 x3 x4 
theorem rx_fX4_find (ρ : S0)   (σ : S0) (x1 : Int32) (x2 : Int32)  : fX4_find  (mix σ ρ) x1 x2 = mo ρ (fX4_find  σ x1 x2) := by
  simp (disch := omega) only [fX4_find, ↓ol_n, ↓ol_su, ↓ol_up, ↓mo_ol, ↓mo_obp, ↓mo_og, ↓mo_ite, mix_lo, mo_some, mo_none, rx_fX4_find_h15]
theorem ox_fX4_find (ρ : S0) (σ : S0) (x1 : Int32) (x2 : Int32)  (kk : Int32 → S0 → Option (Int32 × S0)) : obp (fX4_find (mix σ ρ) x1 x2) kk = obp (fX4_find σ x1 x2) (fun r s => kk r (mix s ρ)) := by
  rw [rx_fX4_find ρ σ x1 x2 , obp_mo]
theorem rx_fX3_refusedBy_b53 (ρ : S0) (sf_4 : S0 → Int32 → Int32 → Int32 → Option (Int32 × S0)) (hsf_4 : ∀ (σ : S0) (a0 : Int32) (a1 : Int32) (a2 : Int32), sf_4 (mix σ ρ) a0 a1 a2 = mo ρ (sf_4 σ a0 a1 a2)) (σ : S0) (x1 : Int32) (x2 : Int32) (x3 : Int32)  : fX3_refusedBy_b53 sf_4 (mix σ ρ) x1 x2 x3 = mo ρ (fX3_refusedBy_b53 sf_4 σ x1 x2 x3) := by
  simp (disch := omega) only [fX3_refusedBy_b53, ↓ol_n, ↓ol_su, ↓ol_up, ↓mo_ol, ↓mo_obp, ↓mo_og, ↓mo_ite, mix_lo, mo_some, mo_none, hsf_4]
theorem rx_fX3_refusedBy_b4 (ρ : S0) (sf_4 : S0 → Int32 → Int32 → Int32 → Option (Int32 × S0)) (hsf_4 : ∀ (σ : S0) (a0 : Int32) (a1 : Int32) (a2 : Int32), sf_4 (mix σ ρ) a0 a1 a2 = mo ρ (sf_4 σ a0 a1 a2)) (σ : S0) (x1 : Int32) (x2 : Int32) (x3 : Int32)  : fX3_refusedBy_b4 sf_4 (mix σ ρ) x1 x2 x3 = mo ρ (fX3_refusedBy_b4 sf_4 σ x1 x2 x3) := by
  by_cases g0 : (x1 < 0 ∨ 6 ≤ x1.toNatClampNeg)
  · simp (disch := omega) only [fX3_refusedBy_b4, ↓ol_n, ↓ol_su, ↓ol_up, ↓mo_ol, ↓mo_obp, ↓mo_og, ↓mo_ite, mix_lo, mo_some, mo_none, hsf_4, rx_fX3_refusedBy_b53, og_g g0]
  · have h0 : x1.toNatClampNeg < 6 := by omega
    simp (disch := omega) only [fX3_refusedBy_b4, ↓ol_n, ↓ol_su, ↓ol_up, ↓mo_ol, ↓mo_obp, ↓mo_og, ↓mo_ite, mix_lo, mo_some, mo_none, hsf_4, rx_fX3_refusedBy_b53]
theorem rx_fX3_refusedBy_h4 (ρ : S0)   : ∀ (n : Nat) (σ : S0) (x1 : Int32) (x2 : Int32) (x3 : Int32), fX3_refusedBy_h4  n (mix σ ρ) x1 x2 x3 = mo ρ (fX3_refusedBy_h4  n σ x1 x2 x3)
  | 0, _, _, _, _ => rfl
  | n + 1, σ, x1, x2, x3 => rx_fX3_refusedBy_b4 ρ  (fX3_refusedBy_h4  n)  (rx_fX3_refusedBy_h4 ρ   n) σ x1 x2 x3 
theorem rx_fX3_refusedBy (ρ : S0)   (σ : S0) (x1 : Int32)  : fX3_refusedBy  (mix σ ρ) x1 = mo ρ (fX3_refusedBy  σ x1) := by
  simp (disch := omega) only [fX3_refusedBy, ↓ol_n, ↓ol_su, ↓ol_up, ↓mo_ol, ↓mo_obp, ↓mo_og, ↓mo_ite, mix_lo, mo_some, mo_none, rx_fX3_refusedBy_h4]
theorem ox_fX3_refusedBy (ρ : S0) (σ : S0) (x1 : Int32)  (kk : Int32 → S0 → Option (Int32 × S0)) : obp (fX3_refusedBy (mix σ ρ) x1) kk = obp (fX3_refusedBy σ x1) (fun r s => kk r (mix s ρ)) := by
  rw [rx_fX3_refusedBy ρ σ x1 , obp_mo]
theorem rx_fX3_canBe_b96 (ρ : S0) (sf_25 : S0 → Int32 → Int32 → Int32 → Option (Int32 × S0)) (hsf_25 : ∀ (σ : S0) (a0 : Int32) (a1 : Int32) (a2 : Int32), sf_25 (mix σ ρ) a0 a1 a2 = mo ρ (sf_25 σ a0 a1 a2)) (σ : S0) (x1 : Int32) (x3 : Int32) (t0 : Int32) (t1 : Int32)  : fX3_canBe_b96 sf_25 (mix σ ρ) x1 x3 t0 t1 = mo ρ (fX3_canBe_b96 sf_25 σ x1 x3 t0 t1) := by
  simp (disch := omega) only [fX3_canBe_b96, ↓ol_n, ↓ol_su, ↓ol_up, ↓mo_ol, ↓mo_obp, ↓mo_og, ↓mo_ite, mix_lo, mo_some, mo_none, hsf_25]
theorem rx_fX3_canBe_b72 (ρ : S0) (sf_25 : S0 → Int32 → Int32 → Int32 → Option (Int32 × S0)) (hsf_25 : ∀ (σ : S0) (a0 : Int32) (a1 : Int32) (a2 : Int32), sf_25 (mix σ ρ) a0 a1 a2 = mo ρ (sf_25 σ a0 a1 a2)) (σ : S0) (x1 : Int32) (x2 : Int32) (x3 : Int32) (x4 : Int32)  : fX3_canBe_b72 sf_25 (mix σ ρ) x1 x2 x3 x4 = mo ρ (fX3_canBe_b72 sf_25 σ x1 x2 x3 x4) := by
  simp (disch := omega) only [fX3_canBe_b72, ↓ol_n, ↓ol_su, ↓ol_up, ↓mo_ol, ↓mo_obp, ↓mo_og, ↓mo_ite, mix_lo, mo_some, mo_none, hsf_25, rx_fX3_canBe_b96]
theorem rx_fX3_canBe_b25 (ρ : S0) (sf_25 : S0 → Int32 → Int32 → Int32 → Option (Int32 × S0)) (hsf_25 : ∀ (σ : S0) (a0 : Int32) (a1 : Int32) (a2 : Int32), sf_25 (mix σ ρ) a0 a1 a2 = mo ρ (sf_25 σ a0 a1 a2)) (σ : S0) (x1 : Int32) (x2 : Int32) (x3 : Int32)  : fX3_canBe_b25 sf_25 (mix σ ρ) x1 x2 x3 = mo ρ (fX3_canBe_b25 sf_25 σ x1 x2 x3) := by
  by_cases g0 : (x1 < 0 ∨ 6 ≤ x1.toNatClampNeg)
  · simp (disch := omega) only [fX3_canBe_b25, ↓ol_n, ↓ol_su, ↓ol_up, ↓mo_ol, ↓mo_obp, ↓mo_og, ↓mo_ite, ↓ox_fX3_refusedBy, mix_lo, mo_some, mo_none, hsf_25, rx_fX3_refusedBy, rx_fX3_canBe_b72, og_g g0]
  · have h0 : x1.toNatClampNeg < 6 := by omega
    simp (disch := omega) only [fX3_canBe_b25, ↓ol_n, ↓ol_su, ↓ol_up, ↓mo_ol, ↓mo_obp, ↓mo_og, ↓mo_ite, ↓ox_fX3_refusedBy, mix_lo, mo_some, mo_none, hsf_25, rx_fX3_refusedBy, rx_fX3_canBe_b72]
theorem rx_fX3_canBe_h25 (ρ : S0)   : ∀ (n : Nat) (σ : S0) (x1 : Int32) (x2 : Int32) (x3 : Int32), fX3_canBe_h25  n (mix σ ρ) x1 x2 x3 = mo ρ (fX3_canBe_h25  n σ x1 x2 x3)
  | 0, _, _, _, _ => rfl
  | n + 1, σ, x1, x2, x3 => rx_fX3_canBe_b25 ρ  (fX3_canBe_h25  n)  (rx_fX3_canBe_h25 ρ   n) σ x1 x2 x3 
theorem rx_fX3_canBe (ρ : S0)   (σ : S0) (x1 : Int32)  : fX3_canBe  (mix σ ρ) x1 = mo ρ (fX3_canBe  σ x1) := by
  simp (disch := omega) only [fX3_canBe, ↓ol_n, ↓ol_su, ↓ol_up, ↓mo_ol, ↓mo_obp, ↓mo_og, ↓mo_ite, mix_lo, mo_some, mo_none, rx_fX3_canBe_h25]
theorem ox_fX3_canBe (ρ : S0) (σ : S0) (x1 : Int32)  (kk : Int32 → S0 → Option (Int32 × S0)) : obp (fX3_canBe (mix σ ρ) x1) kk = obp (fX3_canBe σ x1) (fun r s => kk r (mix s ρ)) := by
  rw [rx_fX3_canBe ρ σ x1 , obp_mo]
theorem rx_fX3_addFitting_b28 (ρ : S0)   (σ : S0) (x2 : Int32)  : fX3_addFitting_b28  (mix σ ρ) x2 = mo ρ (fX3_addFitting_b28  σ x2) := by
  simp (disch := omega) only [fX3_addFitting_b28, ↓ol_n, ↓ol_su, ↓ol_up, ↓mo_ol, ↓mo_obp, ↓mo_og, ↓mo_ite, mix_lo, mo_some, mo_none]
theorem rx_fX3_addFitting (ρ : S0)   (σ : S0) (x1 : Int32)  : fX3_addFitting  (mix σ ρ) x1 = mo ρ (fX3_addFitting  σ x1) := by
  simp (disch := omega) only [fX3_addFitting, ↓ol_n, ↓ol_su, ↓ol_up, ↓mo_ol, ↓mo_obp, ↓mo_og, ↓mo_ite, ↓ox_fX3_refusedBy, mix_lo, mo_some, mo_none, rx_fX3_refusedBy, rx_fX3_addFitting_b28]
theorem ox_fX3_addFitting (ρ : S0) (σ : S0) (x1 : Int32)  (kk : Int32 → S0 → Option (Int32 × S0)) : obp (fX3_addFitting (mix σ ρ) x1) kk = obp (fX3_addFitting σ x1) (fun r s => kk r (mix s ρ)) := by
  rw [rx_fX3_addFitting ρ σ x1 , obp_mo]
theorem rx_fX3_compareAll_b31 (ρ : S0) (sf_7 : S0 → Int32 → Option (Int32 × S0)) (hsf_7 : ∀ (σ : S0) (a0 : Int32), sf_7 (mix σ ρ) a0 = mo ρ (sf_7 σ a0)) (σ : S0) (x1 : Int32)  : fX3_compareAll_b31 sf_7 (mix σ ρ) x1 = mo ρ (fX3_compareAll_b31 sf_7 σ x1) := by
  simp (disch := omega) only [fX3_compareAll_b31, ↓ol_n, ↓ol_su, ↓ol_up, ↓mo_ol, ↓mo_obp, ↓mo_og, ↓mo_ite, mix_lo, mo_some, mo_none, hsf_7]
theorem rx_fX3_compareAll_b7 (ρ : S0) (sf_7 : S0 → Int32 → Option (Int32 × S0)) (hsf_7 : ∀ (σ : S0) (a0 : Int32), sf_7 (mix σ ρ) a0 = mo ρ (sf_7 σ a0)) (σ : S0) (x1 : Int32)  : fX3_compareAll_b7 sf_7 (mix σ ρ) x1 = mo ρ (fX3_compareAll_b7 sf_7 σ x1) := by
  simp (disch := omega) only [fX3_compareAll_b7, ↓ol_n, ↓ol_su, ↓ol_up, ↓mo_ol, ↓mo_obp, ↓mo_og, ↓mo_ite, ↓ox_fX3_canBe, ↓ox_fX3_addFitting, mix_lo, mo_some, mo_none, hsf_7, rx_fX3_canBe, rx_fX3_compareAll_b31, rx_fX3_addFitting]
theorem rx_fX3_compareAll_h7 (ρ : S0)   : ∀ (n : Nat) (σ : S0) (x1 : Int32), fX3_compareAll_h7  n (mix σ ρ) x1 = mo ρ (fX3_compareAll_h7  n σ x1)
  | 0, _, _ => rfl
  | n + 1, σ, x1 => rx_fX3_compareAll_b7 ρ  (fX3_compareAll_h7  n)  (rx_fX3_compareAll_h7 ρ   n) σ x1 
theorem rx_fX3_compareAll (ρ : S0)   (σ : S0)   : fX3_compareAll  (mix σ ρ)  = mo ρ (fX3_compareAll  σ ) := by
  simp (disch := omega) only [fX3_compareAll, ↓ol_n, ↓ol_su, ↓ol_up, ↓mo_ol, ↓mo_obp, ↓mo_og, ↓mo_ite, mix_lo, mo_some, mo_none, rx_fX3_compareAll_h7]
theorem ox_fX3_compareAll (ρ : S0) (σ : S0)   (kk : Int32 → S0 → Option (Int32 × S0)) : obp (fX3_compareAll (mix σ ρ) ) kk = obp (fX3_compareAll σ ) (fun r s => kk r (mix s ρ)) := by
  rw [rx_fX3_compareAll ρ σ  , obp_mo]
theorem rx_fX5_refuse (ρ : S0)   (σ : S0) (x1 : Int32)  : fX5_refuse  (mix σ ρ) x1 = mo ρ (fX5_refuse  σ x1) := by
  simp (disch := omega) only [fX5_refuse, ↓ol_n, ↓ol_su, ↓ol_up, ↓mo_ol, ↓mo_obp, ↓mo_og, ↓mo_ite, mix_lo, mo_some, mo_none]
theorem ox_fX5_refuse (ρ : S0) (σ : S0) (x1 : Int32)  (kk : Int32 → S0 → Option (Int32 × S0)) : obp (fX5_refuse (mix σ ρ) x1) kk = obp (fX5_refuse σ x1) (fun r s => kk r (mix s ρ)) := by
  rw [rx_fX5_refuse ρ σ x1 , obp_mo]
theorem rx_fX5_advance_b26 (ρ : S0)   (σ : S0)   : fX5_advance_b26  (mix σ ρ)  = mo ρ (fX5_advance_b26  σ ) := by
  simp (disch := omega) only [fX5_advance_b26, ↓ol_n, ↓ol_su, ↓ol_up, ↓mo_ol, ↓mo_obp, ↓mo_og, ↓mo_ite, mix_lo, mo_some, mo_none]
theorem rx_fX5_advance (ρ : S0)   (σ : S0)   : fX5_advance  (mix σ ρ)  = mo ρ (fX5_advance  σ ) := by
  simp (disch := omega) only [fX5_advance, ↓ol_n, ↓ol_su, ↓ol_up, ↓mo_ol, ↓mo_obp, ↓mo_og, ↓mo_ite, ↓ox_fX8_readToken, ↓ox_fX5_refuse, mix_lo, mo_some, mo_none, rx_fX8_readToken, rx_fX5_advance_b26, rx_fX5_refuse]
theorem ox_fX5_advance (ρ : S0) (σ : S0)   (kk : Int32 → S0 → Option (Int32 × S0)) : obp (fX5_advance (mix σ ρ) ) kk = obp (fX5_advance σ ) (fun r s => kk r (mix s ρ)) := by
  rw [rx_fX5_advance ρ σ  , obp_mo]
theorem rx_fX5_faultOfNumber_b48 (ρ : S0)   (σ : S0)   : fX5_faultOfNumber_b48  (mix σ ρ)  = mo ρ (fX5_faultOfNumber_b48  σ ) := by
  simp (disch := omega) only [fX5_faultOfNumber_b48, ↓ol_n, ↓ol_su, ↓ol_up, ↓mo_ol, ↓mo_obp, ↓mo_og, ↓mo_ite, mix_lo, mo_some, mo_none]
theorem rx_fX5_faultOfNumber (ρ : S0)   (σ : S0) (x1 : Int32) (x2 : Int32)  : fX5_faultOfNumber  (mix σ ρ) x1 x2 = mo ρ (fX5_faultOfNumber  σ x1 x2) := by
  simp (disch := omega) only [fX5_faultOfNumber, ↓ol_n, ↓ol_su, ↓ol_up, ↓mo_ol, ↓mo_obp, ↓mo_og, ↓mo_ite, mix_lo, mo_some, mo_none, rx_fX5_faultOfNumber_b48]
theorem ox_fX5_faultOfNumber (ρ : S0) (σ : S0) (x1 : Int32) (x2 : Int32)  (kk : Int32 → S0 → Option (Int32 × S0)) : obp (fX5_faultOfNumber (mix σ ρ) x1 x2) kk = obp (fX5_faultOfNumber σ x1 x2) (fun r s => kk r (mix s ρ)) := by
  rw [rx_fX5_faultOfNumber ρ σ x1 x2 , obp_mo]
theorem rx_fX5_nextNumber_b26 (ρ : S0)   (σ : S0)   : fX5_nextNumber_b26  (mix σ ρ)  = mo ρ (fX5_nextNumber_b26  σ ) := by
  simp (disch := omega) only [fX5_nextNumber_b26, ↓ol_n, ↓ol_su, ↓ol_up, ↓mo_ol, ↓mo_obp, ↓mo_og, ↓mo_ite, mix_lo, mo_some, mo_none]
theorem rx_fX5_nextNumber (ρ : S0)   (σ : S0) (x1 : Int32) (x2 : Int32)  : fX5_nextNumber  (mix σ ρ) x1 x2 = mo ρ (fX5_nextNumber  σ x1 x2) := by
  simp (disch := omega) only [fX5_nextNumber, ↓ol_n, ↓ol_su, ↓ol_up, ↓mo_ol, ↓mo_obp, ↓mo_og, ↓mo_ite, ↓ox_fX8_readToken, ↓ox_fX5_faultOfNumber, ↓ox_fX5_refuse, mix_lo, mo_some, mo_none, rx_fX8_readToken, rx_fX5_faultOfNumber, rx_fX5_nextNumber_b26, rx_fX5_refuse]
theorem ox_fX5_nextNumber (ρ : S0) (σ : S0) (x1 : Int32) (x2 : Int32)  (kk : Int32 → S0 → Option (Int32 × S0)) : obp (fX5_nextNumber (mix σ ρ) x1 x2) kk = obp (fX5_nextNumber σ x1 x2) (fun r s => kk r (mix s ρ)) := by
  rw [rx_fX5_nextNumber ρ σ x1 x2 , obp_mo]
theorem rx_fX5_endLine (ρ : S0)   (σ : S0)   : fX5_endLine  (mix σ ρ)  = mo ρ (fX5_endLine  σ ) := by
  simp (disch := omega) only [fX5_endLine, ↓ol_n, ↓ol_su, ↓ol_up, ↓mo_ol, ↓mo_obp, ↓mo_og, ↓mo_ite, ↓ox_fX5_refuse, ↓ox_fX5_advance, mix_lo, mo_some, mo_none, rx_fX5_refuse, rx_fX5_advance]
theorem ox_fX5_endLine (ρ : S0) (σ : S0)   (kk : Int32 → S0 → Option (Int32 × S0)) : obp (fX5_endLine (mix σ ρ) ) kk = obp (fX5_endLine σ ) (fun r s => kk r (mix s ρ)) := by
  rw [rx_fX5_endLine ρ σ  , obp_mo]
theorem rx_fX5_readHouses (ρ : S0)   (σ : S0)   : fX5_readHouses  (mix σ ρ)  = mo ρ (fX5_readHouses  σ ) := by
  simp (disch := omega) only [fX5_readHouses, ↓ol_n, ↓ol_su, ↓ol_up, ↓mo_ol, ↓mo_obp, ↓mo_og, ↓mo_ite, ↓ox_fX5_nextNumber, ↓ox_fX5_advance, ↓ox_fX5_endLine, ↓ox_fX5_refuse, mix_lo, mo_some, mo_none, rx_fX5_nextNumber, rx_fX5_advance, rx_fX5_endLine, rx_fX5_refuse]
theorem ox_fX5_readHouses (ρ : S0) (σ : S0)   (kk : Int32 → S0 → Option (Int32 × S0)) : obp (fX5_readHouses (mix σ ρ) ) kk = obp (fX5_readHouses σ ) (fun r s => kk r (mix s ρ)) := by
  rw [rx_fX5_readHouses ρ σ  , obp_mo]
theorem rx_fX5_readGap (ρ : S0)   (σ : S0)   : fX5_readGap  (mix σ ρ)  = mo ρ (fX5_readGap  σ ) := by
  simp (disch := omega) only [fX5_readGap, ↓ol_n, ↓ol_su, ↓ol_up, ↓mo_ol, ↓mo_obp, ↓mo_og, ↓mo_ite, ↓ox_fX5_nextNumber, ↓ox_fX5_advance, ↓ox_fX5_endLine, ↓ox_fX5_refuse, mix_lo, mo_some, mo_none, rx_fX5_nextNumber, rx_fX5_advance, rx_fX5_endLine, rx_fX5_refuse]
theorem ox_fX5_readGap (ρ : S0) (σ : S0)   (kk : Int32 → S0 → Option (Int32 × S0)) : obp (fX5_readGap (mix σ ρ) ) kk = obp (fX5_readGap σ ) (fun r s => kk r (mix s ρ)) := by
  rw [rx_fX5_readGap ρ σ  , obp_mo]
theorem rx_fX5_readWiths_b65 (ρ : S0)   (σ : S0)   : fX5_readWiths_b65  (mix σ ρ)  = mo ρ (fX5_readWiths_b65  σ ) := by
  simp (disch := omega) only [fX5_readWiths_b65, ↓ol_n, ↓ol_su, ↓ol_up, ↓mo_ol, ↓mo_obp, ↓mo_og, ↓mo_ite, ↓ox_fX5_refuse, mix_lo, mo_some, mo_none, rx_fX5_refuse]
theorem rx_fX5_readWiths_b132 (ρ : S0) (sf_2 : S0 → Nat → Int32 → Int32 → Option (Int32 × S0)) (hsf_2 : ∀ (σ : S0) (a0 : Nat) (a1 : Int32) (a2 : Int32), a0 < 83 → sf_2 (mix σ ρ) a0 a1 a2 = mo ρ (sf_2 σ a0 a1 a2)) (σ : S0) (x1 : Nat) (x2 : Int32) (x3 : Int32) (cx1 : x1 < 83) : fX5_readWiths_b132 sf_2 (mix σ ρ) x1 x2 x3 = mo ρ (fX5_readWiths_b132 sf_2 σ x1 x2 x3) := by
  simp (disch := omega) only [fX5_readWiths_b132, ↓ol_n, ↓ol_su, ↓ol_up, ↓mo_ol, ↓mo_obp, ↓mo_og, ↓mo_ite, ↓ox_fX5_advance, mix_lo, mo_some, mo_none, hsf_2, rx_fX5_advance]
theorem rx_fX5_readWiths_b71 (ρ : S0) (sf_2 : S0 → Nat → Int32 → Int32 → Option (Int32 × S0)) (hsf_2 : ∀ (σ : S0) (a0 : Nat) (a1 : Int32) (a2 : Int32), a0 < 83 → sf_2 (mix σ ρ) a0 a1 a2 = mo ρ (sf_2 σ a0 a1 a2)) (σ : S0) (x1 : Nat) (x2 : Int32) (x3 : Int32) (x4 : Int32) (cx1 : x1 < 83) : fX5_readWiths_b71 sf_2 (mix σ ρ) x1 x2 x3 x4 = mo ρ (fX5_readWiths_b71 sf_2 σ x1 x2 x3 x4) := by
  simp (disch := omega) only [fX5_readWiths_b71, ↓ol_n, ↓ol_su, ↓ol_up, ↓mo_ol, ↓mo_obp, ↓mo_og, ↓mo_ite, ↓ox_fX5_nextNumber, ↓ox_fX5_refuse, mix_lo, mo_some, mo_none, hsf_2, rx_fX5_nextNumber, rx_fX5_readWiths_b132, rx_fX5_refuse]
theorem rx_fX5_readWiths_b37 (ρ : S0) (sf_2 : S0 → Nat → Int32 → Int32 → Option (Int32 × S0)) (hsf_2 : ∀ (σ : S0) (a0 : Nat) (a1 : Int32) (a2 : Int32), a0 < 83 → sf_2 (mix σ ρ) a0 a1 a2 = mo ρ (sf_2 σ a0 a1 a2)) (σ : S0) (x1 : Nat) (x2 : Int32) (x3 : Int32) (x4 : Int32) (cx1 : x1 < 83) : fX5_readWiths_b37 sf_2 (mix σ ρ) x1 x2 x3 x4 = mo ρ (fX5_readWiths_b37 sf_2 σ x1 x2 x3 x4) := by
  simp (disch := omega) only [fX5_readWiths_b37, ↓ol_n, ↓ol_su, ↓ol_up, ↓mo_ol, ↓mo_obp, ↓mo_og, ↓mo_ite, mix_lo, mo_some, mo_none, hsf_2, rx_fX5_readWiths_b71, rx_fX5_readWiths_b65]
theorem rx_fX5_readWiths_b2 (ρ : S0) (sf_2 : S0 → Nat → Int32 → Int32 → Option (Int32 × S0)) (hsf_2 : ∀ (σ : S0) (a0 : Nat) (a1 : Int32) (a2 : Int32), a0 < 83 → sf_2 (mix σ ρ) a0 a1 a2 = mo ρ (sf_2 σ a0 a1 a2)) (σ : S0) (x1 : Nat) (x2 : Int32) (x3 : Int32) (cx1 : x1 < 83) : fX5_readWiths_b2 sf_2 (mix σ ρ) x1 x2 x3 = mo ρ (fX5_readWiths_b2 sf_2 σ x1 x2 x3) := by
  simp (disch := omega) only [fX5_readWiths_b2, ↓ol_n, ↓ol_su, ↓ol_up, ↓mo_ol, ↓mo_obp, ↓mo_og, ↓mo_ite, ↓ox_fX8_isName, mix_lo, mo_some, mo_none, hsf_2, rx_fX8_isName, rx_fX5_readWiths_b37]
end
section
theorem rx_fX5_readWiths_h2 (ρ : S0)   : ∀ (n : Nat) (σ : S0) (x1 : Nat) (x2 : Int32) (x3 : Int32), x1 < 83 → fX5_readWiths_h2  n (mix σ ρ) x1 x2 x3 = mo ρ (fX5_readWiths_h2  n σ x1 x2 x3)
  | 0, _, _, _, _ => fun _ => rfl
  | n + 1, σ, x1, x2, x3 => fun cx1 => rx_fX5_readWiths_b2 ρ  (fX5_readWiths_h2  n)  (rx_fX5_readWiths_h2 ρ   n) σ x1 x2 x3 cx1
theorem rx_fX5_readWiths (ρ : S0)   (σ : S0) (k1 : Nat) (x2 : Int32) (ck1 : k1 < 83) : fX5_readWiths  (mix σ ρ) k1 x2 = mo ρ (fX5_readWiths  σ k1 x2) := by
  simp (disch := omega) only [fX5_readWiths, ↓ol_n, ↓ol_su, ↓ol_up, ↓mo_ol, ↓mo_obp, ↓mo_og, ↓mo_ite, mix_lo, mo_some, mo_none, rx_fX5_readWiths_h2]
theorem ox_fX5_readWiths (ρ : S0) (σ : S0) (k1 : Nat) (x2 : Int32) (ck1 : k1 < 83) (kk : Int32 → S0 → Option (Int32 × S0)) : obp (fX5_readWiths (mix σ ρ) k1 x2) kk = obp (fX5_readWiths σ k1 x2) (fun r s => kk r (mix s ρ)) := by
  rw [rx_fX5_readWiths ρ σ k1 x2 ck1, obp_mo]
theorem rx_fX5_readBell (ρ : S0)   (σ : S0)   : fX5_readBell  (mix σ ρ)  = mo ρ (fX5_readBell  σ ) := by
  simp (disch := omega) only [fX5_readBell, ↓ol_n, ↓ol_su, ↓ol_up, ↓mo_ol, ↓mo_obp, ↓mo_og, ↓mo_ite, ↓ox_fX5_nextNumber, ↓ox_fX5_advance, ↓ox_fX5_readWiths, ↓ox_fX5_endLine, ↓ox_fX5_refuse, mix_lo, mo_some, mo_none, rx_fX5_nextNumber, rx_fX5_advance, rx_fX5_readWiths, rx_fX5_endLine, rx_fX5_refuse]
theorem ox_fX5_readBell (ρ : S0) (σ : S0)   (kk : Int32 → S0 → Option (Int32 × S0)) : obp (fX5_readBell (mix σ ρ) ) kk = obp (fX5_readBell σ ) (fun r s => kk r (mix s ρ)) := by
  rw [rx_fX5_readBell ρ σ  , obp_mo]
theorem rx_fX5_readStrokes_b25 (ρ : S0) (sf_2 : S0 → Int32 → Int32 → Option (Int32 × S0)) (hsf_2 : ∀ (σ : S0) (a0 : Int32) (a1 : Int32), sf_2 (mix σ ρ) a0 a1 = mo ρ (sf_2 σ a0 a1)) (σ : S0) (x1 : Int32) (x2 : Int32)  : fX5_readStrokes_b25 sf_2 (mix σ ρ) x1 x2 = mo ρ (fX5_readStrokes_b25 sf_2 σ x1 x2) := by
  by_cases g0 : (x1 < 0 ∨ 6 ≤ x1.toNatClampNeg)
  · simp (disch := omega) only [fX5_readStrokes_b25, ↓ol_n, ↓ol_su, ↓ol_up, ↓mo_ol, ↓mo_obp, ↓mo_og, ↓mo_ite, ↓ox_fX5_faultOfNumber, ↓ox_fX5_advance, ↓ox_fX5_refuse, mix_lo, mo_some, mo_none, hsf_2, rx_fX5_faultOfNumber, rx_fX5_advance, rx_fX5_refuse, og_g g0]
  · have h0 : x1.toNatClampNeg < 6 := by omega
    simp (disch := omega) only [fX5_readStrokes_b25, ↓ol_n, ↓ol_su, ↓ol_up, ↓mo_ol, ↓mo_obp, ↓mo_og, ↓mo_ite, ↓ox_fX5_faultOfNumber, ↓ox_fX5_advance, ↓ox_fX5_refuse, mix_lo, mo_some, mo_none, hsf_2, rx_fX5_faultOfNumber, rx_fX5_advance, rx_fX5_refuse]
theorem rx_fX5_readStrokes_b2 (ρ : S0) (sf_2 : S0 → Int32 → Int32 → Option (Int32 × S0)) (hsf_2 : ∀ (σ : S0) (a0 : Int32) (a1 : Int32), sf_2 (mix σ ρ) a0 a1 = mo ρ (sf_2 σ a0 a1)) (σ : S0) (x1 : Int32) (x2 : Int32)  : fX5_readStrokes_b2 sf_2 (mix σ ρ) x1 x2 = mo ρ (fX5_readStrokes_b2 sf_2 σ x1 x2) := by
  simp (disch := omega) only [fX5_readStrokes_b2, ↓ol_n, ↓ol_su, ↓ol_up, ↓mo_ol, ↓mo_obp, ↓mo_og, ↓mo_ite, mix_lo, mo_some, mo_none, hsf_2, rx_fX5_readStrokes_b25]
theorem rx_fX5_readStrokes_h2 (ρ : S0)   : ∀ (n : Nat) (σ : S0) (x1 : Int32) (x2 : Int32), fX5_readStrokes_h2  n (mix σ ρ) x1 x2 = mo ρ (fX5_readStrokes_h2  n σ x1 x2)
  | 0, _, _, _ => rfl
  | n + 1, σ, x1, x2 => rx_fX5_readStrokes_b2 ρ  (fX5_readStrokes_h2  n)  (rx_fX5_readStrokes_h2 ρ   n) σ x1 x2 
theorem rx_fX5_readStrokes (ρ : S0)   (σ : S0) (x1 : Int32)  : fX5_readStrokes  (mix σ ρ) x1 = mo ρ (fX5_readStrokes  σ x1) := by
  simp (disch := omega) only [fX5_readStrokes, ↓ol_n, ↓ol_su, ↓ol_up, ↓mo_ol, ↓mo_obp, ↓mo_og, ↓mo_ite, mix_lo, mo_some, mo_none, rx_fX5_readStrokes_h2]
theorem ox_fX5_readStrokes (ρ : S0) (σ : S0) (x1 : Int32)  (kk : Int32 → S0 → Option (Int32 × S0)) : obp (fX5_readStrokes (mix σ ρ) x1) kk = obp (fX5_readStrokes σ x1) (fun r s => kk r (mix s ρ)) := by
  rw [rx_fX5_readStrokes ρ σ x1 , obp_mo]
theorem rx_fX5_readTune (ρ : S0)   (σ : S0)   : fX5_readTune  (mix σ ρ)  = mo ρ (fX5_readTune  σ ) := by
  simp (disch := omega) only [fX5_readTune, ↓ol_n, ↓ol_su, ↓ol_up, ↓mo_ol, ↓mo_obp, ↓mo_og, ↓mo_ite, ↓ox_fX5_nextNumber, ↓ox_fX5_advance, ↓ox_fX5_readStrokes, ↓ox_fX5_endLine, ↓ox_fX5_refuse, mix_lo, mo_some, mo_none, rx_fX5_nextNumber, rx_fX5_advance, rx_fX5_readStrokes, rx_fX5_endLine, rx_fX5_refuse]
theorem ox_fX5_readTune (ρ : S0) (σ : S0)   (kk : Int32 → S0 → Option (Int32 × S0)) : obp (fX5_readTune (mix σ ρ) ) kk = obp (fX5_readTune σ ) (fun r s => kk r (mix s ρ)) := by
  rw [rx_fX5_readTune ρ σ  , obp_mo]
theorem rx_fX5_readFeud (ρ : S0)   (σ : S0)   : fX5_readFeud  (mix σ ρ)  = mo ρ (fX5_readFeud  σ ) := by
  simp (disch := omega) only [fX5_readFeud, ↓ol_n, ↓ol_su, ↓ol_up, ↓mo_ol, ↓mo_obp, ↓mo_og, ↓mo_ite, ↓ox_fX5_nextNumber, ↓ox_fX1_setFoes, ↓ox_fX5_advance, ↓ox_fX5_endLine, ↓ox_fX5_refuse, mix_lo, mo_some, mo_none, rx_fX5_nextNumber, rx_fX1_setFoes, rx_fX5_advance, rx_fX5_endLine, rx_fX5_refuse]
theorem ox_fX5_readFeud (ρ : S0) (σ : S0)   (kk : Int32 → S0 → Option (Int32 × S0)) : obp (fX5_readFeud (mix σ ρ) ) kk = obp (fX5_readFeud σ ) (fun r s => kk r (mix s ρ)) := by
  rw [rx_fX5_readFeud ρ σ  , obp_mo]
theorem rx_fX5_readLine (ρ : S0)   (σ : S0)   : fX5_readLine  (mix σ ρ)  = mo ρ (fX5_readLine  σ ) := by
  simp (disch := omega) only [fX5_readLine, ↓ol_n, ↓ol_su, ↓ol_up, ↓mo_ol, ↓mo_obp, ↓mo_og, ↓mo_ite, ↓ox_fX8_isName, ↓ox_fX5_refuse, ↓ox_fX5_readFeud, ↓ox_fX5_readTune, ↓ox_fX5_readBell, ↓ox_fX5_readGap, ↓ox_fX5_readHouses, mix_lo, mo_some, mo_none, rx_fX8_isName, rx_fX5_refuse, rx_fX5_readFeud, rx_fX5_readTune, rx_fX5_readBell, rx_fX5_readGap, rx_fX5_readHouses]
theorem ox_fX5_readLine (ρ : S0) (σ : S0)   (kk : Int32 → S0 → Option (Int32 × S0)) : obp (fX5_readLine (mix σ ρ) ) kk = obp (fX5_readLine σ ) (fun r s => kk r (mix s ρ)) := by
  rw [rx_fX5_readLine ρ σ  , obp_mo]
theorem rx_fX5_readAll_b104 (ρ : S0)   (σ : S0)   : fX5_readAll_b104  (mix σ ρ)  = mo ρ (fX5_readAll_b104  σ ) := by
  simp (disch := omega) only [fX5_readAll_b104, ↓ol_n, ↓ol_su, ↓ol_up, ↓mo_ol, ↓mo_obp, ↓mo_og, ↓mo_ite, mix_lo, mo_some, mo_none]
theorem rx_fX5_readAll_b81 (ρ : S0)   (σ : S0) (x1 : Int32)  : fX5_readAll_b81  (mix σ ρ) x1 = mo ρ (fX5_readAll_b81  σ x1) := by
  simp (disch := omega) only [fX5_readAll_b81, ↓ol_n, ↓ol_su, ↓ol_up, ↓mo_ol, ↓mo_obp, ↓mo_og, ↓mo_ite, ↓ox_fX9_isWhole, ↓ox_fX5_refuse, mix_lo, mo_some, mo_none, rx_fX9_isWhole, rx_fX5_readAll_b104, rx_fX5_refuse]
theorem rx_fX5_readAll_b39 (ρ : S0) (sf_39 : S0 → Int32 → Option (Int32 × S0)) (hsf_39 : ∀ (σ : S0) (a0 : Int32), sf_39 (mix σ ρ) a0 = mo ρ (sf_39 σ a0)) (σ : S0) (x1 : Int32)  : fX5_readAll_b39 sf_39 (mix σ ρ) x1 = mo ρ (fX5_readAll_b39 sf_39 σ x1) := by
  simp (disch := omega) only [fX5_readAll_b39, ↓ol_n, ↓ol_su, ↓ol_up, ↓mo_ol, ↓mo_obp, ↓mo_og, ↓mo_ite, ↓ox_fX5_readLine, mix_lo, mo_some, mo_none, hsf_39, rx_fX5_readAll_b81, rx_fX5_readLine]
theorem rx_fX5_readAll_h39 (ρ : S0)   : ∀ (n : Nat) (σ : S0) (x1 : Int32), fX5_readAll_h39  n (mix σ ρ) x1 = mo ρ (fX5_readAll_h39  n σ x1)
  | 0, _, _ => rfl
  | n + 1, σ, x1 => rx_fX5_readAll_b39 ρ  (fX5_readAll_h39  n)  (rx_fX5_readAll_h39 ρ   n) σ x1 
theorem rx_fX5_readAll (ρ : S0)   (σ : S0)   : fX5_readAll  (mix σ ρ)  = mo ρ (fX5_readAll  σ ) := by
  simp (disch := omega) only [fX5_readAll, ↓ol_n, ↓ol_su, ↓ol_up, ↓mo_ol, ↓mo_obp, ↓mo_og, ↓mo_ite, ↓ox_fX9_empty, ↓ox_fX8_rewind, ↓ox_fX5_advance, mix_lo, mo_some, mo_none, rx_fX9_empty, rx_fX8_rewind, rx_fX5_advance, rx_fX5_readAll_h39]
theorem ox_fX5_readAll (ρ : S0) (σ : S0)   (kk : Int32 → S0 → Option (Int32 × S0)) : obp (fX5_readAll (mix σ ρ) ) kk = obp (fX5_readAll σ ) (fun r s => kk r (mix s ρ)) := by
  rw [rx_fX5_readAll ρ σ  , obp_mo]
theorem rx_fX10_feed (ρ : S0)   (σ : S0) (x1 : Int64)  : fX10_feed  (mix σ ρ) x1 = mo ρ (fX10_feed  σ x1) := by
  simp (disch := omega) only [fX10_feed, ↓ol_n, ↓ol_su, ↓ol_up, ↓mo_ol, ↓mo_obp, ↓mo_og, ↓mo_ite, ↓ox_fX8_append, mix_lo, mo_some, mo_none, rx_fX8_append]
theorem rx_fX10_end (ρ : S0)   (σ : S0) (x1 : Int32)  : fX10_end  (mix σ ρ) x1 = mo ρ (fX10_end  σ x1) := by
  simp (disch := omega) only [fX10_end, ↓ol_n, ↓ol_su, ↓ol_up, ↓mo_ol, ↓mo_obp, ↓mo_og, ↓mo_ite, mix_lo, mo_some, mo_none]
theorem rx_fX10_text_b47 (ρ : S0) (sf_47 : S0 → Int32 → Option (Int32 × S0)) (hsf_47 : ∀ (σ : S0) (a0 : Int32), sf_47 (mix σ ρ) a0 = mo ρ (sf_47 σ a0)) (σ : S0) (x2 : Int32)  : fX10_text_b47 sf_47 (mix σ ρ) x2 = mo ρ (fX10_text_b47 sf_47 σ x2) := by
  simp (disch := omega) only [fX10_text_b47, ↓ol_n, ↓ol_su, ↓ol_up, ↓mo_ol, ↓mo_obp, ↓mo_og, ↓mo_ite, mix_lo, mo_some, mo_none, hsf_47]
theorem rx_fX10_text_h47 (ρ : S0)   : ∀ (n : Nat) (σ : S0) (x2 : Int32), fX10_text_h47  n (mix σ ρ) x2 = mo ρ (fX10_text_h47  n σ x2)
  | 0, _, _ => rfl
  | n + 1, σ, x2 => rx_fX10_text_b47 ρ  (fX10_text_h47  n)  (rx_fX10_text_h47 ρ   n) σ x2 
theorem rx_fX10_text (ρ : S0)   (σ : S0)   : fX10_text  (mix σ ρ)  = mo ρ (fX10_text  σ ) := by
  simp (disch := omega) only [fX10_text, ↓ol_n, ↓ol_su, ↓ol_up, ↓mo_ol, ↓mo_obp, ↓mo_og, ↓mo_ite, ↓ox_fX5_readAll, ↓ox_fX9_copyFrom, mix_lo, mo_some, mo_none, rx_fX5_readAll, rx_fX9_copyFrom, rx_fX10_text_h47]
theorem rx_fX10_fault (ρ : S0)   (σ : S0)   : fX10_fault  (mix σ ρ)  = mo ρ (fX10_fault  σ ) := by
  simp (disch := omega) only [fX10_fault, ↓ol_n, ↓ol_su, ↓ol_up, ↓mo_ol, ↓mo_obp, ↓mo_og, ↓mo_ite, mix_lo, mo_some, mo_none]
theorem rx_fX10_rule (ρ : S0)   (σ : S0) (x1 : Int32)  : fX10_rule  (mix σ ρ) x1 = mo ρ (fX10_rule  σ x1) := by
  simp (disch := omega) only [fX10_rule, ↓ol_n, ↓ol_su, ↓ol_up, ↓mo_ol, ↓mo_obp, ↓mo_og, ↓mo_ite, mix_lo, mo_some, mo_none]
theorem rx_fX10_bell (ρ : S0)   (σ : S0) (x1 : Int32) (x2 : Int32)  : fX10_bell  (mix σ ρ) x1 x2 = mo ρ (fX10_bell  σ x1 x2) := by
  simp (disch := omega) only [fX10_bell, ↓ol_n, ↓ol_su, ↓ol_up, ↓mo_ol, ↓mo_obp, ↓mo_og, ↓mo_ite, ↓ox_fX1_hasBell, mix_lo, mo_some, mo_none, rx_fX1_hasBell]
theorem rx_fX10_tune (ρ : S0)   (σ : S0) (x1 : Int32) (x2 : Int32)  : fX10_tune  (mix σ ρ) x1 x2 = mo ρ (fX10_tune  σ x1 x2) := by
  by_cases g0 : (x1 < 0 ∨ 6 ≤ x1.toNatClampNeg)
  · simp (disch := omega) only [fX10_tune, ↓ol_n, ↓ol_su, ↓ol_up, ↓mo_ol, ↓mo_obp, ↓mo_og, ↓mo_ite, ↓ox_fX9_hasTune, ↓ox_fX9_asksStroke, mix_lo, mo_some, mo_none, rx_fX9_hasTune, rx_fX9_asksStroke, og_g g0]
  · have h0 : x1.toNatClampNeg < 6 := by omega
    simp (disch := omega) only [fX10_tune, ↓ol_n, ↓ol_su, ↓ol_up, ↓mo_ol, ↓mo_obp, ↓mo_og, ↓mo_ite, ↓ox_fX9_hasTune, ↓ox_fX9_asksStroke, mix_lo, mo_some, mo_none, rx_fX9_hasTune, rx_fX9_asksStroke]
theorem rx_fX10_feuds (ρ : S0)   (σ : S0) (x1 : Int32)  : fX10_feuds  (mix σ ρ) x1 = mo ρ (fX10_feuds  σ x1) := by
  simp (disch := omega) only [fX10_feuds, ↓ol_n, ↓ol_su, ↓ol_up, ↓mo_ol, ↓mo_obp, ↓mo_og, ↓mo_ite, ↓ox_fX9_hasHouse, mix_lo, mo_some, mo_none, rx_fX9_hasHouse]
theorem rx_fX10_isFee (ρ : S0)   (σ : S0) (x0 : Int32)  : fX10_isFee  (mix σ ρ) x0 = mo ρ (fX10_isFee  σ x0) := by
  simp (disch := omega) only [fX10_isFee, ↓ol_n, ↓ol_su, ↓ol_up, ↓mo_ol, ↓mo_obp, ↓mo_og, ↓mo_ite, mix_lo, mo_some, mo_none]
theorem ox_fX10_isFee (ρ : S0) (σ : S0) (x0 : Int32)  (kk : Int32 → S0 → Option (Int32 × S0)) : obp (fX10_isFee (mix σ ρ) x0) kk = obp (fX10_isFee σ x0) (fun r s => kk r (mix s ρ)) := by
  rw [rx_fX10_isFee ρ σ x0 , obp_mo]
theorem rx_fX10_fee (ρ : S0)   (σ : S0) (x1 : Int32) (x2 : Int32)  : fX10_fee  (mix σ ρ) x1 x2 = mo ρ (fX10_fee  σ x1 x2) := by
  simp (disch := omega) only [fX10_fee, ↓ol_n, ↓ol_su, ↓ol_up, ↓mo_ol, ↓mo_obp, ↓mo_og, ↓mo_ite, ↓ox_fX1_hasBell, ↓ox_fX10_isFee, mix_lo, mo_some, mo_none, rx_fX1_hasBell, rx_fX10_isFee]
theorem rx_fX10_shut_b40 (ρ : S0)   (σ : S0) (x3 : Int32) (t0 : Int32) (t1 : Int32)  : fX10_shut_b40  (mix σ ρ) x3 t0 t1 = mo ρ (fX10_shut_b40  σ x3 t0 t1) := by
  simp (disch := omega) only [fX10_shut_b40, ↓ol_n, ↓ol_su, ↓ol_up, ↓mo_ol, ↓mo_obp, ↓mo_og, ↓mo_ite, mix_lo, mo_some, mo_none]
theorem rx_fX10_shut (ρ : S0)   (σ : S0) (x1 : Int32) (x2 : Int32)  : fX10_shut  (mix σ ρ) x1 x2 = mo ρ (fX10_shut  σ x1 x2) := by
  simp (disch := omega) only [fX10_shut, ↓ol_n, ↓ol_su, ↓ol_up, ↓mo_ol, ↓mo_obp, ↓mo_og, ↓mo_ite, ↓ox_fX1_hasBell, mix_lo, mo_some, mo_none, rx_fX1_hasBell, rx_fX10_shut_b40]
theorem rx_fX10_sell (ρ : S0)   (σ : S0) (x1 : Int32) (x2 : Int32)  : fX10_sell  (mix σ ρ) x1 x2 = mo ρ (fX10_sell  σ x1 x2) := by
  simp (disch := omega) only [fX10_sell, ↓ol_n, ↓ol_su, ↓ol_up, ↓mo_ol, ↓mo_obp, ↓mo_og, ↓mo_ite, ↓ox_fX1_hasBell, ↓ox_fX9_hasHouse, mix_lo, mo_some, mo_none, rx_fX1_hasBell, rx_fX9_hasHouse]
theorem rx_fX10_half_b30 (ρ : S0)   (σ : S0) (x1 : Int32) (x2 : Int32)  : fX10_half_b30  (mix σ ρ) x1 x2 = mo ρ (fX10_half_b30  σ x1 x2) := by
  simp (disch := omega) only [fX10_half_b30, ↓ol_n, ↓ol_su, ↓ol_up, ↓mo_ol, ↓mo_obp, ↓mo_og, ↓mo_ite, mix_lo, mo_some, mo_none]
theorem rx_fX10_half (ρ : S0)   (σ : S0) (x1 : Int32) (x2 : Int32)  : fX10_half  (mix σ ρ) x1 x2 = mo ρ (fX10_half  σ x1 x2) := by
  simp (disch := omega) only [fX10_half, ↓ol_n, ↓ol_su, ↓ol_up, ↓mo_ol, ↓mo_obp, ↓mo_og, ↓mo_ite, ↓ox_fX1_hasBell, ↓ox_fX9_hasHouse, mix_lo, mo_some, mo_none, rx_fX1_hasBell, rx_fX10_half_b30, rx_fX9_hasHouse]
theorem rx_fX10_feud_b46 (ρ : S0)   (σ : S0) (x1 : Int32) (x2 : Int32) (x3 : Int32) (t0 : Int32)  : fX10_feud_b46  (mix σ ρ) x1 x2 x3 t0 = mo ρ (fX10_feud_b46  σ x1 x2 x3 t0) := by
  simp (disch := omega) only [fX10_feud_b46, ↓ol_n, ↓ol_su, ↓ol_up, ↓mo_ol, ↓mo_obp, ↓mo_og, ↓mo_ite, ↓ox_fX1_setFoes, mix_lo, mo_some, mo_none, rx_fX1_setFoes]
theorem rx_fX10_feud (ρ : S0)   (σ : S0) (x1 : Int32) (x2 : Int32) (x3 : Int32)  : fX10_feud  (mix σ ρ) x1 x2 x3 = mo ρ (fX10_feud  σ x1 x2 x3) := by
  simp (disch := omega) only [fX10_feud, ↓ol_n, ↓ol_su, ↓ol_up, ↓mo_ol, ↓mo_obp, ↓mo_og, ↓mo_ite, ↓ox_fX9_hasHouse, ↓ox_fX1_areFoes, mix_lo, mo_some, mo_none, rx_fX9_hasHouse, rx_fX1_areFoes, rx_fX10_feud_b46]
theorem rx_fX10_feuding_b82 (ρ : S0) (sf_7 : S0 → Int32 → Int32 → Int32 → Option (Int32 × S0)) (sf_22 : S0 → Int32 → Int32 → Int32 → Int32 → Option (Int32 × S0)) (hsf_7 : ∀ (σ : S0) (a0 : Int32) (a1 : Int32) (a2 : Int32), sf_7 (mix σ ρ) a0 a1 a2 = mo ρ (sf_7 σ a0 a1 a2)) (hsf_22 : ∀ (σ : S0) (a0 : Int32) (a1 : Int32) (a2 : Int32) (a3 : Int32), sf_22 (mix σ ρ) a0 a1 a2 a3 = mo ρ (sf_22 σ a0 a1 a2 a3)) (σ : S0) (x2 : Int32) (x4 : Int32) (x5 : Int32) (t0 : Int32) (t1 : Int32)  : fX10_feuding_b82 sf_7 sf_22 (mix σ ρ) x2 x4 x5 t0 t1 = mo ρ (fX10_feuding_b82 sf_7 sf_22 σ x2 x4 x5 t0 t1) := by
  simp (disch := omega) only [fX10_feuding_b82, ↓ol_n, ↓ol_su, ↓ol_up, ↓mo_ol, ↓mo_obp, ↓mo_og, ↓mo_ite, mix_lo, mo_some, mo_none, hsf_7, hsf_22]
theorem rx_fX10_feuding_b56 (ρ : S0) (sf_7 : S0 → Int32 → Int32 → Int32 → Option (Int32 × S0)) (sf_22 : S0 → Int32 → Int32 → Int32 → Int32 → Option (Int32 × S0)) (hsf_7 : ∀ (σ : S0) (a0 : Int32) (a1 : Int32) (a2 : Int32), sf_7 (mix σ ρ) a0 a1 a2 = mo ρ (sf_7 σ a0 a1 a2)) (hsf_22 : ∀ (σ : S0) (a0 : Int32) (a1 : Int32) (a2 : Int32) (a3 : Int32), sf_22 (mix σ ρ) a0 a1 a2 a3 = mo ρ (sf_22 σ a0 a1 a2 a3)) (σ : S0) (x2 : Int32) (x3 : Int32) (x4 : Int32) (x5 : Int32) (t0 : Int32)  : fX10_feuding_b56 sf_7 sf_22 (mix σ ρ) x2 x3 x4 x5 t0 = mo ρ (fX10_feuding_b56 sf_7 sf_22 σ x2 x3 x4 x5 t0) := by
  simp (disch := omega) only [fX10_feuding_b56, ↓ol_n, ↓ol_su, ↓ol_up, ↓mo_ol, ↓mo_obp, ↓mo_og, ↓mo_ite, ↓ox_fX1_setFoes, mix_lo, mo_some, mo_none, hsf_7, hsf_22, rx_fX1_setFoes, rx_fX10_feuding_b82]
theorem rx_fX10_feuding_b22 (ρ : S0) (sf_7 : S0 → Int32 → Int32 → Int32 → Option (Int32 × S0)) (sf_22 : S0 → Int32 → Int32 → Int32 → Int32 → Option (Int32 × S0)) (hsf_7 : ∀ (σ : S0) (a0 : Int32) (a1 : Int32) (a2 : Int32), sf_7 (mix σ ρ) a0 a1 a2 = mo ρ (sf_7 σ a0 a1 a2)) (hsf_22 : ∀ (σ : S0) (a0 : Int32) (a1 : Int32) (a2 : Int32) (a3 : Int32), sf_22 (mix σ ρ) a0 a1 a2 a3 = mo ρ (sf_22 σ a0 a1 a2 a3)) (σ : S0) (x2 : Int32) (x3 : Int32) (x4 : Int32) (x5 : Int32)  : fX10_feuding_b22 sf_7 sf_22 (mix σ ρ) x2 x3 x4 x5 = mo ρ (fX10_feuding_b22 sf_7 sf_22 σ x2 x3 x4 x5) := by
  simp (disch := omega) only [fX10_feuding_b22, ↓ol_n, ↓ol_su, ↓ol_up, ↓mo_ol, ↓mo_obp, ↓mo_og, ↓mo_ite, mix_lo, mo_some, mo_none, hsf_7, hsf_22, rx_fX10_feuding_b56]
theorem rx_fX10_feuding_h22 (ρ : S0) (sf_7 : S0 → Int32 → Int32 → Int32 → Option (Int32 × S0)) (hsf_7 : ∀ (σ : S0) (a0 : Int32) (a1 : Int32) (a2 : Int32), sf_7 (mix σ ρ) a0 a1 a2 = mo ρ (sf_7 σ a0 a1 a2)) : ∀ (n : Nat) (σ : S0) (x2 : Int32) (x3 : Int32) (x4 : Int32) (x5 : Int32), fX10_feuding_h22 sf_7 n (mix σ ρ) x2 x3 x4 x5 = mo ρ (fX10_feuding_h22 sf_7 n σ x2 x3 x4 x5)
  | 0, _, _, _, _, _ => rfl
  | n + 1, σ, x2, x3, x4, x5 => rx_fX10_feuding_b22 ρ sf_7 (fX10_feuding_h22 sf_7 n) hsf_7 (rx_fX10_feuding_h22 ρ sf_7 hsf_7 n) σ x2 x3 x4 x5 
theorem rx_fX10_feuding_b7 (ρ : S0) (sf_7 : S0 → Int32 → Int32 → Int32 → Option (Int32 × S0)) (hsf_7 : ∀ (σ : S0) (a0 : Int32) (a1 : Int32) (a2 : Int32), sf_7 (mix σ ρ) a0 a1 a2 = mo ρ (sf_7 σ a0 a1 a2)) (σ : S0) (x2 : Int32) (x3 : Int32) (x4 : Int32)  : fX10_feuding_b7 sf_7 (mix σ ρ) x2 x3 x4 = mo ρ (fX10_feuding_b7 sf_7 σ x2 x3 x4) := by
  simp (disch := omega) only [fX10_feuding_b7, ↓ol_n, ↓ol_su, ↓ol_up, ↓mo_ol, ↓mo_obp, ↓mo_og, ↓mo_ite, mix_lo, mo_some, mo_none, hsf_7, rx_fX10_feuding_h22]
theorem rx_fX10_feuding_h7 (ρ : S0)   : ∀ (n : Nat) (σ : S0) (x2 : Int32) (x3 : Int32) (x4 : Int32), fX10_feuding_h7  n (mix σ ρ) x2 x3 x4 = mo ρ (fX10_feuding_h7  n σ x2 x3 x4)
  | 0, _, _, _, _ => rfl
  | n + 1, σ, x2, x3, x4 => rx_fX10_feuding_b7 ρ  (fX10_feuding_h7  n)  (rx_fX10_feuding_h7 ρ   n) σ x2 x3 x4 
theorem rx_fX10_feuding (ρ : S0)   (σ : S0) (x1 : Int32)  : fX10_feuding  (mix σ ρ) x1 = mo ρ (fX10_feuding  σ x1) := by
  simp (disch := omega) only [fX10_feuding, ↓ol_n, ↓ol_su, ↓ol_up, ↓mo_ol, ↓mo_obp, ↓mo_og, ↓mo_ite, mix_lo, mo_some, mo_none, rx_fX10_feuding_h7]
theorem rx_fX10_ring (ρ : S0)   (σ : S0) (x1 : Int32) (x2 : Int32)  : fX10_ring  (mix σ ρ) x1 x2 = mo ρ (fX10_ring  σ x1 x2) := by
  simp (disch := omega) only [fX10_ring, ↓ol_n, ↓ol_su, ↓ol_up, ↓mo_ol, ↓mo_obp, ↓mo_og, ↓mo_ite, ↓ox_fX9_hasTune, ↓ox_fX6_play, mix_lo, mo_some, mo_none, rx_fX9_hasTune, rx_fX6_play]
theorem rx_fX10_taken (ρ : S0)   (σ : S0)   : fX10_taken  (mix σ ρ)  = mo ρ (fX10_taken  σ ) := by
  simp (disch := omega) only [fX10_taken, ↓ol_n, ↓ol_su, ↓ol_up, ↓mo_ol, ↓mo_obp, ↓mo_og, ↓mo_ite, ↓ox_fX6_tuneTaken, mix_lo, mo_some, mo_none, rx_fX6_tuneTaken]
theorem rx_fX10_gets (ρ : S0)   (σ : S0) (x1 : Int32) (x2 : Int32)  : fX10_gets  (mix σ ρ) x1 x2 = mo ρ (fX10_gets  σ x1 x2) := by
  simp (disch := omega) only [fX10_gets, ↓ol_n, ↓ol_su, ↓ol_up, ↓mo_ol, ↓mo_obp, ↓mo_og, ↓mo_ite, ↓ox_fX9_hasHouse, ↓ox_fX9_hasTune, ↓ox_fX6_shareOf, mix_lo, mo_some, mo_none, rx_fX9_hasHouse, rx_fX9_hasTune, rx_fX6_shareOf]
theorem rx_fX10_wage (ρ : S0)   (σ : S0) (x1 : Int32)  : fX10_wage  (mix σ ρ) x1 = mo ρ (fX10_wage  σ x1) := by
  simp (disch := omega) only [fX10_wage, ↓ol_n, ↓ol_su, ↓ol_up, ↓mo_ol, ↓mo_obp, ↓mo_og, ↓mo_ite, ↓ox_fX9_hasHouse, ↓ox_fX6_wageOf, mix_lo, mo_some, mo_none, rx_fX9_hasHouse, rx_fX6_wageOf]
theorem rx_fX10_ask (ρ : S0)   (σ : S0) (x1 : Int32) (x2 : Int32)  : fX10_ask  (mix σ ρ) x1 x2 = mo ρ (fX10_ask  σ x1 x2) := by
  simp (disch := omega) only [fX10_ask, ↓ol_n, ↓ol_su, ↓ol_up, ↓mo_ol, ↓mo_obp, ↓mo_og, ↓mo_ite, ↓ox_fX9_hasHouse, ↓ox_fX10_isFee, ↓ox_fX0_weigh, ↓ox_fX0_bringsAt, mix_lo, mo_some, mo_none, rx_fX9_hasHouse, rx_fX10_isFee, rx_fX0_weigh, rx_fX0_bringsAt]
theorem rx_fX10_best (ρ : S0)   (σ : S0) (x1 : Int32) (x2 : Int32)  : fX10_best  (mix σ ρ) x1 x2 = mo ρ (fX10_best  σ x1 x2) := by
  simp (disch := omega) only [fX10_best, ↓ol_n, ↓ol_su, ↓ol_up, ↓mo_ol, ↓mo_obp, ↓mo_og, ↓mo_ite, ↓ox_fX9_hasHouse, ↓ox_fX0_choose, mix_lo, mo_some, mo_none, rx_fX9_hasHouse, rx_fX0_choose]
theorem rx_fX10_settle_b15 (ρ : S0) (sf_15 : S0 → Int32 → Int32 → Option (Int32 × S0)) (hsf_15 : ∀ (σ : S0) (a0 : Int32) (a1 : Int32), sf_15 (mix σ ρ) a0 a1 = mo ρ (sf_15 σ a0 a1)) (σ : S0) (x1 : Int32) (x2 : Int32)  : fX10_settle_b15 sf_15 (mix σ ρ) x1 x2 = mo ρ (fX10_settle_b15 sf_15 σ x1 x2) := by
  simp (disch := omega) only [fX10_settle_b15, ↓ol_n, ↓ol_su, ↓ol_up, ↓mo_ol, ↓mo_obp, ↓mo_og, ↓mo_ite, ↓ox_fX0_changeInRound, mix_lo, mo_some, mo_none, hsf_15, rx_fX0_changeInRound]
theorem rx_fX10_settle_h15 (ρ : S0)   : ∀ (n : Nat) (σ : S0) (x1 : Int32) (x2 : Int32), fX10_settle_h15  n (mix σ ρ) x1 x2 = mo ρ (fX10_settle_h15  n σ x1 x2)
  | 0, _, _, _ => rfl
  | n + 1, σ, x1, x2 => rx_fX10_settle_b15 ρ  (fX10_settle_h15  n)  (rx_fX10_settle_h15 ρ   n) σ x1 x2 
theorem rx_fX10_settle (ρ : S0)   (σ : S0) (x1 : Int32)  : fX10_settle  (mix σ ρ) x1 = mo ρ (fX10_settle  σ x1) := by
  simp (disch := omega) only [fX10_settle, ↓ol_n, ↓ol_su, ↓ol_up, ↓mo_ol, ↓mo_obp, ↓mo_og, ↓mo_ite, mix_lo, mo_some, mo_none, rx_fX10_settle_h15]
theorem rx_fX10_settled_b2 (ρ : S0) (sf_2 : S0 → Int32 → Option (Int32 × S0)) (hsf_2 : ∀ (σ : S0) (a0 : Int32), sf_2 (mix σ ρ) a0 = mo ρ (sf_2 σ a0)) (σ : S0) (x1 : Int32)  : fX10_settled_b2 sf_2 (mix σ ρ) x1 = mo ρ (fX10_settled_b2 sf_2 σ x1) := by
  simp (disch := omega) only [fX10_settled_b2, ↓ol_n, ↓ol_su, ↓ol_up, ↓mo_ol, ↓mo_obp, ↓mo_og, ↓mo_ite, ↓ox_fX0_wantsOther, mix_lo, mo_some, mo_none, hsf_2, rx_fX0_wantsOther]
theorem rx_fX10_settled_h2 (ρ : S0)   : ∀ (n : Nat) (σ : S0) (x1 : Int32), fX10_settled_h2  n (mix σ ρ) x1 = mo ρ (fX10_settled_h2  n σ x1)
  | 0, _, _ => rfl
  | n + 1, σ, x1 => rx_fX10_settled_b2 ρ  (fX10_settled_h2  n)  (rx_fX10_settled_h2 ρ   n) σ x1 
end
section
theorem rx_fX10_settled (ρ : S0)   (σ : S0)   : fX10_settled  (mix σ ρ)  = mo ρ (fX10_settled  σ ) := by
  simp (disch := omega) only [fX10_settled, ↓ol_n, ↓ol_su, ↓ol_up, ↓mo_ol, ↓mo_obp, ↓mo_og, ↓mo_ite, mix_lo, mo_some, mo_none, rx_fX10_settled_h2]
theorem rx_fX10_fair (ρ : S0)   (σ : S0) (x1 : Int32) (x2 : Int32) (x3 : Int32)  : fX10_fair  (mix σ ρ) x1 x2 x3 = mo ρ (fX10_fair  σ x1 x2 x3) := by
  simp (disch := omega) only [fX10_fair, ↓ol_n, ↓ol_su, ↓ol_up, ↓mo_ol, ↓mo_obp, ↓mo_og, ↓mo_ite, ↓ox_fX2_choose, mix_lo, mo_some, mo_none, rx_fX2_choose]
theorem ox_fX10_fair (ρ : S0) (σ : S0) (x1 : Int32) (x2 : Int32) (x3 : Int32)  (kk : Int32 → S0 → Option (Int32 × S0)) : obp (fX10_fair (mix σ ρ) x1 x2 x3) kk = obp (fX10_fair σ x1 x2 x3) (fun r s => kk r (mix s ρ)) := by
  rw [rx_fX10_fair ρ σ x1 x2 x3 , obp_mo]
theorem rx_fX10_feast (ρ : S0)   (σ : S0) (x1 : Int32) (x2 : Int32)  : fX10_feast  (mix σ ρ) x1 x2 = mo ρ (fX10_feast  σ x1 x2) := by
  simp (disch := omega) only [fX10_feast, ↓ol_n, ↓ol_su, ↓ol_up, ↓mo_ol, ↓mo_obp, ↓mo_og, ↓mo_ite, ↓ox_fX10_fair, mix_lo, mo_some, mo_none, rx_fX10_fair]
theorem rx_fX10_nearest_b42 (ρ : S0)   (σ : S0) (x1 : Int32) (x2 : Int32) (x3 : Int32)  : fX10_nearest_b42  (mix σ ρ) x1 x2 x3 = mo ρ (fX10_nearest_b42  σ x1 x2 x3) := by
  simp (disch := omega) only [fX10_nearest_b42, ↓ol_n, ↓ol_su, ↓ol_up, ↓mo_ol, ↓mo_obp, ↓mo_og, ↓mo_ite, ↓ox_fX4_find, mix_lo, mo_some, mo_none, rx_fX4_find]
theorem rx_fX10_nearest (ρ : S0)   (σ : S0) (x1 : Int32) (x2 : Int32) (x3 : Int32)  : fX10_nearest  (mix σ ρ) x1 x2 x3 = mo ρ (fX10_nearest  σ x1 x2 x3) := by
  simp (disch := omega) only [fX10_nearest, ↓ol_n, ↓ol_su, ↓ol_up, ↓mo_ol, ↓mo_obp, ↓mo_og, ↓mo_ite, ↓ox_fX9_hasTune, ↓ox_fX1_hasBell, ↓ox_fX9_asksStroke, mix_lo, mo_some, mo_none, rx_fX9_hasTune, rx_fX1_hasBell, rx_fX10_nearest_b42, rx_fX9_asksStroke]
theorem rx_fX10_dear_b65 (ρ : S0) (sf_21 : S0 → Int32 → Int32 → Int32 → Int32 → Option (Int32 × S0)) (hsf_21 : ∀ (σ : S0) (a0 : Int32) (a1 : Int32) (a2 : Int32) (a3 : Int32), sf_21 (mix σ ρ) a0 a1 a2 a3 = mo ρ (sf_21 σ a0 a1 a2 a3)) (σ : S0) (x1 : Int32) (x2 : Int32) (x3 : Int32) (x4 : Int32)  : fX10_dear_b65 sf_21 (mix σ ρ) x1 x2 x3 x4 = mo ρ (fX10_dear_b65 sf_21 σ x1 x2 x3 x4) := by
  simp (disch := omega) only [fX10_dear_b65, ↓ol_n, ↓ol_su, ↓ol_up, ↓mo_ol, ↓mo_obp, ↓mo_og, ↓mo_ite, mix_lo, mo_some, mo_none, hsf_21]
theorem rx_fX10_dear_b21 (ρ : S0) (sf_21 : S0 → Int32 → Int32 → Int32 → Int32 → Option (Int32 × S0)) (hsf_21 : ∀ (σ : S0) (a0 : Int32) (a1 : Int32) (a2 : Int32) (a3 : Int32), sf_21 (mix σ ρ) a0 a1 a2 a3 = mo ρ (sf_21 σ a0 a1 a2 a3)) (σ : S0) (x1 : Int32) (x2 : Int32) (x3 : Int32) (x4 : Int32)  : fX10_dear_b21 sf_21 (mix σ ρ) x1 x2 x3 x4 = mo ρ (fX10_dear_b21 sf_21 σ x1 x2 x3 x4) := by
  simp (disch := omega) only [fX10_dear_b21, ↓ol_n, ↓ol_su, ↓ol_up, ↓mo_ol, ↓mo_obp, ↓mo_og, ↓mo_ite, ↓ox_fX4_find, mix_lo, mo_some, mo_none, hsf_21, rx_fX4_find, rx_fX10_dear_b65]
theorem rx_fX10_dear_h21 (ρ : S0)   : ∀ (n : Nat) (σ : S0) (x1 : Int32) (x2 : Int32) (x3 : Int32) (x4 : Int32), fX10_dear_h21  n (mix σ ρ) x1 x2 x3 x4 = mo ρ (fX10_dear_h21  n σ x1 x2 x3 x4)
  | 0, _, _, _, _, _ => rfl
  | n + 1, σ, x1, x2, x3, x4 => rx_fX10_dear_b21 ρ  (fX10_dear_h21  n)  (rx_fX10_dear_h21 ρ   n) σ x1 x2 x3 x4 
theorem rx_fX10_dear (ρ : S0)   (σ : S0) (x1 : Int32)  : fX10_dear  (mix σ ρ) x1 = mo ρ (fX10_dear  σ x1) := by
  simp (disch := omega) only [fX10_dear, ↓ol_n, ↓ol_su, ↓ol_up, ↓mo_ol, ↓mo_obp, ↓mo_og, ↓mo_ite, ↓ox_fX9_hasTune, mix_lo, mo_some, mo_none, rx_fX9_hasTune, rx_fX10_dear_h21]
theorem rx_fX10_storm_b79 (ρ : S0) (sf_33 : S0 → Int32 → Int32 → Int32 → Int32 → Int32 → Int32 → Option (Int32 × S0)) (hsf_33 : ∀ (σ : S0) (a0 : Int32) (a1 : Int32) (a2 : Int32) (a3 : Int32) (a4 : Int32) (a5 : Int32), sf_33 (mix σ ρ) a0 a1 a2 a3 a4 a5 = mo ρ (sf_33 σ a0 a1 a2 a3 a4 a5)) (σ : S0) (x1 : Int32) (x2 : Int32) (x3 : Int32) (x5 : Int32) (x6 : Int32) (t0 : Int32) (t1 : Int32)  : fX10_storm_b79 sf_33 (mix σ ρ) x1 x2 x3 x5 x6 t0 t1 = mo ρ (fX10_storm_b79 sf_33 σ x1 x2 x3 x5 x6 t0 t1) := by
  simp (disch := omega) only [fX10_storm_b79, ↓ol_n, ↓ol_su, ↓ol_up, ↓mo_ol, ↓mo_obp, ↓mo_og, ↓mo_ite, mix_lo, mo_some, mo_none, hsf_33]
theorem rx_fX10_storm_b33 (ρ : S0) (sf_33 : S0 → Int32 → Int32 → Int32 → Int32 → Int32 → Int32 → Option (Int32 × S0)) (hsf_33 : ∀ (σ : S0) (a0 : Int32) (a1 : Int32) (a2 : Int32) (a3 : Int32) (a4 : Int32) (a5 : Int32), sf_33 (mix σ ρ) a0 a1 a2 a3 a4 a5 = mo ρ (sf_33 σ a0 a1 a2 a3 a4 a5)) (σ : S0) (x1 : Int32) (x2 : Int32) (x3 : Int32) (x4 : Int32) (x5 : Int32) (x6 : Int32)  : fX10_storm_b33 sf_33 (mix σ ρ) x1 x2 x3 x4 x5 x6 = mo ρ (fX10_storm_b33 sf_33 σ x1 x2 x3 x4 x5 x6) := by
  simp (disch := omega) only [fX10_storm_b33, ↓ol_n, ↓ol_su, ↓ol_up, ↓mo_ol, ↓mo_obp, ↓mo_og, ↓mo_ite, ↓ox_fX1_shareOf, mix_lo, mo_some, mo_none, hsf_33, rx_fX1_shareOf, rx_fX10_storm_b79]
theorem rx_fX10_storm_h33 (ρ : S0)   : ∀ (n : Nat) (σ : S0) (x1 : Int32) (x2 : Int32) (x3 : Int32) (x4 : Int32) (x5 : Int32) (x6 : Int32), fX10_storm_h33  n (mix σ ρ) x1 x2 x3 x4 x5 x6 = mo ρ (fX10_storm_h33  n σ x1 x2 x3 x4 x5 x6)
  | 0, _, _, _, _, _, _, _ => rfl
  | n + 1, σ, x1, x2, x3, x4, x5, x6 => rx_fX10_storm_b33 ρ  (fX10_storm_h33  n)  (rx_fX10_storm_h33 ρ   n) σ x1 x2 x3 x4 x5 x6 
theorem rx_fX10_storm (ρ : S0)   (σ : S0) (x1 : Int32) (x2 : Int32)  : fX10_storm  (mix σ ρ) x1 x2 = mo ρ (fX10_storm  σ x1 x2) := by
  simp (disch := omega) only [fX10_storm, ↓ol_n, ↓ol_su, ↓ol_up, ↓mo_ol, ↓mo_obp, ↓mo_og, ↓mo_ite, ↓ox_fX9_hasHouse, mix_lo, mo_some, mo_none, rx_fX9_hasHouse, rx_fX10_storm_h33]
theorem rx_fX10_pour_b90 (ρ : S0) (sf_27 : S0 → Int32 → Int32 → Int32 → Int32 → Int32 → Int32 → Int32 → Int32 → Option (Int32 × S0)) (hsf_27 : ∀ (σ : S0) (a0 : Int32) (a1 : Int32) (a2 : Int32) (a3 : Int32) (a4 : Int32) (a5 : Int32) (a6 : Int32) (a7 : Int32), sf_27 (mix σ ρ) a0 a1 a2 a3 a4 a5 a6 a7 = mo ρ (sf_27 σ a0 a1 a2 a3 a4 a5 a6 a7)) (σ : S0) (x1 : Int32) (x2 : Int32) (x3 : Int32) (x4 : Int32) (x5 : Int32) (x6 : Int32) (x7 : Int32) (x8 : Int32)  : fX10_pour_b90 sf_27 (mix σ ρ) x1 x2 x3 x4 x5 x6 x7 x8 = mo ρ (fX10_pour_b90 sf_27 σ x1 x2 x3 x4 x5 x6 x7 x8) := by
  simp (disch := omega) only [fX10_pour_b90, ↓ol_n, ↓ol_su, ↓ol_up, ↓mo_ol, ↓mo_obp, ↓mo_og, ↓mo_ite, mix_lo, mo_some, mo_none, hsf_27]
theorem rx_fX10_pour_b87 (ρ : S0) (sf_27 : S0 → Int32 → Int32 → Int32 → Int32 → Int32 → Int32 → Int32 → Int32 → Option (Int32 × S0)) (hsf_27 : ∀ (σ : S0) (a0 : Int32) (a1 : Int32) (a2 : Int32) (a3 : Int32) (a4 : Int32) (a5 : Int32) (a6 : Int32) (a7 : Int32), sf_27 (mix σ ρ) a0 a1 a2 a3 a4 a5 a6 a7 = mo ρ (sf_27 σ a0 a1 a2 a3 a4 a5 a6 a7)) (σ : S0) (x1 : Int32) (x2 : Int32) (x3 : Int32) (x4 : Int32) (x5 : Int32) (x6 : Int32) (x7 : Int32) (x8 : Int32)  : fX10_pour_b87 sf_27 (mix σ ρ) x1 x2 x3 x4 x5 x6 x7 x8 = mo ρ (fX10_pour_b87 sf_27 σ x1 x2 x3 x4 x5 x6 x7 x8) := by
  simp (disch := omega) only [fX10_pour_b87, ↓ol_n, ↓ol_su, ↓ol_up, ↓mo_ol, ↓mo_obp, ↓mo_og, ↓mo_ite, mix_lo, mo_some, mo_none, hsf_27, rx_fX10_pour_b90]
theorem rx_fX10_pour_b27 (ρ : S0) (sf_27 : S0 → Int32 → Int32 → Int32 → Int32 → Int32 → Int32 → Int32 → Int32 → Option (Int32 × S0)) (hsf_27 : ∀ (σ : S0) (a0 : Int32) (a1 : Int32) (a2 : Int32) (a3 : Int32) (a4 : Int32) (a5 : Int32) (a6 : Int32) (a7 : Int32), sf_27 (mix σ ρ) a0 a1 a2 a3 a4 a5 a6 a7 = mo ρ (sf_27 σ a0 a1 a2 a3 a4 a5 a6 a7)) (σ : S0) (x1 : Int32) (x2 : Int32) (x3 : Int32) (x4 : Int32) (x5 : Int32) (x6 : Int32) (x7 : Int32) (x8 : Int32)  : fX10_pour_b27 sf_27 (mix σ ρ) x1 x2 x3 x4 x5 x6 x7 x8 = mo ρ (fX10_pour_b27 sf_27 σ x1 x2 x3 x4 x5 x6 x7 x8) := by
  simp (disch := omega) only [fX10_pour_b27, ↓ol_n, ↓ol_su, ↓ol_up, ↓mo_ol, ↓mo_obp, ↓mo_og, ↓mo_ite, ↓ox_fX2_strokesOf, mix_lo, mo_some, mo_none, hsf_27, rx_fX2_strokesOf, rx_fX10_pour_b87, rx_fX10_pour_b90]
theorem rx_fX10_pour_h27 (ρ : S0)   : ∀ (n : Nat) (σ : S0) (x1 : Int32) (x2 : Int32) (x3 : Int32) (x4 : Int32) (x5 : Int32) (x6 : Int32) (x7 : Int32) (x8 : Int32), fX10_pour_h27  n (mix σ ρ) x1 x2 x3 x4 x5 x6 x7 x8 = mo ρ (fX10_pour_h27  n σ x1 x2 x3 x4 x5 x6 x7 x8)
  | 0, _, _, _, _, _, _, _, _, _ => rfl
  | n + 1, σ, x1, x2, x3, x4, x5, x6, x7, x8 => rx_fX10_pour_b27 ρ  (fX10_pour_h27  n)  (rx_fX10_pour_h27 ρ   n) σ x1 x2 x3 x4 x5 x6 x7 x8 
theorem rx_fX10_pour (ρ : S0)   (σ : S0) (x1 : Int32) (x2 : Int32) (x3 : Int32)  : fX10_pour  (mix σ ρ) x1 x2 x3 = mo ρ (fX10_pour  σ x1 x2 x3) := by
  simp (disch := omega) only [fX10_pour, ↓ol_n, ↓ol_su, ↓ol_up, ↓mo_ol, ↓mo_obp, ↓mo_og, ↓mo_ite, ↓ox_fX2_strokesOf, mix_lo, mo_some, mo_none, rx_fX2_strokesOf, rx_fX10_pour_h27]
theorem ox_fX10_pour (ρ : S0) (σ : S0) (x1 : Int32) (x2 : Int32) (x3 : Int32)  (kk : Int32 → S0 → Option (Int32 × S0)) : obp (fX10_pour (mix σ ρ) x1 x2 x3) kk = obp (fX10_pour σ x1 x2 x3) (fun r s => kk r (mix s ρ)) := by
  rw [rx_fX10_pour ρ σ x1 x2 x3 , obp_mo]
theorem rx_fX10_wine_b36 (ρ : S0) (sf_36 : S0 → Int32 → Int32 → Int32 → Int32 → Option (Int32 × S0)) (hsf_36 : ∀ (σ : S0) (a0 : Int32) (a1 : Int32) (a2 : Int32) (a3 : Int32), sf_36 (mix σ ρ) a0 a1 a2 a3 = mo ρ (sf_36 σ a0 a1 a2 a3)) (σ : S0) (x1 : Int32) (x2 : Int32) (x3 : Int32) (x4 : Int32)  : fX10_wine_b36 sf_36 (mix σ ρ) x1 x2 x3 x4 = mo ρ (fX10_wine_b36 sf_36 σ x1 x2 x3 x4) := by
  simp (disch := omega) only [fX10_wine_b36, ↓ol_n, ↓ol_su, ↓ol_up, ↓mo_ol, ↓mo_obp, ↓mo_og, ↓mo_ite, ↓ox_fX10_pour, ↓ox_fX2_strokesOf, mix_lo, mo_some, mo_none, hsf_36, rx_fX10_pour, rx_fX2_strokesOf]
theorem rx_fX10_wine_h36 (ρ : S0)   : ∀ (n : Nat) (σ : S0) (x1 : Int32) (x2 : Int32) (x3 : Int32) (x4 : Int32), fX10_wine_h36  n (mix σ ρ) x1 x2 x3 x4 = mo ρ (fX10_wine_h36  n σ x1 x2 x3 x4)
  | 0, _, _, _, _, _ => rfl
  | n + 1, σ, x1, x2, x3, x4 => rx_fX10_wine_b36 ρ  (fX10_wine_h36  n)  (rx_fX10_wine_h36 ρ   n) σ x1 x2 x3 x4 
theorem rx_fX10_wine (ρ : S0)   (σ : S0) (x1 : Int32) (x2 : Int32)  : fX10_wine  (mix σ ρ) x1 x2 = mo ρ (fX10_wine  σ x1 x2) := by
  simp (disch := omega) only [fX10_wine, ↓ol_n, ↓ol_su, ↓ol_up, ↓mo_ol, ↓mo_obp, ↓mo_og, ↓mo_ite, ↓ox_fX9_hasHouse, ↓ox_fX2_ringAll, mix_lo, mo_some, mo_none, rx_fX9_hasHouse, rx_fX2_ringAll, rx_fX10_wine_h36]
theorem rx_fX10_hear (ρ : S0)   (σ : S0) (x1 : Int32)  : fX10_hear  (mix σ ρ) x1 = mo ρ (fX10_hear  σ x1) := by
  simp (disch := omega) only [fX10_hear, ↓ol_n, ↓ol_su, ↓ol_up, ↓mo_ol, ↓mo_obp, ↓mo_og, ↓mo_ite, ↓ox_fX1_canBeHeard, ↓ox_fX1_addHeard, mix_lo, mo_some, mo_none, rx_fX1_canBeHeard, rx_fX1_addHeard]
theorem rx_fX10_hush (ρ : S0)   (σ : S0)   : fX10_hush  (mix σ ρ)  = mo ρ (fX10_hush  σ ) := by
  simp (disch := omega) only [fX10_hush, ↓ol_n, ↓ol_su, ↓ol_up, ↓mo_ol, ↓mo_obp, ↓mo_og, ↓mo_ite, mix_lo, mo_some, mo_none]
theorem rx_fX10_fits (ρ : S0)   (σ : S0) (x1 : Int32)  : fX10_fits  (mix σ ρ) x1 = mo ρ (fX10_fits  σ x1) := by
  simp (disch := omega) only [fX10_fits, ↓ol_n, ↓ol_su, ↓ol_up, ↓mo_ol, ↓mo_obp, ↓mo_og, ↓mo_ite, ↓ox_fX9_hasTune, ↓ox_fX3_canBe, mix_lo, mo_some, mo_none, rx_fX9_hasTune, rx_fX3_canBe]
theorem rx_fX10_which (ρ : S0)   (σ : S0) (x1 : Int32)  : fX10_which  (mix σ ρ) x1 = mo ρ (fX10_which  σ x1) := by
  simp (disch := omega) only [fX10_which, ↓ol_n, ↓ol_su, ↓ol_up, ↓mo_ol, ↓mo_obp, ↓mo_og, ↓mo_ite, ↓ox_fX3_compareAll, mix_lo, mo_some, mo_none, rx_fX3_compareAll]
theorem rx_fX10_isImage (ρ : S0)   (σ : S0) (x0 : Int32)  : fX10_isImage  (mix σ ρ) x0 = mo ρ (fX10_isImage  σ x0) := by
  simp (disch := omega) only [fX10_isImage, ↓ol_n, ↓ol_su, ↓ol_up, ↓mo_ol, ↓mo_obp, ↓mo_og, ↓mo_ite, mix_lo, mo_some, mo_none]
theorem ox_fX10_isImage (ρ : S0) (σ : S0) (x0 : Int32)  (kk : Int32 → S0 → Option (Int32 × S0)) : obp (fX10_isImage (mix σ ρ) x0) kk = obp (fX10_isImage σ x0) (fun r s => kk r (mix s ρ)) := by
  rw [rx_fX10_isImage ρ σ x0 , obp_mo]
theorem rx_fX10_keep_b23 (ρ : S0)   (σ : S0) (x1 : Int32) (t0 : Int32)  : fX10_keep_b23  (mix σ ρ) x1 t0 = mo ρ (fX10_keep_b23  σ x1 t0) := by
  by_cases g0 : (x1 < 0 ∨ 2 ≤ x1.toNatClampNeg)
  · simp (disch := omega) only [fX10_keep_b23, ↓ol_n, ↓ol_su, ↓ol_up, ↓mo_ol, ↓mo_obp, ↓mo_og, ↓mo_ite, ↓ox_fX1_copyFrom, mix_lo, mo_some, mo_none, rx_fX1_copyFrom, og_g g0]
  · have h0 : x1.toNatClampNeg < 2 := by omega
    simp (disch := omega) only [fX10_keep_b23, ↓ol_n, ↓ol_su, ↓ol_up, ↓mo_ol, ↓mo_obp, ↓mo_og, ↓mo_ite, ↓ox_fX1_copyFrom, mix_lo, mo_some, mo_none, rx_fX1_copyFrom]
theorem rx_fX10_keep (ρ : S0)   (σ : S0) (x1 : Int32)  : fX10_keep  (mix σ ρ) x1 = mo ρ (fX10_keep  σ x1) := by
  simp (disch := omega) only [fX10_keep, ↓ol_n, ↓ol_su, ↓ol_up, ↓mo_ol, ↓mo_obp, ↓mo_og, ↓mo_ite, ↓ox_fX10_isImage, mix_lo, mo_some, mo_none, rx_fX10_isImage, rx_fX10_keep_b23]
theorem rx_fX10_back (ρ : S0)   (σ : S0) (x1 : Int32)  : fX10_back  (mix σ ρ) x1 = mo ρ (fX10_back  σ x1) := by
  by_cases g0 : (x1 < 0 ∨ 2 ≤ x1.toNatClampNeg)
  · simp (disch := omega) only [fX10_back, ↓ol_n, ↓ol_su, ↓ol_up, ↓mo_ol, ↓mo_obp, ↓mo_og, ↓mo_ite, ↓ox_fX10_isImage, ↓ox_fX1_copyFrom, ↓ox_fX6_tuneTaken, mix_lo, mo_some, mo_none, rx_fX10_isImage, rx_fX1_copyFrom, rx_fX6_tuneTaken, og_g g0]
  · have h0 : x1.toNatClampNeg < 2 := by omega
    simp (disch := omega) only [fX10_back, ↓ol_n, ↓ol_su, ↓ol_up, ↓mo_ol, ↓mo_obp, ↓mo_og, ↓mo_ite, ↓ox_fX10_isImage, ↓ox_fX1_copyFrom, ↓ox_fX6_tuneTaken, mix_lo, mo_some, mo_none, rx_fX10_isImage, rx_fX1_copyFrom, rx_fX6_tuneTaken]
theorem rx_fX10_isSheet (ρ : S0)   (σ : S0) (x0 : Int32)  : fX10_isSheet  (mix σ ρ) x0 = mo ρ (fX10_isSheet  σ x0) := by
  simp (disch := omega) only [fX10_isSheet, ↓ol_n, ↓ol_su, ↓ol_up, ↓mo_ol, ↓mo_obp, ↓mo_og, ↓mo_ite, mix_lo, mo_some, mo_none]
theorem ox_fX10_isSheet (ρ : S0) (σ : S0) (x0 : Int32)  (kk : Int32 → S0 → Option (Int32 × S0)) : obp (fX10_isSheet (mix σ ρ) x0) kk = obp (fX10_isSheet σ x0) (fun r s => kk r (mix s ρ)) := by
  rw [rx_fX10_isSheet ρ σ x0 , obp_mo]
theorem rx_fX10_isLane (ρ : S0)   (σ : S0) (x0 : Int32)  : fX10_isLane  (mix σ ρ) x0 = mo ρ (fX10_isLane  σ x0) := by
  simp (disch := omega) only [fX10_isLane, ↓ol_n, ↓ol_su, ↓ol_up, ↓mo_ol, ↓mo_obp, ↓mo_og, ↓mo_ite, mix_lo, mo_some, mo_none]
theorem ox_fX10_isLane (ρ : S0) (σ : S0) (x0 : Int32)  (kk : Int32 → S0 → Option (Int32 × S0)) : obp (fX10_isLane (mix σ ρ) x0) kk = obp (fX10_isLane σ x0) (fun r s => kk r (mix s ρ)) := by
  rw [rx_fX10_isLane ρ σ x0 , obp_mo]
theorem rx_fX10_sheet (ρ : S0)   (σ : S0) (x1 : Int32) (x2 : Int32) (x3 : Int32)  : fX10_sheet  (mix σ ρ) x1 x2 x3 = mo ρ (fX10_sheet  σ x1 x2 x3) := by
  by_cases g0 : (x1 < 0 ∨ 4 ≤ x1.toNatClampNeg)
  · simp (disch := omega) only [fX10_sheet, ↓ol_n, ↓ol_su, ↓ol_up, ↓mo_ol, ↓mo_obp, ↓mo_og, ↓mo_ite, ↓ox_fX10_isSheet, ↓ox_fX10_isLane, ↓ox_fX7_renew, mix_lo, mo_some, mo_none, rx_fX10_isSheet, rx_fX10_isLane, rx_fX7_renew, og_g g0]
  · have h0 : x1.toNatClampNeg < 4 := by omega
    simp (disch := omega) only [fX10_sheet, ↓ol_n, ↓ol_su, ↓ol_up, ↓mo_ol, ↓mo_obp, ↓mo_og, ↓mo_ite, ↓ox_fX10_isSheet, ↓ox_fX10_isLane, ↓ox_fX7_renew, mix_lo, mo_some, mo_none, rx_fX10_isSheet, rx_fX10_isLane, rx_fX7_renew]
theorem rx_fX10_lay (ρ : S0)   (σ : S0) (x1 : Int32) (x2 : Int32) (x3 : Int32)  : fX10_lay  (mix σ ρ) x1 x2 x3 = mo ρ (fX10_lay  σ x1 x2 x3) := by
  by_cases g0 : (x1 < 0 ∨ 4 ≤ x1.toNatClampNeg)
  · simp (disch := omega) only [fX10_lay, ↓ol_n, ↓ol_su, ↓ol_up, ↓mo_ol, ↓mo_obp, ↓mo_og, ↓mo_ite, ↓ox_fX10_isSheet, ↓ox_fX7_faultAt, ↓ox_fX7_put, mix_lo, mo_some, mo_none, rx_fX10_isSheet, rx_fX7_faultAt, rx_fX7_put, og_g g0]
  · have h0 : x1.toNatClampNeg < 4 := by omega
    simp (disch := omega) only [fX10_lay, ↓ol_n, ↓ol_su, ↓ol_up, ↓mo_ol, ↓mo_obp, ↓mo_og, ↓mo_ite, ↓ox_fX10_isSheet, ↓ox_fX7_faultAt, ↓ox_fX7_put, mix_lo, mo_some, mo_none, rx_fX10_isSheet, rx_fX7_faultAt, rx_fX7_put]
theorem rx_fX10_read_b128 (ρ : S0) (sf_128 : S0 → Int32 → Nat → Int32 → Int32 → Int32 → Option (Int32 × S0)) (hsf_128 : ∀ (σ : S0) (a0 : Int32) (a1 : Nat) (a2 : Int32) (a3 : Int32) (a4 : Int32), a1 < 97 → sf_128 (mix σ ρ) a0 a1 a2 a3 a4 = mo ρ (sf_128 σ a0 a1 a2 a3 a4)) (σ : S0) (x3 : Int32) (x5 : Nat) (x6 : Int32) (x7 : Int32) (x8 : Int32) (cx5 : x5 < 97) : fX10_read_b128 sf_128 (mix σ ρ) x3 x5 x6 x7 x8 = mo ρ (fX10_read_b128 sf_128 σ x3 x5 x6 x7 x8) := by
  simp (disch := omega) only [fX10_read_b128, ↓ol_n, ↓ol_su, ↓ol_up, ↓mo_ol, ↓mo_obp, ↓mo_og, ↓mo_ite, ↓ox_fX1_addHeard, mix_lo, mo_some, mo_none, hsf_128, rx_fX1_addHeard]
theorem rx_fX10_read_h128 (ρ : S0)   : ∀ (n : Nat) (σ : S0) (x3 : Int32) (x5 : Nat) (x6 : Int32) (x7 : Int32) (x8 : Int32), x5 < 97 → fX10_read_h128  n (mix σ ρ) x3 x5 x6 x7 x8 = mo ρ (fX10_read_h128  n σ x3 x5 x6 x7 x8)
  | 0, _, _, _, _, _, _ => fun _ => rfl
  | n + 1, σ, x3, x5, x6, x7, x8 => fun cx5 => rx_fX10_read_b128 ρ  (fX10_read_h128  n)  (rx_fX10_read_h128 ρ   n) σ x3 x5 x6 x7 x8 cx5
theorem rx_fX10_read_b125 (ρ : S0)   (σ : S0) (x3 : Int32) (x5 : Nat) (x6 : Int32) (x7 : Int32) (cx5 : x5 < 97) : fX10_read_b125  (mix σ ρ) x3 x5 x6 x7 = mo ρ (fX10_read_b125  σ x3 x5 x6 x7) := by
  simp (disch := omega) only [fX10_read_b125, ↓ol_n, ↓ol_su, ↓ol_up, ↓mo_ol, ↓mo_obp, ↓mo_og, ↓mo_ite, mix_lo, mo_some, mo_none, rx_fX10_read_h128]
theorem rx_fX10_read_b45 (ρ : S0) (sf_45 : S0 → Int32 → Int32 → Int32 → Nat → Int32 → Int32 → Int32 → Option (Int32 × S0)) (hsf_45 : ∀ (σ : S0) (a0 : Int32) (a1 : Int32) (a2 : Int32) (a3 : Nat) (a4 : Int32) (a5 : Int32) (a6 : Int32), a3 < 97 → sf_45 (mix σ ρ) a0 a1 a2 a3 a4 a5 a6 = mo ρ (sf_45 σ a0 a1 a2 a3 a4 a5 a6)) (σ : S0) (x2 : Int32) (x3 : Int32) (x4 : Int32) (x5 : Nat) (x6 : Int32) (x7 : Int32) (x8 : Int32) (cx5 : x5 < 97) : fX10_read_b45 sf_45 (mix σ ρ) x2 x3 x4 x5 x6 x7 x8 = mo ρ (fX10_read_b45 sf_45 σ x2 x3 x4 x5 x6 x7 x8) := by
  simp (disch := omega) only [fX10_read_b45, ↓ol_n, ↓ol_su, ↓ol_up, ↓mo_ol, ↓mo_obp, ↓mo_og, ↓mo_ite, ↓ox_fX7_faultAt, ↓ox_fX1_canBeHeard, mix_lo, mo_some, mo_none, hsf_45, rx_fX10_read_b125, rx_fX7_faultAt, rx_fX1_canBeHeard]
theorem rx_fX10_read_h45 (ρ : S0)   : ∀ (n : Nat) (σ : S0) (x2 : Int32) (x3 : Int32) (x4 : Int32) (x5 : Nat) (x6 : Int32) (x7 : Int32) (x8 : Int32), x5 < 97 → fX10_read_h45  n (mix σ ρ) x2 x3 x4 x5 x6 x7 x8 = mo ρ (fX10_read_h45  n σ x2 x3 x4 x5 x6 x7 x8)
  | 0, _, _, _, _, _, _, _, _ => fun _ => rfl
  | n + 1, σ, x2, x3, x4, x5, x6, x7, x8 => fun cx5 => rx_fX10_read_b45 ρ  (fX10_read_h45  n)  (rx_fX10_read_h45 ρ   n) σ x2 x3 x4 x5 x6 x7 x8 cx5
theorem rx_fX10_read (ρ : S0)   (σ : S0) (x1 : Int32) (x2 : Int32) (x3 : Int32) (x4 : Int32)  : fX10_read  (mix σ ρ) x1 x2 x3 x4 = mo ρ (fX10_read  σ x1 x2 x3 x4) := by
  by_cases g0 : (x1 < 0 ∨ 4 ≤ x1.toNatClampNeg)
  · simp (disch := omega) only [fX10_read, ↓ol_n, ↓ol_su, ↓ol_up, ↓mo_ol, ↓mo_obp, ↓mo_og, ↓mo_ite, ↓ox_fX10_isSheet, ↓ox_fX10_isLane, mix_lo, mo_some, mo_none, rx_fX10_isSheet, rx_fX10_isLane, rx_fX10_read_h45, og_g g0]
  · have h0 : x1.toNatClampNeg < 4 := by omega
    simp (disch := omega) only [fX10_read, ↓ol_n, ↓ol_su, ↓ol_up, ↓mo_ol, ↓mo_obp, ↓mo_og, ↓mo_ite, ↓ox_fX10_isSheet, ↓ox_fX10_isLane, mix_lo, mo_some, mo_none, rx_fX10_isSheet, rx_fX10_isLane, rx_fX10_read_h45]
theorem rx_fX10_torn (ρ : S0)   (σ : S0)   : fX10_torn  (mix σ ρ)  = mo ρ (fX10_torn  σ ) := by
  simp (disch := omega) only [fX10_torn, ↓ol_n, ↓ol_su, ↓ol_up, ↓mo_ol, ↓mo_obp, ↓mo_og, ↓mo_ite, mix_lo, mo_some, mo_none]
end
