theorem rx_fJ3_checkIndex_8e157 (ρ : S0)   (σ : S0) (a : Int32) (b : Int32)  : fJ3_checkIndex_8e157  (mix σ ρ) a b = mo ρ (fJ3_checkIndex_8e157  σ a b) := by
  simp (disch := omega) only [fJ3_checkIndex_8e157, ↓ol_n, ↓ol_su, ↓ol_up, ↓mo_ol, ↓mo_obp, ↓mo_og, ↓mo_ite, mix_lo, mo_some, mo_none]
theorem ox_fJ3_checkIndex_8e157 (ρ : S0) (σ : S0) (a : Int32) (b : Int32)  (kk : Int32 → S0 → Option (Int32 × S0)) : obp (fJ3_checkIndex_8e157 (mix σ ρ) a b) kk = obp (fJ3_checkIndex_8e157 σ a b) (fun r s => kk r (mix s ρ)) := by
  rw [rx_fJ3_checkIndex_8e157 ρ σ a b , obp_mo]
theorem rx_fJ0_checkIndex_df160 (ρ : S0)   (σ : S0) (a : Int32) (b : Int32)  : fJ0_checkIndex_df160  (mix σ ρ) a b = mo ρ (fJ0_checkIndex_df160  σ a b) := by
  simp (disch := omega) only [fJ0_checkIndex_df160, ↓ol_n, ↓ol_su, ↓ol_up, ↓mo_ol, ↓mo_obp, ↓mo_og, ↓mo_ite, ↓ox_fJ3_checkIndex_8e157, mix_lo, mo_some, mo_none, rx_fJ3_checkIndex_8e157]
theorem ox_fJ0_checkIndex_df160 (ρ : S0) (σ : S0) (a : Int32) (b : Int32)  (kk : Int32 → S0 → Option (Int32 × S0)) : obp (fJ0_checkIndex_df160 (mix σ ρ) a b) kk = obp (fJ0_checkIndex_df160 σ a b) (fun r s => kk r (mix s ρ)) := by
  rw [rx_fJ0_checkIndex_df160 ρ σ a b , obp_mo]
theorem rx_fJ6_bitCount_0f7a4 (ρ : S0)   (σ : S0) (x0 : Int32)  : fJ6_bitCount_0f7a4  (mix σ ρ) x0 = mo ρ (fJ6_bitCount_0f7a4  σ x0) := by
  simp (disch := omega) only [fJ6_bitCount_0f7a4, ↓ol_n, ↓ol_su, ↓ol_up, ↓mo_ol, ↓mo_obp, ↓mo_og, ↓mo_ite, mix_lo, mo_some, mo_none]
theorem ox_fJ6_bitCount_0f7a4 (ρ : S0) (σ : S0) (x0 : Int32)  (kk : Int32 → S0 → Option (Int32 × S0)) : obp (fJ6_bitCount_0f7a4 (mix σ ρ) x0) kk = obp (fJ6_bitCount_0f7a4 σ x0) (fun r s => kk r (mix s ρ)) := by
  rw [rx_fJ6_bitCount_0f7a4 ρ σ x0 , obp_mo]
theorem rx_fJ7_fill_53178_b5 (ρ : S0) (sf_5 : S0 → Nat → Nat → Int32 → Int32 → Int32 → Option (Int32 × S0)) (hsf_5 : ∀ (σ : S0) (a0 : Nat) (a1 : Nat) (a2 : Int32) (a3 : Int32) (a4 : Int32), a1 < 98 → sf_5 (mix σ ρ) a0 a1 a2 a3 a4 = mo ρ (sf_5 σ a0 a1 a2 a3 a4)) (σ : S0) (n0 : Nat) (k : Nat) (x1 : Int32) (x2 : Int32) (x3 : Int32) (ck : k < 98) : fJ7_fill_53178_b5 sf_5 (mix σ ρ) n0 k x1 x2 x3 = mo ρ (fJ7_fill_53178_b5 sf_5 σ n0 k x1 x2 x3) := by
  simp (disch := omega) only [fJ7_fill_53178_b5, ↓ol_n, ↓ol_su, ↓ol_up, ↓mo_ol, ↓mo_obp, ↓mo_og, ↓mo_ite, mix_lo, mo_some, mo_none, hsf_5]
theorem rx_fJ7_fill_53178_h5 (ρ : S0)   : ∀ (n : Nat) (σ : S0) (n0 : Nat) (k : Nat) (x1 : Int32) (x2 : Int32) (x3 : Int32), k < 98 → fJ7_fill_53178_h5  n (mix σ ρ) n0 k x1 x2 x3 = mo ρ (fJ7_fill_53178_h5  n σ n0 k x1 x2 x3)
  | 0, _, _, _, _, _, _ => fun _ => rfl
  | n + 1, σ, n0, k, x1, x2, x3 => fun ck => rx_fJ7_fill_53178_b5 ρ  (fJ7_fill_53178_h5  n)  (rx_fJ7_fill_53178_h5 ρ   n) σ n0 k x1 x2 x3 ck
theorem rx_fJ7_fill_53178 (ρ : S0)   (σ : S0) (n0 : Nat) (k0 : Nat) (x1 : Int32) (ck0 : k0 < 98) : fJ7_fill_53178  (mix σ ρ) n0 k0 x1 = mo ρ (fJ7_fill_53178  σ n0 k0 x1) := by
  simp (disch := omega) only [fJ7_fill_53178, ↓ol_n, ↓ol_su, ↓ol_up, ↓mo_ol, ↓mo_obp, ↓mo_og, ↓mo_ite, mix_lo, mo_some, mo_none, rx_fJ7_fill_53178_h5]
theorem ox_fJ7_fill_53178 (ρ : S0) (σ : S0) (n0 : Nat) (k0 : Nat) (x1 : Int32) (ck0 : k0 < 98) (kk : Int32 → S0 → Option (Int32 × S0)) : obp (fJ7_fill_53178 (mix σ ρ) n0 k0 x1) kk = obp (fJ7_fill_53178 σ n0 k0 x1) (fun r s => kk r (mix s ρ)) := by
  rw [rx_fJ7_fill_53178 ρ σ n0 k0 x1 ck0, obp_mo]
theorem rx_fJ0_coder_7d493 (ρ : S0)   (σ : S0) (i0 : Nat)  : fJ0_coder_7d493  (mix σ ρ) i0 = mo ρ (fJ0_coder_7d493  σ i0) := by
  simp (disch := omega) only [fJ0_coder_7d493, ↓ol_n, ↓ol_su, ↓ol_up, ↓mo_ol, ↓mo_obp, ↓mo_og, ↓mo_ite, mix_lo, mo_some, mo_none]
theorem ox_fJ0_coder_7d493 (ρ : S0) (σ : S0) (i0 : Nat)  (kk : Int32 → S0 → Option (Int32 × S0)) : obp (fJ0_coder_7d493 (mix σ ρ) i0) kk = obp (fJ0_coder_7d493 σ i0) (fun r s => kk r (mix s ρ)) := by
  rw [rx_fJ0_coder_7d493 ρ σ i0 , obp_mo]
theorem rx_fJ0_isLatin1_aae02 (ρ : S0)   (σ : S0) (i0 : Nat)  : fJ0_isLatin1_aae02  (mix σ ρ) i0 = mo ρ (fJ0_isLatin1_aae02  σ i0) := by
  simp (disch := omega) only [fJ0_isLatin1_aae02, ↓ol_n, ↓ol_su, ↓ol_up, ↓mo_ol, ↓mo_obp, ↓mo_og, ↓mo_ite, mix_lo, mo_some, mo_none]
theorem ox_fJ0_isLatin1_aae02 (ρ : S0) (σ : S0) (i0 : Nat)  (kk : Int32 → S0 → Option (Int32 × S0)) : obp (fJ0_isLatin1_aae02 (mix σ ρ) i0) kk = obp (fJ0_isLatin1_aae02 σ i0) (fun r s => kk r (mix s ρ)) := by
  rw [rx_fJ0_isLatin1_aae02 ρ σ i0 , obp_mo]
theorem rx_fJ0_length_8abf5 (ρ : S0)   (σ : S0) (i0 : Nat)  : fJ0_length_8abf5  (mix σ ρ) i0 = mo ρ (fJ0_length_8abf5  σ i0) := by
  simp (disch := omega) only [fJ0_length_8abf5, ↓ol_n, ↓ol_su, ↓ol_up, ↓mo_ol, ↓mo_obp, ↓mo_og, ↓mo_ite, ↓ox_fJ0_coder_7d493, mix_lo, mo_some, mo_none, rx_fJ0_coder_7d493]
theorem ox_fJ0_length_8abf5 (ρ : S0) (σ : S0) (i0 : Nat)  (kk : Int32 → S0 → Option (Int32 × S0)) : obp (fJ0_length_8abf5 (mix σ ρ) i0) kk = obp (fJ0_length_8abf5 σ i0) (fun r s => kk r (mix s ρ)) := by
  rw [rx_fJ0_length_8abf5 ρ σ i0 , obp_mo]
theorem rx_fJ1_charAt_3b067 (ρ : S0)   (σ : S0) (i0 : Nat) (x1 : Int32)  : fJ1_charAt_3b067  (mix σ ρ) i0 x1 = mo ρ (fJ1_charAt_3b067  σ i0 x1) := by
  simp (disch := omega) only [fJ1_charAt_3b067, ↓ol_n, ↓ol_su, ↓ol_up, ↓mo_ol, ↓mo_obp, ↓mo_og, ↓mo_ite, ↓ox_fJ0_checkIndex_df160, mix_lo, mo_some, mo_none, rx_fJ0_checkIndex_df160]
theorem ox_fJ1_charAt_3b067 (ρ : S0) (σ : S0) (i0 : Nat) (x1 : Int32)  (kk : Int32 → S0 → Option (Int32 × S0)) : obp (fJ1_charAt_3b067 (mix σ ρ) i0 x1) kk = obp (fJ1_charAt_3b067 σ i0 x1) (fun r s => kk r (mix s ρ)) := by
  rw [rx_fJ1_charAt_3b067 ρ σ i0 x1 , obp_mo]
theorem rx_fJ0_charAt_5068e (ρ : S0)   (σ : S0) (i0 : Nat) (x1 : Int32)  : fJ0_charAt_5068e  (mix σ ρ) i0 x1 = mo ρ (fJ0_charAt_5068e  σ i0 x1) := by
  simp (disch := omega) only [fJ0_charAt_5068e, ↓ol_n, ↓ol_su, ↓ol_up, ↓mo_ol, ↓mo_obp, ↓mo_og, ↓mo_ite, ↓ox_fJ0_isLatin1_aae02, ↓ox_fJ1_charAt_3b067, mix_lo, mo_some, mo_none, rx_fJ0_isLatin1_aae02, rx_fJ1_charAt_3b067]
theorem ox_fJ0_charAt_5068e (ρ : S0) (σ : S0) (i0 : Nat) (x1 : Int32)  (kk : Int32 → S0 → Option (Int32 × S0)) : obp (fJ0_charAt_5068e (mix σ ρ) i0 x1) kk = obp (fJ0_charAt_5068e σ i0 x1) (fun r s => kk r (mix s ρ)) := by
  rw [rx_fJ0_charAt_5068e ρ σ i0 x1 , obp_mo]
theorem rx_fX1_empty (ρ : S0)   (σ : S0) (k : Nat) (ck : k < 83) : fX1_empty  (mix σ ρ) k = mo ρ (fX1_empty  σ k) := by
  simp (disch := omega) only [fX1_empty, ↓ol_n, ↓ol_su, ↓ol_up, ↓mo_ol, ↓mo_obp, ↓mo_og, ↓mo_ite, ↓ox_fJ7_fill_53178, mix_lo, mo_some, mo_none, rx_fJ7_fill_53178]
theorem ox_fX1_empty (ρ : S0) (σ : S0) (k : Nat) (ck : k < 83) (kk : Int32 → S0 → Option (Int32 × S0)) : obp (fX1_empty (mix σ ρ) k) kk = obp (fX1_empty σ k) (fun r s => kk r (mix s ρ)) := by
  rw [rx_fX1_empty ρ σ k ck, obp_mo]
theorem rx_fX1_copyFrom (ρ : S0)   (σ : S0) (k : Nat) (k1 : Nat) (ck : k < 83) (ck1 : k1 < 83) : fX1_copyFrom  (mix σ ρ) k k1 = mo ρ (fX1_copyFrom  σ k k1) := by
  simp (disch := omega) only [fX1_copyFrom, ↓ol_n, ↓ol_su, ↓ol_up, ↓mo_ol, ↓mo_obp, ↓mo_og, ↓mo_ite, mix_lo, mo_some, mo_none]
theorem ox_fX1_copyFrom (ρ : S0) (σ : S0) (k : Nat) (k1 : Nat) (ck : k < 83) (ck1 : k1 < 83) (kk : Int32 → S0 → Option (Int32 × S0)) : obp (fX1_copyFrom (mix σ ρ) k k1) kk = obp (fX1_copyFrom σ k k1) (fun r s => kk r (mix s ρ)) := by
  rw [rx_fX1_copyFrom ρ σ k k1 ck ck1, obp_mo]
theorem rx_fX1_hasBell (ρ : S0)   (σ : S0) (k : Nat) (x1 : Int32) (ck : k < 83) : fX1_hasBell  (mix σ ρ) k x1 = mo ρ (fX1_hasBell  σ k x1) := by
  simp (disch := omega) only [fX1_hasBell, ↓ol_n, ↓ol_su, ↓ol_up, ↓mo_ol, ↓mo_obp, ↓mo_og, ↓mo_ite, mix_lo, mo_some, mo_none]
theorem ox_fX1_hasBell (ρ : S0) (σ : S0) (k : Nat) (x1 : Int32) (ck : k < 83) (kk : Int32 → S0 → Option (Int32 × S0)) : obp (fX1_hasBell (mix σ ρ) k x1) kk = obp (fX1_hasBell σ k x1) (fun r s => kk r (mix s ρ)) := by
  rw [rx_fX1_hasBell ρ σ k x1 ck, obp_mo]
theorem rx_fX1_areFoes (ρ : S0)   (σ : S0) (k : Nat) (x1 : Int32) (x2 : Int32) (ck : k < 83) : fX1_areFoes  (mix σ ρ) k x1 x2 = mo ρ (fX1_areFoes  σ k x1 x2) := by
  simp (disch := omega) only [fX1_areFoes, ↓ol_n, ↓ol_su, ↓ol_up, ↓mo_ol, ↓mo_obp, ↓mo_og, ↓mo_ite, mix_lo, mo_some, mo_none]
theorem ox_fX1_areFoes (ρ : S0) (σ : S0) (k : Nat) (x1 : Int32) (x2 : Int32) (ck : k < 83) (kk : Int32 → S0 → Option (Int32 × S0)) : obp (fX1_areFoes (mix σ ρ) k x1 x2) kk = obp (fX1_areFoes σ k x1 x2) (fun r s => kk r (mix s ρ)) := by
  rw [rx_fX1_areFoes ρ σ k x1 x2 ck, obp_mo]
theorem rx_fX1_setFoes_b69 (ρ : S0)   (σ : S0) (t0 : Int32) (t1 : Int32) (t2 : Nat) (ct2 : t2 < 98) : fX1_setFoes_b69  (mix σ ρ) t0 t1 t2 = mo ρ (fX1_setFoes_b69  σ t0 t1 t2) := by
  simp (disch := omega) only [fX1_setFoes_b69, ↓ol_n, ↓ol_su, ↓ol_up, ↓mo_ol, ↓mo_obp, ↓mo_og, ↓mo_ite, mix_lo, mo_some, mo_none]
theorem rx_fX1_setFoes_b34 (ρ : S0)   (σ : S0) (k : Nat) (x1 : Int32) (x2 : Int32) (x3 : Int32) (t0 : Int32) (t1 : Int32) (t2 : Nat) (ck : k < 83) (ct2 : t2 < 98) : fX1_setFoes_b34  (mix σ ρ) k x1 x2 x3 t0 t1 t2 = mo ρ (fX1_setFoes_b34  σ k x1 x2 x3 t0 t1 t2) := by
  simp (disch := omega) only [fX1_setFoes_b34, ↓ol_n, ↓ol_su, ↓ol_up, ↓mo_ol, ↓mo_obp, ↓mo_og, ↓mo_ite, mix_lo, mo_some, mo_none, rx_fX1_setFoes_b69]
theorem rx_fX1_setFoes (ρ : S0)   (σ : S0) (k : Nat) (x1 : Int32) (x2 : Int32) (x3 : Int32) (ck : k < 83) : fX1_setFoes  (mix σ ρ) k x1 x2 x3 = mo ρ (fX1_setFoes  σ k x1 x2 x3) := by
  simp (disch := omega) only [fX1_setFoes, ↓ol_n, ↓ol_su, ↓ol_up, ↓mo_ol, ↓mo_obp, ↓mo_og, ↓mo_ite, mix_lo, mo_some, mo_none, rx_fX1_setFoes_b34]
theorem ox_fX1_setFoes (ρ : S0) (σ : S0) (k : Nat) (x1 : Int32) (x2 : Int32) (x3 : Int32) (ck : k < 83) (kk : Int32 → S0 → Option (Int32 × S0)) : obp (fX1_setFoes (mix σ ρ) k x1 x2 x3) kk = obp (fX1_setFoes σ k x1 x2 x3) (fun r s => kk r (mix s ρ)) := by
  rw [rx_fX1_setFoes ρ σ k x1 x2 x3 ck, obp_mo]
theorem rx_fX1_feudPairs_b4 (ρ : S0) (sf_4 : S0 → Nat → Int32 → Int32 → Option (Int32 × S0)) (hsf_4 : ∀ (σ : S0) (a0 : Nat) (a1 : Int32) (a2 : Int32), a0 < 83 → sf_4 (mix σ ρ) a0 a1 a2 = mo ρ (sf_4 σ a0 a1 a2)) (σ : S0) (k : Nat) (x1 : Int32) (x2 : Int32) (ck : k < 83) : fX1_feudPairs_b4 sf_4 (mix σ ρ) k x1 x2 = mo ρ (fX1_feudPairs_b4 sf_4 σ k x1 x2) := by
  simp (disch := omega) only [fX1_feudPairs_b4, ↓ol_n, ↓ol_su, ↓ol_up, ↓mo_ol, ↓mo_obp, ↓mo_og, ↓mo_ite, ↓ox_fJ6_bitCount_0f7a4, mix_lo, mo_some, mo_none, hsf_4, rx_fJ6_bitCount_0f7a4]
theorem rx_fX1_feudPairs_h4 (ρ : S0)   : ∀ (n : Nat) (σ : S0) (k : Nat) (x1 : Int32) (x2 : Int32), k < 83 → fX1_feudPairs_h4  n (mix σ ρ) k x1 x2 = mo ρ (fX1_feudPairs_h4  n σ k x1 x2)
  | 0, _, _, _, _ => fun _ => rfl
  | n + 1, σ, k, x1, x2 => fun ck => rx_fX1_feudPairs_b4 ρ  (fX1_feudPairs_h4  n)  (rx_fX1_feudPairs_h4 ρ   n) σ k x1 x2 ck
theorem rx_fX1_feudPairs (ρ : S0)   (σ : S0) (k : Nat) (ck : k < 83) : fX1_feudPairs  (mix σ ρ) k = mo ρ (fX1_feudPairs  σ k) := by
  simp (disch := omega) only [fX1_feudPairs, ↓ol_n, ↓ol_su, ↓ol_up, ↓mo_ol, ↓mo_obp, ↓mo_og, ↓mo_ite, mix_lo, mo_some, mo_none, rx_fX1_feudPairs_h4]
theorem ox_fX1_feudPairs (ρ : S0) (σ : S0) (k : Nat) (ck : k < 83) (kk : Int32 → S0 → Option (Int32 × S0)) : obp (fX1_feudPairs (mix σ ρ) k) kk = obp (fX1_feudPairs σ k) (fun r s => kk r (mix s ρ)) := by
  rw [rx_fX1_feudPairs ρ σ k ck, obp_mo]
theorem rx_fX1_partsOf (ρ : S0)   (σ : S0) (k : Nat) (x1 : Int32) (x2 : Int32) (ck : k < 83) : fX1_partsOf  (mix σ ρ) k x1 x2 = mo ρ (fX1_partsOf  σ k x1 x2) := by
  simp (disch := omega) only [fX1_partsOf, ↓ol_n, ↓ol_su, ↓ol_up, ↓mo_ol, ↓mo_obp, ↓mo_og, ↓mo_ite, mix_lo, mo_some, mo_none]
theorem ox_fX1_partsOf (ρ : S0) (σ : S0) (k : Nat) (x1 : Int32) (x2 : Int32) (ck : k < 83) (kk : Int32 → S0 → Option (Int32 × S0)) : obp (fX1_partsOf (mix σ ρ) k x1 x2) kk = obp (fX1_partsOf σ k x1 x2) (fun r s => kk r (mix s ρ)) := by
  rw [rx_fX1_partsOf ρ σ k x1 x2 ck, obp_mo]
theorem rx_fX1_shareOf (ρ : S0)   (σ : S0) (k : Nat) (x1 : Int32) (x2 : Int32) (ck : k < 83) : fX1_shareOf  (mix σ ρ) k x1 x2 = mo ρ (fX1_shareOf  σ k x1 x2) := by
  simp (disch := omega) only [fX1_shareOf, ↓ol_n, ↓ol_su, ↓ol_up, ↓mo_ol, ↓mo_obp, ↓mo_og, ↓mo_ite, ↓ox_fX1_partsOf, mix_lo, mo_some, mo_none, rx_fX1_partsOf]
theorem ox_fX1_shareOf (ρ : S0) (σ : S0) (k : Nat) (x1 : Int32) (x2 : Int32) (ck : k < 83) (kk : Int32 → S0 → Option (Int32 × S0)) : obp (fX1_shareOf (mix σ ρ) k x1 x2) kk = obp (fX1_shareOf σ k x1 x2) (fun r s => kk r (mix s ρ)) := by
  rw [rx_fX1_shareOf ρ σ k x1 x2 ck, obp_mo]
theorem rx_fX1_canBeHeard_b14 (ρ : S0)   (σ : S0)   : fX1_canBeHeard_b14  (mix σ ρ)  = mo ρ (fX1_canBeHeard_b14  σ ) := by
  simp (disch := omega) only [fX1_canBeHeard_b14, ↓ol_n, ↓ol_su, ↓ol_up, ↓mo_ol, ↓mo_obp, ↓mo_og, ↓mo_ite, mix_lo, mo_some, mo_none]
theorem rx_fX1_canBeHeard (ρ : S0)   (σ : S0) (k : Nat) (x1 : Int32) (ck : k < 83) : fX1_canBeHeard  (mix σ ρ) k x1 = mo ρ (fX1_canBeHeard  σ k x1) := by
  simp (disch := omega) only [fX1_canBeHeard, ↓ol_n, ↓ol_su, ↓ol_up, ↓mo_ol, ↓mo_obp, ↓mo_og, ↓mo_ite, ↓ox_fX1_hasBell, mix_lo, mo_some, mo_none, rx_fX1_canBeHeard_b14, rx_fX1_hasBell]
theorem ox_fX1_canBeHeard (ρ : S0) (σ : S0) (k : Nat) (x1 : Int32) (ck : k < 83) (kk : Int32 → S0 → Option (Int32 × S0)) : obp (fX1_canBeHeard (mix σ ρ) k x1) kk = obp (fX1_canBeHeard σ k x1) (fun r s => kk r (mix s ρ)) := by
  rw [rx_fX1_canBeHeard ρ σ k x1 ck, obp_mo]
theorem rx_fX1_addHeard (ρ : S0)   (σ : S0) (k : Nat) (x1 : Int32) (ck : k < 83) : fX1_addHeard  (mix σ ρ) k x1 = mo ρ (fX1_addHeard  σ k x1) := by
  simp (disch := omega) only [fX1_addHeard, ↓ol_n, ↓ol_su, ↓ol_up, ↓mo_ol, ↓mo_obp, ↓mo_og, ↓mo_ite, mix_lo, mo_some, mo_none]
theorem ox_fX1_addHeard (ρ : S0) (σ : S0) (k : Nat) (x1 : Int32) (ck : k < 83) (kk : Int32 → S0 → Option (Int32 × S0)) : obp (fX1_addHeard (mix σ ρ) k x1) kk = obp (fX1_addHeard σ k x1) (fun r s => kk r (mix s ρ)) := by
  rw [rx_fX1_addHeard ρ σ k x1 ck, obp_mo]
theorem rx_fX7_isNothing (ρ : S0)   (σ : S0) (k : Nat) (ck : k < 97) : fX7_isNothing  (mix σ ρ) k = mo ρ (fX7_isNothing  σ k) := by
  simp (disch := omega) only [fX7_isNothing, ↓ol_n, ↓ol_su, ↓ol_up, ↓mo_ol, ↓mo_obp, ↓mo_og, ↓mo_ite, mix_lo, mo_some, mo_none]
theorem ox_fX7_isNothing (ρ : S0) (σ : S0) (k : Nat) (ck : k < 97) (kk : Int32 → S0 → Option (Int32 × S0)) : obp (fX7_isNothing (mix σ ρ) k) kk = obp (fX7_isNothing σ k) (fun r s => kk r (mix s ρ)) := by
  rw [rx_fX7_isNothing ρ σ k ck, obp_mo]
theorem rx_fX7_renew (ρ : S0)   (σ : S0) (k : Nat) (x1 : Int32) (x2 : Int32) (ck : k < 97) : fX7_renew  (mix σ ρ) k x1 x2 = mo ρ (fX7_renew  σ k x1 x2) := by
  simp (disch := omega) only [fX7_renew, ↓ol_n, ↓ol_su, ↓ol_up, ↓mo_ol, ↓mo_obp, ↓mo_og, ↓mo_ite, ↓ox_fJ7_fill_53178, mix_lo, mo_some, mo_none, rx_fJ7_fill_53178]
theorem ox_fX7_renew (ρ : S0) (σ : S0) (k : Nat) (x1 : Int32) (x2 : Int32) (ck : k < 97) (kk : Int32 → S0 → Option (Int32 × S0)) : obp (fX7_renew (mix σ ρ) k x1 x2) kk = obp (fX7_renew σ k x1 x2) (fun r s => kk r (mix s ρ)) := by
  rw [rx_fX7_renew ρ σ k x1 x2 ck, obp_mo]
theorem rx_fX7_faultAt_b31 (ρ : S0)   (σ : S0)   : fX7_faultAt_b31  (mix σ ρ)  = mo ρ (fX7_faultAt_b31  σ ) := by
  simp (disch := omega) only [fX7_faultAt_b31, ↓ol_n, ↓ol_su, ↓ol_up, ↓mo_ol, ↓mo_obp, ↓mo_og, ↓mo_ite, mix_lo, mo_some, mo_none]
theorem rx_fX7_faultAt (ρ : S0)   (σ : S0) (k : Nat) (x1 : Int32) (x2 : Int32) (ck : k < 97) : fX7_faultAt  (mix σ ρ) k x1 x2 = mo ρ (fX7_faultAt  σ k x1 x2) := by
  simp (disch := omega) only [fX7_faultAt, ↓ol_n, ↓ol_su, ↓ol_up, ↓mo_ol, ↓mo_obp, ↓mo_og, ↓mo_ite, ↓ox_fX7_isNothing, mix_lo, mo_some, mo_none, rx_fX7_isNothing, rx_fX7_faultAt_b31]
theorem ox_fX7_faultAt (ρ : S0) (σ : S0) (k : Nat) (x1 : Int32) (x2 : Int32) (ck : k < 97) (kk : Int32 → S0 → Option (Int32 × S0)) : obp (fX7_faultAt (mix σ ρ) k x1 x2) kk = obp (fX7_faultAt σ k x1 x2) (fun r s => kk r (mix s ρ)) := by
  rw [rx_fX7_faultAt ρ σ k x1 x2 ck, obp_mo]
theorem rx_fX7_put (ρ : S0)   (σ : S0) (k : Nat) (x1 : Int32) (x2 : Int32) (ck : k < 97) : fX7_put  (mix σ ρ) k x1 x2 = mo ρ (fX7_put  σ k x1 x2) := by
  simp (disch := omega) only [fX7_put, ↓ol_n, ↓ol_su, ↓ol_up, ↓mo_ol, ↓mo_obp, ↓mo_og, ↓mo_ite, mix_lo, mo_some, mo_none]
theorem ox_fX7_put (ρ : S0) (σ : S0) (k : Nat) (x1 : Int32) (x2 : Int32) (ck : k < 97) (kk : Int32 → S0 → Option (Int32 × S0)) : obp (fX7_put (mix σ ρ) k x1 x2) kk = obp (fX7_put σ k x1 x2) (fun r s => kk r (mix s ρ)) := by
  rw [rx_fX7_put ρ σ k x1 x2 ck, obp_mo]
theorem rx_fX8_append_b3 (ρ : S0) (sf_3 : S0 → Int64 → Int32 → Option (Int32 × S0)) (hsf_3 : ∀ (σ : S0) (a0 : Int64) (a1 : Int32), sf_3 (mix σ ρ) a0 a1 = mo ρ (sf_3 σ a0 a1)) (σ : S0) (x1 : Int64) (x3 : Int32)  : fX8_append_b3 sf_3 (mix σ ρ) x1 x3 = mo ρ (fX8_append_b3 sf_3 σ x1 x3) := by
  simp (disch := omega) only [fX8_append_b3, ↓ol_n, ↓ol_su, ↓ol_up, ↓mo_ol, ↓mo_obp, ↓mo_og, ↓mo_ite, mix_lo, mo_some, mo_none, hsf_3]
theorem rx_fX8_append_h3 (ρ : S0)   : ∀ (n : Nat) (σ : S0) (x1 : Int64) (x3 : Int32), fX8_append_h3  n (mix σ ρ) x1 x3 = mo ρ (fX8_append_h3  n σ x1 x3)
  | 0, _, _, _ => rfl
  | n + 1, σ, x1, x3 => rx_fX8_append_b3 ρ  (fX8_append_h3  n)  (rx_fX8_append_h3 ρ   n) σ x1 x3 
theorem rx_fX8_append (ρ : S0)   (σ : S0) (x1 : Int64)  : fX8_append  (mix σ ρ) x1 = mo ρ (fX8_append  σ x1) := by
  simp (disch := omega) only [fX8_append, ↓ol_n, ↓ol_su, ↓ol_up, ↓mo_ol, ↓mo_obp, ↓mo_og, ↓mo_ite, mix_lo, mo_some, mo_none, rx_fX8_append_h3]
theorem ox_fX8_append (ρ : S0) (σ : S0) (x1 : Int64)  (kk : Int32 → S0 → Option (Int32 × S0)) : obp (fX8_append (mix σ ρ) x1) kk = obp (fX8_append σ x1) (fun r s => kk r (mix s ρ)) := by
  rw [rx_fX8_append ρ σ x1 , obp_mo]
theorem rx_fX8_rewind (ρ : S0)   (σ : S0)   : fX8_rewind  (mix σ ρ)  = mo ρ (fX8_rewind  σ ) := by
  simp (disch := omega) only [fX8_rewind, ↓ol_n, ↓ol_su, ↓ol_up, ↓mo_ol, ↓mo_obp, ↓mo_og, ↓mo_ite, mix_lo, mo_some, mo_none]
theorem ox_fX8_rewind (ρ : S0) (σ : S0)   (kk : Int32 → S0 → Option (Int32 × S0)) : obp (fX8_rewind (mix σ ρ) ) kk = obp (fX8_rewind σ ) (fun r s => kk r (mix s ρ)) := by
  rw [rx_fX8_rewind ρ σ  , obp_mo]
