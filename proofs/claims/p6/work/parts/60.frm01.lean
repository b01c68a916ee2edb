theorem rm_fX11_readBell_b128 (σ : S0) (sf_72 : S0 → Int32 → Int32 → Option (Int32 × S0)) (hsf_72 : ∀ (ρ : S0) (a0 : Int32) (a1 : Int32), sf_72 (mix σ ρ) a0 a1 = mp σ (sf_72 ρ a0 a1)) (ρ : S0) (x1 : Int32) (x2 : Int32) (x3 : Int32) (t0 : Int32)  : fX11_readBell_b128 sf_72 (mix σ ρ) x1 x2 x3 t0 = mp σ (fX11_readBell_b128 sf_72 ρ x1 x2 x3 t0) := by
  simp (disch := omega) only [fX11_readBell_b128, ↓ol_n, ↓oh_su, ↓oh_up, ↓mp_ol, ↓mp_obp, ↓mp_og, ↓mp_ite, ↓om_fX11_needs, mix_hi, mp_some, mp_none, hsf_72, rm_fX11_needs, rm_fX11_readBell_b146]
theorem rm_fX11_readBell_b123 (σ : S0) (sf_72 : S0 → Int32 → Int32 → Option (Int32 × S0)) (hsf_72 : ∀ (ρ : S0) (a0 : Int32) (a1 : Int32), sf_72 (mix σ ρ) a0 a1 = mp σ (sf_72 ρ a0 a1)) (ρ : S0) (x1 : Int32) (x2 : Int32) (x3 : Int32)  : fX11_readBell_b123 sf_72 (mix σ ρ) x1 x2 x3 = mp σ (fX11_readBell_b123 sf_72 ρ x1 x2 x3) := by
  simp (disch := omega) only [fX11_readBell_b123, ↓ol_n, ↓oh_su, ↓oh_up, ↓mp_ol, ↓mp_obp, ↓mp_og, ↓mp_ite, mix_hi, mp_some, mp_none, hsf_72, rm_fX11_readBell_b128]
theorem rm_fX11_readBell_b104 (σ : S0) (sf_72 : S0 → Int32 → Int32 → Option (Int32 × S0)) (hsf_72 : ∀ (ρ : S0) (a0 : Int32) (a1 : Int32), sf_72 (mix σ ρ) a0 a1 = mp σ (sf_72 ρ a0 a1)) (ρ : S0) (x1 : Int32) (x2 : Int32) (x3 : Int32) (t0 : Int32)  : fX11_readBell_b104 sf_72 (mix σ ρ) x1 x2 x3 t0 = mp σ (fX11_readBell_b104 sf_72 ρ x1 x2 x3 t0) := by
  simp (disch := omega) only [fX11_readBell_b104, ↓ol_n, ↓oh_su, ↓oh_up, ↓mp_ol, ↓mp_obp, ↓mp_og, ↓mp_ite, ↓om_fX11_needs, mix_hi, mp_some, mp_none, hsf_72, rm_fX11_needs, rm_fX11_readBell_b123, rm_fX11_readBell_b128]
theorem rm_fX11_readBell_b207 (σ : S0)   (ρ : S0)   : fX11_readBell_b207  (mix σ ρ)  = mp σ (fX11_readBell_b207  ρ ) := by
  simp (disch := omega) only [fX11_readBell_b207, ↓ol_n, ↓oh_su, ↓oh_up, ↓mp_ol, ↓mp_obp, ↓mp_og, ↓mp_ite, mix_hi, mp_some, mp_none]
theorem rm_fX11_readBell_b72 (σ : S0) (sf_72 : S0 → Int32 → Int32 → Option (Int32 × S0)) (hsf_72 : ∀ (ρ : S0) (a0 : Int32) (a1 : Int32), sf_72 (mix σ ρ) a0 a1 = mp σ (sf_72 ρ a0 a1)) (ρ : S0) (x1 : Int32) (x2 : Int32)  : fX11_readBell_b72 sf_72 (mix σ ρ) x1 x2 = mp σ (fX11_readBell_b72 sf_72 ρ x1 x2) := by
  simp (disch := omega) only [fX11_readBell_b72, ↓ol_n, ↓oh_su, ↓oh_up, ↓mp_ol, ↓mp_obp, ↓mp_og, ↓mp_ite, ↓om_fX11_withNow, mix_hi, mp_some, mp_none, hsf_72, rm_fX11_readBell_b207, rm_fX11_withNow, rm_fX11_readBell_b104]
theorem rm_fX11_readBell_h72 (σ : S0)   : ∀ (n : Nat) (ρ : S0) (x1 : Int32) (x2 : Int32), fX11_readBell_h72  n (mix σ ρ) x1 x2 = mp σ (fX11_readBell_h72  n ρ x1 x2)
  | 0, _, _, _ => rfl
  | n + 1, ρ, x1, x2 => rm_fX11_readBell_b72 σ  (fX11_readBell_h72  n)  (rm_fX11_readBell_h72 σ   n) ρ x1 x2 
theorem rm_fX11_readBell (σ : S0)   (ρ : S0)   : fX11_readBell  (mix σ ρ)  = mp σ (fX11_readBell  ρ ) := by
  simp (disch := omega) only [fX11_readBell, ↓ol_n, ↓oh_su, ↓oh_up, ↓mp_ol, ↓mp_obp, ↓mp_og, ↓mp_ite, ↓om_fX11_readHouse, ↓om_fX11_readNumber, mix_hi, mp_some, mp_none, rm_fX11_readHouse, rm_fX11_readNumber, rm_fX11_readBell_h72]
theorem om_fX11_readBell (σ : S0) (ρ : S0)   (kk : Int32 → S0 → Option (Int32 × S0)) : obp (fX11_readBell (mix σ ρ) ) kk = obp (fX11_readBell ρ ) (fun r s => kk r (mix σ s)) := by
  rw [rm_fX11_readBell σ ρ  , obp_mp]
theorem rm_fX11_readTune_b130 (σ : S0) (sf_25 : S0 → Int32 → Int32 → Int32 → Option (Int32 × S0)) (hsf_25 : ∀ (ρ : S0) (a0 : Int32) (a1 : Int32) (a2 : Int32), sf_25 (mix σ ρ) a0 a1 a2 = mp σ (sf_25 ρ a0 a1 a2)) (ρ : S0) (x1 : Int32) (x2 : Int32) (t0 : Int32)  : fX11_readTune_b130 sf_25 (mix σ ρ) x1 x2 t0 = mp σ (fX11_readTune_b130 sf_25 ρ x1 x2 t0) := by
  simp (disch := omega) only [fX11_readTune_b130, ↓ol_n, ↓oh_su, ↓oh_up, ↓mp_ol, ↓mp_obp, ↓mp_og, ↓mp_ite, mix_hi, mp_some, mp_none, hsf_25]
theorem rm_fX11_readTune_b117 (σ : S0) (sf_25 : S0 → Int32 → Int32 → Int32 → Option (Int32 × S0)) (hsf_25 : ∀ (ρ : S0) (a0 : Int32) (a1 : Int32) (a2 : Int32), sf_25 (mix σ ρ) a0 a1 a2 = mp σ (sf_25 ρ a0 a1 a2)) (ρ : S0) (x1 : Int32) (x2 : Int32)  : fX11_readTune_b117 sf_25 (mix σ ρ) x1 x2 = mp σ (fX11_readTune_b117 sf_25 ρ x1 x2) := by
  simp (disch := omega) only [fX11_readTune_b117, ↓ol_n, ↓oh_su, ↓oh_up, ↓mp_ol, ↓mp_obp, ↓mp_og, ↓mp_ite, mix_hi, mp_some, mp_none, hsf_25, rm_fX11_readTune_b130]
theorem rm_fX11_readTune_b111 (σ : S0) (sf_25 : S0 → Int32 → Int32 → Int32 → Option (Int32 × S0)) (hsf_25 : ∀ (ρ : S0) (a0 : Int32) (a1 : Int32) (a2 : Int32), sf_25 (mix σ ρ) a0 a1 a2 = mp σ (sf_25 ρ a0 a1 a2)) (ρ : S0) (x1 : Int32) (x2 : Int32) (t0 : Int32)  : fX11_readTune_b111 sf_25 (mix σ ρ) x1 x2 t0 = mp σ (fX11_readTune_b111 sf_25 ρ x1 x2 t0) := by
  simp (disch := omega) only [fX11_readTune_b111, ↓ol_n, ↓oh_su, ↓oh_up, ↓mp_ol, ↓mp_obp, ↓mp_og, ↓mp_ite, mix_hi, mp_some, mp_none, hsf_25, rm_fX11_readTune_b117]
theorem rm_fX11_readTune_b56 (σ : S0) (sf_25 : S0 → Int32 → Int32 → Int32 → Option (Int32 × S0)) (hsf_25 : ∀ (ρ : S0) (a0 : Int32) (a1 : Int32) (a2 : Int32), sf_25 (mix σ ρ) a0 a1 a2 = mp σ (sf_25 ρ a0 a1 a2)) (ρ : S0) (x1 : Int32) (x2 : Int32) (t0 : Int32)  : fX11_readTune_b56 sf_25 (mix σ ρ) x1 x2 t0 = mp σ (fX11_readTune_b56 sf_25 ρ x1 x2 t0) := by
  simp (disch := omega) only [fX11_readTune_b56, ↓ol_n, ↓oh_su, ↓oh_up, ↓mp_ol, ↓mp_obp, ↓mp_og, ↓mp_ite, ↓om_fX11_needs, ↓om_fX11_looked, ↓om_fX11_next, mix_hi, mp_some, mp_none, hsf_25, rm_fX11_needs, rm_fX11_looked, rm_fX11_next, rm_fX11_readTune_b117, rm_fX11_readTune_b111]
theorem rm_fX11_readTune_b51 (σ : S0) (sf_25 : S0 → Int32 → Int32 → Int32 → Option (Int32 × S0)) (hsf_25 : ∀ (ρ : S0) (a0 : Int32) (a1 : Int32) (a2 : Int32), sf_25 (mix σ ρ) a0 a1 a2 = mp σ (sf_25 ρ a0 a1 a2)) (ρ : S0) (x1 : Int32) (x2 : Int32)  : fX11_readTune_b51 sf_25 (mix σ ρ) x1 x2 = mp σ (fX11_readTune_b51 sf_25 ρ x1 x2) := by
  simp (disch := omega) only [fX11_readTune_b51, ↓ol_n, ↓oh_su, ↓oh_up, ↓mp_ol, ↓mp_obp, ↓mp_og, ↓mp_ite, mix_hi, mp_some, mp_none, hsf_25, rm_fX11_readTune_b56]
theorem rm_fX11_readTune_b134 (σ : S0)   (ρ : S0) (x1 : Int32) (x2 : Int32)  : fX11_readTune_b134  (mix σ ρ) x1 x2 = mp σ (fX11_readTune_b134  ρ x1 x2) := by
  simp (disch := omega) only [fX11_readTune_b134, ↓ol_n, ↓oh_su, ↓oh_up, ↓mp_ol, ↓mp_obp, ↓mp_og, ↓mp_ite, mix_hi, mp_some, mp_none]
theorem rm_fX11_readTune_b25 (σ : S0) (sf_25 : S0 → Int32 → Int32 → Int32 → Option (Int32 × S0)) (hsf_25 : ∀ (ρ : S0) (a0 : Int32) (a1 : Int32) (a2 : Int32), sf_25 (mix σ ρ) a0 a1 a2 = mp σ (sf_25 ρ a0 a1 a2)) (ρ : S0) (x1 : Int32) (x2 : Int32) (x3 : Int32)  : fX11_readTune_b25 sf_25 (mix σ ρ) x1 x2 x3 = mp σ (fX11_readTune_b25 sf_25 ρ x1 x2 x3) := by
  simp (disch := omega) only [fX11_readTune_b25, ↓ol_n, ↓oh_su, ↓oh_up, ↓mp_ol, ↓mp_obp, ↓mp_og, ↓mp_ite, mix_hi, mp_some, mp_none, hsf_25, rm_fX11_readTune_b134, rm_fX11_readTune_b51, rm_fX11_readTune_b56]
theorem rm_fX11_readTune_h25 (σ : S0)   : ∀ (n : Nat) (ρ : S0) (x1 : Int32) (x2 : Int32) (x3 : Int32), fX11_readTune_h25  n (mix σ ρ) x1 x2 x3 = mp σ (fX11_readTune_h25  n ρ x1 x2 x3)
  | 0, _, _, _, _ => rfl
  | n + 1, ρ, x1, x2, x3 => rm_fX11_readTune_b25 σ  (fX11_readTune_h25  n)  (rm_fX11_readTune_h25 σ   n) ρ x1 x2 x3 
theorem rm_fX11_readTune (σ : S0)   (ρ : S0)   : fX11_readTune  (mix σ ρ)  = mp σ (fX11_readTune  ρ ) := by
  simp (disch := omega) only [fX11_readTune, ↓ol_n, ↓oh_su, ↓oh_up, ↓mp_ol, ↓mp_obp, ↓mp_og, ↓mp_ite, ↓om_fX11_readNumber, mix_hi, mp_some, mp_none, rm_fX11_readNumber, rm_fX11_readTune_h25]
theorem om_fX11_readTune (σ : S0) (ρ : S0)   (kk : Int32 → S0 → Option (Int32 × S0)) : obp (fX11_readTune (mix σ ρ) ) kk = obp (fX11_readTune ρ ) (fun r s => kk r (mix σ s)) := by
  rw [rm_fX11_readTune σ ρ  , obp_mp]
theorem rm_fX11_readFeud (σ : S0)   (ρ : S0)   : fX11_readFeud  (mix σ ρ)  = mp σ (fX11_readFeud  ρ ) := by
  simp (disch := omega) only [fX11_readFeud, ↓ol_n, ↓oh_su, ↓oh_up, ↓mp_ol, ↓mp_obp, ↓mp_og, ↓mp_ite, ↓om_fX11_readHouse, mix_hi, mp_some, mp_none, rm_fX11_readHouse]
theorem om_fX11_readFeud (σ : S0) (ρ : S0)   (kk : Int32 → S0 → Option (Int32 × S0)) : obp (fX11_readFeud (mix σ ρ) ) kk = obp (fX11_readFeud ρ ) (fun r s => kk r (mix σ s)) := by
  rw [rm_fX11_readFeud σ ρ  , obp_mp]
theorem rm_fX11_readLine_b231 (σ : S0)   (ρ : S0)   : fX11_readLine_b231  (mix σ ρ)  = mp σ (fX11_readLine_b231  ρ ) := by
  simp (disch := omega) only [fX11_readLine_b231, ↓ol_n, ↓oh_su, ↓oh_up, ↓mp_ol, ↓mp_obp, ↓mp_og, ↓mp_ite, ↓om_fX11_next, mix_hi, mp_some, mp_none, rm_fX11_next]
theorem rm_fX11_readLine_b227 (σ : S0)   (ρ : S0) (t0 : Int32)  : fX11_readLine_b227  (mix σ ρ) t0 = mp σ (fX11_readLine_b227  ρ t0) := by
  simp (disch := omega) only [fX11_readLine_b227, ↓ol_n, ↓oh_su, ↓oh_up, ↓mp_ol, ↓mp_obp, ↓mp_og, ↓mp_ite, ↓om_fX11_needs, mix_hi, mp_some, mp_none, rm_fX11_needs, rm_fX11_readLine_b231]
theorem rm_fX11_readLine_b206 (σ : S0)   (ρ : S0)   : fX11_readLine_b206  (mix σ ρ)  = mp σ (fX11_readLine_b206  ρ ) := by
  simp (disch := omega) only [fX11_readLine_b206, ↓ol_n, ↓oh_su, ↓oh_up, ↓mp_ol, ↓mp_obp, ↓mp_og, ↓mp_ite, mix_hi, mp_some, mp_none, rm_fX11_readLine_b231, rm_fX11_readLine_b227]
theorem rm_fX11_readLine_b117 (σ : S0)   (ρ : S0) (x1 : Int32)  : fX11_readLine_b117  (mix σ ρ) x1 = mp σ (fX11_readLine_b117  ρ x1) := by
  simp (disch := omega) only [fX11_readLine_b117, ↓ol_n, ↓oh_su, ↓oh_up, ↓mp_ol, ↓mp_obp, ↓mp_og, ↓mp_ite, ↓om_fX11_next, ↓om_fX11_readFeud, ↓om_fX11_readNumber, ↓om_fX11_readBell, ↓om_fX11_readTune, mix_hi, mp_some, mp_none, rm_fX11_next, rm_fX11_readFeud, rm_fX11_readLine_b206, rm_fX11_readNumber, rm_fX11_readBell, rm_fX11_readTune]
theorem rm_fX11_readLine_b101 (σ : S0)   (ρ : S0) (x1 : Int32) (t0 : Int32)  : fX11_readLine_b101  (mix σ ρ) x1 t0 = mp σ (fX11_readLine_b101  ρ x1 t0) := by
  simp (disch := omega) only [fX11_readLine_b101, ↓ol_n, ↓oh_su, ↓oh_up, ↓mp_ol, ↓mp_obp, ↓mp_og, ↓mp_ite, ↓om_fX11_needs, mix_hi, mp_some, mp_none, rm_fX11_needs, rm_fX11_readLine_b117]
theorem rm_fX11_readLine_b68 (σ : S0)   (ρ : S0) (x1 : Int32) (t0 : Int32)  : fX11_readLine_b68  (mix σ ρ) x1 t0 = mp σ (fX11_readLine_b68  ρ x1 t0) := by
  simp (disch := omega) only [fX11_readLine_b68, ↓ol_n, ↓oh_su, ↓oh_up, ↓mp_ol, ↓mp_obp, ↓mp_og, ↓mp_ite, ↓om_fX11_needs, mix_hi, mp_some, mp_none, rm_fX11_needs, rm_fX11_readLine_b117, rm_fX11_readLine_b101]
theorem rm_fX11_readLine_b63 (σ : S0)   (ρ : S0) (x1 : Int32)  : fX11_readLine_b63  (mix σ ρ) x1 = mp σ (fX11_readLine_b63  ρ x1) := by
  simp (disch := omega) only [fX11_readLine_b63, ↓ol_n, ↓oh_su, ↓oh_up, ↓mp_ol, ↓mp_obp, ↓mp_og, ↓mp_ite, mix_hi, mp_some, mp_none, rm_fX11_readLine_b68]
theorem rm_fX11_readLine_b67 (σ : S0)   (ρ : S0) (x1 : Int32)  : fX11_readLine_b67  (mix σ ρ) x1 = mp σ (fX11_readLine_b67  ρ x1) := by
  simp (disch := omega) only [fX11_readLine_b67, ↓ol_n, ↓oh_su, ↓oh_up, ↓mp_ol, ↓mp_obp, ↓mp_og, ↓mp_ite, mix_hi, mp_some, mp_none, rm_fX11_readLine_b68]
theorem rm_fX11_readLine_b49 (σ : S0)   (ρ : S0) (x1 : Int32)  : fX11_readLine_b49  (mix σ ρ) x1 = mp σ (fX11_readLine_b49  ρ x1) := by
  simp (disch := omega) only [fX11_readLine_b49, ↓ol_n, ↓oh_su, ↓oh_up, ↓mp_ol, ↓mp_obp, ↓mp_og, ↓mp_ite, mix_hi, mp_some, mp_none, rm_fX11_readLine_b63, rm_fX11_readLine_b67]
theorem rm_fX11_readLine_b30 (σ : S0)   (ρ : S0) (x1 : Int32) (t0 : Int32)  : fX11_readLine_b30  (mix σ ρ) x1 t0 = mp σ (fX11_readLine_b30  ρ x1 t0) := by
  simp (disch := omega) only [fX11_readLine_b30, ↓ol_n, ↓oh_su, ↓oh_up, ↓mp_ol, ↓mp_obp, ↓mp_og, ↓mp_ite, ↓om_fX11_needs, mix_hi, mp_some, mp_none, rm_fX11_needs, rm_fX11_readLine_b49, rm_fX11_readLine_b67]
theorem rm_fX11_readLine_b17 (σ : S0)   (ρ : S0) (t0 : Int32)  : fX11_readLine_b17  (mix σ ρ) t0 = mp σ (fX11_readLine_b17  ρ t0) := by
  simp (disch := omega) only [fX11_readLine_b17, ↓ol_n, ↓oh_su, ↓oh_up, ↓mp_ol, ↓mp_obp, ↓mp_og, ↓mp_ite, mix_hi, mp_some, mp_none, rm_fX11_readLine_b30]
theorem rm_fX11_readLine (σ : S0)   (ρ : S0)   : fX11_readLine  (mix σ ρ)  = mp σ (fX11_readLine  ρ ) := by
  simp (disch := omega) only [fX11_readLine, ↓ol_n, ↓oh_su, ↓oh_up, ↓mp_ol, ↓mp_obp, ↓mp_og, ↓mp_ite, ↓om_fX11_nameNow, mix_hi, mp_some, mp_none, rm_fX11_readLine_b17, rm_fX11_nameNow]
theorem om_fX11_readLine (σ : S0) (ρ : S0)   (kk : Int32 → S0 → Option (Int32 × S0)) : obp (fX11_readLine (mix σ ρ) ) kk = obp (fX11_readLine ρ ) (fun r s => kk r (mix σ s)) := by
  rw [rm_fX11_readLine σ ρ  , obp_mp]
theorem rm_fX11_text_b84 (σ : S0)   (ρ : S0) (x1 : Int32)  : fX11_text_b84  (mix σ ρ) x1 = mp σ (fX11_text_b84  ρ x1) := by
  simp (disch := omega) only [fX11_text_b84, ↓ol_n, ↓oh_su, ↓oh_up, ↓mp_ol, ↓mp_obp, ↓mp_og, ↓mp_ite, ↓om_fX11_keepDraft, mix_hi, mp_some, mp_none, rm_fX11_keepDraft]
theorem rm_fX11_text_b79 (σ : S0)   (ρ : S0) (x1 : Int32) (t0 : Int32)  : fX11_text_b79  (mix σ ρ) x1 t0 = mp σ (fX11_text_b79  ρ x1 t0) := by
  simp (disch := omega) only [fX11_text_b79, ↓ol_n, ↓oh_su, ↓oh_up, ↓mp_ol, ↓mp_obp, ↓mp_og, ↓mp_ite, ↓om_fX11_needs, mix_hi, mp_some, mp_none, rm_fX11_needs, rm_fX11_text_b84]
theorem rm_fX11_text_b78 (σ : S0)   (ρ : S0) (x1 : Int32)  : fX11_text_b78  (mix σ ρ) x1 = mp σ (fX11_text_b78  ρ x1) := by
  simp (disch := omega) only [fX11_text_b78, ↓ol_n, ↓oh_su, ↓oh_up, ↓mp_ol, ↓mp_obp, ↓mp_og, ↓mp_ite, mix_hi, mp_some, mp_none, rm_fX11_text_b79]
theorem rm_fX11_text_b44 (σ : S0)   (ρ : S0) (x1 : Int32)  : fX11_text_b44  (mix σ ρ) x1 = mp σ (fX11_text_b44  ρ x1) := by
  simp (disch := omega) only [fX11_text_b44, ↓ol_n, ↓oh_su, ↓oh_up, ↓mp_ol, ↓mp_obp, ↓mp_og, ↓mp_ite, mix_hi, mp_some, mp_none, rm_fX11_text_b84, rm_fX11_text_b78, rm_fX11_text_b79]
theorem rm_fX11_text_b20 (σ : S0) (sf_20 : S0 → Int32 → Option (Int32 × S0)) (hsf_20 : ∀ (ρ : S0) (a0 : Int32), sf_20 (mix σ ρ) a0 = mp σ (sf_20 ρ a0)) (ρ : S0) (x1 : Int32)  : fX11_text_b20 sf_20 (mix σ ρ) x1 = mp σ (fX11_text_b20 sf_20 ρ x1) := by
  simp (disch := omega) only [fX11_text_b20, ↓ol_n, ↓oh_su, ↓oh_up, ↓mp_ol, ↓mp_obp, ↓mp_og, ↓mp_ite, ↓om_fX11_readLine, mix_hi, mp_some, mp_none, hsf_20, rm_fX11_text_b44, rm_fX11_readLine]
theorem rm_fX11_text_h20 (σ : S0)   : ∀ (n : Nat) (ρ : S0) (x1 : Int32), fX11_text_h20  n (mix σ ρ) x1 = mp σ (fX11_text_h20  n ρ x1)
  | 0, _, _ => rfl
  | n + 1, ρ, x1 => rm_fX11_text_b20 σ  (fX11_text_h20  n)  (rm_fX11_text_h20 σ   n) ρ x1 
theorem rm_fX11_text (σ : S0)   (ρ : S0)   : fX11_text  (mix σ ρ)  = mp σ (fX11_text  ρ ) := by
  simp (disch := omega) only [fX11_text, ↓ol_n, ↓oh_su, ↓oh_up, ↓mp_ol, ↓mp_obp, ↓mp_og, ↓mp_ite, ↓om_fX11_firstDraft, ↓om_fX11_next, mix_hi, mp_some, mp_none, rm_fX11_firstDraft, rm_fX11_next, rm_fX11_text_h20]
theorem rm_fX11_fault (σ : S0)   (ρ : S0)   : fX11_fault  (mix σ ρ)  = mp σ (fX11_fault  ρ ) := by
  simp (disch := omega) only [fX11_fault, ↓ol_n, ↓oh_su, ↓oh_up, ↓mp_ol, ↓mp_obp, ↓mp_og, ↓mp_ite, mix_hi, mp_some, mp_none]
theorem rm_fX11_rule (σ : S0)   (ρ : S0) (x1 : Int32)  : fX11_rule  (mix σ ρ) x1 = mp σ (fX11_rule  ρ x1) := by
  simp (disch := omega) only [fX11_rule, ↓ol_n, ↓oh_su, ↓oh_up, ↓mp_ol, ↓mp_obp, ↓mp_og, ↓mp_ite, mix_hi, mp_some, mp_none]
theorem rm_fX11_isHouse (σ : S0)   (ρ : S0) (x1 : Int32)  : fX11_isHouse  (mix σ ρ) x1 = mp σ (fX11_isHouse  ρ x1) := by
  simp (disch := omega) only [fX11_isHouse, ↓ol_n, ↓oh_su, ↓oh_up, ↓mp_ol, ↓mp_obp, ↓mp_og, ↓mp_ite, ↓om_fX11_in, mix_hi, mp_some, mp_none, rm_fX11_in]
theorem om_fX11_isHouse (σ : S0) (ρ : S0) (x1 : Int32)  (kk : Int32 → S0 → Option (Int32 × S0)) : obp (fX11_isHouse (mix σ ρ) x1) kk = obp (fX11_isHouse ρ x1) (fun r s => kk r (mix σ s)) := by
  rw [rm_fX11_isHouse σ ρ x1 , obp_mp]
theorem rm_fX11_isBell (σ : S0)   (ρ : S0) (x1 : Int32)  : fX11_isBell  (mix σ ρ) x1 = mp σ (fX11_isBell  ρ x1) := by
  simp (disch := omega) only [fX11_isBell, ↓ol_n, ↓oh_su, ↓oh_up, ↓mp_ol, ↓mp_obp, ↓mp_og, ↓mp_ite, ↓om_fX11_in, mix_hi, mp_some, mp_none, rm_fX11_in]
theorem om_fX11_isBell (σ : S0) (ρ : S0) (x1 : Int32)  (kk : Int32 → S0 → Option (Int32 × S0)) : obp (fX11_isBell (mix σ ρ) x1) kk = obp (fX11_isBell ρ x1) (fun r s => kk r (mix σ s)) := by
  rw [rm_fX11_isBell σ ρ x1 , obp_mp]
theorem rm_fX11_isTune (σ : S0)   (ρ : S0) (x1 : Int32)  : fX11_isTune  (mix σ ρ) x1 = mp σ (fX11_isTune  ρ x1) := by
  simp (disch := omega) only [fX11_isTune, ↓ol_n, ↓oh_su, ↓oh_up, ↓mp_ol, ↓mp_obp, ↓mp_og, ↓mp_ite, ↓om_fX11_in, mix_hi, mp_some, mp_none, rm_fX11_in]
theorem om_fX11_isTune (σ : S0) (ρ : S0) (x1 : Int32)  (kk : Int32 → S0 → Option (Int32 × S0)) : obp (fX11_isTune (mix σ ρ) x1) kk = obp (fX11_isTune ρ x1) (fun r s => kk r (mix σ s)) := by
  rw [rm_fX11_isTune σ ρ x1 , obp_mp]
theorem rm_fX11_of (σ : S0)   (ρ : S0) (x1 : Int32) (x2 : Int32)  : fX11_of  (mix σ ρ) x1 x2 = mp σ (fX11_of  ρ x1 x2) := by
  simp (disch := omega) only [fX11_of, ↓ol_n, ↓oh_su, ↓oh_up, ↓mp_ol, ↓mp_obp, ↓mp_og, ↓mp_ite, mix_hi, mp_some, mp_none]
theorem om_fX11_of (σ : S0) (ρ : S0) (x1 : Int32) (x2 : Int32)  (kk : Int32 → S0 → Option (Int32 × S0)) : obp (fX11_of (mix σ ρ) x1 x2) kk = obp (fX11_of ρ x1 x2) (fun r s => kk r (mix σ s)) := by
  rw [rm_fX11_of σ ρ x1 x2 , obp_mp]
theorem rm_fX11_strokes (σ : S0)   (ρ : S0) (x1 : Int32)  : fX11_strokes  (mix σ ρ) x1 = mp σ (fX11_strokes  ρ x1) := by
  simp (disch := omega) only [fX11_strokes, ↓ol_n, ↓oh_su, ↓oh_up, ↓mp_ol, ↓mp_obp, ↓mp_og, ↓mp_ite, mix_hi, mp_some, mp_none]
theorem om_fX11_strokes (σ : S0) (ρ : S0) (x1 : Int32)  (kk : Int32 → S0 → Option (Int32 × S0)) : obp (fX11_strokes (mix σ ρ) x1) kk = obp (fX11_strokes ρ x1) (fun r s => kk r (mix σ s)) := by
  rw [rm_fX11_strokes σ ρ x1 , obp_mp]
theorem rm_fX11_stroke (σ : S0)   (ρ : S0) (x1 : Int32) (x2 : Int32)  : fX11_stroke  (mix σ ρ) x1 x2 = mp σ (fX11_stroke  ρ x1 x2) := by
  simp (disch := omega) only [fX11_stroke, ↓ol_n, ↓oh_su, ↓oh_up, ↓mp_ol, ↓mp_obp, ↓mp_og, ↓mp_ite, mix_hi, mp_some, mp_none]
theorem om_fX11_stroke (σ : S0) (ρ : S0) (x1 : Int32) (x2 : Int32)  (kk : Int32 → S0 → Option (Int32 × S0)) : obp (fX11_stroke (mix σ ρ) x1 x2) kk = obp (fX11_stroke ρ x1 x2) (fun r s => kk r (mix σ s)) := by
  rw [rm_fX11_stroke σ ρ x1 x2 , obp_mp]
theorem rm_fX11_bell (σ : S0)   (ρ : S0) (x1 : Int32) (x2 : Int32)  : fX11_bell  (mix σ ρ) x1 x2 = mp σ (fX11_bell  ρ x1 x2) := by
  simp (disch := omega) only [fX11_bell, ↓ol_n, ↓oh_su, ↓oh_up, ↓mp_ol, ↓mp_obp, ↓mp_og, ↓mp_ite, ↓om_fX11_isBell, ↓om_fX11_in, ↓om_fX11_of, mix_hi, mp_some, mp_none, rm_fX11_isBell, rm_fX11_in, rm_fX11_of]
theorem rm_fX11_tune (σ : S0)   (ρ : S0) (x1 : Int32) (x2 : Int32)  : fX11_tune  (mix σ ρ) x1 x2 = mp σ (fX11_tune  ρ x1 x2) := by
  simp (disch := omega) only [fX11_tune, ↓ol_n, ↓oh_su, ↓oh_up, ↓mp_ol, ↓mp_obp, ↓mp_og, ↓mp_ite, ↓om_fX11_isTune, ↓om_fX11_in, ↓om_fX11_strokes, ↓om_fX11_stroke, mix_hi, mp_some, mp_none, rm_fX11_isTune, rm_fX11_in, rm_fX11_strokes, rm_fX11_stroke]
theorem rm_fX11_feuds (σ : S0)   (ρ : S0) (x1 : Int32)  : fX11_feuds  (mix σ ρ) x1 = mp σ (fX11_feuds  ρ x1) := by
  simp (disch := omega) only [fX11_feuds, ↓ol_n, ↓oh_su, ↓oh_up, ↓mp_ol, ↓mp_obp, ↓mp_og, ↓mp_ite, ↓om_fX11_isHouse, mix_hi, mp_some, mp_none, rm_fX11_isHouse]
theorem rm_fX11_fee (σ : S0)   (ρ : S0) (x1 : Int32) (x2 : Int32)  : fX11_fee  (mix σ ρ) x1 x2 = mp σ (fX11_fee  ρ x1 x2) := by
  simp (disch := omega) only [fX11_fee, ↓ol_n, ↓oh_su, ↓oh_up, ↓mp_ol, ↓mp_obp, ↓mp_og, ↓mp_ite, ↓om_fX11_isBell, ↓om_fX11_in, ↓om_fX11_of, mix_hi, mp_some, mp_none, rm_fX11_isBell, rm_fX11_in, rm_fX11_of]
theorem rm_fX11_shut (σ : S0)   (ρ : S0) (x1 : Int32) (x2 : Int32)  : fX11_shut  (mix σ ρ) x1 x2 = mp σ (fX11_shut  ρ x1 x2) := by
  simp (disch := omega) only [fX11_shut, ↓ol_n, ↓oh_su, ↓oh_up, ↓mp_ol, ↓mp_obp, ↓mp_og, ↓mp_ite, ↓om_fX11_isBell, ↓om_fX11_of, ↓om_fX11_flag, mix_hi, mp_some, mp_none, rm_fX11_isBell, rm_fX11_of, rm_fX11_flag]
theorem rm_fX11_sell_b74 (σ : S0)   (ρ : S0) (x3 : Int32) (t0 : Int32) (t1 : Int32)  : fX11_sell_b74  (mix σ ρ) x3 t0 t1 = mp σ (fX11_sell_b74  ρ x3 t0 t1) := by
  simp (disch := omega) only [fX11_sell_b74, ↓ol_n, ↓oh_su, ↓oh_up, ↓mp_ol, ↓mp_obp, ↓mp_og, ↓mp_ite, mix_hi, mp_some, mp_none]
