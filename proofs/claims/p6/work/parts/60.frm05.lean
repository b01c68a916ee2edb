theorem rm_fX11_copies (σ : S0)   (ρ : S0) (x1 : Int32) (x2 : Int32)  : fX11_copies  (mix σ ρ) x1 x2 = mp σ (fX11_copies  ρ x1 x2) := by
  simp (disch := omega) only [fX11_copies, ↓ol_n, ↓oh_su, ↓oh_up, ↓mp_ol, ↓mp_obp, ↓mp_og, ↓mp_ite, mix_hi, mp_some, mp_none, rm_fX11_copies_h2]
theorem om_fX11_copies (σ : S0) (ρ : S0) (x1 : Int32) (x2 : Int32)  (kk : Int32 → S0 → Option (Int32 × S0)) : obp (fX11_copies (mix σ ρ) x1 x2) kk = obp (fX11_copies ρ x1 x2) (fun r s => kk r (mix σ s)) := by
  rw [rm_fX11_copies σ ρ x1 x2 , obp_mp]
theorem rm_fX11_keep (σ : S0)   (ρ : S0) (x1 : Int32)  : fX11_keep  (mix σ ρ) x1 = mp σ (fX11_keep  ρ x1) := by
  simp (disch := omega) only [fX11_keep, ↓ol_n, ↓oh_su, ↓oh_up, ↓mp_ol, ↓mp_obp, ↓mp_og, ↓mp_ite, ↓om_fX11_in, ↓om_fX11_flag, ↓om_fX11_copies, mix_hi, mp_some, mp_none, rm_fX11_in, rm_fX11_flag, rm_fX11_copies]
theorem rm_fX11_back (σ : S0)   (ρ : S0) (x1 : Int32)  : fX11_back  (mix σ ρ) x1 = mp σ (fX11_back  ρ x1) := by
  simp (disch := omega) only [fX11_back, ↓ol_n, ↓oh_su, ↓oh_up, ↓mp_ol, ↓mp_obp, ↓mp_og, ↓mp_ite, ↓om_fX11_in, ↓om_fX11_copies, ↓om_fX11_takenNow, mix_hi, mp_some, mp_none, rm_fX11_in, rm_fX11_copies, rm_fX11_takenNow]
theorem rm_fX11_isSheet (σ : S0)   (ρ : S0) (x0 : Int32) (x1 : Int32)  : fX11_isSheet  (mix σ ρ) x0 x1 = mp σ (fX11_isSheet  ρ x0 x1) := by
  simp (disch := omega) only [fX11_isSheet, ↓ol_n, ↓oh_su, ↓oh_up, ↓mp_ol, ↓mp_obp, ↓mp_og, ↓mp_ite, ↓om_fX11_in, mix_hi, mp_some, mp_none, rm_fX11_in]
theorem om_fX11_isSheet (σ : S0) (ρ : S0) (x0 : Int32) (x1 : Int32)  (kk : Int32 → S0 → Option (Int32 × S0)) : obp (fX11_isSheet (mix σ ρ) x0 x1) kk = obp (fX11_isSheet ρ x0 x1) (fun r s => kk r (mix σ s)) := by
  rw [rm_fX11_isSheet σ ρ x0 x1 , obp_mp]
theorem rm_fX11_sheet_b40 (σ : S0) (sf_40 : S0 → Int32 → Int32 → Option (Int32 × S0)) (hsf_40 : ∀ (ρ : S0) (a0 : Int32) (a1 : Int32), sf_40 (mix σ ρ) a0 a1 = mp σ (sf_40 ρ a0 a1)) (ρ : S0) (x1 : Int32) (x4 : Int32)  : fX11_sheet_b40 sf_40 (mix σ ρ) x1 x4 = mp σ (fX11_sheet_b40 sf_40 ρ x1 x4) := by
  simp (disch := omega) only [fX11_sheet_b40, ↓ol_n, ↓oh_su, ↓oh_up, ↓mp_ol, ↓mp_obp, ↓mp_og, ↓mp_ite, mix_hi, mp_some, mp_none, hsf_40]
theorem rm_fX11_sheet_h40 (σ : S0)   : ∀ (n : Nat) (ρ : S0) (x1 : Int32) (x4 : Int32), fX11_sheet_h40  n (mix σ ρ) x1 x4 = mp σ (fX11_sheet_h40  n ρ x1 x4)
  | 0, _, _, _ => rfl
  | n + 1, ρ, x1, x4 => rm_fX11_sheet_b40 σ  (fX11_sheet_h40  n)  (rm_fX11_sheet_h40 σ   n) ρ x1 x4 
theorem rm_fX11_sheet (σ : S0)   (ρ : S0) (x1 : Int32) (x2 : Int32) (x3 : Int32)  : fX11_sheet  (mix σ ρ) x1 x2 x3 = mp σ (fX11_sheet  ρ x1 x2 x3) := by
  simp (disch := omega) only [fX11_sheet, ↓ol_n, ↓oh_su, ↓oh_up, ↓mp_ol, ↓mp_obp, ↓mp_og, ↓mp_ite, ↓om_fX11_isSheet, mix_hi, mp_some, mp_none, rm_fX11_isSheet, rm_fX11_sheet_h40]
theorem rm_fX11_lay_b85 (σ : S0)   (ρ : S0) (t0 : Int32) (t1 : Int32)  : fX11_lay_b85  (mix σ ρ) t0 t1 = mp σ (fX11_lay_b85  ρ t0 t1) := by
  simp (disch := omega) only [fX11_lay_b85, ↓ol_n, ↓oh_su, ↓oh_up, ↓mp_ol, ↓mp_obp, ↓mp_og, ↓mp_ite, mix_hi, mp_some, mp_none]
theorem rm_fX11_lay (σ : S0)   (ρ : S0) (x1 : Int32) (x2 : Int32) (x3 : Int32)  : fX11_lay  (mix σ ρ) x1 x2 x3 = mp σ (fX11_lay  ρ x1 x2 x3) := by
  simp (disch := omega) only [fX11_lay, ↓ol_n, ↓oh_su, ↓oh_up, ↓mp_ol, ↓mp_obp, ↓mp_og, ↓mp_ite, ↓om_fX11_isSheet, ↓om_fX11_in, mix_hi, mp_some, mp_none, rm_fX11_isSheet, rm_fX11_in, rm_fX11_lay_b85]
theorem rm_fX11_read_b176 (σ : S0) (sf_41 : S0 → Int32 → Int32 → Int32 → Int32 → Int32 → Int32 → Int32 → Int32 → Option (Int32 × S0)) (hsf_41 : ∀ (ρ : S0) (a0 : Int32) (a1 : Int32) (a2 : Int32) (a3 : Int32) (a4 : Int32) (a5 : Int32) (a6 : Int32) (a7 : Int32), sf_41 (mix σ ρ) a0 a1 a2 a3 a4 a5 a6 a7 = mp σ (sf_41 ρ a0 a1 a2 a3 a4 a5 a6 a7)) (ρ : S0) (x1 : Int32) (x2 : Int32) (x3 : Int32) (x4 : Int32) (x5 : Int32) (x6 : Int32) (x7 : Int32) (x8 : Int32)  : fX11_read_b176 sf_41 (mix σ ρ) x1 x2 x3 x4 x5 x6 x7 x8 = mp σ (fX11_read_b176 sf_41 ρ x1 x2 x3 x4 x5 x6 x7 x8) := by
  simp (disch := omega) only [fX11_read_b176, ↓ol_n, ↓oh_su, ↓oh_up, ↓mp_ol, ↓mp_obp, ↓mp_og, ↓mp_ite, mix_hi, mp_some, mp_none, hsf_41]
theorem rm_fX11_read_b115 (σ : S0) (sf_41 : S0 → Int32 → Int32 → Int32 → Int32 → Int32 → Int32 → Int32 → Int32 → Option (Int32 × S0)) (hsf_41 : ∀ (ρ : S0) (a0 : Int32) (a1 : Int32) (a2 : Int32) (a3 : Int32) (a4 : Int32) (a5 : Int32) (a6 : Int32) (a7 : Int32), sf_41 (mix σ ρ) a0 a1 a2 a3 a4 a5 a6 a7 = mp σ (sf_41 ρ a0 a1 a2 a3 a4 a5 a6 a7)) (ρ : S0) (x1 : Int32) (x2 : Int32) (x3 : Int32) (x4 : Int32) (x5 : Int32) (x7 : Int32) (x8 : Int32) (t0 : Int32)  : fX11_read_b115 sf_41 (mix σ ρ) x1 x2 x3 x4 x5 x7 x8 t0 = mp σ (fX11_read_b115 sf_41 ρ x1 x2 x3 x4 x5 x7 x8 t0) := by
  simp (disch := omega) only [fX11_read_b115, ↓ol_n, ↓oh_su, ↓oh_up, ↓mp_ol, ↓mp_obp, ↓mp_og, ↓mp_ite, ↓om_fX11_hear, mix_hi, mp_some, mp_none, hsf_41, rm_fX11_read_b176, rm_fX11_hear]
theorem rm_fX11_read_b110 (σ : S0) (sf_41 : S0 → Int32 → Int32 → Int32 → Int32 → Int32 → Int32 → Int32 → Int32 → Option (Int32 × S0)) (hsf_41 : ∀ (ρ : S0) (a0 : Int32) (a1 : Int32) (a2 : Int32) (a3 : Int32) (a4 : Int32) (a5 : Int32) (a6 : Int32) (a7 : Int32), sf_41 (mix σ ρ) a0 a1 a2 a3 a4 a5 a6 a7 = mp σ (sf_41 ρ a0 a1 a2 a3 a4 a5 a6 a7)) (ρ : S0) (x1 : Int32) (x2 : Int32) (x3 : Int32) (x4 : Int32) (x5 : Int32) (x7 : Int32) (x8 : Int32)  : fX11_read_b110 sf_41 (mix σ ρ) x1 x2 x3 x4 x5 x7 x8 = mp σ (fX11_read_b110 sf_41 ρ x1 x2 x3 x4 x5 x7 x8) := by
  simp (disch := omega) only [fX11_read_b110, ↓ol_n, ↓oh_su, ↓oh_up, ↓mp_ol, ↓mp_obp, ↓mp_og, ↓mp_ite, mix_hi, mp_some, mp_none, hsf_41, rm_fX11_read_b115]
theorem rm_fX11_read_b182 (σ : S0)   (ρ : S0) (x6 : Int32) (x7 : Int32)  : fX11_read_b182  (mix σ ρ) x6 x7 = mp σ (fX11_read_b182  ρ x6 x7) := by
  simp (disch := omega) only [fX11_read_b182, ↓ol_n, ↓oh_su, ↓oh_up, ↓mp_ol, ↓mp_obp, ↓mp_og, ↓mp_ite, mix_hi, mp_some, mp_none]
theorem rm_fX11_read_b41 (σ : S0) (sf_41 : S0 → Int32 → Int32 → Int32 → Int32 → Int32 → Int32 → Int32 → Int32 → Option (Int32 × S0)) (hsf_41 : ∀ (ρ : S0) (a0 : Int32) (a1 : Int32) (a2 : Int32) (a3 : Int32) (a4 : Int32) (a5 : Int32) (a6 : Int32) (a7 : Int32), sf_41 (mix σ ρ) a0 a1 a2 a3 a4 a5 a6 a7 = mp σ (sf_41 ρ a0 a1 a2 a3 a4 a5 a6 a7)) (ρ : S0) (x1 : Int32) (x2 : Int32) (x3 : Int32) (x4 : Int32) (x5 : Int32) (x6 : Int32) (x7 : Int32) (x8 : Int32)  : fX11_read_b41 sf_41 (mix σ ρ) x1 x2 x3 x4 x5 x6 x7 x8 = mp σ (fX11_read_b41 sf_41 ρ x1 x2 x3 x4 x5 x6 x7 x8) := by
  simp (disch := omega) only [fX11_read_b41, ↓ol_n, ↓oh_su, ↓oh_up, ↓mp_ol, ↓mp_obp, ↓mp_og, ↓mp_ite, mix_hi, mp_some, mp_none, hsf_41, rm_fX11_read_b182, rm_fX11_read_b110, rm_fX11_read_b115]
theorem rm_fX11_read_h41 (σ : S0)   : ∀ (n : Nat) (ρ : S0) (x1 : Int32) (x2 : Int32) (x3 : Int32) (x4 : Int32) (x5 : Int32) (x6 : Int32) (x7 : Int32) (x8 : Int32), fX11_read_h41  n (mix σ ρ) x1 x2 x3 x4 x5 x6 x7 x8 = mp σ (fX11_read_h41  n ρ x1 x2 x3 x4 x5 x6 x7 x8)
  | 0, _, _, _, _, _, _, _, _, _ => rfl
  | n + 1, ρ, x1, x2, x3, x4, x5, x6, x7, x8 => rm_fX11_read_b41 σ  (fX11_read_h41  n)  (rm_fX11_read_h41 σ   n) ρ x1 x2 x3 x4 x5 x6 x7 x8 
theorem rm_fX11_read (σ : S0)   (ρ : S0) (x1 : Int32) (x2 : Int32) (x3 : Int32) (x4 : Int32)  : fX11_read  (mix σ ρ) x1 x2 x3 x4 = mp σ (fX11_read  ρ x1 x2 x3 x4) := by
  simp (disch := omega) only [fX11_read, ↓ol_n, ↓oh_su, ↓oh_up, ↓mp_ol, ↓mp_obp, ↓mp_og, ↓mp_ite, ↓om_fX11_isSheet, ↓om_fX11_in, mix_hi, mp_some, mp_none, rm_fX11_isSheet, rm_fX11_in, rm_fX11_read_h41]
theorem rm_fX11_torn (σ : S0)   (ρ : S0)   : fX11_torn  (mix σ ρ)  = mp σ (fX11_torn  ρ ) := by
  simp (disch := omega) only [fX11_torn, ↓ol_n, ↓oh_su, ↓oh_up, ↓mp_ol, ↓mp_obp, ↓mp_og, ↓mp_ite, mix_hi, mp_some, mp_none]
