theorem rm_fX11_sell (σ : S0)   (ρ : S0) (x1 : Int32) (x2 : Int32)  : fX11_sell  (mix σ ρ) x1 x2 = mp σ (fX11_sell  ρ x1 x2) := by
  simp (disch := omega) only [fX11_sell, ↓ol_n, ↓oh_su, ↓oh_up, ↓mp_ol, ↓mp_obp, ↓mp_og, ↓mp_ite, ↓om_fX11_isBell, ↓om_fX11_isHouse, ↓om_fX11_of, mix_hi, mp_some, mp_none, rm_fX11_isBell, rm_fX11_isHouse, rm_fX11_of, rm_fX11_sell_b74]
theorem rm_fX11_half_b24 (σ : S0)   (ρ : S0) (x1 : Int32) (x2 : Int32)  : fX11_half_b24  (mix σ ρ) x1 x2 = mp σ (fX11_half_b24  ρ x1 x2) := by
  simp (disch := omega) only [fX11_half_b24, ↓ol_n, ↓oh_su, ↓oh_up, ↓mp_ol, ↓mp_obp, ↓mp_og, ↓mp_ite, ↓om_fX11_of, mix_hi, mp_some, mp_none, rm_fX11_of]
theorem rm_fX11_half (σ : S0)   (ρ : S0) (x1 : Int32) (x2 : Int32)  : fX11_half  (mix σ ρ) x1 x2 = mp σ (fX11_half  ρ x1 x2) := by
  simp (disch := omega) only [fX11_half, ↓ol_n, ↓oh_su, ↓oh_up, ↓mp_ol, ↓mp_obp, ↓mp_og, ↓mp_ite, ↓om_fX11_isBell, ↓om_fX11_isHouse, mix_hi, mp_some, mp_none, rm_fX11_isBell, rm_fX11_half_b24, rm_fX11_isHouse]
theorem rm_fX11_isFeud (σ : S0)   (ρ : S0) (x1 : Int32) (x2 : Int32)  : fX11_isFeud  (mix σ ρ) x1 x2 = mp σ (fX11_isFeud  ρ x1 x2) := by
  simp (disch := omega) only [fX11_isFeud, ↓ol_n, ↓oh_su, ↓oh_up, ↓mp_ol, ↓mp_obp, ↓mp_og, ↓mp_ite, mix_hi, mp_some, mp_none]
theorem om_fX11_isFeud (σ : S0) (ρ : S0) (x1 : Int32) (x2 : Int32)  (kk : Int32 → S0 → Option (Int32 × S0)) : obp (fX11_isFeud (mix σ ρ) x1 x2) kk = obp (fX11_isFeud ρ x1 x2) (fun r s => kk r (mix σ s)) := by
  rw [rm_fX11_isFeud σ ρ x1 x2 , obp_mp]
theorem rm_fX11_setsFeud_b87 (σ : S0)   (ρ : S0) (t0 : Int32) (t1 : Int32)  : fX11_setsFeud_b87  (mix σ ρ) t0 t1 = mp σ (fX11_setsFeud_b87  ρ t0 t1) := by
  simp (disch := omega) only [fX11_setsFeud_b87, ↓ol_n, ↓oh_su, ↓oh_up, ↓mp_ol, ↓mp_obp, ↓mp_og, ↓mp_ite, mix_hi, mp_some, mp_none]
theorem rm_fX11_setsFeud_b43 (σ : S0)   (ρ : S0) (x1 : Int32) (x2 : Int32) (x3 : Int32) (t0 : Int32) (t1 : Int32)  : fX11_setsFeud_b43  (mix σ ρ) x1 x2 x3 t0 t1 = mp σ (fX11_setsFeud_b43  ρ x1 x2 x3 t0 t1) := by
  simp (disch := omega) only [fX11_setsFeud_b43, ↓ol_n, ↓oh_su, ↓oh_up, ↓mp_ol, ↓mp_obp, ↓mp_og, ↓mp_ite, mix_hi, mp_some, mp_none, rm_fX11_setsFeud_b87]
theorem rm_fX11_setsFeud (σ : S0)   (ρ : S0) (x1 : Int32) (x2 : Int32) (x3 : Int32)  : fX11_setsFeud  (mix σ ρ) x1 x2 x3 = mp σ (fX11_setsFeud  ρ x1 x2 x3) := by
  simp (disch := omega) only [fX11_setsFeud, ↓ol_n, ↓oh_su, ↓oh_up, ↓mp_ol, ↓mp_obp, ↓mp_og, ↓mp_ite, mix_hi, mp_some, mp_none, rm_fX11_setsFeud_b43]
theorem om_fX11_setsFeud (σ : S0) (ρ : S0) (x1 : Int32) (x2 : Int32) (x3 : Int32)  (kk : Int32 → S0 → Option (Int32 × S0)) : obp (fX11_setsFeud (mix σ ρ) x1 x2 x3) kk = obp (fX11_setsFeud ρ x1 x2 x3) (fun r s => kk r (mix σ s)) := by
  rw [rm_fX11_setsFeud σ ρ x1 x2 x3 , obp_mp]
theorem rm_fX11_feud (σ : S0)   (ρ : S0) (x1 : Int32) (x2 : Int32) (x3 : Int32)  : fX11_feud  (mix σ ρ) x1 x2 x3 = mp σ (fX11_feud  ρ x1 x2 x3) := by
  simp (disch := omega) only [fX11_feud, ↓ol_n, ↓oh_su, ↓oh_up, ↓mp_ol, ↓mp_obp, ↓mp_og, ↓mp_ite, ↓om_fX11_isHouse, ↓om_fX11_isFeud, ↓om_fX11_flag, ↓om_fX11_setsFeud, mix_hi, mp_some, mp_none, rm_fX11_isHouse, rm_fX11_isFeud, rm_fX11_flag, rm_fX11_setsFeud]
theorem rm_fX11_feuding_b53 (σ : S0) (sf_7 : S0 → Int32 → Int32 → Int32 → Option (Int32 × S0)) (sf_19 : S0 → Int32 → Int32 → Int32 → Int32 → Option (Int32 × S0)) (hsf_7 : ∀ (ρ : S0) (a0 : Int32) (a1 : Int32) (a2 : Int32), sf_7 (mix σ ρ) a0 a1 a2 = mp σ (sf_7 ρ a0 a1 a2)) (hsf_19 : ∀ (ρ : S0) (a0 : Int32) (a1 : Int32) (a2 : Int32) (a3 : Int32), sf_19 (mix σ ρ) a0 a1 a2 a3 = mp σ (sf_19 ρ a0 a1 a2 a3)) (ρ : S0) (x2 : Int32) (x3 : Int32) (x4 : Int32) (x5 : Int32) (t0 : Int32)  : fX11_feuding_b53 sf_7 sf_19 (mix σ ρ) x2 x3 x4 x5 t0 = mp σ (fX11_feuding_b53 sf_7 sf_19 ρ x2 x3 x4 x5 t0) := by
  simp (disch := omega) only [fX11_feuding_b53, ↓ol_n, ↓oh_su, ↓oh_up, ↓mp_ol, ↓mp_obp, ↓mp_og, ↓mp_ite, ↓om_fX11_setsFeud, ↓om_fX11_flag, mix_hi, mp_some, mp_none, hsf_7, hsf_19, rm_fX11_setsFeud, rm_fX11_flag]
theorem rm_fX11_feuding_b19 (σ : S0) (sf_7 : S0 → Int32 → Int32 → Int32 → Option (Int32 × S0)) (sf_19 : S0 → Int32 → Int32 → Int32 → Int32 → Option (Int32 × S0)) (hsf_7 : ∀ (ρ : S0) (a0 : Int32) (a1 : Int32) (a2 : Int32), sf_7 (mix σ ρ) a0 a1 a2 = mp σ (sf_7 ρ a0 a1 a2)) (hsf_19 : ∀ (ρ : S0) (a0 : Int32) (a1 : Int32) (a2 : Int32) (a3 : Int32), sf_19 (mix σ ρ) a0 a1 a2 a3 = mp σ (sf_19 ρ a0 a1 a2 a3)) (ρ : S0) (x2 : Int32) (x3 : Int32) (x4 : Int32) (x5 : Int32)  : fX11_feuding_b19 sf_7 sf_19 (mix σ ρ) x2 x3 x4 x5 = mp σ (fX11_feuding_b19 sf_7 sf_19 ρ x2 x3 x4 x5) := by
  simp (disch := omega) only [fX11_feuding_b19, ↓ol_n, ↓oh_su, ↓oh_up, ↓mp_ol, ↓mp_obp, ↓mp_og, ↓mp_ite, mix_hi, mp_some, mp_none, hsf_7, hsf_19, rm_fX11_feuding_b53]
theorem rm_fX11_feuding_h19 (σ : S0) (sf_7 : S0 → Int32 → Int32 → Int32 → Option (Int32 × S0)) (hsf_7 : ∀ (ρ : S0) (a0 : Int32) (a1 : Int32) (a2 : Int32), sf_7 (mix σ ρ) a0 a1 a2 = mp σ (sf_7 ρ a0 a1 a2)) : ∀ (n : Nat) (ρ : S0) (x2 : Int32) (x3 : Int32) (x4 : Int32) (x5 : Int32), fX11_feuding_h19 sf_7 n (mix σ ρ) x2 x3 x4 x5 = mp σ (fX11_feuding_h19 sf_7 n ρ x2 x3 x4 x5)
  | 0, _, _, _, _, _ => rfl
  | n + 1, ρ, x2, x3, x4, x5 => rm_fX11_feuding_b19 σ sf_7 (fX11_feuding_h19 sf_7 n) hsf_7 (rm_fX11_feuding_h19 σ sf_7 hsf_7 n) ρ x2 x3 x4 x5 
theorem rm_fX11_feuding_b7 (σ : S0) (sf_7 : S0 → Int32 → Int32 → Int32 → Option (Int32 × S0)) (hsf_7 : ∀ (ρ : S0) (a0 : Int32) (a1 : Int32) (a2 : Int32), sf_7 (mix σ ρ) a0 a1 a2 = mp σ (sf_7 ρ a0 a1 a2)) (ρ : S0) (x2 : Int32) (x3 : Int32) (x4 : Int32)  : fX11_feuding_b7 sf_7 (mix σ ρ) x2 x3 x4 = mp σ (fX11_feuding_b7 sf_7 ρ x2 x3 x4) := by
  simp (disch := omega) only [fX11_feuding_b7, ↓ol_n, ↓oh_su, ↓oh_up, ↓mp_ol, ↓mp_obp, ↓mp_og, ↓mp_ite, mix_hi, mp_some, mp_none, hsf_7, rm_fX11_feuding_h19]
theorem rm_fX11_feuding_h7 (σ : S0)   : ∀ (n : Nat) (ρ : S0) (x2 : Int32) (x3 : Int32) (x4 : Int32), fX11_feuding_h7  n (mix σ ρ) x2 x3 x4 = mp σ (fX11_feuding_h7  n ρ x2 x3 x4)
  | 0, _, _, _, _ => rfl
  | n + 1, ρ, x2, x3, x4 => rm_fX11_feuding_b7 σ  (fX11_feuding_h7  n)  (rm_fX11_feuding_h7 σ   n) ρ x2 x3 x4 
theorem rm_fX11_feuding (σ : S0)   (ρ : S0) (x1 : Int32)  : fX11_feuding  (mix σ ρ) x1 = mp σ (fX11_feuding  ρ x1) := by
  simp (disch := omega) only [fX11_feuding, ↓ol_n, ↓oh_su, ↓oh_up, ↓mp_ol, ↓mp_obp, ↓mp_og, ↓mp_ite, mix_hi, mp_some, mp_none, rm_fX11_feuding_h7]
theorem rm_fX11_noRung_b2 (σ : S0) (sf_2 : S0 → Int32 → Option (Int32 × S0)) (hsf_2 : ∀ (ρ : S0) (a0 : Int32), sf_2 (mix σ ρ) a0 = mp σ (sf_2 ρ a0)) (ρ : S0) (x1 : Int32)  : fX11_noRung_b2 sf_2 (mix σ ρ) x1 = mp σ (fX11_noRung_b2 sf_2 ρ x1) := by
  simp (disch := omega) only [fX11_noRung_b2, ↓ol_n, ↓oh_su, ↓oh_up, ↓mp_ol, ↓mp_obp, ↓mp_og, ↓mp_ite, mix_hi, mp_some, mp_none, hsf_2]
theorem rm_fX11_noRung_h2 (σ : S0)   : ∀ (n : Nat) (ρ : S0) (x1 : Int32), fX11_noRung_h2  n (mix σ ρ) x1 = mp σ (fX11_noRung_h2  n ρ x1)
  | 0, _, _ => rfl
  | n + 1, ρ, x1 => rm_fX11_noRung_b2 σ  (fX11_noRung_h2  n)  (rm_fX11_noRung_h2 σ   n) ρ x1 
theorem rm_fX11_noRung (σ : S0)   (ρ : S0)   : fX11_noRung  (mix σ ρ)  = mp σ (fX11_noRung  ρ ) := by
  simp (disch := omega) only [fX11_noRung, ↓ol_n, ↓oh_su, ↓oh_up, ↓mp_ol, ↓mp_obp, ↓mp_og, ↓mp_ite, mix_hi, mp_some, mp_none, rm_fX11_noRung_h2]
theorem om_fX11_noRung (σ : S0) (ρ : S0)   (kk : Int32 → S0 → Option (Int32 × S0)) : obp (fX11_noRung (mix σ ρ) ) kk = obp (fX11_noRung ρ ) (fun r s => kk r (mix σ s)) := by
  rw [rm_fX11_noRung σ ρ  , obp_mp]
theorem rm_fX11_rings_b149 (σ : S0) (sf_25 : S0 → Int32 → Int32 → Int32 → Option (Int32 × S0)) (hsf_25 : ∀ (ρ : S0) (a0 : Int32) (a1 : Int32) (a2 : Int32), sf_25 (mix σ ρ) a0 a1 a2 = mp σ (sf_25 ρ a0 a1 a2)) (ρ : S0) (x1 : Int32) (x2 : Int32) (x3 : Int32)  : fX11_rings_b149 sf_25 (mix σ ρ) x1 x2 x3 = mp σ (fX11_rings_b149 sf_25 ρ x1 x2 x3) := by
  simp (disch := omega) only [fX11_rings_b149, ↓ol_n, ↓oh_su, ↓oh_up, ↓mp_ol, ↓mp_obp, ↓mp_og, ↓mp_ite, mix_hi, mp_some, mp_none, hsf_25]
theorem rm_fX11_rings_b78 (σ : S0) (sf_25 : S0 → Int32 → Int32 → Int32 → Option (Int32 × S0)) (hsf_25 : ∀ (ρ : S0) (a0 : Int32) (a1 : Int32) (a2 : Int32), sf_25 (mix σ ρ) a0 a1 a2 = mp σ (sf_25 ρ a0 a1 a2)) (ρ : S0) (x1 : Int32) (x2 : Int32) (x3 : Int32)  : fX11_rings_b78 sf_25 (mix σ ρ) x1 x2 x3 = mp σ (fX11_rings_b78 sf_25 ρ x1 x2 x3) := by
  simp (disch := omega) only [fX11_rings_b78, ↓ol_n, ↓oh_su, ↓oh_up, ↓mp_ol, ↓mp_obp, ↓mp_og, ↓mp_ite, mix_hi, mp_some, mp_none, hsf_25, rm_fX11_rings_b149]
theorem rm_fX11_rings_b103 (σ : S0) (sf_25 : S0 → Int32 → Int32 → Int32 → Option (Int32 × S0)) (hsf_25 : ∀ (ρ : S0) (a0 : Int32) (a1 : Int32) (a2 : Int32), sf_25 (mix σ ρ) a0 a1 a2 = mp σ (sf_25 ρ a0 a1 a2)) (ρ : S0) (x1 : Int32) (x3 : Int32) (x4 : Int32) (x5 : Int32)  : fX11_rings_b103 sf_25 (mix σ ρ) x1 x3 x4 x5 = mp σ (fX11_rings_b103 sf_25 ρ x1 x3 x4 x5) := by
  simp (disch := omega) only [fX11_rings_b103, ↓ol_n, ↓oh_su, ↓oh_up, ↓mp_ol, ↓mp_obp, ↓mp_og, ↓mp_ite, ↓om_fX11_of, mix_hi, mp_some, mp_none, hsf_25, rm_fX11_of, rm_fX11_rings_b149]
theorem rm_fX11_rings_b25 (σ : S0) (sf_25 : S0 → Int32 → Int32 → Int32 → Option (Int32 × S0)) (hsf_25 : ∀ (ρ : S0) (a0 : Int32) (a1 : Int32) (a2 : Int32), sf_25 (mix σ ρ) a0 a1 a2 = mp σ (sf_25 ρ a0 a1 a2)) (ρ : S0) (x1 : Int32) (x2 : Int32) (x3 : Int32)  : fX11_rings_b25 sf_25 (mix σ ρ) x1 x2 x3 = mp σ (fX11_rings_b25 sf_25 ρ x1 x2 x3) := by
  simp (disch := omega) only [fX11_rings_b25, ↓ol_n, ↓oh_su, ↓oh_up, ↓mp_ol, ↓mp_obp, ↓mp_og, ↓mp_ite, ↓om_fX11_strokes, ↓om_fX11_stroke, ↓om_fX11_of, ↓om_fX11_isFeud, mix_hi, mp_some, mp_none, hsf_25, rm_fX11_strokes, rm_fX11_stroke, rm_fX11_of, rm_fX11_rings_b78, rm_fX11_rings_b103, rm_fX11_isFeud]
theorem rm_fX11_rings_h25 (σ : S0)   : ∀ (n : Nat) (ρ : S0) (x1 : Int32) (x2 : Int32) (x3 : Int32), fX11_rings_h25  n (mix σ ρ) x1 x2 x3 = mp σ (fX11_rings_h25  n ρ x1 x2 x3)
  | 0, _, _, _, _ => rfl
  | n + 1, ρ, x1, x2, x3 => rm_fX11_rings_b25 σ  (fX11_rings_h25  n)  (rm_fX11_rings_h25 σ   n) ρ x1 x2 x3 
theorem rm_fX11_rings (σ : S0)   (ρ : S0) (x1 : Int32)  : fX11_rings  (mix σ ρ) x1 = mp σ (fX11_rings  ρ x1) := by
  simp (disch := omega) only [fX11_rings, ↓ol_n, ↓oh_su, ↓oh_up, ↓mp_ol, ↓mp_obp, ↓mp_og, ↓mp_ite, mix_hi, mp_some, mp_none, rm_fX11_rings_h25]
theorem om_fX11_rings (σ : S0) (ρ : S0) (x1 : Int32)  (kk : Int32 → S0 → Option (Int32 × S0)) : obp (fX11_rings (mix σ ρ) x1) kk = obp (fX11_rings ρ x1) (fun r s => kk r (mix σ s)) := by
  rw [rm_fX11_rings σ ρ x1 , obp_mp]
theorem rm_fX11_valueOf (σ : S0)   (ρ : S0) (x1 : Int32)  : fX11_valueOf  (mix σ ρ) x1 = mp σ (fX11_valueOf  ρ x1) := by
  simp (disch := omega) only [fX11_valueOf, ↓ol_n, ↓oh_su, ↓oh_up, ↓mp_ol, ↓mp_obp, ↓mp_og, ↓mp_ite, ↓om_fX11_rings, mix_hi, mp_some, mp_none, rm_fX11_rings]
theorem om_fX11_valueOf (σ : S0) (ρ : S0) (x1 : Int32)  (kk : Int32 → S0 → Option (Int32 × S0)) : obp (fX11_valueOf (mix σ ρ) x1) kk = obp (fX11_valueOf ρ x1) (fun r s => kk r (mix σ s)) := by
  rw [rm_fX11_valueOf σ ρ x1 , obp_mp]
theorem rm_fX11_ring (σ : S0)   (ρ : S0) (x1 : Int32) (x2 : Int32)  : fX11_ring  (mix σ ρ) x1 x2 = mp σ (fX11_ring  ρ x1 x2) := by
  simp (disch := omega) only [fX11_ring, ↓ol_n, ↓oh_su, ↓oh_up, ↓mp_ol, ↓mp_obp, ↓mp_og, ↓mp_ite, ↓om_fX11_isTune, ↓om_fX11_valueOf, mix_hi, mp_some, mp_none, rm_fX11_isTune, rm_fX11_valueOf]
theorem rm_fX11_takenNow_b46 (σ : S0) (sf_7 : S0 → Int32 → Int32 → Int32 → Option (Int32 × S0)) (hsf_7 : ∀ (ρ : S0) (a0 : Int32) (a1 : Int32) (a2 : Int32), sf_7 (mix σ ρ) a0 a1 a2 = mp σ (sf_7 ρ a0 a1 a2)) (ρ : S0) (x1 : Int32) (x3 : Int32) (t0 : Int32)  : fX11_takenNow_b46 sf_7 (mix σ ρ) x1 x3 t0 = mp σ (fX11_takenNow_b46 sf_7 ρ x1 x3 t0) := by
  simp (disch := omega) only [fX11_takenNow_b46, ↓ol_n, ↓oh_su, ↓oh_up, ↓mp_ol, ↓mp_obp, ↓mp_og, ↓mp_ite, mix_hi, mp_some, mp_none, hsf_7]
theorem rm_fX11_takenNow_b33 (σ : S0) (sf_7 : S0 → Int32 → Int32 → Int32 → Option (Int32 × S0)) (hsf_7 : ∀ (ρ : S0) (a0 : Int32) (a1 : Int32) (a2 : Int32), sf_7 (mix σ ρ) a0 a1 a2 = mp σ (sf_7 ρ a0 a1 a2)) (ρ : S0) (x2 : Int32) (x3 : Int32) (x4 : Int32) (t0 : Int32)  : fX11_takenNow_b33 sf_7 (mix σ ρ) x2 x3 x4 t0 = mp σ (fX11_takenNow_b33 sf_7 ρ x2 x3 x4 t0) := by
  simp (disch := omega) only [fX11_takenNow_b33, ↓ol_n, ↓oh_su, ↓oh_up, ↓mp_ol, ↓mp_obp, ↓mp_og, ↓mp_ite, mix_hi, mp_some, mp_none, hsf_7, rm_fX11_takenNow_b46]
theorem rm_fX11_takenNow_b7 (σ : S0) (sf_7 : S0 → Int32 → Int32 → Int32 → Option (Int32 × S0)) (hsf_7 : ∀ (ρ : S0) (a0 : Int32) (a1 : Int32) (a2 : Int32), sf_7 (mix σ ρ) a0 a1 a2 = mp σ (sf_7 ρ a0 a1 a2)) (ρ : S0) (x1 : Int32) (x2 : Int32) (x3 : Int32)  : fX11_takenNow_b7 sf_7 (mix σ ρ) x1 x2 x3 = mp σ (fX11_takenNow_b7 sf_7 ρ x1 x2 x3) := by
  simp (disch := omega) only [fX11_takenNow_b7, ↓ol_n, ↓oh_su, ↓oh_up, ↓mp_ol, ↓mp_obp, ↓mp_og, ↓mp_ite, ↓om_fX11_valueOf, mix_hi, mp_some, mp_none, hsf_7, rm_fX11_valueOf, rm_fX11_takenNow_b33]
theorem rm_fX11_takenNow_h7 (σ : S0)   : ∀ (n : Nat) (ρ : S0) (x1 : Int32) (x2 : Int32) (x3 : Int32), fX11_takenNow_h7  n (mix σ ρ) x1 x2 x3 = mp σ (fX11_takenNow_h7  n ρ x1 x2 x3)
  | 0, _, _, _, _ => rfl
  | n + 1, ρ, x1, x2, x3 => rm_fX11_takenNow_b7 σ  (fX11_takenNow_h7  n)  (rm_fX11_takenNow_h7 σ   n) ρ x1 x2 x3 
theorem rm_fX11_takenNow (σ : S0)   (ρ : S0)   : fX11_takenNow  (mix σ ρ)  = mp σ (fX11_takenNow  ρ ) := by
  simp (disch := omega) only [fX11_takenNow, ↓ol_n, ↓oh_su, ↓oh_up, ↓mp_ol, ↓mp_obp, ↓mp_og, ↓mp_ite, mix_hi, mp_some, mp_none, rm_fX11_takenNow_h7]
theorem om_fX11_takenNow (σ : S0) (ρ : S0)   (kk : Int32 → S0 → Option (Int32 × S0)) : obp (fX11_takenNow (mix σ ρ) ) kk = obp (fX11_takenNow ρ ) (fun r s => kk r (mix σ s)) := by
  rw [rm_fX11_takenNow σ ρ  , obp_mp]
theorem rm_fX11_taken (σ : S0)   (ρ : S0)   : fX11_taken  (mix σ ρ)  = mp σ (fX11_taken  ρ ) := by
  simp (disch := omega) only [fX11_taken, ↓ol_n, ↓oh_su, ↓oh_up, ↓mp_ol, ↓mp_obp, ↓mp_og, ↓mp_ite, ↓om_fX11_takenNow, mix_hi, mp_some, mp_none, rm_fX11_takenNow]
theorem rm_fX11_getsOf_b16 (σ : S0)   (ρ : S0) (x1 : Int32) (x2 : Int32) (t0 : Int32)  : fX11_getsOf_b16  (mix σ ρ) x1 x2 t0 = mp σ (fX11_getsOf_b16  ρ x1 x2 t0) := by
  simp (disch := omega) only [fX11_getsOf_b16, ↓ol_n, ↓oh_su, ↓oh_up, ↓mp_ol, ↓mp_obp, ↓mp_og, ↓mp_ite, ↓om_fX11_of, mix_hi, mp_some, mp_none, rm_fX11_of]
theorem rm_fX11_getsOf (σ : S0)   (ρ : S0) (x1 : Int32) (x2 : Int32)  : fX11_getsOf  (mix σ ρ) x1 x2 = mp σ (fX11_getsOf  ρ x1 x2) := by
  simp (disch := omega) only [fX11_getsOf, ↓ol_n, ↓oh_su, ↓oh_up, ↓mp_ol, ↓mp_obp, ↓mp_og, ↓mp_ite, ↓om_fX11_of, mix_hi, mp_some, mp_none, rm_fX11_of, rm_fX11_getsOf_b16]
theorem om_fX11_getsOf (σ : S0) (ρ : S0) (x1 : Int32) (x2 : Int32)  (kk : Int32 → S0 → Option (Int32 × S0)) : obp (fX11_getsOf (mix σ ρ) x1 x2) kk = obp (fX11_getsOf ρ x1 x2) (fun r s => kk r (mix σ s)) := by
  rw [rm_fX11_getsOf σ ρ x1 x2 , obp_mp]
theorem rm_fX11_getsNow_b50 (σ : S0) (sf_10 : S0 → Int32 → Int32 → Int32 → Int32 → Option (Int32 × S0)) (hsf_10 : ∀ (ρ : S0) (a0 : Int32) (a1 : Int32) (a2 : Int32) (a3 : Int32), sf_10 (mix σ ρ) a0 a1 a2 a3 = mp σ (sf_10 ρ a0 a1 a2 a3)) (ρ : S0) (x1 : Int32) (x2 : Int32) (x4 : Int32) (t0 : Int32) (t1 : Int32)  : fX11_getsNow_b50 sf_10 (mix σ ρ) x1 x2 x4 t0 t1 = mp σ (fX11_getsNow_b50 sf_10 ρ x1 x2 x4 t0 t1) := by
  simp (disch := omega) only [fX11_getsNow_b50, ↓ol_n, ↓oh_su, ↓oh_up, ↓mp_ol, ↓mp_obp, ↓mp_og, ↓mp_ite, mix_hi, mp_some, mp_none, hsf_10]
theorem rm_fX11_getsNow_b10 (σ : S0) (sf_10 : S0 → Int32 → Int32 → Int32 → Int32 → Option (Int32 × S0)) (hsf_10 : ∀ (ρ : S0) (a0 : Int32) (a1 : Int32) (a2 : Int32) (a3 : Int32), sf_10 (mix σ ρ) a0 a1 a2 a3 = mp σ (sf_10 ρ a0 a1 a2 a3)) (ρ : S0) (x1 : Int32) (x2 : Int32) (x3 : Int32) (x4 : Int32)  : fX11_getsNow_b10 sf_10 (mix σ ρ) x1 x2 x3 x4 = mp σ (fX11_getsNow_b10 sf_10 ρ x1 x2 x3 x4) := by
  simp (disch := omega) only [fX11_getsNow_b10, ↓ol_n, ↓oh_su, ↓oh_up, ↓mp_ol, ↓mp_obp, ↓mp_og, ↓mp_ite, ↓om_fX11_strokes, ↓om_fX11_stroke, ↓om_fX11_getsOf, mix_hi, mp_some, mp_none, hsf_10, rm_fX11_strokes, rm_fX11_stroke, rm_fX11_getsOf, rm_fX11_getsNow_b50]
theorem rm_fX11_getsNow_h10 (σ : S0)   : ∀ (n : Nat) (ρ : S0) (x1 : Int32) (x2 : Int32) (x3 : Int32) (x4 : Int32), fX11_getsNow_h10  n (mix σ ρ) x1 x2 x3 x4 = mp σ (fX11_getsNow_h10  n ρ x1 x2 x3 x4)
  | 0, _, _, _, _, _ => rfl
  | n + 1, ρ, x1, x2, x3, x4 => rm_fX11_getsNow_b10 σ  (fX11_getsNow_h10  n)  (rm_fX11_getsNow_h10 σ   n) ρ x1 x2 x3 x4 
theorem rm_fX11_getsNow (σ : S0)   (ρ : S0) (x1 : Int32) (x2 : Int32)  : fX11_getsNow  (mix σ ρ) x1 x2 = mp σ (fX11_getsNow  ρ x1 x2) := by
  simp (disch := omega) only [fX11_getsNow, ↓ol_n, ↓oh_su, ↓oh_up, ↓mp_ol, ↓mp_obp, ↓mp_og, ↓mp_ite, ↓om_fX11_rings, mix_hi, mp_some, mp_none, rm_fX11_rings, rm_fX11_getsNow_h10]
theorem om_fX11_getsNow (σ : S0) (ρ : S0) (x1 : Int32) (x2 : Int32)  (kk : Int32 → S0 → Option (Int32 × S0)) : obp (fX11_getsNow (mix σ ρ) x1 x2) kk = obp (fX11_getsNow ρ x1 x2) (fun r s => kk r (mix σ s)) := by
  rw [rm_fX11_getsNow σ ρ x1 x2 , obp_mp]
theorem rm_fX11_gets (σ : S0)   (ρ : S0) (x1 : Int32) (x2 : Int32)  : fX11_gets  (mix σ ρ) x1 x2 = mp σ (fX11_gets  ρ x1 x2) := by
  simp (disch := omega) only [fX11_gets, ↓ol_n, ↓oh_su, ↓oh_up, ↓mp_ol, ↓mp_obp, ↓mp_og, ↓mp_ite, ↓om_fX11_isHouse, ↓om_fX11_isTune, ↓om_fX11_getsNow, mix_hi, mp_some, mp_none, rm_fX11_isHouse, rm_fX11_isTune, rm_fX11_getsNow]
theorem rm_fX11_wageOf (σ : S0)   (ρ : S0) (x1 : Int32)  : fX11_wageOf  (mix σ ρ) x1 = mp σ (fX11_wageOf  ρ x1) := by
  simp (disch := omega) only [fX11_wageOf, ↓ol_n, ↓oh_su, ↓oh_up, ↓mp_ol, ↓mp_obp, ↓mp_og, ↓mp_ite, ↓om_fX11_takenNow, ↓om_fX11_getsNow, mix_hi, mp_some, mp_none, rm_fX11_takenNow, rm_fX11_getsNow]
theorem om_fX11_wageOf (σ : S0) (ρ : S0) (x1 : Int32)  (kk : Int32 → S0 → Option (Int32 × S0)) : obp (fX11_wageOf (mix σ ρ) x1) kk = obp (fX11_wageOf ρ x1) (fun r s => kk r (mix σ s)) := by
  rw [rm_fX11_wageOf σ ρ x1 , obp_mp]
theorem rm_fX11_wage (σ : S0)   (ρ : S0) (x1 : Int32)  : fX11_wage  (mix σ ρ) x1 = mp σ (fX11_wage  ρ x1) := by
  simp (disch := omega) only [fX11_wage, ↓ol_n, ↓oh_su, ↓oh_up, ↓mp_ol, ↓mp_obp, ↓mp_og, ↓mp_ite, ↓om_fX11_isHouse, ↓om_fX11_wageOf, mix_hi, mp_some, mp_none, rm_fX11_isHouse, rm_fX11_wageOf]
theorem rm_fX11_asks_b39 (σ : S0) (sf_2 : S0 → Int32 → Int32 → Int32 → Option (Int32 × S0)) (hsf_2 : ∀ (ρ : S0) (a0 : Int32) (a1 : Int32) (a2 : Int32), sf_2 (mix σ ρ) a0 a1 a2 = mp σ (sf_2 ρ a0 a1 a2)) (ρ : S0) (x1 : Int32) (x2 : Int32) (x3 : Int32) (t0 : Int32) (t1 : Int32)  : fX11_asks_b39 sf_2 (mix σ ρ) x1 x2 x3 t0 t1 = mp σ (fX11_asks_b39 sf_2 ρ x1 x2 x3 t0 t1) := by
  simp (disch := omega) only [fX11_asks_b39, ↓ol_n, ↓oh_su, ↓oh_up, ↓mp_ol, ↓mp_obp, ↓mp_og, ↓mp_ite, mix_hi, mp_some, mp_none, hsf_2]
theorem rm_fX11_asks_b2 (σ : S0) (sf_2 : S0 → Int32 → Int32 → Int32 → Option (Int32 × S0)) (hsf_2 : ∀ (ρ : S0) (a0 : Int32) (a1 : Int32) (a2 : Int32), sf_2 (mix σ ρ) a0 a1 a2 = mp σ (sf_2 ρ a0 a1 a2)) (ρ : S0) (x1 : Int32) (x2 : Int32) (x3 : Int32)  : fX11_asks_b2 sf_2 (mix σ ρ) x1 x2 x3 = mp σ (fX11_asks_b2 sf_2 ρ x1 x2 x3) := by
  simp (disch := omega) only [fX11_asks_b2, ↓ol_n, ↓oh_su, ↓oh_up, ↓mp_ol, ↓mp_obp, ↓mp_og, ↓mp_ite, ↓om_fX11_of, mix_hi, mp_some, mp_none, hsf_2, rm_fX11_of, rm_fX11_asks_b39]
theorem rm_fX11_asks_h2 (σ : S0)   : ∀ (n : Nat) (ρ : S0) (x1 : Int32) (x2 : Int32) (x3 : Int32), fX11_asks_h2  n (mix σ ρ) x1 x2 x3 = mp σ (fX11_asks_h2  n ρ x1 x2 x3)
  | 0, _, _, _, _ => rfl
  | n + 1, ρ, x1, x2, x3 => rm_fX11_asks_b2 σ  (fX11_asks_h2  n)  (rm_fX11_asks_h2 σ   n) ρ x1 x2 x3 
theorem rm_fX11_asks (σ : S0)   (ρ : S0) (x1 : Int32) (x2 : Int32)  : fX11_asks  (mix σ ρ) x1 x2 = mp σ (fX11_asks  ρ x1 x2) := by
  simp (disch := omega) only [fX11_asks, ↓ol_n, ↓oh_su, ↓oh_up, ↓mp_ol, ↓mp_obp, ↓mp_og, ↓mp_ite, mix_hi, mp_some, mp_none, rm_fX11_asks_h2]
theorem om_fX11_asks (σ : S0) (ρ : S0) (x1 : Int32) (x2 : Int32)  (kk : Int32 → S0 → Option (Int32 × S0)) : obp (fX11_asks (mix σ ρ) x1 x2) kk = obp (fX11_asks ρ x1 x2) (fun r s => kk r (mix σ s)) := by
  rw [rm_fX11_asks σ ρ x1 x2 , obp_mp]
theorem rm_fX11_askOf_b43 (σ : S0) (sf_43 : S0 → Int32 → Int32 → Option (Int32 × S0)) (hsf_43 : ∀ (ρ : S0) (a0 : Int32) (a1 : Int32), sf_43 (mix σ ρ) a0 a1 = mp σ (sf_43 ρ a0 a1)) (ρ : S0) (x3 : Int32) (x4 : Int32)  : fX11_askOf_b43 sf_43 (mix σ ρ) x3 x4 = mp σ (fX11_askOf_b43 sf_43 ρ x3 x4) := by
  simp (disch := omega) only [fX11_askOf_b43, ↓ol_n, ↓oh_su, ↓oh_up, ↓mp_ol, ↓mp_obp, ↓mp_og, ↓mp_ite, mix_hi, mp_some, mp_none, hsf_43]
theorem rm_fX11_askOf_h43 (σ : S0)   : ∀ (n : Nat) (ρ : S0) (x3 : Int32) (x4 : Int32), fX11_askOf_h43  n (mix σ ρ) x3 x4 = mp σ (fX11_askOf_h43  n ρ x3 x4)
  | 0, _, _, _ => rfl
  | n + 1, ρ, x3, x4 => rm_fX11_askOf_b43 σ  (fX11_askOf_h43  n)  (rm_fX11_askOf_h43 σ   n) ρ x3 x4 
theorem rm_fX11_askOf_b2 (σ : S0) (sf_2 : S0 → Int32 → Int32 → Int32 → Option (Int32 × S0)) (hsf_2 : ∀ (ρ : S0) (a0 : Int32) (a1 : Int32) (a2 : Int32), sf_2 (mix σ ρ) a0 a1 a2 = mp σ (sf_2 ρ a0 a1 a2)) (ρ : S0) (x1 : Int32) (x2 : Int32) (x3 : Int32)  : fX11_askOf_b2 sf_2 (mix σ ρ) x1 x2 x3 = mp σ (fX11_askOf_b2 sf_2 ρ x1 x2 x3) := by
  simp (disch := omega) only [fX11_askOf_b2, ↓ol_n, ↓oh_su, ↓oh_up, ↓mp_ol, ↓mp_obp, ↓mp_og, ↓mp_ite, ↓om_fX11_asks, ↓om_fX11_wageOf, ↓om_fX11_of, mix_hi, mp_some, mp_none, hsf_2, rm_fX11_asks, rm_fX11_wageOf, rm_fX11_askOf_h43, rm_fX11_of]
theorem rm_fX11_askOf_h2 (σ : S0)   : ∀ (n : Nat) (ρ : S0) (x1 : Int32) (x2 : Int32) (x3 : Int32), fX11_askOf_h2  n (mix σ ρ) x1 x2 x3 = mp σ (fX11_askOf_h2  n ρ x1 x2 x3)
  | 0, _, _, _, _ => rfl
  | n + 1, ρ, x1, x2, x3 => rm_fX11_askOf_b2 σ  (fX11_askOf_h2  n)  (rm_fX11_askOf_h2 σ   n) ρ x1 x2 x3 
theorem rm_fX11_askOf (σ : S0)   (ρ : S0) (x1 : Int32) (x2 : Int32)  : fX11_askOf  (mix σ ρ) x1 x2 = mp σ (fX11_askOf  ρ x1 x2) := by
  simp (disch := omega) only [fX11_askOf, ↓ol_n, ↓oh_su, ↓oh_up, ↓mp_ol, ↓mp_obp, ↓mp_og, ↓mp_ite, mix_hi, mp_some, mp_none, rm_fX11_askOf_h2]
theorem om_fX11_askOf (σ : S0) (ρ : S0) (x1 : Int32) (x2 : Int32)  (kk : Int32 → S0 → Option (Int32 × S0)) : obp (fX11_askOf (mix σ ρ) x1 x2) kk = obp (fX11_askOf ρ x1 x2) (fun r s => kk r (mix σ s)) := by
  rw [rm_fX11_askOf σ ρ x1 x2 , obp_mp]
