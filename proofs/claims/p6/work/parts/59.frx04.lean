theorem rx_fX5_readWiths_h2 (ρ : S0)   : ∀ (n : Nat) (σ : S0) (x1 : Nat) (x2 : Int32) (x3 : Int32), x1 < 83 → fX5_readWiths_h2  n (mix σ ρ) x1 x2 x3 = mo ρ (fX5_readWiths_h2  n σ x1 x2 x3)
  | 0, _, _, _, _ => fun _ => rfl
  | n + 1, σ, x1, x2, x3 => fun cx1 => rx_fX5_readWiths_b2 ρ  (fX5_readWiths_h2  n)  (rx_fX5_readWiths_h2 ρ   n) σ x1 x2 x3 cx1
theorem rx_fX5_readWiths (ρ : S0)   (σ : S0) (k1 : Nat) (x2 : Int32) (ck1 : k1 < 83) : fX5_readWiths  (mix σ ρ) k1 x2 = mo ρ (fX5_readWiths  σ k1 x2) := by
  simp (disch := omega) only [fX5_readWiths, ↓ol_n, ↓ol_su, ↓ol_up, ↓mo_ol, ↓mo_obp, ↓mo_og, ↓mo_ite, mix_lo, mo_some, mo_none, rx_fX5_readWiths_h2]
theorem ox_fX5_readWiths (ρ : S0) (σ : S0) (k1 : Nat) (x2 : Int32) (ck1 : k1 < 83) (kk : Int32 → S0 → Option (Int32 × S0)) : obp (fX5_readWiths (mix σ ρ) k1 x2) kk = obp (fX5_readWiths σ k1 x2) (fun r s => kk r (mix s ρ)) := by
  rw [rx_fX5_readWiths ρ σ k1 x2 ck1, obp_mo]
theorem rx_fX5_readBell (ρ : S0)   (σ : S0)   : fX5_readBell  (mix σ ρ)  = mo ρ (fX5_readBell  σ ) := by
  simp (disch := omega) only [fX5_readBell, ↓ol_n, ↓ol_su, ↓ol_up, ↓mo_ol, ↓mo_obp, ↓mo_og, ↓mo_ite, ↓ox_fX5_nextNumber, ↓ox_fX5_advance, ↓ox_fX5_readWiths, ↓ox_fX5_endLine, ↓ox_fX5_refuse, mix_lo, mo_some, mo_none, rx_fX5_nextNumber, rx_fX5_advance, rx_fX5_readWiths, rx_fX5_endLine, rx_fX5_refuse]
theorem ox_fX5_readBell (ρ : S0) (σ : S0)   (kk : Int32 → S0 → Option (Int32 × S0)) : obp (fX5_readBell (mix σ ρ) ) kk = obp (fX5_readBell σ ) (fun r s => kk r (mix s ρ)) := by
  rw [rx_fX5_readBell ρ σ  , obp_mo]
theorem rx_fX5_readStrokes_b25 (ρ : S0) (sf_2 : S0 → Int32 → Int32 → Option (Int32 × S0)) (hsf_2 : ∀ (σ : S0) (a0 : Int32) (a1 : Int32), sf_2 (mix σ ρ) a0 a1 = mo ρ (sf_2 σ a0 a1)) (σ : S0) (x1 : Int32) (x2 : Int32)  : fX5_readStrokes_b25 sf_2 (mix σ ρ) x1 x2 = mo ρ (fX5_readStrokes_b25 sf_2 σ x1 x2) := by
  by_cases g0 : (x1 < 0 ∨ 6 ≤ x1.toNatClampNeg)
  · simp (disch := omega) only [fX5_readStrokes_b25, ↓ol_n, ↓ol_su, ↓ol_up, ↓mo_ol, ↓mo_obp, ↓mo_og, ↓mo_ite, ↓ox_fX5_faultOfNumber, ↓ox_fX5_advance, ↓ox_fX5_refuse, mix_lo, mo_some, mo_none, hsf_2, rx_fX5_faultOfNumber, rx_fX5_advance, rx_fX5_refuse, og_g g0]
  · have h0 : x1.toNatClampNeg < 6 := by omega
    simp (disch := omega) only [fX5_readStrokes_b25, ↓ol_n, ↓ol_su, ↓ol_up, ↓mo_ol, ↓mo_obp, ↓mo_og, ↓mo_ite, ↓ox_fX5_faultOfNumber, ↓ox_fX5_advance, ↓ox_fX5_refuse, mix_lo, mo_some, mo_none, hsf_2, rx_fX5_faultOfNumber, rx_fX5_advance, rx_fX5_refuse]
theorem rx_fX5_readStrokes_b2 (ρ : S0) (sf_2 : S0 → Int32 → Int32 → Option (Int32 × S0)) (hsf_2 : ∀ (σ : S0) (a0 : Int32) (a1 : Int32), sf_2 (mix σ ρ) a0 a1 = mo ρ (sf_2 σ a0 a1)) (σ : S0) (x1 : Int32) (x2 : Int32)  : fX5_readStrokes_b2 sf_2 (mix σ ρ) x1 x2 = mo ρ (fX5_readStrokes_b2 sf_2 σ x1 x2) := by
  simp (disch := omega) only [fX5_readStrokes_b2, ↓ol_n, ↓ol_su, ↓ol_up, ↓mo_ol, ↓mo_obp, ↓mo_og, ↓mo_ite, mix_lo, mo_some, mo_none, hsf_2, rx_fX5_readStrokes_b25]
theorem rx_fX5_readStrokes_h2 (ρ : S0)   : ∀ (n : Nat) (σ : S0) (x1 : Int32) (x2 : Int32), fX5_readStrokes_h2  n (mix σ ρ) x1 x2 = mo ρ (fX5_readStrokes_h2  n σ x1 x2)
  | 0, _, _, _ => rfl
  | n + 1, σ, x1, x2 => rx_fX5_readStrokes_b2 ρ  (fX5_readStrokes_h2  n)  (rx_fX5_readStrokes_h2 ρ   n) σ x1 x2 
theorem rx_fX5_readStrokes (ρ : S0)   (σ : S0) (x1 : Int32)  : fX5_readStrokes  (mix σ ρ) x1 = mo ρ (fX5_readStrokes  σ x1) := by
  simp (disch := omega) only [fX5_readStrokes, ↓ol_n, ↓ol_su, ↓ol_up, ↓mo_ol, ↓mo_obp, ↓mo_og, ↓mo_ite, mix_lo, mo_some, mo_none, rx_fX5_readStrokes_h2]
theorem ox_fX5_readStrokes (ρ : S0) (σ : S0) (x1 : Int32)  (kk : Int32 → S0 → Option (Int32 × S0)) : obp (fX5_readStrokes (mix σ ρ) x1) kk = obp (fX5_readStrokes σ x1) (fun r s => kk r (mix s ρ)) := by
  rw [rx_fX5_readStrokes ρ σ x1 , obp_mo]
theorem rx_fX5_readTune (ρ : S0)   (σ : S0)   : fX5_readTune  (mix σ ρ)  = mo ρ (fX5_readTune  σ ) := by
  simp (disch := omega) only [fX5_readTune, ↓ol_n, ↓ol_su, ↓ol_up, ↓mo_ol, ↓mo_obp, ↓mo_og, ↓mo_ite, ↓ox_fX5_nextNumber, ↓ox_fX5_advance, ↓ox_fX5_readStrokes, ↓ox_fX5_endLine, ↓ox_fX5_refuse, mix_lo, mo_some, mo_none, rx_fX5_nextNumber, rx_fX5_advance, rx_fX5_readStrokes, rx_fX5_endLine, rx_fX5_refuse]
theorem ox_fX5_readTune (ρ : S0) (σ : S0)   (kk : Int32 → S0 → Option (Int32 × S0)) : obp (fX5_readTune (mix σ ρ) ) kk = obp (fX5_readTune σ ) (fun r s => kk r (mix s ρ)) := by
  rw [rx_fX5_readTune ρ σ  , obp_mo]
theorem rx_fX5_readFeud (ρ : S0)   (σ : S0)   : fX5_readFeud  (mix σ ρ)  = mo ρ (fX5_readFeud  σ ) := by
  simp (disch := omega) only [fX5_readFeud, ↓ol_n, ↓ol_su, ↓ol_up, ↓mo_ol, ↓mo_obp, ↓mo_og, ↓mo_ite, ↓ox_fX5_nextNumber, ↓ox_fX1_setFoes, ↓ox_fX5_advance, ↓ox_fX5_endLine, ↓ox_fX5_refuse, mix_lo, mo_some, mo_none, rx_fX5_nextNumber, rx_fX1_setFoes, rx_fX5_advance, rx_fX5_endLine, rx_fX5_refuse]
theorem ox_fX5_readFeud (ρ : S0) (σ : S0)   (kk : Int32 → S0 → Option (Int32 × S0)) : obp (fX5_readFeud (mix σ ρ) ) kk = obp (fX5_readFeud σ ) (fun r s => kk r (mix s ρ)) := by
  rw [rx_fX5_readFeud ρ σ  , obp_mo]
theorem rx_fX5_readLine (ρ : S0)   (σ : S0)   : fX5_readLine  (mix σ ρ)  = mo ρ (fX5_readLine  σ ) := by
  simp (disch := omega) only [fX5_readLine, ↓ol_n, ↓ol_su, ↓ol_up, ↓mo_ol, ↓mo_obp, ↓mo_og, ↓mo_ite, ↓ox_fX8_isName, ↓ox_fX5_refuse, ↓ox_fX5_readFeud, ↓ox_fX5_readTune, ↓ox_fX5_readBell, ↓ox_fX5_readGap, ↓ox_fX5_readHouses, mix_lo, mo_some, mo_none, rx_fX8_isName, rx_fX5_refuse, rx_fX5_readFeud, rx_fX5_readTune, rx_fX5_readBell, rx_fX5_readGap, rx_fX5_readHouses]
theorem ox_fX5_readLine (ρ : S0) (σ : S0)   (kk : Int32 → S0 → Option (Int32 × S0)) : obp (fX5_readLine (mix σ ρ) ) kk = obp (fX5_readLine σ ) (fun r s => kk r (mix s ρ)) := by
  rw [rx_fX5_readLine ρ σ  , obp_mo]
theorem rx_fX5_readAll_b104 (ρ : S0)   (σ : S0)   : fX5_readAll_b104  (mix σ ρ)  = mo ρ (fX5_readAll_b104  σ ) := by
  simp (disch := omega) only [fX5_readAll_b104, ↓ol_n, ↓ol_su, ↓ol_up, ↓mo_ol, ↓mo_obp, ↓mo_og, ↓mo_ite, mix_lo, mo_some, mo_none]
theorem rx_fX5_readAll_b81 (ρ : S0)   (σ : S0) (x1 : Int32)  : fX5_readAll_b81  (mix σ ρ) x1 = mo ρ (fX5_readAll_b81  σ x1) := by
  simp (disch := omega) only [fX5_readAll_b81, ↓ol_n, ↓ol_su, ↓ol_up, ↓mo_ol, ↓mo_obp, ↓mo_og, ↓mo_ite, ↓ox_fX9_isWhole, ↓ox_fX5_refuse, mix_lo, mo_some, mo_none, rx_fX9_isWhole, rx_fX5_readAll_b104, rx_fX5_refuse]
theorem rx_fX5_readAll_b39 (ρ : S0) (sf_39 : S0 → Int32 → Option (Int32 × S0)) (hsf_39 : ∀ (σ : S0) (a0 : Int32), sf_39 (mix σ ρ) a0 = mo ρ (sf_39 σ a0)) (σ : S0) (x1 : Int32)  : fX5_readAll_b39 sf_39 (mix σ ρ) x1 = mo ρ (fX5_readAll_b39 sf_39 σ x1) := by
  simp (disch := omega) only [fX5_readAll_b39, ↓ol_n, ↓ol_su, ↓ol_up, ↓mo_ol, ↓mo_obp, ↓mo_og, ↓mo_ite, ↓ox_fX5_readLine, mix_lo, mo_some, mo_none, hsf_39, rx_fX5_readAll_b81, rx_fX5_readLine]
theorem rx_fX5_readAll_h39 (ρ : S0)   : ∀ (n : Nat) (σ : S0) (x1 : Int32), fX5_readAll_h39  n (mix σ ρ) x1 = mo ρ (fX5_readAll_h39  n σ x1)
  | 0, _, _ => rfl
  | n + 1, σ, x1 => rx_fX5_readAll_b39 ρ  (fX5_readAll_h39  n)  (rx_fX5_readAll_h39 ρ   n) σ x1 
theorem rx_fX5_readAll (ρ : S0)   (σ : S0)   : fX5_readAll  (mix σ ρ)  = mo ρ (fX5_readAll  σ ) := by
  simp (disch := omega) only [fX5_readAll, ↓ol_n, ↓ol_su, ↓ol_up, ↓mo_ol, ↓mo_obp, ↓mo_og, ↓mo_ite, ↓ox_fX9_empty, ↓ox_fX8_rewind, ↓ox_fX5_advance, mix_lo, mo_some, mo_none, rx_fX9_empty, rx_fX8_rewind, rx_fX5_advance, rx_fX5_readAll_h39]
theorem ox_fX5_readAll (ρ : S0) (σ : S0)   (kk : Int32 → S0 → Option (Int32 × S0)) : obp (fX5_readAll (mix σ ρ) ) kk = obp (fX5_readAll σ ) (fun r s => kk r (mix s ρ)) := by
  rw [rx_fX5_readAll ρ σ  , obp_mo]
theorem rx_fX10_feed (ρ : S0)   (σ : S0) (x1 : Int64)  : fX10_feed  (mix σ ρ) x1 = mo ρ (fX10_feed  σ x1) := by
  simp (disch := omega) only [fX10_feed, ↓ol_n, ↓ol_su, ↓ol_up, ↓mo_ol, ↓mo_obp, ↓mo_og, ↓mo_ite, ↓ox_fX8_append, mix_lo, mo_some, mo_none, rx_fX8_append]
theorem rx_fX10_end (ρ : S0)   (σ : S0) (x1 : Int32)  : fX10_end  (mix σ ρ) x1 = mo ρ (fX10_end  σ x1) := by
  simp (disch := omega) only [fX10_end, ↓ol_n, ↓ol_su, ↓ol_up, ↓mo_ol, ↓mo_obp, ↓mo_og, ↓mo_ite, mix_lo, mo_some, mo_none]
theorem rx_fX10_text_b47 (ρ : S0) (sf_47 : S0 → Int32 → Option (Int32 × S0)) (hsf_47 : ∀ (σ : S0) (a0 : Int32), sf_47 (mix σ ρ) a0 = mo ρ (sf_47 σ a0)) (σ : S0) (x2 : Int32)  : fX10_text_b47 sf_47 (mix σ ρ) x2 = mo ρ (fX10_text_b47 sf_47 σ x2) := by
  simp (disch := omega) only [fX10_text_b47, ↓ol_n, ↓ol_su, ↓ol_up, ↓mo_ol, ↓mo_obp, ↓mo_og, ↓mo_ite, mix_lo, mo_some, mo_none, hsf_47]
theorem rx_fX10_text_h47 (ρ : S0)   : ∀ (n : Nat) (σ : S0) (x2 : Int32), fX10_text_h47  n (mix σ ρ) x2 = mo ρ (fX10_text_h47  n σ x2)
  | 0, _, _ => rfl
  | n + 1, σ, x2 => rx_fX10_text_b47 ρ  (fX10_text_h47  n)  (rx_fX10_text_h47 ρ   n) σ x2 
theorem rx_fX10_text (ρ : S0)   (σ : S0)   : fX10_text  (mix σ ρ)  = mo ρ (fX10_text  σ ) := by
  simp (disch := omega) only [fX10_text, ↓ol_n, ↓ol_su, ↓ol_up, ↓mo_ol, ↓mo_obp, ↓mo_og, ↓mo_ite, ↓ox_fX5_readAll, ↓ox_fX9_copyFrom, mix_lo, mo_some, mo_none, rx_fX5_readAll, rx_fX9_copyFrom, rx_fX10_text_h47]
theorem rx_fX10_fault (ρ : S0)   (σ : S0)   : fX10_fault  (mix σ ρ)  = mo ρ (fX10_fault  σ ) := by
  simp (disch := omega) only [fX10_fault, ↓ol_n, ↓ol_su, ↓ol_up, ↓mo_ol, ↓mo_obp, ↓mo_og, ↓mo_ite, mix_lo, mo_some, mo_none]
theorem rx_fX10_rule (ρ : S0)   (σ : S0) (x1 : Int32)  : fX10_rule  (mix σ ρ) x1 = mo ρ (fX10_rule  σ x1) := by
  simp (disch := omega) only [fX10_rule, ↓ol_n, ↓ol_su, ↓ol_up, ↓mo_ol, ↓mo_obp, ↓mo_og, ↓mo_ite, mix_lo, mo_some, mo_none]
theorem rx_fX10_bell (ρ : S0)   (σ : S0) (x1 : Int32) (x2 : Int32)  : fX10_bell  (mix σ ρ) x1 x2 = mo ρ (fX10_bell  σ x1 x2) := by
  simp (disch := omega) only [fX10_bell, ↓ol_n, ↓ol_su, ↓ol_up, ↓mo_ol, ↓mo_obp, ↓mo_og, ↓mo_ite, ↓ox_fX1_hasBell, mix_lo, mo_some, mo_none, rx_fX1_hasBell]
theorem rx_fX10_tune (ρ : S0)   (σ : S0) (x1 : Int32) (x2 : Int32)  : fX10_tune  (mix σ ρ) x1 x2 = mo ρ (fX10_tune  σ x1 x2) := by
  by_cases g0 : (x1 < 0 ∨ 6 ≤ x1.toNatClampNeg)
  · simp (disch := omega) only [fX10_tune, ↓ol_n, ↓ol_su, ↓ol_up, ↓mo_ol, ↓mo_obp, ↓mo_og, ↓mo_ite, ↓ox_fX9_hasTune, ↓ox_fX9_asksStroke, mix_lo, mo_some, mo_none, rx_fX9_hasTune, rx_fX9_asksStroke, og_g g0]
  · have h0 : x1.toNatClampNeg < 6 := by omega
    simp (disch := omega) only [fX10_tune, ↓ol_n, ↓ol_su, ↓ol_up, ↓mo_ol, ↓mo_obp, ↓mo_og, ↓mo_ite, ↓ox_fX9_hasTune, ↓ox_fX9_asksStroke, mix_lo, mo_some, mo_none, rx_fX9_hasTune, rx_fX9_asksStroke]
theorem rx_fX10_feuds (ρ : S0)   (σ : S0) (x1 : Int32)  : fX10_feuds  (mix σ ρ) x1 = mo ρ (fX10_feuds  σ x1) := by
  simp (disch := omega) only [fX10_feuds, ↓ol_n, ↓ol_su, ↓ol_up, ↓mo_ol, ↓mo_obp, ↓mo_og, ↓mo_ite, ↓ox_fX9_hasHouse, mix_lo, mo_some, mo_none, rx_fX9_hasHouse]
theorem rx_fX10_isFee (ρ : S0)   (σ : S0) (x0 : Int32)  : fX10_isFee  (mix σ ρ) x0 = mo ρ (fX10_isFee  σ x0) := by
  simp (disch := omega) only [fX10_isFee, ↓ol_n, ↓ol_su, ↓ol_up, ↓mo_ol, ↓mo_obp, ↓mo_og, ↓mo_ite, mix_lo, mo_some, mo_none]
theorem ox_fX10_isFee (ρ : S0) (σ : S0) (x0 : Int32)  (kk : Int32 → S0 → Option (Int32 × S0)) : obp (fX10_isFee (mix σ ρ) x0) kk = obp (fX10_isFee σ x0) (fun r s => kk r (mix s ρ)) := by
  rw [rx_fX10_isFee ρ σ x0 , obp_mo]
theorem rx_fX10_fee (ρ : S0)   (σ : S0) (x1 : Int32) (x2 : Int32)  : fX10_fee  (mix σ ρ) x1 x2 = mo ρ (fX10_fee  σ x1 x2) := by
  simp (disch := omega) only [fX10_fee, ↓ol_n, ↓ol_su, ↓ol_up, ↓mo_ol, ↓mo_obp, ↓mo_og, ↓mo_ite, ↓ox_fX1_hasBell, ↓ox_fX10_isFee, mix_lo, mo_some, mo_none, rx_fX1_hasBell, rx_fX10_isFee]
theorem rx_fX10_shut_b40 (ρ : S0)   (σ : S0) (x3 : Int32) (t0 : Int32) (t1 : Int32)  : fX10_shut_b40  (mix σ ρ) x3 t0 t1 = mo ρ (fX10_shut_b40  σ x3 t0 t1) := by
  simp (disch := omega) only [fX10_shut_b40, ↓ol_n, ↓ol_su, ↓ol_up, ↓mo_ol, ↓mo_obp, ↓mo_og, ↓mo_ite, mix_lo, mo_some, mo_none]
theorem rx_fX10_shut (ρ : S0)   (σ : S0) (x1 : Int32) (x2 : Int32)  : fX10_shut  (mix σ ρ) x1 x2 = mo ρ (fX10_shut  σ x1 x2) := by
  simp (disch := omega) only [fX10_shut, ↓ol_n, ↓ol_su, ↓ol_up, ↓mo_ol, ↓mo_obp, ↓mo_og, ↓mo_ite, ↓ox_fX1_hasBell, mix_lo, mo_some, mo_none, rx_fX1_hasBell, rx_fX10_shut_b40]
theorem rx_fX10_sell (ρ : S0)   (σ : S0) (x1 : Int32) (x2 : Int32)  : fX10_sell  (mix σ ρ) x1 x2 = mo ρ (fX10_sell  σ x1 x2) := by
  simp (disch := omega) only [fX10_sell, ↓ol_n, ↓ol_su, ↓ol_up, ↓mo_ol, ↓mo_obp, ↓mo_og, ↓mo_ite, ↓ox_fX1_hasBell, ↓ox_fX9_hasHouse, mix_lo, mo_some, mo_none, rx_fX1_hasBell, rx_fX9_hasHouse]
theorem rx_fX10_half_b30 (ρ : S0)   (σ : S0) (x1 : Int32) (x2 : Int32)  : fX10_half_b30  (mix σ ρ) x1 x2 = mo ρ (fX10_half_b30  σ x1 x2) := by
  simp (disch := omega) only [fX10_half_b30, ↓ol_n, ↓ol_su, ↓ol_up, ↓mo_ol, ↓mo_obp, ↓mo_og, ↓mo_ite, mix_lo, mo_some, mo_none]
theorem rx_fX10_half (ρ : S0)   (σ : S0) (x1 : Int32) (x2 : Int32)  : fX10_half  (mix σ ρ) x1 x2 = mo ρ (fX10_half  σ x1 x2) := by
  simp (disch := omega) only [fX10_half, ↓ol_n, ↓ol_su, ↓ol_up, ↓mo_ol, ↓mo_obp, ↓mo_og, ↓mo_ite, ↓ox_fX1_hasBell, ↓ox_fX9_hasHouse, mix_lo, mo_some, mo_none, rx_fX1_hasBell, rx_fX10_half_b30, rx_fX9_hasHouse]
theorem rx_fX10_feud_b46 (ρ : S0)   (σ : S0) (x1 : Int32) (x2 : Int32) (x3 : Int32) (t0 : Int32)  : fX10_feud_b46  (mix σ ρ) x1 x2 x3 t0 = mo ρ (fX10_feud_b46  σ x1 x2 x3 t0) := by
  simp (disch := omega) only [fX10_feud_b46, ↓ol_n, ↓ol_su, ↓ol_up, ↓mo_ol, ↓mo_obp, ↓mo_og, ↓mo_ite, ↓ox_fX1_setFoes, mix_lo, mo_some, mo_none, rx_fX1_setFoes]
theorem rx_fX10_feud (ρ : S0)   (σ : S0) (x1 : Int32) (x2 : Int32) (x3 : Int32)  : fX10_feud  (mix σ ρ) x1 x2 x3 = mo ρ (fX10_feud  σ x1 x2 x3) := by
  simp (disch := omega) only [fX10_feud, ↓ol_n, ↓ol_su, ↓ol_up, ↓mo_ol, ↓mo_obp, ↓mo_og, ↓mo_ite, ↓ox_fX9_hasHouse, ↓ox_fX1_areFoes, mix_lo, mo_some, mo_none, rx_fX9_hasHouse, rx_fX1_areFoes, rx_fX10_feud_b46]
theorem rx_fX10_feuding_b82 (ρ : S0) (sf_7 : S0 → Int32 → Int32 → Int32 → Option (Int32 × S0)) (sf_22 : S0 → Int32 → Int32 → Int32 → Int32 → Option (Int32 × S0)) (hsf_7 : ∀ (σ : S0) (a0 : Int32) (a1 : Int32) (a2 : Int32), sf_7 (mix σ ρ) a0 a1 a2 = mo ρ (sf_7 σ a0 a1 a2)) (hsf_22 : ∀ (σ : S0) (a0 : Int32) (a1 : Int32) (a2 : Int32) (a3 : Int32), sf_22 (mix σ ρ) a0 a1 a2 a3 = mo ρ (sf_22 σ a0 a1 a2 a3)) (σ : S0) (x2 : Int32) (x4 : Int32) (x5 : Int32) (t0 : Int32) (t1 : Int32)  : fX10_feuding_b82 sf_7 sf_22 (mix σ ρ) x2 x4 x5 t0 t1 = mo ρ (fX10_feuding_b82 sf_7 sf_22 σ x2 x4 x5 t0 t1) := by
  simp (disch := omega) only [fX10_feuding_b82, ↓ol_n, ↓ol_su, ↓ol_up, ↓mo_ol, ↓mo_obp, ↓mo_og, ↓mo_ite, mix_lo, mo_some, mo_none, hsf_7, hsf_22]
theorem rx_fX10_feuding_b56 (ρ : S0) (sf_7 : S0 → Int32 → Int32 → Int32 → Option (Int32 × S0)) (sf_22 : S0 → Int32 → Int32 → Int32 → Int32 → Option (Int32 × S0)) (hsf_7 : ∀ (σ : S0) (a0 : Int32) (a1 : Int32) (a2 : Int32), sf_7 (mix σ ρ) a0 a1 a2 = mo ρ (sf_7 σ a0 a1 a2)) (hsf_22 : ∀ (σ : S0) (a0 : Int32) (a1 : Int32) (a2 : Int32) (a3 : Int32), sf_22 (mix σ ρ) a0 a1 a2 a3 = mo ρ (sf_22 σ a0 a1 a2 a3)) (σ : S0) (x2 : Int32) (x3 : Int32) (x4 : Int32) (x5 : Int32) (t0 : Int32)  : fX10_feuding_b56 sf_7 sf_22 (mix σ ρ) x2 x3 x4 x5 t0 = mo ρ (fX10_feuding_b56 sf_7 sf_22 σ x2 x3 x4 x5 t0) := by
  simp (disch := omega) only [fX10_feuding_b56, ↓ol_n, ↓ol_su, ↓ol_up, ↓mo_ol, ↓mo_obp, ↓mo_og, ↓mo_ite, ↓ox_fX1_setFoes, mix_lo, mo_some, mo_none, hsf_7, hsf_22, rx_fX1_setFoes, rx_fX10_feuding_b82]
theorem rx_fX10_feuding_b22 (ρ : S0) (sf_7 : S0 → Int32 → Int32 → Int32 → Option (Int32 × S0)) (sf_22 : S0 → Int32 → Int32 → Int32 → Int32 → Option (Int32 × S0)) (hsf_7 : ∀ (σ : S0) (a0 : Int32) (a1 : Int32) (a2 : Int32), sf_7 (mix σ ρ) a0 a1 a2 = mo ρ (sf_7 σ a0 a1 a2)) (hsf_22 : ∀ (σ : S0) (a0 : Int32) (a1 : Int32) (a2 : Int32) (a3 : Int32), sf_22 (mix σ ρ) a0 a1 a2 a3 = mo ρ (sf_22 σ a0 a1 a2 a3)) (σ : S0) (x2 : Int32) (x3 : Int32) (x4 : Int32) (x5 : Int32)  : fX10_feuding_b22 sf_7 sf_22 (mix σ ρ) x2 x3 x4 x5 = mo ρ (fX10_feuding_b22 sf_7 sf_22 σ x2 x3 x4 x5) := by
  simp (disch := omega) only [fX10_feuding_b22, ↓ol_n, ↓ol_su, ↓ol_up, ↓mo_ol, ↓mo_obp, ↓mo_og, ↓mo_ite, mix_lo, mo_some, mo_none, hsf_7, hsf_22, rx_fX10_feuding_b56]
theorem rx_fX10_feuding_h22 (ρ : S0) (sf_7 : S0 → Int32 → Int32 → Int32 → Option (Int32 × S0)) (hsf_7 : ∀ (σ : S0) (a0 : Int32) (a1 : Int32) (a2 : Int32), sf_7 (mix σ ρ) a0 a1 a2 = mo ρ (sf_7 σ a0 a1 a2)) : ∀ (n : Nat) (σ : S0) (x2 : Int32) (x3 : Int32) (x4 : Int32) (x5 : Int32), fX10_feuding_h22 sf_7 n (mix σ ρ) x2 x3 x4 x5 = mo ρ (fX10_feuding_h22 sf_7 n σ x2 x3 x4 x5)
  | 0, _, _, _, _, _ => rfl
  | n + 1, σ, x2, x3, x4, x5 => rx_fX10_feuding_b22 ρ sf_7 (fX10_feuding_h22 sf_7 n) hsf_7 (rx_fX10_feuding_h22 ρ sf_7 hsf_7 n) σ x2 x3 x4 x5 
theorem rx_fX10_feuding_b7 (ρ : S0) (sf_7 : S0 → Int32 → Int32 → Int32 → Option (Int32 × S0)) (hsf_7 : ∀ (σ : S0) (a0 : Int32) (a1 : Int32) (a2 : Int32), sf_7 (mix σ ρ) a0 a1 a2 = mo ρ (sf_7 σ a0 a1 a2)) (σ : S0) (x2 : Int32) (x3 : Int32) (x4 : Int32)  : fX10_feuding_b7 sf_7 (mix σ ρ) x2 x3 x4 = mo ρ (fX10_feuding_b7 sf_7 σ x2 x3 x4) := by
  simp (disch := omega) only [fX10_feuding_b7, ↓ol_n, ↓ol_su, ↓ol_up, ↓mo_ol, ↓mo_obp, ↓mo_og, ↓mo_ite, mix_lo, mo_some, mo_none, hsf_7, rx_fX10_feuding_h22]
theorem rx_fX10_feuding_h7 (ρ : S0)   : ∀ (n : Nat) (σ : S0) (x2 : Int32) (x3 : Int32) (x4 : Int32), fX10_feuding_h7  n (mix σ ρ) x2 x3 x4 = mo ρ (fX10_feuding_h7  n σ x2 x3 x4)
  | 0, _, _, _, _ => rfl
  | n + 1, σ, x2, x3, x4 => rx_fX10_feuding_b7 ρ  (fX10_feuding_h7  n)  (rx_fX10_feuding_h7 ρ   n) σ x2 x3 x4 
theorem rx_fX10_feuding (ρ : S0)   (σ : S0) (x1 : Int32)  : fX10_feuding  (mix σ ρ) x1 = mo ρ (fX10_feuding  σ x1) := by
  simp (disch := omega) only [fX10_feuding, ↓ol_n, ↓ol_su, ↓ol_up, ↓mo_ol, ↓mo_obp, ↓mo_og, ↓mo_ite, mix_lo, mo_some, mo_none, rx_fX10_feuding_h7]
theorem rx_fX10_ring (ρ : S0)   (σ : S0) (x1 : Int32) (x2 : Int32)  : fX10_ring  (mix σ ρ) x1 x2 = mo ρ (fX10_ring  σ x1 x2) := by
  simp (disch := omega) only [fX10_ring, ↓ol_n, ↓ol_su, ↓ol_up, ↓mo_ol, ↓mo_obp, ↓mo_og, ↓mo_ite, ↓ox_fX9_hasTune, ↓ox_fX6_play, mix_lo, mo_some, mo_none, rx_fX9_hasTune, rx_fX6_play]
theorem rx_fX10_taken (ρ : S0)   (σ : S0)   : fX10_taken  (mix σ ρ)  = mo ρ (fX10_taken  σ ) := by
  simp (disch := omega) only [fX10_taken, ↓ol_n, ↓ol_su, ↓ol_up, ↓mo_ol, ↓mo_obp, ↓mo_og, ↓mo_ite, ↓ox_fX6_tuneTaken, mix_lo, mo_some, mo_none, rx_fX6_tuneTaken]
theorem rx_fX10_gets (ρ : S0)   (σ : S0) (x1 : Int32) (x2 : Int32)  : fX10_gets  (mix σ ρ) x1 x2 = mo ρ (fX10_gets  σ x1 x2) := by
  simp (disch := omega) only [fX10_gets, ↓ol_n, ↓ol_su, ↓ol_up, ↓mo_ol, ↓mo_obp, ↓mo_og, ↓mo_ite, ↓ox_fX9_hasHouse, ↓ox_fX9_hasTune, ↓ox_fX6_shareOf, mix_lo, mo_some, mo_none, rx_fX9_hasHouse, rx_fX9_hasTune, rx_fX6_shareOf]
theorem rx_fX10_wage (ρ : S0)   (σ : S0) (x1 : Int32)  : fX10_wage  (mix σ ρ) x1 = mo ρ (fX10_wage  σ x1) := by
  simp (disch := omega) only [fX10_wage, ↓ol_n, ↓ol_su, ↓ol_up, ↓mo_ol, ↓mo_obp, ↓mo_og, ↓mo_ite, ↓ox_fX9_hasHouse, ↓ox_fX6_wageOf, mix_lo, mo_some, mo_none, rx_fX9_hasHouse, rx_fX6_wageOf]
theorem rx_fX10_ask (ρ : S0)   (σ : S0) (x1 : Int32) (x2 : Int32)  : fX10_ask  (mix σ ρ) x1 x2 = mo ρ (fX10_ask  σ x1 x2) := by
  simp (disch := omega) only [fX10_ask, ↓ol_n, ↓ol_su, ↓ol_up, ↓mo_ol, ↓mo_obp, ↓mo_og, ↓mo_ite, ↓ox_fX9_hasHouse, ↓ox_fX10_isFee, ↓ox_fX0_weigh, ↓ox_fX0_bringsAt, mix_lo, mo_some, mo_none, rx_fX9_hasHouse, rx_fX10_isFee, rx_fX0_weigh, rx_fX0_bringsAt]
theorem rx_fX10_best (ρ : S0)   (σ : S0) (x1 : Int32) (x2 : Int32)  : fX10_best  (mix σ ρ) x1 x2 = mo ρ (fX10_best  σ x1 x2) := by
  simp (disch := omega) only [fX10_best, ↓ol_n, ↓ol_su, ↓ol_up, ↓mo_ol, ↓mo_obp, ↓mo_og, ↓mo_ite, ↓ox_fX9_hasHouse, ↓ox_fX0_choose, mix_lo, mo_some, mo_none, rx_fX9_hasHouse, rx_fX0_choose]
theorem rx_fX10_settle_b15 (ρ : S0) (sf_15 : S0 → Int32 → Int32 → Option (Int32 × S0)) (hsf_15 : ∀ (σ : S0) (a0 : Int32) (a1 : Int32), sf_15 (mix σ ρ) a0 a1 = mo ρ (sf_15 σ a0 a1)) (σ : S0) (x1 : Int32) (x2 : Int32)  : fX10_settle_b15 sf_15 (mix σ ρ) x1 x2 = mo ρ (fX10_settle_b15 sf_15 σ x1 x2) := by
  simp (disch := omega) only [fX10_settle_b15, ↓ol_n, ↓ol_su, ↓ol_up, ↓mo_ol, ↓mo_obp, ↓mo_og, ↓mo_ite, ↓ox_fX0_changeInRound, mix_lo, mo_some, mo_none, hsf_15, rx_fX0_changeInRound]
theorem rx_fX10_settle_h15 (ρ : S0)   : ∀ (n : Nat) (σ : S0) (x1 : Int32) (x2 : Int32), fX10_settle_h15  n (mix σ ρ) x1 x2 = mo ρ (fX10_settle_h15  n σ x1 x2)
  | 0, _, _, _ => rfl
  | n + 1, σ, x1, x2 => rx_fX10_settle_b15 ρ  (fX10_settle_h15  n)  (rx_fX10_settle_h15 ρ   n) σ x1 x2 
theorem rx_fX10_settle (ρ : S0)   (σ : S0) (x1 : Int32)  : fX10_settle  (mix σ ρ) x1 = mo ρ (fX10_settle  σ x1) := by
  simp (disch := omega) only [fX10_settle, ↓ol_n, ↓ol_su, ↓ol_up, ↓mo_ol, ↓mo_obp, ↓mo_og, ↓mo_ite, mix_lo, mo_some, mo_none, rx_fX10_settle_h15]
theorem rx_fX10_settled_b2 (ρ : S0) (sf_2 : S0 → Int32 → Option (Int32 × S0)) (hsf_2 : ∀ (σ : S0) (a0 : Int32), sf_2 (mix σ ρ) a0 = mo ρ (sf_2 σ a0)) (σ : S0) (x1 : Int32)  : fX10_settled_b2 sf_2 (mix σ ρ) x1 = mo ρ (fX10_settled_b2 sf_2 σ x1) := by
  simp (disch := omega) only [fX10_settled_b2, ↓ol_n, ↓ol_su, ↓ol_up, ↓mo_ol, ↓mo_obp, ↓mo_og, ↓mo_ite, ↓ox_fX0_wantsOther, mix_lo, mo_some, mo_none, hsf_2, rx_fX0_wantsOther]
theorem rx_fX10_settled_h2 (ρ : S0)   : ∀ (n : Nat) (σ : S0) (x1 : Int32), fX10_settled_h2  n (mix σ ρ) x1 = mo ρ (fX10_settled_h2  n σ x1)
  | 0, _, _ => rfl
  | n + 1, σ, x1 => rx_fX10_settled_b2 ρ  (fX10_settled_h2  n)  (rx_fX10_settled_h2 ρ   n) σ x1 
