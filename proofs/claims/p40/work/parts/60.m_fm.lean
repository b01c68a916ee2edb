section
theorem rm_fJ6_bitCount_0f7a4 (σ : S0)   (ρ : S0) (x0 : Int32)  : fJ6_bitCount_0f7a4  (mix σ ρ) x0 = mp σ (fJ6_bitCount_0f7a4  ρ x0) := by
  simp (disch := omega) only [fJ6_bitCount_0f7a4, ↓ol_n, ↓oh_su, ↓oh_up, ↓mp_ol, ↓mp_obp, ↓mp_og, ↓mp_ite, mix_hi, mp_some, mp_none]
theorem om_fJ6_bitCount_0f7a4 (σ : S0) (ρ : S0) (x0 : Int32)  (kk : Int32 → S0 → Option (Int32 × S0)) : obp (fJ6_bitCount_0f7a4 (mix σ ρ) x0) kk = obp (fJ6_bitCount_0f7a4 ρ x0) (fun r s => kk r (mix σ s)) := by
  rw [rm_fJ6_bitCount_0f7a4 σ ρ x0 , obp_mp]
theorem rm_fX11_in (σ : S0)   (ρ : S0) (x0 : Int64) (x2 : Int64) (x4 : Int64)  : fX11_in  (mix σ ρ) x0 x2 x4 = mp σ (fX11_in  ρ x0 x2 x4) := by
  simp (disch := omega) only [fX11_in, ↓ol_n, ↓oh_su, ↓oh_up, ↓mp_ol, ↓mp_obp, ↓mp_og, ↓mp_ite, mix_hi, mp_some, mp_none]
theorem om_fX11_in (σ : S0) (ρ : S0) (x0 : Int64) (x2 : Int64) (x4 : Int64)  (kk : Int32 → S0 → Option (Int32 × S0)) : obp (fX11_in (mix σ ρ) x0 x2 x4) kk = obp (fX11_in ρ x0 x2 x4) (fun r s => kk r (mix σ s)) := by
  rw [rm_fX11_in σ ρ x0 x2 x4 , obp_mp]
theorem rm_fX11_flag (σ : S0)   (ρ : S0) (x0 : Int32)  : fX11_flag  (mix σ ρ) x0 = mp σ (fX11_flag  ρ x0) := by
  simp (disch := omega) only [fX11_flag, ↓ol_n, ↓oh_su, ↓oh_up, ↓mp_ol, ↓mp_obp, ↓mp_og, ↓mp_ite, mix_hi, mp_some, mp_none]
theorem om_fX11_flag (σ : S0) (ρ : S0) (x0 : Int32)  (kk : Int32 → S0 → Option (Int32 × S0)) : obp (fX11_flag (mix σ ρ) x0) kk = obp (fX11_flag ρ x0) (fun r s => kk r (mix σ s)) := by
  rw [rm_fX11_flag σ ρ x0 , obp_mp]
theorem rm_fX11_size (σ : S0)   (ρ : S0) (x0 : Int32)  : fX11_size  (mix σ ρ) x0 = mp σ (fX11_size  ρ x0) := by
  simp (disch := omega) only [fX11_size, ↓ol_n, ↓oh_su, ↓oh_up, ↓mp_ol, ↓mp_obp, ↓mp_og, ↓mp_ite, mix_hi, mp_some, mp_none]
theorem om_fX11_size (σ : S0) (ρ : S0) (x0 : Int32)  (kk : Int32 → S0 → Option (Int32 × S0)) : obp (fX11_size (mix σ ρ) x0) kk = obp (fX11_size ρ x0) (fun r s => kk r (mix σ s)) := by
  rw [rm_fX11_size σ ρ x0 , obp_mp]
theorem rm_fX11_firstDraft_b2 (σ : S0) (sf_2 : S0 → Int32 → Option (Int32 × S0)) (hsf_2 : ∀ (ρ : S0) (a0 : Int32), sf_2 (mix σ ρ) a0 = mp σ (sf_2 ρ a0)) (ρ : S0) (x1 : Int32)  : fX11_firstDraft_b2 sf_2 (mix σ ρ) x1 = mp σ (fX11_firstDraft_b2 sf_2 ρ x1) := by
  simp (disch := omega) only [fX11_firstDraft_b2, ↓ol_n, ↓oh_su, ↓oh_up, ↓mp_ol, ↓mp_obp, ↓mp_og, ↓mp_ite, mix_hi, mp_some, mp_none, hsf_2]
theorem rm_fX11_firstDraft_h2 (σ : S0)   : ∀ (n : Nat) (ρ : S0) (x1 : Int32), fX11_firstDraft_h2  n (mix σ ρ) x1 = mp σ (fX11_firstDraft_h2  n ρ x1)
  | 0, _, _ => rfl
  | n + 1, ρ, x1 => rm_fX11_firstDraft_b2 σ  (fX11_firstDraft_h2  n)  (rm_fX11_firstDraft_h2 σ   n) ρ x1 
theorem rm_fX11_firstDraft (σ : S0)   (ρ : S0)   : fX11_firstDraft  (mix σ ρ)  = mp σ (fX11_firstDraft  ρ ) := by
  simp (disch := omega) only [fX11_firstDraft, ↓ol_n, ↓oh_su, ↓oh_up, ↓mp_ol, ↓mp_obp, ↓mp_og, ↓mp_ite, mix_hi, mp_some, mp_none, rm_fX11_firstDraft_h2]
theorem om_fX11_firstDraft (σ : S0) (ρ : S0)   (kk : Int32 → S0 → Option (Int32 × S0)) : obp (fX11_firstDraft (mix σ ρ) ) kk = obp (fX11_firstDraft ρ ) (fun r s => kk r (mix σ s)) := by
  rw [rm_fX11_firstDraft σ ρ  , obp_mp]
theorem rm_fX11_keepDraft_b28 (σ : S0) (sf_28 : S0 → Int32 → Option (Int32 × S0)) (hsf_28 : ∀ (ρ : S0) (a0 : Int32), sf_28 (mix σ ρ) a0 = mp σ (sf_28 ρ a0)) (ρ : S0) (x1 : Int32)  : fX11_keepDraft_b28 sf_28 (mix σ ρ) x1 = mp σ (fX11_keepDraft_b28 sf_28 ρ x1) := by
  simp (disch := omega) only [fX11_keepDraft_b28, ↓ol_n, ↓oh_su, ↓oh_up, ↓mp_ol, ↓mp_obp, ↓mp_og, ↓mp_ite, mix_hi, mp_some, mp_none, hsf_28, cl_0, cl_1]
theorem rm_fX11_keepDraft_h28 (σ : S0)   : ∀ (n : Nat) (ρ : S0) (x1 : Int32), fX11_keepDraft_h28  n (mix σ ρ) x1 = mp σ (fX11_keepDraft_h28  n ρ x1)
  | 0, _, _ => rfl
  | n + 1, ρ, x1 => rm_fX11_keepDraft_b28 σ  (fX11_keepDraft_h28  n)  (rm_fX11_keepDraft_h28 σ   n) ρ x1 
theorem rm_fX11_keepDraft_b2 (σ : S0) (sf_2 : S0 → Int32 → Option (Int32 × S0)) (hsf_2 : ∀ (ρ : S0) (a0 : Int32), sf_2 (mix σ ρ) a0 = mp σ (sf_2 ρ a0)) (ρ : S0) (x1 : Int32)  : fX11_keepDraft_b2 sf_2 (mix σ ρ) x1 = mp σ (fX11_keepDraft_b2 sf_2 ρ x1) := by
  simp (disch := omega) only [fX11_keepDraft_b2, ↓ol_n, ↓oh_su, ↓oh_up, ↓mp_ol, ↓mp_obp, ↓mp_og, ↓mp_ite, mix_hi, mp_some, mp_none, hsf_2, rm_fX11_keepDraft_h28]
theorem rm_fX11_keepDraft_h2 (σ : S0)   : ∀ (n : Nat) (ρ : S0) (x1 : Int32), fX11_keepDraft_h2  n (mix σ ρ) x1 = mp σ (fX11_keepDraft_h2  n ρ x1)
  | 0, _, _ => rfl
  | n + 1, ρ, x1 => rm_fX11_keepDraft_b2 σ  (fX11_keepDraft_h2  n)  (rm_fX11_keepDraft_h2 σ   n) ρ x1 
theorem rm_fX11_keepDraft (σ : S0)   (ρ : S0)   : fX11_keepDraft  (mix σ ρ)  = mp σ (fX11_keepDraft  ρ ) := by
  simp (disch := omega) only [fX11_keepDraft, ↓ol_n, ↓oh_su, ↓oh_up, ↓mp_ol, ↓mp_obp, ↓mp_og, ↓mp_ite, mix_hi, mp_some, mp_none, rm_fX11_keepDraft_h2]
theorem om_fX11_keepDraft (σ : S0) (ρ : S0)   (kk : Int32 → S0 → Option (Int32 × S0)) : obp (fX11_keepDraft (mix σ ρ) ) kk = obp (fX11_keepDraft ρ ) (fun r s => kk r (mix σ s)) := by
  rw [rm_fX11_keepDraft σ ρ  , obp_mp]
theorem rm_fX11_feed_b19 (σ : S0) (sf_19 : S0 → Int64 → Int32 → Option (Int32 × S0)) (hsf_19 : ∀ (ρ : S0) (a0 : Int64) (a1 : Int32), sf_19 (mix σ ρ) a0 a1 = mp σ (sf_19 ρ a0 a1)) (ρ : S0) (x1 : Int64) (x3 : Int32)  : fX11_feed_b19 sf_19 (mix σ ρ) x1 x3 = mp σ (fX11_feed_b19 sf_19 ρ x1 x3) := by
  simp (disch := omega) only [fX11_feed_b19, ↓ol_n, ↓oh_su, ↓oh_up, ↓mp_ol, ↓mp_obp, ↓mp_og, ↓mp_ite, mix_hi, mp_some, mp_none, hsf_19]
theorem rm_fX11_feed_h19 (σ : S0)   : ∀ (n : Nat) (ρ : S0) (x1 : Int64) (x3 : Int32), fX11_feed_h19  n (mix σ ρ) x1 x3 = mp σ (fX11_feed_h19  n ρ x1 x3)
  | 0, _, _, _ => rfl
  | n + 1, ρ, x1, x3 => rm_fX11_feed_b19 σ  (fX11_feed_h19  n)  (rm_fX11_feed_h19 σ   n) ρ x1 x3 
theorem rm_fX11_feed (σ : S0)   (ρ : S0) (x1 : Int64)  : fX11_feed  (mix σ ρ) x1 = mp σ (fX11_feed  ρ x1) := by
  simp (disch := omega) only [fX11_feed, ↓ol_n, ↓oh_su, ↓oh_up, ↓mp_ol, ↓mp_obp, ↓mp_og, ↓mp_ite, mix_hi, mp_some, mp_none, rm_fX11_feed_h19]
theorem rm_fX11_end (σ : S0)   (ρ : S0) (x1 : Int32)  : fX11_end  (mix σ ρ) x1 = mp σ (fX11_end  ρ x1) := by
  simp (disch := omega) only [fX11_end, ↓ol_n, ↓oh_su, ↓oh_up, ↓mp_ol, ↓mp_obp, ↓mp_og, ↓mp_ite, ↓om_fX11_in, mix_hi, mp_some, mp_none, rm_fX11_in]
theorem rm_fX11_needs (σ : S0)   (ρ : S0) (x1 : Int32) (x2 : Int32)  : fX11_needs  (mix σ ρ) x1 x2 = mp σ (fX11_needs  ρ x1 x2) := by
  simp (disch := omega) only [fX11_needs, ↓ol_n, ↓oh_su, ↓oh_up, ↓mp_ol, ↓mp_obp, ↓mp_og, ↓mp_ite, mix_hi, mp_some, mp_none]
theorem om_fX11_needs (σ : S0) (ρ : S0) (x1 : Int32) (x2 : Int32)  (kk : Int32 → S0 → Option (Int32 × S0)) : obp (fX11_needs (mix σ ρ) x1 x2) kk = obp (fX11_needs ρ x1 x2) (fun r s => kk r (mix σ s)) := by
  rw [rm_fX11_needs σ ρ x1 x2 , obp_mp]
theorem rm_fX11_look (σ : S0)   (ρ : S0) (x1 : Int32)  : fX11_look  (mix σ ρ) x1 = mp σ (fX11_look  ρ x1) := by
  simp (disch := omega) only [fX11_look, ↓ol_n, ↓oh_su, ↓oh_up, ↓mp_ol, ↓mp_obp, ↓mp_og, ↓mp_ite, mix_hi, mp_some, mp_none]
theorem om_fX11_look (σ : S0) (ρ : S0) (x1 : Int32)  (kk : Int32 → S0 → Option (Int32 × S0)) : obp (fX11_look (mix σ ρ) x1) kk = obp (fX11_look ρ x1) (fun r s => kk r (mix σ s)) := by
  rw [rm_fX11_look σ ρ x1 , obp_mp]
theorem rm_fX11_is_b74 (σ : S0)   (ρ : S0)   : fX11_is_b74  (mix σ ρ)  = mp σ (fX11_is_b74  ρ ) := by
  simp (disch := omega) only [fX11_is_b74, ↓ol_n, ↓oh_su, ↓oh_up, ↓mp_ol, ↓mp_obp, ↓mp_og, ↓mp_ite, mix_hi, mp_some, mp_none]
theorem rm_fX11_is (σ : S0)   (ρ : S0) (x1 : Int32) (x2 : Int32) (x3 : Int32) (x4 : Int32) (x5 : Int32)  : fX11_is  (mix σ ρ) x1 x2 x3 x4 x5 = mp σ (fX11_is  ρ x1 x2 x3 x4 x5) := by
  simp (disch := omega) only [fX11_is, ↓ol_n, ↓oh_su, ↓oh_up, ↓mp_ol, ↓mp_obp, ↓mp_og, ↓mp_ite, ↓om_fX11_look, mix_hi, mp_some, mp_none, rm_fX11_look, rm_fX11_is_b74]
theorem om_fX11_is (σ : S0) (ρ : S0) (x1 : Int32) (x2 : Int32) (x3 : Int32) (x4 : Int32) (x5 : Int32)  (kk : Int32 → S0 → Option (Int32 × S0)) : obp (fX11_is (mix σ ρ) x1 x2 x3 x4 x5) kk = obp (fX11_is ρ x1 x2 x3 x4 x5) (fun r s => kk r (mix σ s)) := by
  rw [rm_fX11_is σ ρ x1 x2 x3 x4 x5 , obp_mp]
theorem rm_fX11_nameNow_b49 (σ : S0)   (ρ : S0)   : fX11_nameNow_b49  (mix σ ρ)  = mp σ (fX11_nameNow_b49  ρ ) := by
  simp (disch := omega) only [fX11_nameNow_b49, ↓ol_n, ↓oh_su, ↓oh_up, ↓mp_ol, ↓mp_obp, ↓mp_og, ↓mp_ite, ↓om_fX11_is, mix_hi, mp_some, mp_none, rm_fX11_is]
theorem rm_fX11_nameNow (σ : S0)   (ρ : S0)   : fX11_nameNow  (mix σ ρ)  = mp σ (fX11_nameNow  ρ ) := by
  simp (disch := omega) only [fX11_nameNow, ↓ol_n, ↓oh_su, ↓oh_up, ↓mp_ol, ↓mp_obp, ↓mp_og, ↓mp_ite, ↓om_fX11_is, ↓om_fX11_look, mix_hi, mp_some, mp_none, rm_fX11_is, rm_fX11_nameNow_b49, rm_fX11_look]
theorem om_fX11_nameNow (σ : S0) (ρ : S0)   (kk : Int32 → S0 → Option (Int32 × S0)) : obp (fX11_nameNow (mix σ ρ) ) kk = obp (fX11_nameNow ρ ) (fun r s => kk r (mix σ s)) := by
  rw [rm_fX11_nameNow σ ρ  , obp_mp]
theorem rm_fX11_withNow (σ : S0)   (ρ : S0)   : fX11_withNow  (mix σ ρ)  = mp σ (fX11_withNow  ρ ) := by
  simp (disch := omega) only [fX11_withNow, ↓ol_n, ↓oh_su, ↓oh_up, ↓mp_ol, ↓mp_obp, ↓mp_og, ↓mp_ite, ↓om_fX11_is, mix_hi, mp_some, mp_none, rm_fX11_is]
theorem om_fX11_withNow (σ : S0) (ρ : S0)   (kk : Int32 → S0 → Option (Int32 × S0)) : obp (fX11_withNow (mix σ ρ) ) kk = obp (fX11_withNow ρ ) (fun r s => kk r (mix σ s)) := by
  rw [rm_fX11_withNow σ ρ  , obp_mp]
theorem rm_fX11_next_b260 (σ : S0)   (ρ : S0) (t0 : Int32)  : fX11_next_b260  (mix σ ρ) t0 = mp σ (fX11_next_b260  ρ t0) := by
  simp (disch := omega) only [fX11_next_b260, ↓ol_n, ↓oh_su, ↓oh_up, ↓mp_ol, ↓mp_obp, ↓mp_og, ↓mp_ite, ↓om_fX11_needs, mix_hi, mp_some, mp_none, rm_fX11_needs]
theorem rm_fX11_next_b82 (σ : S0) (sf_82 : S0 → Option (Int32 × S0)) (hsf_82 : ∀ (ρ : S0) , sf_82 (mix σ ρ)  = mp σ (sf_82 ρ )) (ρ : S0)   : fX11_next_b82 sf_82 (mix σ ρ)  = mp σ (fX11_next_b82 sf_82 ρ ) := by
  simp (disch := omega) only [fX11_next_b82, ↓ol_n, ↓oh_su, ↓oh_up, ↓mp_ol, ↓mp_obp, ↓mp_og, ↓mp_ite, ↓om_fX11_look, ↓om_fX11_in, mix_hi, mp_some, mp_none, hsf_82, rm_fX11_look, rm_fX11_in]
theorem rm_fX11_next_h82 (σ : S0)   : ∀ (n : Nat) (ρ : S0) , fX11_next_h82  n (mix σ ρ)  = mp σ (fX11_next_h82  n ρ )
  | 0, _ => rfl
  | n + 1, ρ => rm_fX11_next_b82 σ  (fX11_next_h82  n)  (rm_fX11_next_h82 σ   n) ρ  
theorem rm_fX11_next_b201 (σ : S0) (sf_140 : S0 → Option (Int32 × S0)) (hsf_140 : ∀ (ρ : S0) , sf_140 (mix σ ρ)  = mp σ (sf_140 ρ )) (ρ : S0) (t0 : Int32)  : fX11_next_b201 sf_140 (mix σ ρ) t0 = mp σ (fX11_next_b201 sf_140 ρ t0) := by
  simp (disch := omega) only [fX11_next_b201, ↓ol_n, ↓oh_su, ↓oh_up, ↓mp_ol, ↓mp_obp, ↓mp_og, ↓mp_ite, mix_hi, mp_some, mp_none, hsf_140]
theorem rm_fX11_next_b236 (σ : S0)   (ρ : S0) (t0 : Int32)  : fX11_next_b236  (mix σ ρ) t0 = mp σ (fX11_next_b236  ρ t0) := by
  simp (disch := omega) only [fX11_next_b236, ↓ol_n, ↓oh_su, ↓oh_up, ↓mp_ol, ↓mp_obp, ↓mp_og, ↓mp_ite, ↓om_fX11_needs, mix_hi, mp_some, mp_none, rm_fX11_needs]
theorem rm_fX11_next_b140 (σ : S0) (sf_140 : S0 → Option (Int32 × S0)) (hsf_140 : ∀ (ρ : S0) , sf_140 (mix σ ρ)  = mp σ (sf_140 ρ )) (ρ : S0)   : fX11_next_b140 sf_140 (mix σ ρ)  = mp σ (fX11_next_b140 sf_140 ρ ) := by
  simp (disch := omega) only [fX11_next_b140, ↓ol_n, ↓oh_su, ↓oh_up, ↓mp_ol, ↓mp_obp, ↓mp_og, ↓mp_ite, ↓om_fX11_look, ↓om_fX11_in, mix_hi, mp_some, mp_none, hsf_140, rm_fX11_look, rm_fX11_in, rm_fX11_next_b236, rm_fX11_next_b201]
theorem rm_fX11_next_h140 (σ : S0)   : ∀ (n : Nat) (ρ : S0) , fX11_next_h140  n (mix σ ρ)  = mp σ (fX11_next_h140  n ρ )
  | 0, _ => rfl
  | n + 1, ρ => rm_fX11_next_b140 σ  (fX11_next_h140  n)  (rm_fX11_next_h140 σ   n) ρ  
theorem rm_fX11_next_b8 (σ : S0) (sf_8 : S0 → Option (Int32 × S0)) (hsf_8 : ∀ (ρ : S0) , sf_8 (mix σ ρ)  = mp σ (sf_8 ρ )) (ρ : S0)   : fX11_next_b8 sf_8 (mix σ ρ)  = mp σ (fX11_next_b8 sf_8 ρ ) := by
  simp (disch := omega) only [fX11_next_b8, ↓ol_n, ↓oh_su, ↓oh_up, ↓mp_ol, ↓mp_obp, ↓mp_og, ↓mp_ite, ↓om_fX11_look, ↓om_fX11_in, mix_hi, mp_some, mp_none, hsf_8, rm_fX11_look, rm_fX11_in, rm_fX11_next_b260, rm_fX11_next_h140, rm_fX11_next_h82]
theorem rm_fX11_next_h8 (σ : S0)   : ∀ (n : Nat) (ρ : S0) , fX11_next_h8  n (mix σ ρ)  = mp σ (fX11_next_h8  n ρ )
  | 0, _ => rfl
  | n + 1, ρ => rm_fX11_next_b8 σ  (fX11_next_h8  n)  (rm_fX11_next_h8 σ   n) ρ  
theorem rm_fX11_next (σ : S0)   (ρ : S0)   : fX11_next  (mix σ ρ)  = mp σ (fX11_next  ρ ) := by
  simp (disch := omega) only [fX11_next, ↓ol_n, ↓oh_su, ↓oh_up, ↓mp_ol, ↓mp_obp, ↓mp_og, ↓mp_ite, mix_hi, mp_some, mp_none, rm_fX11_next_h8]
theorem om_fX11_next (σ : S0) (ρ : S0)   (kk : Int32 → S0 → Option (Int32 × S0)) : obp (fX11_next (mix σ ρ) ) kk = obp (fX11_next ρ ) (fun r s => kk r (mix σ s)) := by
  rw [rm_fX11_next σ ρ  , obp_mp]
theorem rm_fX11_looked_b49 (σ : S0)   (ρ : S0)   : fX11_looked_b49  (mix σ ρ)  = mp σ (fX11_looked_b49  ρ ) := by
  simp (disch := omega) only [fX11_looked_b49, ↓ol_n, ↓oh_su, ↓oh_up, ↓mp_ol, ↓mp_obp, ↓mp_og, ↓mp_ite, mix_hi, mp_some, mp_none]
theorem rm_fX11_looked_b25 (σ : S0)   (ρ : S0) (x1 : Int32) (x2 : Int32)  : fX11_looked_b25  (mix σ ρ) x1 x2 = mp σ (fX11_looked_b25  ρ x1 x2) := by
  simp (disch := omega) only [fX11_looked_b25, ↓ol_n, ↓oh_su, ↓oh_up, ↓mp_ol, ↓mp_obp, ↓mp_og, ↓mp_ite, ↓om_fX11_in, ↓om_fX11_needs, mix_hi, mp_some, mp_none, rm_fX11_looked_b49, rm_fX11_in, rm_fX11_needs]
theorem rm_fX11_looked_b21 (σ : S0)   (ρ : S0) (x1 : Int32) (x2 : Int32) (t0 : Int32)  : fX11_looked_b21  (mix σ ρ) x1 x2 t0 = mp σ (fX11_looked_b21  ρ x1 x2 t0) := by
  simp (disch := omega) only [fX11_looked_b21, ↓ol_n, ↓oh_su, ↓oh_up, ↓mp_ol, ↓mp_obp, ↓mp_og, ↓mp_ite, ↓om_fX11_needs, mix_hi, mp_some, mp_none, rm_fX11_needs, rm_fX11_looked_b25]
theorem rm_fX11_looked (σ : S0)   (ρ : S0) (x1 : Int32) (x2 : Int32)  : fX11_looked  (mix σ ρ) x1 x2 = mp σ (fX11_looked  ρ x1 x2) := by
  simp (disch := omega) only [fX11_looked, ↓ol_n, ↓oh_su, ↓oh_up, ↓mp_ol, ↓mp_obp, ↓mp_og, ↓mp_ite, mix_hi, mp_some, mp_none, rm_fX11_looked_b25, rm_fX11_looked_b21]
theorem om_fX11_looked (σ : S0) (ρ : S0) (x1 : Int32) (x2 : Int32)  (kk : Int32 → S0 → Option (Int32 × S0)) : obp (fX11_looked (mix σ ρ) x1 x2) kk = obp (fX11_looked ρ x1 x2) (fun r s => kk r (mix σ s)) := by
  rw [rm_fX11_looked σ ρ x1 x2 , obp_mp]
theorem rm_fX11_readNumber (σ : S0)   (ρ : S0) (x1 : Int32) (x2 : Int32)  : fX11_readNumber  (mix σ ρ) x1 x2 = mp σ (fX11_readNumber  ρ x1 x2) := by
  simp (disch := omega) only [fX11_readNumber, ↓ol_n, ↓oh_su, ↓oh_up, ↓mp_ol, ↓mp_obp, ↓mp_og, ↓mp_ite, ↓om_fX11_looked, ↓om_fX11_next, mix_hi, mp_some, mp_none, rm_fX11_looked, rm_fX11_next]
theorem om_fX11_readNumber (σ : S0) (ρ : S0) (x1 : Int32) (x2 : Int32)  (kk : Int32 → S0 → Option (Int32 × S0)) : obp (fX11_readNumber (mix σ ρ) x1 x2) kk = obp (fX11_readNumber ρ x1 x2) (fun r s => kk r (mix σ s)) := by
  rw [rm_fX11_readNumber σ ρ x1 x2 , obp_mp]
theorem rm_fX11_readHouse_b46 (σ : S0)   (ρ : S0) (x2 : Int32) (t0 : Int32)  : fX11_readHouse_b46  (mix σ ρ) x2 t0 = mp σ (fX11_readHouse_b46  ρ x2 t0) := by
  simp (disch := omega) only [fX11_readHouse_b46, ↓ol_n, ↓oh_su, ↓oh_up, ↓mp_ol, ↓mp_obp, ↓mp_og, ↓mp_ite, ↓om_fX11_next, mix_hi, mp_some, mp_none, rm_fX11_next]
theorem rm_fX11_readHouse_b29 (σ : S0)   (ρ : S0) (x2 : Int32)  : fX11_readHouse_b29  (mix σ ρ) x2 = mp σ (fX11_readHouse_b29  ρ x2) := by
  simp (disch := omega) only [fX11_readHouse_b29, ↓ol_n, ↓oh_su, ↓oh_up, ↓mp_ol, ↓mp_obp, ↓mp_og, ↓mp_ite, mix_hi, mp_some, mp_none, rm_fX11_readHouse_b46]
theorem rm_fX11_readHouse_b25 (σ : S0)   (ρ : S0) (x2 : Int32) (t0 : Int32)  : fX11_readHouse_b25  (mix σ ρ) x2 t0 = mp σ (fX11_readHouse_b25  ρ x2 t0) := by
  simp (disch := omega) only [fX11_readHouse_b25, ↓ol_n, ↓oh_su, ↓oh_up, ↓mp_ol, ↓mp_obp, ↓mp_og, ↓mp_ite, ↓om_fX11_needs, mix_hi, mp_some, mp_none, rm_fX11_needs, rm_fX11_readHouse_b29]
theorem rm_fX11_readHouse (σ : S0)   (ρ : S0) (x1 : Int32)  : fX11_readHouse  (mix σ ρ) x1 = mp σ (fX11_readHouse  ρ x1) := by
  simp (disch := omega) only [fX11_readHouse, ↓ol_n, ↓oh_su, ↓oh_up, ↓mp_ol, ↓mp_obp, ↓mp_og, ↓mp_ite, ↓om_fX11_looked, mix_hi, mp_some, mp_none, rm_fX11_looked, rm_fX11_readHouse_b29, rm_fX11_readHouse_b25]
theorem om_fX11_readHouse (σ : S0) (ρ : S0) (x1 : Int32)  (kk : Int32 → S0 → Option (Int32 × S0)) : obp (fX11_readHouse (mix σ ρ) x1) kk = obp (fX11_readHouse ρ x1) (fun r s => kk r (mix σ s)) := by
  rw [rm_fX11_readHouse σ ρ x1 , obp_mp]
theorem rm_fX11_readBell_b204 (σ : S0) (sf_72 : S0 → Int32 → Int32 → Option (Int32 × S0)) (hsf_72 : ∀ (ρ : S0) (a0 : Int32) (a1 : Int32), sf_72 (mix σ ρ) a0 a1 = mp σ (sf_72 ρ a0 a1)) (ρ : S0) (x1 : Int32) (x2 : Int32)  : fX11_readBell_b204 sf_72 (mix σ ρ) x1 x2 = mp σ (fX11_readBell_b204 sf_72 ρ x1 x2) := by
  simp (disch := omega) only [fX11_readBell_b204, ↓ol_n, ↓oh_su, ↓oh_up, ↓mp_ol, ↓mp_obp, ↓mp_og, ↓mp_ite, mix_hi, mp_some, mp_none, hsf_72]
theorem rm_fX11_readBell_b177 (σ : S0) (sf_72 : S0 → Int32 → Int32 → Option (Int32 × S0)) (hsf_72 : ∀ (ρ : S0) (a0 : Int32) (a1 : Int32), sf_72 (mix σ ρ) a0 a1 = mp σ (sf_72 ρ a0 a1)) (ρ : S0) (x1 : Int32) (x2 : Int32)  : fX11_readBell_b177 sf_72 (mix σ ρ) x1 x2 = mp σ (fX11_readBell_b177 sf_72 ρ x1 x2) := by
  simp (disch := omega) only [fX11_readBell_b177, ↓ol_n, ↓oh_su, ↓oh_up, ↓mp_ol, ↓mp_obp, ↓mp_og, ↓mp_ite, ↓om_fX11_readHouse, mix_hi, mp_some, mp_none, hsf_72, rm_fX11_readBell_b204, rm_fX11_readHouse]
theorem rm_fX11_readBell_b146 (σ : S0) (sf_72 : S0 → Int32 → Int32 → Option (Int32 × S0)) (hsf_72 : ∀ (ρ : S0) (a0 : Int32) (a1 : Int32), sf_72 (mix σ ρ) a0 a1 = mp σ (sf_72 ρ a0 a1)) (ρ : S0) (x1 : Int32) (x3 : Int32) (t0 : Int32) (t1 : Int32)  : fX11_readBell_b146 sf_72 (mix σ ρ) x1 x3 t0 t1 = mp σ (fX11_readBell_b146 sf_72 ρ x1 x3 t0 t1) := by
  simp (disch := omega) only [fX11_readBell_b146, ↓ol_n, ↓oh_su, ↓oh_up, ↓mp_ol, ↓mp_obp, ↓mp_og, ↓mp_ite, ↓om_fX11_next, mix_hi, mp_some, mp_none, hsf_72, rm_fX11_next, rm_fX11_readBell_b177, rm_fX11_readBell_b204]
end
section
theorem rm_fX11_readBell_b128 (σ : S0) (sf_72 : S0 → Int32 → Int32 → Option (Int32 × S0)) (hsf_72 : ∀ (ρ : S0) (a0 : Int32) (a1 : Int32), sf_72 (mix σ ρ) a0 a1 = mp σ (sf_72 ρ a0 a1)) (ρ : S0) (x1 : Int32) (x2 : Int32) (x3 : Int32) (t0 : Int32)  : fX11_readBell_b128 sf_72 (mix σ ρ) x1 x2 x3 t0 = mp σ (fX11_readBell_b128 sf_72 ρ x1 x2 x3 t0) := by
  simp (disch := omega) only [fX11_readBell_b128, ↓ol_n, ↓oh_su, ↓oh_up, ↓mp_ol, ↓mp_obp, ↓mp_og, ↓mp_ite, ↓om_fX11_needs, mix_hi, mp_some, mp_none, hsf_72, rm_fX11_needs, rm_fX11_readBell_b146]
theorem rm_fX11_readBell_b123 (σ : S0) (sf_72 : S0 → Int32 → Int32 → Option (Int32 × S0)) (hsf_72 : ∀ (ρ : S0) (a0 : Int32) (a1 : Int32), sf_72 (mix σ ρ) a0 a1 = mp σ (sf_72 ρ a0 a1)) (ρ : S0) (x1 : Int32) (x2 : Int32) (x3 : Int32)  : fX11_readBell_b123 sf_72 (mix σ ρ) x1 x2 x3 = mp σ (fX11_readBell_b123 sf_72 ρ x1 x2 x3) := by
  simp (disch := omega) only [fX11_readBell_b123, ↓ol_n, ↓oh_su, ↓oh_up, ↓mp_ol, ↓mp_obp, ↓mp_og, ↓mp_ite, mix_hi, mp_some, mp_none, hsf_72, rm_fX11_readBell_b128]
theorem rm_fX11_readBell_b104 (σ : S0) (sf_72 : S0 → Int32 → Int32 → Option (Int32 × S0)) (hsf_72 : ∀ (ρ : S0) (a0 : Int32) (a1 : Int32), sf_72 (mix σ ρ) a0 a1 = mp σ (sf_72 ρ a0 a1)) (ρ : S0) (x1 : Int32) (x2 : Int32) (x3 : Int32) (t0 : Int32)  : fX11_readBell_b104 sf_72 (mix σ ρ) x1 x2 x3 t0 = mp σ (fX11_readBell_b104 sf_72 ρ x1 x2 x3 t0) := by
  simp (disch := omega) only [fX11_readBell_b104, ↓ol_n, ↓oh_su, ↓oh_up, ↓mp_ol, ↓mp_obp, ↓mp_og, ↓mp_ite, ↓om_fX11_needs, mix_hi, mp_some, mp_none, hsf_72, rm_fX11_needs, rm_fX11_readBell_b123, rm_fX11_readBell_b128]
theorem rm_fX11_readBell_b207 (σ : S0)   (ρ : S0)   : fX11_readBell_b207  (mix σ ρ)  = mp σ (fX11_readBell_b207  ρ ) := by
  simp (disch := omega) only [fX11_readBell_b207, ↓ol_n, ↓oh_su, ↓oh_up, ↓mp_ol, ↓mp_obp, ↓mp_og, ↓mp_ite, mix_hi, mp_some, mp_none]
theorem rm_fX11_readBell_b72 (σ : S0) (sf_72 : S0 → Int32 → Int32 → Option (Int32 × S0)) (hsf_72 : ∀ (ρ : S0) (a0 : Int32) (a1 : Int32), sf_72 (mix σ ρ) a0 a1 = mp σ (sf_72 ρ a0 a1)) (ρ : S0) (x1 : Int32) (x2 : Int32)  : fX11_readBell_b72 sf_72 (mix σ ρ) x1 x2 = mp σ (fX11_readBell_b72 sf_72 ρ x1 x2) := by
  simp (disch := omega) only [fX11_readBell_b72, ↓ol_n, ↓oh_su, ↓oh_up, ↓mp_ol, ↓mp_obp, ↓mp_og, ↓mp_ite, ↓om_fX11_withNow, mix_hi, mp_some, mp_none, hsf_72, rm_fX11_readBell_b207, rm_fX11_withNow, rm_fX11_readBell_b104]
theorem rm_fX11_readBell_h72 (σ : S0)   : ∀ (n : Nat) (ρ : S0) (x1 : Int32) (x2 : Int32), fX11_readBell_h72  n (mix σ ρ) x1 x2 = mp σ (fX11_readBell_h72  n ρ x1 x2)
  | 0, _, _, _ => rfl
  | n + 1, ρ, x1, x2 => rm_fX11_readBell_b72 σ  (fX11_readBell_h72  n)  (rm_fX11_readBell_h72 σ   n) ρ x1 x2 
theorem rm_fX11_readBell (σ : S0)   (ρ : S0)   : fX11_readBell  (mix σ ρ)  = mp σ (fX11_readBell  ρ ) := by
  simp (disch := omega) only [fX11_readBell, ↓ol_n, ↓oh_su, ↓oh_up, ↓mp_ol, ↓mp_obp, ↓mp_og, ↓mp_ite, ↓om_fX11_readHouse, ↓om_fX11_readNumber, mix_hi, mp_some, mp_none, rm_fX11_readHouse, rm_fX11_readNumber, rm_fX11_readBell_h72]
theorem om_fX11_readBell (σ : S0) (ρ : S0)   (kk : Int32 → S0 → Option (Int32 × S0)) : obp (fX11_readBell (mix σ ρ) ) kk = obp (fX11_readBell ρ ) (fun r s => kk r (mix σ s)) := by
  rw [rm_fX11_readBell σ ρ  , obp_mp]
theorem rm_fX11_readTune_b130 (σ : S0) (sf_25 : S0 → Int32 → Int32 → Int32 → Option (Int32 × S0)) (hsf_25 : ∀ (ρ : S0) (a0 : Int32) (a1 : Int32) (a2 : Int32), sf_25 (mix σ ρ) a0 a1 a2 = mp σ (sf_25 ρ a0 a1 a2)) (ρ : S0) (x1 : Int32) (x2 : Int32) (t0 : Int32)  : fX11_readTune_b130 sf_25 (mix σ ρ) x1 x2 t0 = mp σ (fX11_readTune_b130 sf_25 ρ x1 x2 t0) := by
  simp (disch := omega) only [fX11_readTune_b130, ↓ol_n, ↓oh_su, ↓oh_up, ↓mp_ol, ↓mp_obp, ↓mp_og, ↓mp_ite, mix_hi, mp_some, mp_none, hsf_25]
theorem rm_fX11_readTune_b117 (σ : S0) (sf_25 : S0 → Int32 → Int32 → Int32 → Option (Int32 × S0)) (hsf_25 : ∀ (ρ : S0) (a0 : Int32) (a1 : Int32) (a2 : Int32), sf_25 (mix σ ρ) a0 a1 a2 = mp σ (sf_25 ρ a0 a1 a2)) (ρ : S0) (x1 : Int32) (x2 : Int32)  : fX11_readTune_b117 sf_25 (mix σ ρ) x1 x2 = mp σ (fX11_readTune_b117 sf_25 ρ x1 x2) := by
  simp (disch := omega) only [fX11_readTune_b117, ↓ol_n, ↓oh_su, ↓oh_up, ↓mp_ol, ↓mp_obp, ↓mp_og, ↓mp_ite, mix_hi, mp_some, mp_none, hsf_25, rm_fX11_readTune_b130]
theorem rm_fX11_readTune_b111 (σ : S0) (sf_25 : S0 → Int32 → Int32 → Int32 → Option (Int32 × S0)) (hsf_25 : ∀ (ρ : S0) (a0 : Int32) (a1 : Int32) (a2 : Int32), sf_25 (mix σ ρ) a0 a1 a2 = mp σ (sf_25 ρ a0 a1 a2)) (ρ : S0) (x1 : Int32) (x2 : Int32) (t0 : Int32)  : fX11_readTune_b111 sf_25 (mix σ ρ) x1 x2 t0 = mp σ (fX11_readTune_b111 sf_25 ρ x1 x2 t0) := by
  simp (disch := omega) only [fX11_readTune_b111, ↓ol_n, ↓oh_su, ↓oh_up, ↓mp_ol, ↓mp_obp, ↓mp_og, ↓mp_ite, mix_hi, mp_some, mp_none, hsf_25, rm_fX11_readTune_b117]
theorem rm_fX11_readTune_b56 (σ : S0) (sf_25 : S0 → Int32 → Int32 → Int32 → Option (Int32 × S0)) (hsf_25 : ∀ (ρ : S0) (a0 : Int32) (a1 : Int32) (a2 : Int32), sf_25 (mix σ ρ) a0 a1 a2 = mp σ (sf_25 ρ a0 a1 a2)) (ρ : S0) (x1 : Int32) (x2 : Int32) (t0 : Int32)  : fX11_readTune_b56 sf_25 (mix σ ρ) x1 x2 t0 = mp σ (fX11_readTune_b56 sf_25 ρ x1 x2 t0) := by
  simp (disch := omega) only [fX11_readTune_b56, ↓ol_n, ↓oh_su, ↓oh_up, ↓mp_ol, ↓mp_obp, ↓mp_og, ↓mp_ite, ↓om_fX11_needs, ↓om_fX11_looked, ↓om_fX11_next, mix_hi, mp_some, mp_none, hsf_25, rm_fX11_needs, rm_fX11_looked, rm_fX11_next, rm_fX11_readTune_b117, rm_fX11_readTune_b111]
theorem rm_fX11_readTune_b51 (σ : S0) (sf_25 : S0 → Int32 → Int32 → Int32 → Option (Int32 × S0)) (hsf_25 : ∀ (ρ : S0) (a0 : Int32) (a1 : Int32) (a2 : Int32), sf_25 (mix σ ρ) a0 a1 a2 = mp σ (sf_25 ρ a0 a1 a2)) (ρ : S0) (x1 : Int32) (x2 : Int32)  : fX11_readTune_b51 sf_25 (mix σ ρ) x1 x2 = mp σ (fX11_readTune_b51 sf_25 ρ x1 x2) := by
  simp (disch := omega) only [fX11_readTune_b51, ↓ol_n, ↓oh_su, ↓oh_up, ↓mp_ol, ↓mp_obp, ↓mp_og, ↓mp_ite, mix_hi, mp_some, mp_none, hsf_25, rm_fX11_readTune_b56]
theorem rm_fX11_readTune_b134 (σ : S0)   (ρ : S0) (x1 : Int32) (x2 : Int32)  : fX11_readTune_b134  (mix σ ρ) x1 x2 = mp σ (fX11_readTune_b134  ρ x1 x2) := by
  simp (disch := omega) only [fX11_readTune_b134, ↓ol_n, ↓oh_su, ↓oh_up, ↓mp_ol, ↓mp_obp, ↓mp_og, ↓mp_ite, mix_hi, mp_some, mp_none]
theorem rm_fX11_readTune_b25 (σ : S0) (sf_25 : S0 → Int32 → Int32 → Int32 → Option (Int32 × S0)) (hsf_25 : ∀ (ρ : S0) (a0 : Int32) (a1 : Int32) (a2 : Int32), sf_25 (mix σ ρ) a0 a1 a2 = mp σ (sf_25 ρ a0 a1 a2)) (ρ : S0) (x1 : Int32) (x2 : Int32) (x3 : Int32)  : fX11_readTune_b25 sf_25 (mix σ ρ) x1 x2 x3 = mp σ (fX11_readTune_b25 sf_25 ρ x1 x2 x3) := by
  simp (disch := omega) only [fX11_readTune_b25, ↓ol_n, ↓oh_su, ↓oh_up, ↓mp_ol, ↓mp_obp, ↓mp_og, ↓mp_ite, mix_hi, mp_some, mp_none, hsf_25, rm_fX11_readTune_b134, rm_fX11_readTune_b51, rm_fX11_readTune_b56]
theorem rm_fX11_readTune_h25 (σ : S0)   : ∀ (n : Nat) (ρ : S0) (x1 : Int32) (x2 : Int32) (x3 : Int32), fX11_readTune_h25  n (mix σ ρ) x1 x2 x3 = mp σ (fX11_readTune_h25  n ρ x1 x2 x3)
  | 0, _, _, _, _ => rfl
  | n + 1, ρ, x1, x2, x3 => rm_fX11_readTune_b25 σ  (fX11_readTune_h25  n)  (rm_fX11_readTune_h25 σ   n) ρ x1 x2 x3 
theorem rm_fX11_readTune (σ : S0)   (ρ : S0)   : fX11_readTune  (mix σ ρ)  = mp σ (fX11_readTune  ρ ) := by
  simp (disch := omega) only [fX11_readTune, ↓ol_n, ↓oh_su, ↓oh_up, ↓mp_ol, ↓mp_obp, ↓mp_og, ↓mp_ite, ↓om_fX11_readNumber, mix_hi, mp_some, mp_none, rm_fX11_readNumber, rm_fX11_readTune_h25]
theorem om_fX11_readTune (σ : S0) (ρ : S0)   (kk : Int32 → S0 → Option (Int32 × S0)) : obp (fX11_readTune (mix σ ρ) ) kk = obp (fX11_readTune ρ ) (fun r s => kk r (mix σ s)) := by
  rw [rm_fX11_readTune σ ρ  , obp_mp]
theorem rm_fX11_readFeud (σ : S0)   (ρ : S0)   : fX11_readFeud  (mix σ ρ)  = mp σ (fX11_readFeud  ρ ) := by
  simp (disch := omega) only [fX11_readFeud, ↓ol_n, ↓oh_su, ↓oh_up, ↓mp_ol, ↓mp_obp, ↓mp_og, ↓mp_ite, ↓om_fX11_readHouse, mix_hi, mp_some, mp_none, rm_fX11_readHouse]
theorem om_fX11_readFeud (σ : S0) (ρ : S0)   (kk : Int32 → S0 → Option (Int32 × S0)) : obp (fX11_readFeud (mix σ ρ) ) kk = obp (fX11_readFeud ρ ) (fun r s => kk r (mix σ s)) := by
  rw [rm_fX11_readFeud σ ρ  , obp_mp]
theorem rm_fX11_readLine_b231 (σ : S0)   (ρ : S0)   : fX11_readLine_b231  (mix σ ρ)  = mp σ (fX11_readLine_b231  ρ ) := by
  simp (disch := omega) only [fX11_readLine_b231, ↓ol_n, ↓oh_su, ↓oh_up, ↓mp_ol, ↓mp_obp, ↓mp_og, ↓mp_ite, ↓om_fX11_next, mix_hi, mp_some, mp_none, rm_fX11_next]
theorem rm_fX11_readLine_b227 (σ : S0)   (ρ : S0) (t0 : Int32)  : fX11_readLine_b227  (mix σ ρ) t0 = mp σ (fX11_readLine_b227  ρ t0) := by
  simp (disch := omega) only [fX11_readLine_b227, ↓ol_n, ↓oh_su, ↓oh_up, ↓mp_ol, ↓mp_obp, ↓mp_og, ↓mp_ite, ↓om_fX11_needs, mix_hi, mp_some, mp_none, rm_fX11_needs, rm_fX11_readLine_b231]
theorem rm_fX11_readLine_b206 (σ : S0)   (ρ : S0)   : fX11_readLine_b206  (mix σ ρ)  = mp σ (fX11_readLine_b206  ρ ) := by
  simp (disch := omega) only [fX11_readLine_b206, ↓ol_n, ↓oh_su, ↓oh_up, ↓mp_ol, ↓mp_obp, ↓mp_og, ↓mp_ite, mix_hi, mp_some, mp_none, rm_fX11_readLine_b231, rm_fX11_readLine_b227]
theorem rm_fX11_readLine_b117 (σ : S0)   (ρ : S0) (x1 : Int32)  : fX11_readLine_b117  (mix σ ρ) x1 = mp σ (fX11_readLine_b117  ρ x1) := by
  simp (disch := omega) only [fX11_readLine_b117, ↓ol_n, ↓oh_su, ↓oh_up, ↓mp_ol, ↓mp_obp, ↓mp_og, ↓mp_ite, ↓om_fX11_next, ↓om_fX11_readFeud, ↓om_fX11_readNumber, ↓om_fX11_readBell, ↓om_fX11_readTune, mix_hi, mp_some, mp_none, rm_fX11_next, rm_fX11_readFeud, rm_fX11_readLine_b206, rm_fX11_readNumber, rm_fX11_readBell, rm_fX11_readTune]
theorem rm_fX11_readLine_b101 (σ : S0)   (ρ : S0) (x1 : Int32) (t0 : Int32)  : fX11_readLine_b101  (mix σ ρ) x1 t0 = mp σ (fX11_readLine_b101  ρ x1 t0) := by
  simp (disch := omega) only [fX11_readLine_b101, ↓ol_n, ↓oh_su, ↓oh_up, ↓mp_ol, ↓mp_obp, ↓mp_og, ↓mp_ite, ↓om_fX11_needs, mix_hi, mp_some, mp_none, rm_fX11_needs, rm_fX11_readLine_b117]
theorem rm_fX11_readLine_b68 (σ : S0)   (ρ : S0) (x1 : Int32) (t0 : Int32)  : fX11_readLine_b68  (mix σ ρ) x1 t0 = mp σ (fX11_readLine_b68  ρ x1 t0) := by
  simp (disch := omega) only [fX11_readLine_b68, ↓ol_n, ↓oh_su, ↓oh_up, ↓mp_ol, ↓mp_obp, ↓mp_og, ↓mp_ite, ↓om_fX11_needs, mix_hi, mp_some, mp_none, rm_fX11_needs, rm_fX11_readLine_b117, rm_fX11_readLine_b101]
theorem rm_fX11_readLine_b63 (σ : S0)   (ρ : S0) (x1 : Int32)  : fX11_readLine_b63  (mix σ ρ) x1 = mp σ (fX11_readLine_b63  ρ x1) := by
  simp (disch := omega) only [fX11_readLine_b63, ↓ol_n, ↓oh_su, ↓oh_up, ↓mp_ol, ↓mp_obp, ↓mp_og, ↓mp_ite, mix_hi, mp_some, mp_none, rm_fX11_readLine_b68]
theorem rm_fX11_readLine_b67 (σ : S0)   (ρ : S0) (x1 : Int32)  : fX11_readLine_b67  (mix σ ρ) x1 = mp σ (fX11_readLine_b67  ρ x1) := by
  simp (disch := omega) only [fX11_readLine_b67, ↓ol_n, ↓oh_su, ↓oh_up, ↓mp_ol, ↓mp_obp, ↓mp_og, ↓mp_ite, mix_hi, mp_some, mp_none, rm_fX11_readLine_b68]
theorem rm_fX11_readLine_b49 (σ : S0)   (ρ : S0) (x1 : Int32)  : fX11_readLine_b49  (mix σ ρ) x1 = mp σ (fX11_readLine_b49  ρ x1) := by
  simp (disch := omega) only [fX11_readLine_b49, ↓ol_n, ↓oh_su, ↓oh_up, ↓mp_ol, ↓mp_obp, ↓mp_og, ↓mp_ite, mix_hi, mp_some, mp_none, rm_fX11_readLine_b63, rm_fX11_readLine_b67]
theorem rm_fX11_readLine_b30 (σ : S0)   (ρ : S0) (x1 : Int32) (t0 : Int32)  : fX11_readLine_b30  (mix σ ρ) x1 t0 = mp σ (fX11_readLine_b30  ρ x1 t0) := by
  simp (disch := omega) only [fX11_readLine_b30, ↓ol_n, ↓oh_su, ↓oh_up, ↓mp_ol, ↓mp_obp, ↓mp_og, ↓mp_ite, ↓om_fX11_needs, mix_hi, mp_some, mp_none, rm_fX11_needs, rm_fX11_readLine_b49, rm_fX11_readLine_b67]
theorem rm_fX11_readLine_b17 (σ : S0)   (ρ : S0) (t0 : Int32)  : fX11_readLine_b17  (mix σ ρ) t0 = mp σ (fX11_readLine_b17  ρ t0) := by
  simp (disch := omega) only [fX11_readLine_b17, ↓ol_n, ↓oh_su, ↓oh_up, ↓mp_ol, ↓mp_obp, ↓mp_og, ↓mp_ite, mix_hi, mp_some, mp_none, rm_fX11_readLine_b30]
theorem rm_fX11_readLine (σ : S0)   (ρ : S0)   : fX11_readLine  (mix σ ρ)  = mp σ (fX11_readLine  ρ ) := by
  simp (disch := omega) only [fX11_readLine, ↓ol_n, ↓oh_su, ↓oh_up, ↓mp_ol, ↓mp_obp, ↓mp_og, ↓mp_ite, ↓om_fX11_nameNow, mix_hi, mp_some, mp_none, rm_fX11_readLine_b17, rm_fX11_nameNow]
theorem om_fX11_readLine (σ : S0) (ρ : S0)   (kk : Int32 → S0 → Option (Int32 × S0)) : obp (fX11_readLine (mix σ ρ) ) kk = obp (fX11_readLine ρ ) (fun r s => kk r (mix σ s)) := by
  rw [rm_fX11_readLine σ ρ  , obp_mp]
theorem rm_fX11_text_b84 (σ : S0)   (ρ : S0) (x1 : Int32)  : fX11_text_b84  (mix σ ρ) x1 = mp σ (fX11_text_b84  ρ x1) := by
  simp (disch := omega) only [fX11_text_b84, ↓ol_n, ↓oh_su, ↓oh_up, ↓mp_ol, ↓mp_obp, ↓mp_og, ↓mp_ite, ↓om_fX11_keepDraft, mix_hi, mp_some, mp_none, rm_fX11_keepDraft]
theorem rm_fX11_text_b79 (σ : S0)   (ρ : S0) (x1 : Int32) (t0 : Int32)  : fX11_text_b79  (mix σ ρ) x1 t0 = mp σ (fX11_text_b79  ρ x1 t0) := by
  simp (disch := omega) only [fX11_text_b79, ↓ol_n, ↓oh_su, ↓oh_up, ↓mp_ol, ↓mp_obp, ↓mp_og, ↓mp_ite, ↓om_fX11_needs, mix_hi, mp_some, mp_none, rm_fX11_needs, rm_fX11_text_b84]
theorem rm_fX11_text_b78 (σ : S0)   (ρ : S0) (x1 : Int32)  : fX11_text_b78  (mix σ ρ) x1 = mp σ (fX11_text_b78  ρ x1) := by
  simp (disch := omega) only [fX11_text_b78, ↓ol_n, ↓oh_su, ↓oh_up, ↓mp_ol, ↓mp_obp, ↓mp_og, ↓mp_ite, mix_hi, mp_some, mp_none, rm_fX11_text_b79]
theorem rm_fX11_text_b44 (σ : S0)   (ρ : S0) (x1 : Int32)  : fX11_text_b44  (mix σ ρ) x1 = mp σ (fX11_text_b44  ρ x1) := by
  simp (disch := omega) only [fX11_text_b44, ↓ol_n, ↓oh_su, ↓oh_up, ↓mp_ol, ↓mp_obp, ↓mp_og, ↓mp_ite, mix_hi, mp_some, mp_none, rm_fX11_text_b84, rm_fX11_text_b78, rm_fX11_text_b79]
theorem rm_fX11_text_b20 (σ : S0) (sf_20 : S0 → Int32 → Option (Int32 × S0)) (hsf_20 : ∀ (ρ : S0) (a0 : Int32), sf_20 (mix σ ρ) a0 = mp σ (sf_20 ρ a0)) (ρ : S0) (x1 : Int32)  : fX11_text_b20 sf_20 (mix σ ρ) x1 = mp σ (fX11_text_b20 sf_20 ρ x1) := by
  simp (disch := omega) only [fX11_text_b20, ↓ol_n, ↓oh_su, ↓oh_up, ↓mp_ol, ↓mp_obp, ↓mp_og, ↓mp_ite, ↓om_fX11_readLine, mix_hi, mp_some, mp_none, hsf_20, rm_fX11_text_b44, rm_fX11_readLine]
theorem rm_fX11_text_h20 (σ : S0)   : ∀ (n : Nat) (ρ : S0) (x1 : Int32), fX11_text_h20  n (mix σ ρ) x1 = mp σ (fX11_text_h20  n ρ x1)
  | 0, _, _ => rfl
  | n + 1, ρ, x1 => rm_fX11_text_b20 σ  (fX11_text_h20  n)  (rm_fX11_text_h20 σ   n) ρ x1 
theorem rm_fX11_text (σ : S0)   (ρ : S0)   : fX11_text  (mix σ ρ)  = mp σ (fX11_text  ρ ) := by
  simp (disch := omega) only [fX11_text, ↓ol_n, ↓oh_su, ↓oh_up, ↓mp_ol, ↓mp_obp, ↓mp_og, ↓mp_ite, ↓om_fX11_firstDraft, ↓om_fX11_next, mix_hi, mp_some, mp_none, rm_fX11_firstDraft, rm_fX11_next, rm_fX11_text_h20]
theorem rm_fX11_fault (σ : S0)   (ρ : S0)   : fX11_fault  (mix σ ρ)  = mp σ (fX11_fault  ρ ) := by
  simp (disch := omega) only [fX11_fault, ↓ol_n, ↓oh_su, ↓oh_up, ↓mp_ol, ↓mp_obp, ↓mp_og, ↓mp_ite, mix_hi, mp_some, mp_none]
theorem rm_fX11_rule (σ : S0)   (ρ : S0) (x1 : Int32)  : fX11_rule  (mix σ ρ) x1 = mp σ (fX11_rule  ρ x1) := by
  simp (disch := omega) only [fX11_rule, ↓ol_n, ↓oh_su, ↓oh_up, ↓mp_ol, ↓mp_obp, ↓mp_og, ↓mp_ite, mix_hi, mp_some, mp_none]
theorem rm_fX11_isHouse (σ : S0)   (ρ : S0) (x1 : Int32)  : fX11_isHouse  (mix σ ρ) x1 = mp σ (fX11_isHouse  ρ x1) := by
  simp (disch := omega) only [fX11_isHouse, ↓ol_n, ↓oh_su, ↓oh_up, ↓mp_ol, ↓mp_obp, ↓mp_og, ↓mp_ite, ↓om_fX11_in, mix_hi, mp_some, mp_none, rm_fX11_in]
theorem om_fX11_isHouse (σ : S0) (ρ : S0) (x1 : Int32)  (kk : Int32 → S0 → Option (Int32 × S0)) : obp (fX11_isHouse (mix σ ρ) x1) kk = obp (fX11_isHouse ρ x1) (fun r s => kk r (mix σ s)) := by
  rw [rm_fX11_isHouse σ ρ x1 , obp_mp]
theorem rm_fX11_isBell (σ : S0)   (ρ : S0) (x1 : Int32)  : fX11_isBell  (mix σ ρ) x1 = mp σ (fX11_isBell  ρ x1) := by
  simp (disch := omega) only [fX11_isBell, ↓ol_n, ↓oh_su, ↓oh_up, ↓mp_ol, ↓mp_obp, ↓mp_og, ↓mp_ite, ↓om_fX11_in, mix_hi, mp_some, mp_none, rm_fX11_in]
theorem om_fX11_isBell (σ : S0) (ρ : S0) (x1 : Int32)  (kk : Int32 → S0 → Option (Int32 × S0)) : obp (fX11_isBell (mix σ ρ) x1) kk = obp (fX11_isBell ρ x1) (fun r s => kk r (mix σ s)) := by
  rw [rm_fX11_isBell σ ρ x1 , obp_mp]
theorem rm_fX11_isTune (σ : S0)   (ρ : S0) (x1 : Int32)  : fX11_isTune  (mix σ ρ) x1 = mp σ (fX11_isTune  ρ x1) := by
  simp (disch := omega) only [fX11_isTune, ↓ol_n, ↓oh_su, ↓oh_up, ↓mp_ol, ↓mp_obp, ↓mp_og, ↓mp_ite, ↓om_fX11_in, mix_hi, mp_some, mp_none, rm_fX11_in]
theorem om_fX11_isTune (σ : S0) (ρ : S0) (x1 : Int32)  (kk : Int32 → S0 → Option (Int32 × S0)) : obp (fX11_isTune (mix σ ρ) x1) kk = obp (fX11_isTune ρ x1) (fun r s => kk r (mix σ s)) := by
  rw [rm_fX11_isTune σ ρ x1 , obp_mp]
theorem rm_fX11_of (σ : S0)   (ρ : S0) (x1 : Int32) (x2 : Int32)  : fX11_of  (mix σ ρ) x1 x2 = mp σ (fX11_of  ρ x1 x2) := by
  simp (disch := omega) only [fX11_of, ↓ol_n, ↓oh_su, ↓oh_up, ↓mp_ol, ↓mp_obp, ↓mp_og, ↓mp_ite, mix_hi, mp_some, mp_none]
theorem om_fX11_of (σ : S0) (ρ : S0) (x1 : Int32) (x2 : Int32)  (kk : Int32 → S0 → Option (Int32 × S0)) : obp (fX11_of (mix σ ρ) x1 x2) kk = obp (fX11_of ρ x1 x2) (fun r s => kk r (mix σ s)) := by
  rw [rm_fX11_of σ ρ x1 x2 , obp_mp]
theorem rm_fX11_strokes (σ : S0)   (ρ : S0) (x1 : Int32)  : fX11_strokes  (mix σ ρ) x1 = mp σ (fX11_strokes  ρ x1) := by
  simp (disch := omega) only [fX11_strokes, ↓ol_n, ↓oh_su, ↓oh_up, ↓mp_ol, ↓mp_obp, ↓mp_og, ↓mp_ite, mix_hi, mp_some, mp_none]
theorem om_fX11_strokes (σ : S0) (ρ : S0) (x1 : Int32)  (kk : Int32 → S0 → Option (Int32 × S0)) : obp (fX11_strokes (mix σ ρ) x1) kk = obp (fX11_strokes ρ x1) (fun r s => kk r (mix σ s)) := by
  rw [rm_fX11_strokes σ ρ x1 , obp_mp]
theorem rm_fX11_stroke (σ : S0)   (ρ : S0) (x1 : Int32) (x2 : Int32)  : fX11_stroke  (mix σ ρ) x1 x2 = mp σ (fX11_stroke  ρ x1 x2) := by
  simp (disch := omega) only [fX11_stroke, ↓ol_n, ↓oh_su, ↓oh_up, ↓mp_ol, ↓mp_obp, ↓mp_og, ↓mp_ite, mix_hi, mp_some, mp_none]
theorem om_fX11_stroke (σ : S0) (ρ : S0) (x1 : Int32) (x2 : Int32)  (kk : Int32 → S0 → Option (Int32 × S0)) : obp (fX11_stroke (mix σ ρ) x1 x2) kk = obp (fX11_stroke ρ x1 x2) (fun r s => kk r (mix σ s)) := by
  rw [rm_fX11_stroke σ ρ x1 x2 , obp_mp]
theorem rm_fX11_bell (σ : S0)   (ρ : S0) (x1 : Int32) (x2 : Int32)  : fX11_bell  (mix σ ρ) x1 x2 = mp σ (fX11_bell  ρ x1 x2) := by
  simp (disch := omega) only [fX11_bell, ↓ol_n, ↓oh_su, ↓oh_up, ↓mp_ol, ↓mp_obp, ↓mp_og, ↓mp_ite, ↓om_fX11_isBell, ↓om_fX11_in, ↓om_fX11_of, mix_hi, mp_some, mp_none, rm_fX11_isBell, rm_fX11_in, rm_fX11_of]
theorem rm_fX11_tune (σ : S0)   (ρ : S0) (x1 : Int32) (x2 : Int32)  : fX11_tune  (mix σ ρ) x1 x2 = mp σ (fX11_tune  ρ x1 x2) := by
  simp (disch := omega) only [fX11_tune, ↓ol_n, ↓oh_su, ↓oh_up, ↓mp_ol, ↓mp_obp, ↓mp_og, ↓mp_ite, ↓om_fX11_isTune, ↓om_fX11_in, ↓om_fX11_strokes, ↓om_fX11_stroke, mix_hi, mp_some, mp_none, rm_fX11_isTune, rm_fX11_in, rm_fX11_strokes, rm_fX11_stroke]
theorem rm_fX11_feuds (σ : S0)   (ρ : S0) (x1 : Int32)  : fX11_feuds  (mix σ ρ) x1 = mp σ (fX11_feuds  ρ x1) := by
  simp (disch := omega) only [fX11_feuds, ↓ol_n, ↓oh_su, ↓oh_up, ↓mp_ol, ↓mp_obp, ↓mp_og, ↓mp_ite, ↓om_fX11_isHouse, mix_hi, mp_some, mp_none, rm_fX11_isHouse]
theorem rm_fX11_fee (σ : S0)   (ρ : S0) (x1 : Int32) (x2 : Int32)  : fX11_fee  (mix σ ρ) x1 x2 = mp σ (fX11_fee  ρ x1 x2) := by
  simp (disch := omega) only [fX11_fee, ↓ol_n, ↓oh_su, ↓oh_up, ↓mp_ol, ↓mp_obp, ↓mp_og, ↓mp_ite, ↓om_fX11_isBell, ↓om_fX11_in, ↓om_fX11_of, mix_hi, mp_some, mp_none, rm_fX11_isBell, rm_fX11_in, rm_fX11_of]
theorem rm_fX11_shut (σ : S0)   (ρ : S0) (x1 : Int32) (x2 : Int32)  : fX11_shut  (mix σ ρ) x1 x2 = mp σ (fX11_shut  ρ x1 x2) := by
  simp (disch := omega) only [fX11_shut, ↓ol_n, ↓oh_su, ↓oh_up, ↓mp_ol, ↓mp_obp, ↓mp_og, ↓mp_ite, ↓om_fX11_isBell, ↓om_fX11_of, ↓om_fX11_flag, mix_hi, mp_some, mp_none, rm_fX11_isBell, rm_fX11_of, rm_fX11_flag]
theorem rm_fX11_sell_b74 (σ : S0)   (ρ : S0) (x3 : Int32) (t0 : Int32) (t1 : Int32)  : fX11_sell_b74  (mix σ ρ) x3 t0 t1 = mp σ (fX11_sell_b74  ρ x3 t0 t1) := by
  simp (disch := omega) only [fX11_sell_b74, ↓ol_n, ↓oh_su, ↓oh_up, ↓mp_ol, ↓mp_obp, ↓mp_og, ↓mp_ite, mix_hi, mp_some, mp_none]
end
section
theorem rm_fX11_sell (σ : S0)   (ρ : S0) (x1 : Int32) (x2 : Int32)  : fX11_sell  (mix σ ρ) x1 x2 = mp σ (fX11_sell  ρ x1 x2) := by
  simp (disch := omega) only [fX11_sell, ↓ol_n, ↓oh_su, ↓oh_up, ↓mp_ol, ↓mp_obp, ↓mp_og, ↓mp_ite, ↓om_fX11_isBell, ↓om_fX11_isHouse, ↓om_fX11_of, mix_hi, mp_some, mp_none, rm_fX11_isBell, rm_fX11_isHouse, rm_fX11_of, rm_fX11_sell_b74]
theorem rm_fX11_half_b24 (σ : S0)   (ρ : S0) (x1 : Int32) (x2 : Int32)  : fX11_half_b24  (mix σ ρ) x1 x2 = mp σ (fX11_half_b24  ρ x1 x2) := by
  simp (disch := omega) only [fX11_half_b24, ↓ol_n, ↓oh_su, ↓oh_up, ↓mp_ol, ↓mp_obp, ↓mp_og, ↓mp_ite, ↓om_fX11_of, mix_hi, mp_some, mp_none, rm_fX11_of]
theorem rm_fX11_half (σ : S0)   (ρ : S0) (x1 : Int32) (x2 : Int32)  : fX11_half  (mix σ ρ) x1 x2 = mp σ (fX11_half  ρ x1 x2) := by
  simp (disch := omega) only [fX11_half, ↓ol_n, ↓oh_su, ↓oh_up, ↓mp_ol, ↓mp_obp, ↓mp_og, ↓mp_ite, ↓om_fX11_isBell, ↓om_fX11_isHouse, mix_hi, mp_some, mp_none, rm_fX11_isBell, rm_fX11_half_b24, rm_fX11_isHouse]
theorem rm_fX11_isFeud (σ : S0)   (ρ : S0) (x1 : Int32) (x2 : Int32)  : fX11_isFeud  (mix σ ρ) x1 x2 = mp σ (fX11_isFeud  ρ x1 x2) := by
  simp (disch := omega) only [fX11_isFeud, ↓ol_n, ↓oh_su, ↓oh_up, ↓mp_ol, ↓mp_obp, ↓mp_og, ↓mp_ite, mix_hi, mp_some, mp_none]
theorem om_fX11_isFeud (σ : S0) (ρ : S0) (x1 : Int32) (x2 : Int32)  (kk : Int32 → S0 → Option (Int32 × S0)) : obp (fX11_isFeud (mix σ ρ) x1 x2) kk = obp (fX11_isFeud ρ x1 x2) (fun r s => kk r (mix σ s)) := by
  rw [rm_fX11_isFeud σ ρ x1 x2 , obp_mp]
theorem rm_fX11_setsFeud_b87 (σ : S0)   (ρ : S0) (t0 : Int32) (t1 : Int32)  : fX11_setsFeud_b87  (mix σ ρ) t0 t1 = mp σ (fX11_setsFeud_b87  ρ t0 t1) := by
  simp (disch := omega) only [fX11_setsFeud_b87, ↓ol_n, ↓oh_su, ↓oh_up, ↓mp_ol, ↓mp_obp, ↓mp_og, ↓mp_ite, mix_hi, mp_some, mp_none]
theorem rm_fX11_setsFeud_b43 (σ : S0)   (ρ : S0) (x1 : Int32) (x2 : Int32) (x3 : Int32) (t0 : Int32) (t1 : Int32)  : fX11_setsFeud_b43  (mix σ ρ) x1 x2 x3 t0 t1 = mp σ (fX11_setsFeud_b43  ρ x1 x2 x3 t0 t1) := by
  simp (disch := omega) only [fX11_setsFeud_b43, ↓ol_n, ↓oh_su, ↓oh_up, ↓mp_ol, ↓mp_obp, ↓mp_og, ↓mp_ite, mix_hi, mp_some, mp_none, rm_fX11_setsFeud_b87]
theorem rm_fX11_setsFeud (σ : S0)   (ρ : S0) (x1 : Int32) (x2 : Int32) (x3 : Int32)  : fX11_setsFeud  (mix σ ρ) x1 x2 x3 = mp σ (fX11_setsFeud  ρ x1 x2 x3) := by
  simp (disch := omega) only [fX11_setsFeud, ↓ol_n, ↓oh_su, ↓oh_up, ↓mp_ol, ↓mp_obp, ↓mp_og, ↓mp_ite, mix_hi, mp_some, mp_none, rm_fX11_setsFeud_b43]
theorem om_fX11_setsFeud (σ : S0) (ρ : S0) (x1 : Int32) (x2 : Int32) (x3 : Int32)  (kk : Int32 → S0 → Option (Int32 × S0)) : obp (fX11_setsFeud (mix σ ρ) x1 x2 x3) kk = obp (fX11_setsFeud ρ x1 x2 x3) (fun r s => kk r (mix σ s)) := by
  rw [rm_fX11_setsFeud σ ρ x1 x2 x3 , obp_mp]
theorem rm_fX11_feud (σ : S0)   (ρ : S0) (x1 : Int32) (x2 : Int32) (x3 : Int32)  : fX11_feud  (mix σ ρ) x1 x2 x3 = mp σ (fX11_feud  ρ x1 x2 x3) := by
  simp (disch := omega) only [fX11_feud, ↓ol_n, ↓oh_su, ↓oh_up, ↓mp_ol, ↓mp_obp, ↓mp_og, ↓mp_ite, ↓om_fX11_isHouse, ↓om_fX11_isFeud, ↓om_fX11_flag, ↓om_fX11_setsFeud, mix_hi, mp_some, mp_none, rm_fX11_isHouse, rm_fX11_isFeud, rm_fX11_flag, rm_fX11_setsFeud]
theorem rm_fX11_feuding_b53 (σ : S0) (sf_7 : S0 → Int32 → Int32 → Int32 → Option (Int32 × S0)) (sf_19 : S0 → Int32 → Int32 → Int32 → Int32 → Option (Int32 × S0)) (hsf_7 : ∀ (ρ : S0) (a0 : Int32) (a1 : Int32) (a2 : Int32), sf_7 (mix σ ρ) a0 a1 a2 = mp σ (sf_7 ρ a0 a1 a2)) (hsf_19 : ∀ (ρ : S0) (a0 : Int32) (a1 : Int32) (a2 : Int32) (a3 : Int32), sf_19 (mix σ ρ) a0 a1 a2 a3 = mp σ (sf_19 ρ a0 a1 a2 a3)) (ρ : S0) (x2 : Int32) (x3 : Int32) (x4 : Int32) (x5 : Int32) (t0 : Int32)  : fX11_feuding_b53 sf_7 sf_19 (mix σ ρ) x2 x3 x4 x5 t0 = mp σ (fX11_feuding_b53 sf_7 sf_19 ρ x2 x3 x4 x5 t0) := by
  simp (disch := omega) only [fX11_feuding_b53, ↓ol_n, ↓oh_su, ↓oh_up, ↓mp_ol, ↓mp_obp, ↓mp_og, ↓mp_ite, ↓om_fX11_setsFeud, ↓om_fX11_flag, mix_hi, mp_some, mp_none, hsf_7, hsf_19, rm_fX11_setsFeud, rm_fX11_flag]
theorem rm_fX11_feuding_b19 (σ : S0) (sf_7 : S0 → Int32 → Int32 → Int32 → Option (Int32 × S0)) (sf_19 : S0 → Int32 → Int32 → Int32 → Int32 → Option (Int32 × S0)) (hsf_7 : ∀ (ρ : S0) (a0 : Int32) (a1 : Int32) (a2 : Int32), sf_7 (mix σ ρ) a0 a1 a2 = mp σ (sf_7 ρ a0 a1 a2)) (hsf_19 : ∀ (ρ : S0) (a0 : Int32) (a1 : Int32) (a2 : Int32) (a3 : Int32), sf_19 (mix σ ρ) a0 a1 a2 a3 = mp σ (sf_19 ρ a0 a1 a2 a3)) (ρ : S0) (x2 : Int32) (x3 : Int32) (x4 : Int32) (x5 : Int32)  : fX11_feuding_b19 sf_7 sf_19 (mix σ ρ) x2 x3 x4 x5 = mp σ (fX11_feuding_b19 sf_7 sf_19 ρ x2 x3 x4 x5) := by
  simp (disch := omega) only [fX11_feuding_b19, ↓ol_n, ↓oh_su, ↓oh_up, ↓mp_ol, ↓mp_obp, ↓mp_og, ↓mp_ite, mix_hi, mp_some, mp_none, hsf_7, hsf_19, rm_fX11_feuding_b53]
theorem rm_fX11_feuding_h19 (σ : S0) (sf_7 : S0 → Int32 → Int32 → Int32 → Option (Int32 × S0)) (hsf_7 : ∀ (ρ : S0) (a0 : Int32) (a1 : Int32) (a2 : Int32), sf_7 (mix σ ρ) a0 a1 a2 = mp σ (sf_7 ρ a0 a1 a2)) : ∀ (n : Nat) (ρ : S0) (x2 : Int32) (x3 : Int32) (x4 : Int32) (x5 : Int32), fX11_feuding_h19 sf_7 n (mix σ ρ) x2 x3 x4 x5 = mp σ (fX11_feuding_h19 sf_7 n ρ x2 x3 x4 x5)
  | 0, _, _, _, _, _ => rfl
  | n + 1, ρ, x2, x3, x4, x5 => rm_fX11_feuding_b19 σ sf_7 (fX11_feuding_h19 sf_7 n) hsf_7 (rm_fX11_feuding_h19 σ sf_7 hsf_7 n) ρ x2 x3 x4 x5 
theorem rm_fX11_feuding_b7 (σ : S0) (sf_7 : S0 → Int32 → Int32 → Int32 → Option (Int32 × S0)) (hsf_7 : ∀ (ρ : S0) (a0 : Int32) (a1 : Int32) (a2 : Int32), sf_7 (mix σ ρ) a0 a1 a2 = mp σ (sf_7 ρ a0 a1 a2)) (ρ : S0) (x2 : Int32) (x3 : Int32) (x4 : Int32)  : fX11_feuding_b7 sf_7 (mix σ ρ) x2 x3 x4 = mp σ (fX11_feuding_b7 sf_7 ρ x2 x3 x4) := by
  simp (disch := omega) only [fX11_feuding_b7, ↓ol_n, ↓oh_su, ↓oh_up, ↓mp_ol, ↓mp_obp, ↓mp_og, ↓mp_ite, mix_hi, mp_some, mp_none, hsf_7, rm_fX11_feuding_h19]
theorem rm_fX11_feuding_h7 (σ : S0)   : ∀ (n : Nat) (ρ : S0) (x2 : Int32) (x3 : Int32) (x4 : Int32), fX11_feuding_h7  n (mix σ ρ) x2 x3 x4 = mp σ (fX11_feuding_h7  n ρ x2 x3 x4)
  | 0, _, _, _, _ => rfl
  | n + 1, ρ, x2, x3, x4 => rm_fX11_feuding_b7 σ  (fX11_feuding_h7  n)  (rm_fX11_feuding_h7 σ   n) ρ x2 x3 x4 
theorem rm_fX11_feuding (σ : S0)   (ρ : S0) (x1 : Int32)  : fX11_feuding  (mix σ ρ) x1 = mp σ (fX11_feuding  ρ x1) := by
  simp (disch := omega) only [fX11_feuding, ↓ol_n, ↓oh_su, ↓oh_up, ↓mp_ol, ↓mp_obp, ↓mp_og, ↓mp_ite, mix_hi, mp_some, mp_none, rm_fX11_feuding_h7]
theorem rm_fX11_noRung_b2 (σ : S0) (sf_2 : S0 → Int32 → Option (Int32 × S0)) (hsf_2 : ∀ (ρ : S0) (a0 : Int32), sf_2 (mix σ ρ) a0 = mp σ (sf_2 ρ a0)) (ρ : S0) (x1 : Int32)  : fX11_noRung_b2 sf_2 (mix σ ρ) x1 = mp σ (fX11_noRung_b2 sf_2 ρ x1) := by
  simp (disch := omega) only [fX11_noRung_b2, ↓ol_n, ↓oh_su, ↓oh_up, ↓mp_ol, ↓mp_obp, ↓mp_og, ↓mp_ite, mix_hi, mp_some, mp_none, hsf_2]
theorem rm_fX11_noRung_h2 (σ : S0)   : ∀ (n : Nat) (ρ : S0) (x1 : Int32), fX11_noRung_h2  n (mix σ ρ) x1 = mp σ (fX11_noRung_h2  n ρ x1)
  | 0, _, _ => rfl
  | n + 1, ρ, x1 => rm_fX11_noRung_b2 σ  (fX11_noRung_h2  n)  (rm_fX11_noRung_h2 σ   n) ρ x1 
theorem rm_fX11_noRung (σ : S0)   (ρ : S0)   : fX11_noRung  (mix σ ρ)  = mp σ (fX11_noRung  ρ ) := by
  simp (disch := omega) only [fX11_noRung, ↓ol_n, ↓oh_su, ↓oh_up, ↓mp_ol, ↓mp_obp, ↓mp_og, ↓mp_ite, mix_hi, mp_some, mp_none, rm_fX11_noRung_h2]
theorem om_fX11_noRung (σ : S0) (ρ : S0)   (kk : Int32 → S0 → Option (Int32 × S0)) : obp (fX11_noRung (mix σ ρ) ) kk = obp (fX11_noRung ρ ) (fun r s => kk r (mix σ s)) := by
  rw [rm_fX11_noRung σ ρ  , obp_mp]
theorem rm_fX11_rings_b149 (σ : S0) (sf_25 : S0 → Int32 → Int32 → Int32 → Option (Int32 × S0)) (hsf_25 : ∀ (ρ : S0) (a0 : Int32) (a1 : Int32) (a2 : Int32), sf_25 (mix σ ρ) a0 a1 a2 = mp σ (sf_25 ρ a0 a1 a2)) (ρ : S0) (x1 : Int32) (x2 : Int32) (x3 : Int32)  : fX11_rings_b149 sf_25 (mix σ ρ) x1 x2 x3 = mp σ (fX11_rings_b149 sf_25 ρ x1 x2 x3) := by
  simp (disch := omega) only [fX11_rings_b149, ↓ol_n, ↓oh_su, ↓oh_up, ↓mp_ol, ↓mp_obp, ↓mp_og, ↓mp_ite, mix_hi, mp_some, mp_none, hsf_25]
theorem rm_fX11_rings_b78 (σ : S0) (sf_25 : S0 → Int32 → Int32 → Int32 → Option (Int32 × S0)) (hsf_25 : ∀ (ρ : S0) (a0 : Int32) (a1 : Int32) (a2 : Int32), sf_25 (mix σ ρ) a0 a1 a2 = mp σ (sf_25 ρ a0 a1 a2)) (ρ : S0) (x1 : Int32) (x2 : Int32) (x3 : Int32)  : fX11_rings_b78 sf_25 (mix σ ρ) x1 x2 x3 = mp σ (fX11_rings_b78 sf_25 ρ x1 x2 x3) := by
  simp (disch := omega) only [fX11_rings_b78, ↓ol_n, ↓oh_su, ↓oh_up, ↓mp_ol, ↓mp_obp, ↓mp_og, ↓mp_ite, mix_hi, mp_some, mp_none, hsf_25, rm_fX11_rings_b149]
theorem rm_fX11_rings_b103 (σ : S0) (sf_25 : S0 → Int32 → Int32 → Int32 → Option (Int32 × S0)) (hsf_25 : ∀ (ρ : S0) (a0 : Int32) (a1 : Int32) (a2 : Int32), sf_25 (mix σ ρ) a0 a1 a2 = mp σ (sf_25 ρ a0 a1 a2)) (ρ : S0) (x1 : Int32) (x3 : Int32) (x4 : Int32) (x5 : Int32)  : fX11_rings_b103 sf_25 (mix σ ρ) x1 x3 x4 x5 = mp σ (fX11_rings_b103 sf_25 ρ x1 x3 x4 x5) := by
  simp (disch := omega) only [fX11_rings_b103, ↓ol_n, ↓oh_su, ↓oh_up, ↓mp_ol, ↓mp_obp, ↓mp_og, ↓mp_ite, ↓om_fX11_of, mix_hi, mp_some, mp_none, hsf_25, rm_fX11_of, rm_fX11_rings_b149]
theorem rm_fX11_rings_b25 (σ : S0) (sf_25 : S0 → Int32 → Int32 → Int32 → Option (Int32 × S0)) (hsf_25 : ∀ (ρ : S0) (a0 : Int32) (a1 : Int32) (a2 : Int32), sf_25 (mix σ ρ) a0 a1 a2 = mp σ (sf_25 ρ a0 a1 a2)) (ρ : S0) (x1 : Int32) (x2 : Int32) (x3 : Int32)  : fX11_rings_b25 sf_25 (mix σ ρ) x1 x2 x3 = mp σ (fX11_rings_b25 sf_25 ρ x1 x2 x3) := by
  simp (disch := omega) only [fX11_rings_b25, ↓ol_n, ↓oh_su, ↓oh_up, ↓mp_ol, ↓mp_obp, ↓mp_og, ↓mp_ite, ↓om_fX11_strokes, ↓om_fX11_stroke, ↓om_fX11_of, ↓om_fX11_isFeud, mix_hi, mp_some, mp_none, hsf_25, rm_fX11_strokes, rm_fX11_stroke, rm_fX11_of, rm_fX11_rings_b78, rm_fX11_rings_b103, rm_fX11_isFeud]
theorem rm_fX11_rings_h25 (σ : S0)   : ∀ (n : Nat) (ρ : S0) (x1 : Int32) (x2 : Int32) (x3 : Int32), fX11_rings_h25  n (mix σ ρ) x1 x2 x3 = mp σ (fX11_rings_h25  n ρ x1 x2 x3)
  | 0, _, _, _, _ => rfl
  | n + 1, ρ, x1, x2, x3 => rm_fX11_rings_b25 σ  (fX11_rings_h25  n)  (rm_fX11_rings_h25 σ   n) ρ x1 x2 x3 
theorem rm_fX11_rings (σ : S0)   (ρ : S0) (x1 : Int32)  : fX11_rings  (mix σ ρ) x1 = mp σ (fX11_rings  ρ x1) := by
  simp (disch := omega) only [fX11_rings, ↓ol_n, ↓oh_su, ↓oh_up, ↓mp_ol, ↓mp_obp, ↓mp_og, ↓mp_ite, mix_hi, mp_some, mp_none, rm_fX11_rings_h25]
theorem om_fX11_rings (σ : S0) (ρ : S0) (x1 : Int32)  (kk : Int32 → S0 → Option (Int32 × S0)) : obp (fX11_rings (mix σ ρ) x1) kk = obp (fX11_rings ρ x1) (fun r s => kk r (mix σ s)) := by
  rw [rm_fX11_rings σ ρ x1 , obp_mp]
theorem rm_fX11_valueOf (σ : S0)   (ρ : S0) (x1 : Int32)  : fX11_valueOf  (mix σ ρ) x1 = mp σ (fX11_valueOf  ρ x1) := by
  simp (disch := omega) only [fX11_valueOf, ↓ol_n, ↓oh_su, ↓oh_up, ↓mp_ol, ↓mp_obp, ↓mp_og, ↓mp_ite, ↓om_fX11_rings, mix_hi, mp_some, mp_none, rm_fX11_rings]
theorem om_fX11_valueOf (σ : S0) (ρ : S0) (x1 : Int32)  (kk : Int32 → S0 → Option (Int32 × S0)) : obp (fX11_valueOf (mix σ ρ) x1) kk = obp (fX11_valueOf ρ x1) (fun r s => kk r (mix σ s)) := by
  rw [rm_fX11_valueOf σ ρ x1 , obp_mp]
theorem rm_fX11_ring (σ : S0)   (ρ : S0) (x1 : Int32) (x2 : Int32)  : fX11_ring  (mix σ ρ) x1 x2 = mp σ (fX11_ring  ρ x1 x2) := by
  simp (disch := omega) only [fX11_ring, ↓ol_n, ↓oh_su, ↓oh_up, ↓mp_ol, ↓mp_obp, ↓mp_og, ↓mp_ite, ↓om_fX11_isTune, ↓om_fX11_valueOf, mix_hi, mp_some, mp_none, rm_fX11_isTune, rm_fX11_valueOf]
theorem rm_fX11_takenNow_b46 (σ : S0) (sf_7 : S0 → Int32 → Int32 → Int32 → Option (Int32 × S0)) (hsf_7 : ∀ (ρ : S0) (a0 : Int32) (a1 : Int32) (a2 : Int32), sf_7 (mix σ ρ) a0 a1 a2 = mp σ (sf_7 ρ a0 a1 a2)) (ρ : S0) (x1 : Int32) (x3 : Int32) (t0 : Int32)  : fX11_takenNow_b46 sf_7 (mix σ ρ) x1 x3 t0 = mp σ (fX11_takenNow_b46 sf_7 ρ x1 x3 t0) := by
  simp (disch := omega) only [fX11_takenNow_b46, ↓ol_n, ↓oh_su, ↓oh_up, ↓mp_ol, ↓mp_obp, ↓mp_og, ↓mp_ite, mix_hi, mp_some, mp_none, hsf_7]
theorem rm_fX11_takenNow_b33 (σ : S0) (sf_7 : S0 → Int32 → Int32 → Int32 → Option (Int32 × S0)) (hsf_7 : ∀ (ρ : S0) (a0 : Int32) (a1 : Int32) (a2 : Int32), sf_7 (mix σ ρ) a0 a1 a2 = mp σ (sf_7 ρ a0 a1 a2)) (ρ : S0) (x2 : Int32) (x3 : Int32) (x4 : Int32) (t0 : Int32)  : fX11_takenNow_b33 sf_7 (mix σ ρ) x2 x3 x4 t0 = mp σ (fX11_takenNow_b33 sf_7 ρ x2 x3 x4 t0) := by
  simp (disch := omega) only [fX11_takenNow_b33, ↓ol_n, ↓oh_su, ↓oh_up, ↓mp_ol, ↓mp_obp, ↓mp_og, ↓mp_ite, mix_hi, mp_some, mp_none, hsf_7, rm_fX11_takenNow_b46]
theorem rm_fX11_takenNow_b7 (σ : S0) (sf_7 : S0 → Int32 → Int32 → Int32 → Option (Int32 × S0)) (hsf_7 : ∀ (ρ : S0) (a0 : Int32) (a1 : Int32) (a2 : Int32), sf_7 (mix σ ρ) a0 a1 a2 = mp σ (sf_7 ρ a0 a1 a2)) (ρ : S0) (x1 : Int32) (x2 : Int32) (x3 : Int32)  : fX11_takenNow_b7 sf_7 (mix σ ρ) x1 x2 x3 = mp σ (fX11_takenNow_b7 sf_7 ρ x1 x2 x3) := by
  simp (disch := omega) only [fX11_takenNow_b7, ↓ol_n, ↓oh_su, ↓oh_up, ↓mp_ol, ↓mp_obp, ↓mp_og, ↓mp_ite, ↓om_fX11_valueOf, mix_hi, mp_some, mp_none, hsf_7, rm_fX11_valueOf, rm_fX11_takenNow_b33]
theorem rm_fX11_takenNow_h7 (σ : S0)   : ∀ (n : Nat) (ρ : S0) (x1 : Int32) (x2 : Int32) (x3 : Int32), fX11_takenNow_h7  n (mix σ ρ) x1 x2 x3 = mp σ (fX11_takenNow_h7  n ρ x1 x2 x3)
  | 0, _, _, _, _ => rfl
  | n + 1, ρ, x1, x2, x3 => rm_fX11_takenNow_b7 σ  (fX11_takenNow_h7  n)  (rm_fX11_takenNow_h7 σ   n) ρ x1 x2 x3 
theorem rm_fX11_takenNow (σ : S0)   (ρ : S0)   : fX11_takenNow  (mix σ ρ)  = mp σ (fX11_takenNow  ρ ) := by
  simp (disch := omega) only [fX11_takenNow, ↓ol_n, ↓oh_su, ↓oh_up, ↓mp_ol, ↓mp_obp, ↓mp_og, ↓mp_ite, mix_hi, mp_some, mp_none, rm_fX11_takenNow_h7]
theorem om_fX11_takenNow (σ : S0) (ρ : S0)   (kk : Int32 → S0 → Option (Int32 × S0)) : obp (fX11_takenNow (mix σ ρ) ) kk = obp (fX11_takenNow ρ ) (fun r s => kk r (mix σ s)) := by
  rw [rm_fX11_takenNow σ ρ  , obp_mp]
theorem rm_fX11_taken (σ : S0)   (ρ : S0)   : fX11_taken  (mix σ ρ)  = mp σ (fX11_taken  ρ ) := by
  simp (disch := omega) only [fX11_taken, ↓ol_n, ↓oh_su, ↓oh_up, ↓mp_ol, ↓mp_obp, ↓mp_og, ↓mp_ite, ↓om_fX11_takenNow, mix_hi, mp_some, mp_none, rm_fX11_takenNow]
theorem rm_fX11_getsOf_b16 (σ : S0)   (ρ : S0) (x1 : Int32) (x2 : Int32) (t0 : Int32)  : fX11_getsOf_b16  (mix σ ρ) x1 x2 t0 = mp σ (fX11_getsOf_b16  ρ x1 x2 t0) := by
  simp (disch := omega) only [fX11_getsOf_b16, ↓ol_n, ↓oh_su, ↓oh_up, ↓mp_ol, ↓mp_obp, ↓mp_og, ↓mp_ite, ↓om_fX11_of, mix_hi, mp_some, mp_none, rm_fX11_of]
theorem rm_fX11_getsOf (σ : S0)   (ρ : S0) (x1 : Int32) (x2 : Int32)  : fX11_getsOf  (mix σ ρ) x1 x2 = mp σ (fX11_getsOf  ρ x1 x2) := by
  simp (disch := omega) only [fX11_getsOf, ↓ol_n, ↓oh_su, ↓oh_up, ↓mp_ol, ↓mp_obp, ↓mp_og, ↓mp_ite, ↓om_fX11_of, mix_hi, mp_some, mp_none, rm_fX11_of, rm_fX11_getsOf_b16]
theorem om_fX11_getsOf (σ : S0) (ρ : S0) (x1 : Int32) (x2 : Int32)  (kk : Int32 → S0 → Option (Int32 × S0)) : obp (fX11_getsOf (mix σ ρ) x1 x2) kk = obp (fX11_getsOf ρ x1 x2) (fun r s => kk r (mix σ s)) := by
  rw [rm_fX11_getsOf σ ρ x1 x2 , obp_mp]
theorem rm_fX11_getsNow_b50 (σ : S0) (sf_10 : S0 → Int32 → Int32 → Int32 → Int32 → Option (Int32 × S0)) (hsf_10 : ∀ (ρ : S0) (a0 : Int32) (a1 : Int32) (a2 : Int32) (a3 : Int32), sf_10 (mix σ ρ) a0 a1 a2 a3 = mp σ (sf_10 ρ a0 a1 a2 a3)) (ρ : S0) (x1 : Int32) (x2 : Int32) (x4 : Int32) (t0 : Int32) (t1 : Int32)  : fX11_getsNow_b50 sf_10 (mix σ ρ) x1 x2 x4 t0 t1 = mp σ (fX11_getsNow_b50 sf_10 ρ x1 x2 x4 t0 t1) := by
  simp (disch := omega) only [fX11_getsNow_b50, ↓ol_n, ↓oh_su, ↓oh_up, ↓mp_ol, ↓mp_obp, ↓mp_og, ↓mp_ite, mix_hi, mp_some, mp_none, hsf_10]
theorem rm_fX11_getsNow_b10 (σ : S0) (sf_10 : S0 → Int32 → Int32 → Int32 → Int32 → Option (Int32 × S0)) (hsf_10 : ∀ (ρ : S0) (a0 : Int32) (a1 : Int32) (a2 : Int32) (a3 : Int32), sf_10 (mix σ ρ) a0 a1 a2 a3 = mp σ (sf_10 ρ a0 a1 a2 a3)) (ρ : S0) (x1 : Int32) (x2 : Int32) (x3 : Int32) (x4 : Int32)  : fX11_getsNow_b10 sf_10 (mix σ ρ) x1 x2 x3 x4 = mp σ (fX11_getsNow_b10 sf_10 ρ x1 x2 x3 x4) := by
  simp (disch := omega) only [fX11_getsNow_b10, ↓ol_n, ↓oh_su, ↓oh_up, ↓mp_ol, ↓mp_obp, ↓mp_og, ↓mp_ite, ↓om_fX11_strokes, ↓om_fX11_stroke, ↓om_fX11_getsOf, mix_hi, mp_some, mp_none, hsf_10, rm_fX11_strokes, rm_fX11_stroke, rm_fX11_getsOf, rm_fX11_getsNow_b50]
theorem rm_fX11_getsNow_h10 (σ : S0)   : ∀ (n : Nat) (ρ : S0) (x1 : Int32) (x2 : Int32) (x3 : Int32) (x4 : Int32), fX11_getsNow_h10  n (mix σ ρ) x1 x2 x3 x4 = mp σ (fX11_getsNow_h10  n ρ x1 x2 x3 x4)
  | 0, _, _, _, _, _ => rfl
  | n + 1, ρ, x1, x2, x3, x4 => rm_fX11_getsNow_b10 σ  (fX11_getsNow_h10  n)  (rm_fX11_getsNow_h10 σ   n) ρ x1 x2 x3 x4 
theorem rm_fX11_getsNow (σ : S0)   (ρ : S0) (x1 : Int32) (x2 : Int32)  : fX11_getsNow  (mix σ ρ) x1 x2 = mp σ (fX11_getsNow  ρ x1 x2) := by
  simp (disch := omega) only [fX11_getsNow, ↓ol_n, ↓oh_su, ↓oh_up, ↓mp_ol, ↓mp_obp, ↓mp_og, ↓mp_ite, ↓om_fX11_rings, mix_hi, mp_some, mp_none, rm_fX11_rings, rm_fX11_getsNow_h10]
theorem om_fX11_getsNow (σ : S0) (ρ : S0) (x1 : Int32) (x2 : Int32)  (kk : Int32 → S0 → Option (Int32 × S0)) : obp (fX11_getsNow (mix σ ρ) x1 x2) kk = obp (fX11_getsNow ρ x1 x2) (fun r s => kk r (mix σ s)) := by
  rw [rm_fX11_getsNow σ ρ x1 x2 , obp_mp]
theorem rm_fX11_gets (σ : S0)   (ρ : S0) (x1 : Int32) (x2 : Int32)  : fX11_gets  (mix σ ρ) x1 x2 = mp σ (fX11_gets  ρ x1 x2) := by
  simp (disch := omega) only [fX11_gets, ↓ol_n, ↓oh_su, ↓oh_up, ↓mp_ol, ↓mp_obp, ↓mp_og, ↓mp_ite, ↓om_fX11_isHouse, ↓om_fX11_isTune, ↓om_fX11_getsNow, mix_hi, mp_some, mp_none, rm_fX11_isHouse, rm_fX11_isTune, rm_fX11_getsNow]
theorem rm_fX11_wageOf (σ : S0)   (ρ : S0) (x1 : Int32)  : fX11_wageOf  (mix σ ρ) x1 = mp σ (fX11_wageOf  ρ x1) := by
  simp (disch := omega) only [fX11_wageOf, ↓ol_n, ↓oh_su, ↓oh_up, ↓mp_ol, ↓mp_obp, ↓mp_og, ↓mp_ite, ↓om_fX11_takenNow, ↓om_fX11_getsNow, mix_hi, mp_some, mp_none, rm_fX11_takenNow, rm_fX11_getsNow]
theorem om_fX11_wageOf (σ : S0) (ρ : S0) (x1 : Int32)  (kk : Int32 → S0 → Option (Int32 × S0)) : obp (fX11_wageOf (mix σ ρ) x1) kk = obp (fX11_wageOf ρ x1) (fun r s => kk r (mix σ s)) := by
  rw [rm_fX11_wageOf σ ρ x1 , obp_mp]
theorem rm_fX11_wage (σ : S0)   (ρ : S0) (x1 : Int32)  : fX11_wage  (mix σ ρ) x1 = mp σ (fX11_wage  ρ x1) := by
  simp (disch := omega) only [fX11_wage, ↓ol_n, ↓oh_su, ↓oh_up, ↓mp_ol, ↓mp_obp, ↓mp_og, ↓mp_ite, ↓om_fX11_isHouse, ↓om_fX11_wageOf, mix_hi, mp_some, mp_none, rm_fX11_isHouse, rm_fX11_wageOf]
theorem rm_fX11_asks_b39 (σ : S0) (sf_2 : S0 → Int32 → Int32 → Int32 → Option (Int32 × S0)) (hsf_2 : ∀ (ρ : S0) (a0 : Int32) (a1 : Int32) (a2 : Int32), sf_2 (mix σ ρ) a0 a1 a2 = mp σ (sf_2 ρ a0 a1 a2)) (ρ : S0) (x1 : Int32) (x2 : Int32) (x3 : Int32) (t0 : Int32) (t1 : Int32)  : fX11_asks_b39 sf_2 (mix σ ρ) x1 x2 x3 t0 t1 = mp σ (fX11_asks_b39 sf_2 ρ x1 x2 x3 t0 t1) := by
  simp (disch := omega) only [fX11_asks_b39, ↓ol_n, ↓oh_su, ↓oh_up, ↓mp_ol, ↓mp_obp, ↓mp_og, ↓mp_ite, mix_hi, mp_some, mp_none, hsf_2]
theorem rm_fX11_asks_b2 (σ : S0) (sf_2 : S0 → Int32 → Int32 → Int32 → Option (Int32 × S0)) (hsf_2 : ∀ (ρ : S0) (a0 : Int32) (a1 : Int32) (a2 : Int32), sf_2 (mix σ ρ) a0 a1 a2 = mp σ (sf_2 ρ a0 a1 a2)) (ρ : S0) (x1 : Int32) (x2 : Int32) (x3 : Int32)  : fX11_asks_b2 sf_2 (mix σ ρ) x1 x2 x3 = mp σ (fX11_asks_b2 sf_2 ρ x1 x2 x3) := by
  simp (disch := omega) only [fX11_asks_b2, ↓ol_n, ↓oh_su, ↓oh_up, ↓mp_ol, ↓mp_obp, ↓mp_og, ↓mp_ite, ↓om_fX11_of, mix_hi, mp_some, mp_none, hsf_2, rm_fX11_of, rm_fX11_asks_b39]
theorem rm_fX11_asks_h2 (σ : S0)   : ∀ (n : Nat) (ρ : S0) (x1 : Int32) (x2 : Int32) (x3 : Int32), fX11_asks_h2  n (mix σ ρ) x1 x2 x3 = mp σ (fX11_asks_h2  n ρ x1 x2 x3)
  | 0, _, _, _, _ => rfl
  | n + 1, ρ, x1, x2, x3 => rm_fX11_asks_b2 σ  (fX11_asks_h2  n)  (rm_fX11_asks_h2 σ   n) ρ x1 x2 x3 
theorem rm_fX11_asks (σ : S0)   (ρ : S0) (x1 : Int32) (x2 : Int32)  : fX11_asks  (mix σ ρ) x1 x2 = mp σ (fX11_asks  ρ x1 x2) := by
  simp (disch := omega) only [fX11_asks, ↓ol_n, ↓oh_su, ↓oh_up, ↓mp_ol, ↓mp_obp, ↓mp_og, ↓mp_ite, mix_hi, mp_some, mp_none, rm_fX11_asks_h2]
theorem om_fX11_asks (σ : S0) (ρ : S0) (x1 : Int32) (x2 : Int32)  (kk : Int32 → S0 → Option (Int32 × S0)) : obp (fX11_asks (mix σ ρ) x1 x2) kk = obp (fX11_asks ρ x1 x2) (fun r s => kk r (mix σ s)) := by
  rw [rm_fX11_asks σ ρ x1 x2 , obp_mp]
theorem rm_fX11_askOf_b43 (σ : S0) (sf_43 : S0 → Int32 → Int32 → Option (Int32 × S0)) (hsf_43 : ∀ (ρ : S0) (a0 : Int32) (a1 : Int32), sf_43 (mix σ ρ) a0 a1 = mp σ (sf_43 ρ a0 a1)) (ρ : S0) (x3 : Int32) (x4 : Int32)  : fX11_askOf_b43 sf_43 (mix σ ρ) x3 x4 = mp σ (fX11_askOf_b43 sf_43 ρ x3 x4) := by
  simp (disch := omega) only [fX11_askOf_b43, ↓ol_n, ↓oh_su, ↓oh_up, ↓mp_ol, ↓mp_obp, ↓mp_og, ↓mp_ite, mix_hi, mp_some, mp_none, hsf_43]
theorem rm_fX11_askOf_h43 (σ : S0)   : ∀ (n : Nat) (ρ : S0) (x3 : Int32) (x4 : Int32), fX11_askOf_h43  n (mix σ ρ) x3 x4 = mp σ (fX11_askOf_h43  n ρ x3 x4)
  | 0, _, _, _ => rfl
  | n + 1, ρ, x3, x4 => rm_fX11_askOf_b43 σ  (fX11_askOf_h43  n)  (rm_fX11_askOf_h43 σ   n) ρ x3 x4 
theorem rm_fX11_askOf_b2 (σ : S0) (sf_2 : S0 → Int32 → Int32 → Int32 → Option (Int32 × S0)) (hsf_2 : ∀ (ρ : S0) (a0 : Int32) (a1 : Int32) (a2 : Int32), sf_2 (mix σ ρ) a0 a1 a2 = mp σ (sf_2 ρ a0 a1 a2)) (ρ : S0) (x1 : Int32) (x2 : Int32) (x3 : Int32)  : fX11_askOf_b2 sf_2 (mix σ ρ) x1 x2 x3 = mp σ (fX11_askOf_b2 sf_2 ρ x1 x2 x3) := by
  simp (disch := omega) only [fX11_askOf_b2, ↓ol_n, ↓oh_su, ↓oh_up, ↓mp_ol, ↓mp_obp, ↓mp_og, ↓mp_ite, ↓om_fX11_asks, ↓om_fX11_wageOf, ↓om_fX11_of, mix_hi, mp_some, mp_none, hsf_2, rm_fX11_asks, rm_fX11_wageOf, rm_fX11_askOf_h43, rm_fX11_of]
theorem rm_fX11_askOf_h2 (σ : S0)   : ∀ (n : Nat) (ρ : S0) (x1 : Int32) (x2 : Int32) (x3 : Int32), fX11_askOf_h2  n (mix σ ρ) x1 x2 x3 = mp σ (fX11_askOf_h2  n ρ x1 x2 x3)
  | 0, _, _, _, _ => rfl
  | n + 1, ρ, x1, x2, x3 => rm_fX11_askOf_b2 σ  (fX11_askOf_h2  n)  (rm_fX11_askOf_h2 σ   n) ρ x1 x2 x3 
theorem rm_fX11_askOf (σ : S0)   (ρ : S0) (x1 : Int32) (x2 : Int32)  : fX11_askOf  (mix σ ρ) x1 x2 = mp σ (fX11_askOf  ρ x1 x2) := by
  simp (disch := omega) only [fX11_askOf, ↓ol_n, ↓oh_su, ↓oh_up, ↓mp_ol, ↓mp_obp, ↓mp_og, ↓mp_ite, mix_hi, mp_some, mp_none, rm_fX11_askOf_h2]
theorem om_fX11_askOf (σ : S0) (ρ : S0) (x1 : Int32) (x2 : Int32)  (kk : Int32 → S0 → Option (Int32 × S0)) : obp (fX11_askOf (mix σ ρ) x1 x2) kk = obp (fX11_askOf ρ x1 x2) (fun r s => kk r (mix σ s)) := by
  rw [rm_fX11_askOf σ ρ x1 x2 , obp_mp]
end
section
theorem rm_fX11_ask (σ : S0)   (ρ : S0) (x1 : Int32) (x2 : Int32)  : fX11_ask  (mix σ ρ) x1 x2 = mp σ (fX11_ask  ρ x1 x2) := by
  simp (disch := omega) only [fX11_ask, ↓ol_n, ↓oh_su, ↓oh_up, ↓mp_ol, ↓mp_obp, ↓mp_og, ↓mp_ite, ↓om_fX11_isHouse, ↓om_fX11_in, ↓om_fX11_askOf, mix_hi, mp_some, mp_none, rm_fX11_isHouse, rm_fX11_in, rm_fX11_askOf]
theorem rm_fX11_findBest_b81 (σ : S0) (sf_13 : S0 → Int32 → Int32 → Option (Int32 × S0)) (hsf_13 : ∀ (ρ : S0) (a0 : Int32) (a1 : Int32), sf_13 (mix σ ρ) a0 a1 = mp σ (sf_13 ρ a0 a1)) (ρ : S0) (x1 : Int32) (x2 : Int32) (t0 : Int32)  : fX11_findBest_b81 sf_13 (mix σ ρ) x1 x2 t0 = mp σ (fX11_findBest_b81 sf_13 ρ x1 x2 t0) := by
  simp (disch := omega) only [fX11_findBest_b81, ↓ol_n, ↓oh_su, ↓oh_up, ↓mp_ol, ↓mp_obp, ↓mp_og, ↓mp_ite, mix_hi, mp_some, mp_none, hsf_13]
theorem rm_fX11_findBest_b64 (σ : S0) (sf_13 : S0 → Int32 → Int32 → Option (Int32 × S0)) (hsf_13 : ∀ (ρ : S0) (a0 : Int32) (a1 : Int32), sf_13 (mix σ ρ) a0 a1 = mp σ (sf_13 ρ a0 a1)) (ρ : S0) (x1 : Int32) (x2 : Int32) (x3 : Int32) (x4 : Int32) (t0 : Int32)  : fX11_findBest_b64 sf_13 (mix σ ρ) x1 x2 x3 x4 t0 = mp σ (fX11_findBest_b64 sf_13 ρ x1 x2 x3 x4 t0) := by
  simp (disch := omega) only [fX11_findBest_b64, ↓ol_n, ↓oh_su, ↓oh_up, ↓mp_ol, ↓mp_obp, ↓mp_og, ↓mp_ite, mix_hi, mp_some, mp_none, hsf_13, rm_fX11_findBest_b81]
theorem rm_fX11_findBest_b48 (σ : S0) (sf_13 : S0 → Int32 → Int32 → Option (Int32 × S0)) (hsf_13 : ∀ (ρ : S0) (a0 : Int32) (a1 : Int32), sf_13 (mix σ ρ) a0 a1 = mp σ (sf_13 ρ a0 a1)) (ρ : S0) (x1 : Int32) (x2 : Int32) (x3 : Int32) (t0 : Int32)  : fX11_findBest_b48 sf_13 (mix σ ρ) x1 x2 x3 t0 = mp σ (fX11_findBest_b48 sf_13 ρ x1 x2 x3 t0) := by
  simp (disch := omega) only [fX11_findBest_b48, ↓ol_n, ↓oh_su, ↓oh_up, ↓mp_ol, ↓mp_obp, ↓mp_og, ↓mp_ite, mix_hi, mp_some, mp_none, hsf_13, rm_fX11_findBest_b64]
theorem rm_fX11_findBest_b43 (σ : S0) (sf_13 : S0 → Int32 → Int32 → Option (Int32 × S0)) (hsf_13 : ∀ (ρ : S0) (a0 : Int32) (a1 : Int32), sf_13 (mix σ ρ) a0 a1 = mp σ (sf_13 ρ a0 a1)) (ρ : S0) (x1 : Int32) (x2 : Int32) (x3 : Int32)  : fX11_findBest_b43 sf_13 (mix σ ρ) x1 x2 x3 = mp σ (fX11_findBest_b43 sf_13 ρ x1 x2 x3) := by
  simp (disch := omega) only [fX11_findBest_b43, ↓ol_n, ↓oh_su, ↓oh_up, ↓mp_ol, ↓mp_obp, ↓mp_og, ↓mp_ite, mix_hi, mp_some, mp_none, hsf_13, rm_fX11_findBest_b48]
theorem rm_fX11_findBest_b13 (σ : S0) (sf_13 : S0 → Int32 → Int32 → Option (Int32 × S0)) (hsf_13 : ∀ (ρ : S0) (a0 : Int32) (a1 : Int32), sf_13 (mix σ ρ) a0 a1 = mp σ (sf_13 ρ a0 a1)) (ρ : S0) (x1 : Int32) (x2 : Int32)  : fX11_findBest_b13 sf_13 (mix σ ρ) x1 x2 = mp σ (fX11_findBest_b13 sf_13 ρ x1 x2) := by
  simp (disch := omega) only [fX11_findBest_b13, ↓ol_n, ↓oh_su, ↓oh_up, ↓mp_ol, ↓mp_obp, ↓mp_og, ↓mp_ite, ↓om_fX11_askOf, mix_hi, mp_some, mp_none, hsf_13, rm_fX11_askOf, rm_fX11_findBest_b43, rm_fX11_findBest_b48]
theorem rm_fX11_findBest_h13 (σ : S0)   : ∀ (n : Nat) (ρ : S0) (x1 : Int32) (x2 : Int32), fX11_findBest_h13  n (mix σ ρ) x1 x2 = mp σ (fX11_findBest_h13  n ρ x1 x2)
  | 0, _, _, _ => rfl
  | n + 1, ρ, x1, x2 => rm_fX11_findBest_b13 σ  (fX11_findBest_h13  n)  (rm_fX11_findBest_h13 σ   n) ρ x1 x2 
theorem rm_fX11_findBest (σ : S0)   (ρ : S0) (x1 : Int32)  : fX11_findBest  (mix σ ρ) x1 = mp σ (fX11_findBest  ρ x1) := by
  simp (disch := omega) only [fX11_findBest, ↓ol_n, ↓oh_su, ↓oh_up, ↓mp_ol, ↓mp_obp, ↓mp_og, ↓mp_ite, mix_hi, mp_some, mp_none, rm_fX11_findBest_h13]
theorem om_fX11_findBest (σ : S0) (ρ : S0) (x1 : Int32)  (kk : Int32 → S0 → Option (Int32 × S0)) : obp (fX11_findBest (mix σ ρ) x1) kk = obp (fX11_findBest ρ x1) (fun r s => kk r (mix σ s)) := by
  rw [rm_fX11_findBest σ ρ x1 , obp_mp]
theorem rm_fX11_best (σ : S0)   (ρ : S0) (x1 : Int32) (x2 : Int32)  : fX11_best  (mix σ ρ) x1 x2 = mp σ (fX11_best  ρ x1 x2) := by
  simp (disch := omega) only [fX11_best, ↓ol_n, ↓oh_su, ↓oh_up, ↓mp_ol, ↓mp_obp, ↓mp_og, ↓mp_ite, ↓om_fX11_isHouse, ↓om_fX11_in, ↓om_fX11_findBest, mix_hi, mp_some, mp_none, rm_fX11_isHouse, rm_fX11_in, rm_fX11_findBest]
theorem rm_fX11_changes (σ : S0)   (ρ : S0) (x1 : Int32)  : fX11_changes  (mix σ ρ) x1 = mp σ (fX11_changes  ρ x1) := by
  simp (disch := omega) only [fX11_changes, ↓ol_n, ↓oh_su, ↓oh_up, ↓mp_ol, ↓mp_obp, ↓mp_og, ↓mp_ite, ↓om_fX11_findBest, ↓om_fX11_wageOf, mix_hi, mp_some, mp_none, rm_fX11_findBest, rm_fX11_wageOf]
theorem om_fX11_changes (σ : S0) (ρ : S0) (x1 : Int32)  (kk : Int32 → S0 → Option (Int32 × S0)) : obp (fX11_changes (mix σ ρ) x1) kk = obp (fX11_changes ρ x1) (fun r s => kk r (mix σ s)) := by
  rw [rm_fX11_changes σ ρ x1 , obp_mp]
theorem rm_fX11_settle_b56 (σ : S0) (sf_16 : S0 → Int32 → Int32 → Option (Int32 × S0)) (sf_26 : S0 → Int32 → Int32 → Int32 → Int32 → Option (Int32 × S0)) (hsf_16 : ∀ (ρ : S0) (a0 : Int32) (a1 : Int32), sf_16 (mix σ ρ) a0 a1 = mp σ (sf_16 ρ a0 a1)) (hsf_26 : ∀ (ρ : S0) (a0 : Int32) (a1 : Int32) (a2 : Int32) (a3 : Int32), sf_26 (mix σ ρ) a0 a1 a2 a3 = mp σ (sf_26 ρ a0 a1 a2 a3)) (ρ : S0) (x1 : Int32) (x2 : Int32) (x3 : Int32) (x4 : Int32)  : fX11_settle_b56 sf_16 sf_26 (mix σ ρ) x1 x2 x3 x4 = mp σ (fX11_settle_b56 sf_16 sf_26 ρ x1 x2 x3 x4) := by
  simp (disch := omega) only [fX11_settle_b56, ↓ol_n, ↓oh_su, ↓oh_up, ↓mp_ol, ↓mp_obp, ↓mp_og, ↓mp_ite, mix_hi, mp_some, mp_none, hsf_16, hsf_26]
theorem rm_fX11_settle_b26 (σ : S0) (sf_16 : S0 → Int32 → Int32 → Option (Int32 × S0)) (sf_26 : S0 → Int32 → Int32 → Int32 → Int32 → Option (Int32 × S0)) (hsf_16 : ∀ (ρ : S0) (a0 : Int32) (a1 : Int32), sf_16 (mix σ ρ) a0 a1 = mp σ (sf_16 ρ a0 a1)) (hsf_26 : ∀ (ρ : S0) (a0 : Int32) (a1 : Int32) (a2 : Int32) (a3 : Int32), sf_26 (mix σ ρ) a0 a1 a2 a3 = mp σ (sf_26 ρ a0 a1 a2 a3)) (ρ : S0) (x1 : Int32) (x2 : Int32) (x3 : Int32) (x4 : Int32)  : fX11_settle_b26 sf_16 sf_26 (mix σ ρ) x1 x2 x3 x4 = mp σ (fX11_settle_b26 sf_16 sf_26 ρ x1 x2 x3 x4) := by
  simp (disch := omega) only [fX11_settle_b26, ↓ol_n, ↓oh_su, ↓oh_up, ↓mp_ol, ↓mp_obp, ↓mp_og, ↓mp_ite, ↓om_fX11_changes, ↓om_fX11_asks, mix_hi, mp_some, mp_none, hsf_16, hsf_26, rm_fX11_changes, rm_fX11_settle_b56, rm_fX11_asks]
theorem rm_fX11_settle_h26 (σ : S0) (sf_16 : S0 → Int32 → Int32 → Option (Int32 × S0)) (hsf_16 : ∀ (ρ : S0) (a0 : Int32) (a1 : Int32), sf_16 (mix σ ρ) a0 a1 = mp σ (sf_16 ρ a0 a1)) : ∀ (n : Nat) (ρ : S0) (x1 : Int32) (x2 : Int32) (x3 : Int32) (x4 : Int32), fX11_settle_h26 sf_16 n (mix σ ρ) x1 x2 x3 x4 = mp σ (fX11_settle_h26 sf_16 n ρ x1 x2 x3 x4)
  | 0, _, _, _, _, _ => rfl
  | n + 1, ρ, x1, x2, x3, x4 => rm_fX11_settle_b26 σ sf_16 (fX11_settle_h26 sf_16 n) hsf_16 (rm_fX11_settle_h26 σ sf_16 hsf_16 n) ρ x1 x2 x3 x4 
theorem rm_fX11_settle_b16 (σ : S0) (sf_16 : S0 → Int32 → Int32 → Option (Int32 × S0)) (hsf_16 : ∀ (ρ : S0) (a0 : Int32) (a1 : Int32), sf_16 (mix σ ρ) a0 a1 = mp σ (sf_16 ρ a0 a1)) (ρ : S0) (x1 : Int32) (x2 : Int32)  : fX11_settle_b16 sf_16 (mix σ ρ) x1 x2 = mp σ (fX11_settle_b16 sf_16 ρ x1 x2) := by
  simp (disch := omega) only [fX11_settle_b16, ↓ol_n, ↓oh_su, ↓oh_up, ↓mp_ol, ↓mp_obp, ↓mp_og, ↓mp_ite, mix_hi, mp_some, mp_none, hsf_16, rm_fX11_settle_h26]
theorem rm_fX11_settle_h16 (σ : S0)   : ∀ (n : Nat) (ρ : S0) (x1 : Int32) (x2 : Int32), fX11_settle_h16  n (mix σ ρ) x1 x2 = mp σ (fX11_settle_h16  n ρ x1 x2)
  | 0, _, _, _ => rfl
  | n + 1, ρ, x1, x2 => rm_fX11_settle_b16 σ  (fX11_settle_h16  n)  (rm_fX11_settle_h16 σ   n) ρ x1 x2 
theorem rm_fX11_settle (σ : S0)   (ρ : S0) (x1 : Int32)  : fX11_settle  (mix σ ρ) x1 = mp σ (fX11_settle  ρ x1) := by
  simp (disch := omega) only [fX11_settle, ↓ol_n, ↓oh_su, ↓oh_up, ↓mp_ol, ↓mp_obp, ↓mp_og, ↓mp_ite, ↓om_fX11_in, mix_hi, mp_some, mp_none, rm_fX11_in, rm_fX11_settle_h16]
theorem rm_fX11_settled_b29 (σ : S0) (sf_4 : S0 → Int32 → Int32 → Option (Int32 × S0)) (hsf_4 : ∀ (ρ : S0) (a0 : Int32) (a1 : Int32), sf_4 (mix σ ρ) a0 a1 = mp σ (sf_4 ρ a0 a1)) (ρ : S0) (x2 : Int32) (t0 : Int32)  : fX11_settled_b29 sf_4 (mix σ ρ) x2 t0 = mp σ (fX11_settled_b29 sf_4 ρ x2 t0) := by
  simp (disch := omega) only [fX11_settled_b29, ↓ol_n, ↓oh_su, ↓oh_up, ↓mp_ol, ↓mp_obp, ↓mp_og, ↓mp_ite, mix_hi, mp_some, mp_none, hsf_4]
theorem rm_fX11_settled_b24 (σ : S0) (sf_4 : S0 → Int32 → Int32 → Option (Int32 × S0)) (hsf_4 : ∀ (ρ : S0) (a0 : Int32) (a1 : Int32), sf_4 (mix σ ρ) a0 a1 = mp σ (sf_4 ρ a0 a1)) (ρ : S0) (x2 : Int32)  : fX11_settled_b24 sf_4 (mix σ ρ) x2 = mp σ (fX11_settled_b24 sf_4 ρ x2) := by
  simp (disch := omega) only [fX11_settled_b24, ↓ol_n, ↓oh_su, ↓oh_up, ↓mp_ol, ↓mp_obp, ↓mp_og, ↓mp_ite, mix_hi, mp_some, mp_none, hsf_4, rm_fX11_settled_b29]
theorem rm_fX11_settled_b45 (σ : S0)   (ρ : S0) (t0 : Int32)  : fX11_settled_b45  (mix σ ρ) t0 = mp σ (fX11_settled_b45  ρ t0) := by
  simp (disch := omega) only [fX11_settled_b45, ↓ol_n, ↓oh_su, ↓oh_up, ↓mp_ol, ↓mp_obp, ↓mp_og, ↓mp_ite, ↓om_fX11_flag, mix_hi, mp_some, mp_none, rm_fX11_flag]
theorem rm_fX11_settled_b4 (σ : S0) (sf_4 : S0 → Int32 → Int32 → Option (Int32 × S0)) (hsf_4 : ∀ (ρ : S0) (a0 : Int32) (a1 : Int32), sf_4 (mix σ ρ) a0 a1 = mp σ (sf_4 ρ a0 a1)) (ρ : S0) (x1 : Int32) (x2 : Int32)  : fX11_settled_b4 sf_4 (mix σ ρ) x1 x2 = mp σ (fX11_settled_b4 sf_4 ρ x1 x2) := by
  simp (disch := omega) only [fX11_settled_b4, ↓ol_n, ↓oh_su, ↓oh_up, ↓mp_ol, ↓mp_obp, ↓mp_og, ↓mp_ite, ↓om_fX11_changes, mix_hi, mp_some, mp_none, hsf_4, rm_fX11_settled_b45, rm_fX11_settled_b24, rm_fX11_changes, rm_fX11_settled_b29]
theorem rm_fX11_settled_h4 (σ : S0)   : ∀ (n : Nat) (ρ : S0) (x1 : Int32) (x2 : Int32), fX11_settled_h4  n (mix σ ρ) x1 x2 = mp σ (fX11_settled_h4  n ρ x1 x2)
  | 0, _, _, _ => rfl
  | n + 1, ρ, x1, x2 => rm_fX11_settled_b4 σ  (fX11_settled_h4  n)  (rm_fX11_settled_h4 σ   n) ρ x1 x2 
theorem rm_fX11_settled (σ : S0)   (ρ : S0)   : fX11_settled  (mix σ ρ)  = mp σ (fX11_settled  ρ ) := by
  simp (disch := omega) only [fX11_settled, ↓ol_n, ↓oh_su, ↓oh_up, ↓mp_ol, ↓mp_obp, ↓mp_og, ↓mp_ite, mix_hi, mp_some, mp_none, rm_fX11_settled_h4]
theorem rm_fX11_bitsOf_b4 (σ : S0) (sf_4 : S0 → Int32 → Int32 → Int32 → Option (Int32 × S0)) (hsf_4 : ∀ (ρ : S0) (a0 : Int32) (a1 : Int32) (a2 : Int32), sf_4 (mix σ ρ) a0 a1 a2 = mp σ (sf_4 ρ a0 a1 a2)) (ρ : S0) (x0 : Int32) (x1 : Int32) (x2 : Int32)  : fX11_bitsOf_b4 sf_4 (mix σ ρ) x0 x1 x2 = mp σ (fX11_bitsOf_b4 sf_4 ρ x0 x1 x2) := by
  simp (disch := omega) only [fX11_bitsOf_b4, ↓ol_n, ↓oh_su, ↓oh_up, ↓mp_ol, ↓mp_obp, ↓mp_og, ↓mp_ite, mix_hi, mp_some, mp_none, hsf_4]
theorem rm_fX11_bitsOf_h4 (σ : S0)   : ∀ (n : Nat) (ρ : S0) (x0 : Int32) (x1 : Int32) (x2 : Int32), fX11_bitsOf_h4  n (mix σ ρ) x0 x1 x2 = mp σ (fX11_bitsOf_h4  n ρ x0 x1 x2)
  | 0, _, _, _, _ => rfl
  | n + 1, ρ, x0, x1, x2 => rm_fX11_bitsOf_b4 σ  (fX11_bitsOf_h4  n)  (rm_fX11_bitsOf_h4 σ   n) ρ x0 x1 x2 
theorem rm_fX11_bitsOf (σ : S0)   (ρ : S0) (x0 : Int32)  : fX11_bitsOf  (mix σ ρ) x0 = mp σ (fX11_bitsOf  ρ x0) := by
  simp (disch := omega) only [fX11_bitsOf, ↓ol_n, ↓oh_su, ↓oh_up, ↓mp_ol, ↓mp_obp, ↓mp_og, ↓mp_ite, mix_hi, mp_some, mp_none, rm_fX11_bitsOf_h4]
theorem om_fX11_bitsOf (σ : S0) (ρ : S0) (x0 : Int32)  (kk : Int32 → S0 → Option (Int32 × S0)) : obp (fX11_bitsOf (mix σ ρ) x0) kk = obp (fX11_bitsOf ρ x0) (fun r s => kk r (mix σ s)) := by
  rw [rm_fX11_bitsOf σ ρ x0 , obp_mp]
theorem rm_fX11_isFair_b46 (σ : S0) (sf_11 : S0 → Int32 → Int32 → Int32 → Option (Int32 × S0)) (hsf_11 : ∀ (ρ : S0) (a0 : Int32) (a1 : Int32) (a2 : Int32), sf_11 (mix σ ρ) a0 a1 a2 = mp σ (sf_11 ρ a0 a1 a2)) (ρ : S0) (x1 : Int32) (x2 : Int32) (x3 : Int32)  : fX11_isFair_b46 sf_11 (mix σ ρ) x1 x2 x3 = mp σ (fX11_isFair_b46 sf_11 ρ x1 x2 x3) := by
  simp (disch := omega) only [fX11_isFair_b46, ↓ol_n, ↓oh_su, ↓oh_up, ↓mp_ol, ↓mp_obp, ↓mp_og, ↓mp_ite, mix_hi, mp_some, mp_none, hsf_11]
theorem rm_fX11_isFair_b86 (σ : S0) (sf_57 : S0 → Int32 → Int32 → Int32 → Option (Int32 × S0)) (hsf_57 : ∀ (ρ : S0) (a0 : Int32) (a1 : Int32) (a2 : Int32), sf_57 (mix σ ρ) a0 a1 a2 = mp σ (sf_57 ρ a0 a1 a2)) (ρ : S0) (x2 : Int32) (x4 : Int32) (t0 : Int32)  : fX11_isFair_b86 sf_57 (mix σ ρ) x2 x4 t0 = mp σ (fX11_isFair_b86 sf_57 ρ x2 x4 t0) := by
  simp (disch := omega) only [fX11_isFair_b86, ↓ol_n, ↓oh_su, ↓oh_up, ↓mp_ol, ↓mp_obp, ↓mp_og, ↓mp_ite, mix_hi, mp_some, mp_none, hsf_57]
theorem rm_fX11_isFair_b85 (σ : S0) (sf_57 : S0 → Int32 → Int32 → Int32 → Option (Int32 × S0)) (hsf_57 : ∀ (ρ : S0) (a0 : Int32) (a1 : Int32) (a2 : Int32), sf_57 (mix σ ρ) a0 a1 a2 = mp σ (sf_57 ρ a0 a1 a2)) (ρ : S0) (x2 : Int32) (x4 : Int32)  : fX11_isFair_b85 sf_57 (mix σ ρ) x2 x4 = mp σ (fX11_isFair_b85 sf_57 ρ x2 x4) := by
  simp (disch := omega) only [fX11_isFair_b85, ↓ol_n, ↓oh_su, ↓oh_up, ↓mp_ol, ↓mp_obp, ↓mp_og, ↓mp_ite, mix_hi, mp_some, mp_none, hsf_57, rm_fX11_isFair_b86]
theorem rm_fX11_isFair_b57 (σ : S0) (sf_57 : S0 → Int32 → Int32 → Int32 → Option (Int32 × S0)) (hsf_57 : ∀ (ρ : S0) (a0 : Int32) (a1 : Int32) (a2 : Int32), sf_57 (mix σ ρ) a0 a1 a2 = mp σ (sf_57 ρ a0 a1 a2)) (ρ : S0) (x2 : Int32) (x3 : Int32) (x4 : Int32)  : fX11_isFair_b57 sf_57 (mix σ ρ) x2 x3 x4 = mp σ (fX11_isFair_b57 sf_57 ρ x2 x3 x4) := by
  simp (disch := omega) only [fX11_isFair_b57, ↓ol_n, ↓oh_su, ↓oh_up, ↓mp_ol, ↓mp_obp, ↓mp_og, ↓mp_ite, mix_hi, mp_some, mp_none, hsf_57, rm_fX11_isFair_b85, rm_fX11_isFair_b86]
theorem rm_fX11_isFair_h57 (σ : S0)   : ∀ (n : Nat) (ρ : S0) (x2 : Int32) (x3 : Int32) (x4 : Int32), fX11_isFair_h57  n (mix σ ρ) x2 x3 x4 = mp σ (fX11_isFair_h57  n ρ x2 x3 x4)
  | 0, _, _, _, _ => rfl
  | n + 1, ρ, x2, x3, x4 => rm_fX11_isFair_b57 σ  (fX11_isFair_h57  n)  (rm_fX11_isFair_h57 σ   n) ρ x2 x3 x4 
theorem rm_fX11_isFair_b11 (σ : S0) (sf_11 : S0 → Int32 → Int32 → Int32 → Option (Int32 × S0)) (hsf_11 : ∀ (ρ : S0) (a0 : Int32) (a1 : Int32) (a2 : Int32), sf_11 (mix σ ρ) a0 a1 a2 = mp σ (sf_11 ρ a0 a1 a2)) (ρ : S0) (x1 : Int32) (x2 : Int32) (x3 : Int32)  : fX11_isFair_b11 sf_11 (mix σ ρ) x1 x2 x3 = mp σ (fX11_isFair_b11 sf_11 ρ x1 x2 x3) := by
  simp (disch := omega) only [fX11_isFair_b11, ↓ol_n, ↓oh_su, ↓oh_up, ↓mp_ol, ↓mp_obp, ↓mp_og, ↓mp_ite, ↓om_fX11_rings, mix_hi, mp_some, mp_none, hsf_11, rm_fX11_isFair_h57, rm_fX11_isFair_b46, rm_fX11_rings]
theorem rm_fX11_isFair_h11 (σ : S0)   : ∀ (n : Nat) (ρ : S0) (x1 : Int32) (x2 : Int32) (x3 : Int32), fX11_isFair_h11  n (mix σ ρ) x1 x2 x3 = mp σ (fX11_isFair_h11  n ρ x1 x2 x3)
  | 0, _, _, _, _ => rfl
  | n + 1, ρ, x1, x2, x3 => rm_fX11_isFair_b11 σ  (fX11_isFair_h11  n)  (rm_fX11_isFair_h11 σ   n) ρ x1 x2 x3 
theorem rm_fX11_isFair (σ : S0)   (ρ : S0) (x1 : Int32) (x2 : Int32)  : fX11_isFair  (mix σ ρ) x1 x2 = mp σ (fX11_isFair  ρ x1 x2) := by
  simp (disch := omega) only [fX11_isFair, ↓ol_n, ↓oh_su, ↓oh_up, ↓mp_ol, ↓mp_obp, ↓mp_og, ↓mp_ite, ↓om_fX11_noRung, mix_hi, mp_some, mp_none, rm_fX11_noRung, rm_fX11_isFair_h11]
theorem om_fX11_isFair (σ : S0) (ρ : S0) (x1 : Int32) (x2 : Int32)  (kk : Int32 → S0 → Option (Int32 × S0)) : obp (fX11_isFair (mix σ ρ) x1 x2) kk = obp (fX11_isFair ρ x1 x2) (fun r s => kk r (mix σ s)) := by
  rw [rm_fX11_isFair σ ρ x1 x2 , obp_mp]
theorem rm_fX11_cheapest_b62 (σ : S0) (sf_13 : S0 → Int32 → Int32 → Int32 → Int32 → Option (Int32 × S0)) (hsf_13 : ∀ (ρ : S0) (a0 : Int32) (a1 : Int32) (a2 : Int32) (a3 : Int32), sf_13 (mix σ ρ) a0 a1 a2 a3 = mp σ (sf_13 ρ a0 a1 a2 a3)) (ρ : S0) (x1 : Int32) (x2 : Int32) (x3 : Int32) (x4 : Int32)  : fX11_cheapest_b62 sf_13 (mix σ ρ) x1 x2 x3 x4 = mp σ (fX11_cheapest_b62 sf_13 ρ x1 x2 x3 x4) := by
  simp (disch := omega) only [fX11_cheapest_b62, ↓ol_n, ↓oh_su, ↓oh_up, ↓mp_ol, ↓mp_obp, ↓mp_og, ↓mp_ite, mix_hi, mp_some, mp_none, hsf_13]
theorem rm_fX11_cheapest_b13 (σ : S0) (sf_13 : S0 → Int32 → Int32 → Int32 → Int32 → Option (Int32 × S0)) (hsf_13 : ∀ (ρ : S0) (a0 : Int32) (a1 : Int32) (a2 : Int32) (a3 : Int32), sf_13 (mix σ ρ) a0 a1 a2 a3 = mp σ (sf_13 ρ a0 a1 a2 a3)) (ρ : S0) (x1 : Int32) (x2 : Int32) (x3 : Int32) (x4 : Int32)  : fX11_cheapest_b13 sf_13 (mix σ ρ) x1 x2 x3 x4 = mp σ (fX11_cheapest_b13 sf_13 ρ x1 x2 x3 x4) := by
  simp (disch := omega) only [fX11_cheapest_b13, ↓ol_n, ↓oh_su, ↓oh_up, ↓mp_ol, ↓mp_obp, ↓mp_og, ↓mp_ite, ↓om_fX11_bitsOf, ↓om_fX11_isFair, mix_hi, mp_some, mp_none, hsf_13, rm_fX11_bitsOf, rm_fX11_cheapest_b62, rm_fX11_isFair]
theorem rm_fX11_cheapest_h13 (σ : S0)   : ∀ (n : Nat) (ρ : S0) (x1 : Int32) (x2 : Int32) (x3 : Int32) (x4 : Int32), fX11_cheapest_h13  n (mix σ ρ) x1 x2 x3 x4 = mp σ (fX11_cheapest_h13  n ρ x1 x2 x3 x4)
  | 0, _, _, _, _, _ => rfl
  | n + 1, ρ, x1, x2, x3, x4 => rm_fX11_cheapest_b13 σ  (fX11_cheapest_h13  n)  (rm_fX11_cheapest_h13 σ   n) ρ x1 x2 x3 x4 
theorem rm_fX11_cheapest (σ : S0)   (ρ : S0) (x1 : Int32) (x2 : Int32)  : fX11_cheapest  (mix σ ρ) x1 x2 = mp σ (fX11_cheapest  ρ x1 x2) := by
  simp (disch := omega) only [fX11_cheapest, ↓ol_n, ↓oh_su, ↓oh_up, ↓mp_ol, ↓mp_obp, ↓mp_og, ↓mp_ite, mix_hi, mp_some, mp_none, rm_fX11_cheapest_h13]
theorem om_fX11_cheapest (σ : S0) (ρ : S0) (x1 : Int32) (x2 : Int32)  (kk : Int32 → S0 → Option (Int32 × S0)) : obp (fX11_cheapest (mix σ ρ) x1 x2) kk = obp (fX11_cheapest ρ x1 x2) (fun r s => kk r (mix σ s)) := by
  rw [rm_fX11_cheapest σ ρ x1 x2 , obp_mp]
theorem rm_fX11_feast (σ : S0)   (ρ : S0) (x1 : Int32) (x2 : Int32)  : fX11_feast  (mix σ ρ) x1 x2 = mp σ (fX11_feast  ρ x1 x2) := by
  simp (disch := omega) only [fX11_feast, ↓ol_n, ↓oh_su, ↓oh_up, ↓mp_ol, ↓mp_obp, ↓mp_og, ↓mp_ite, ↓om_fX11_in, ↓om_fX11_cheapest, mix_hi, mp_some, mp_none, rm_fX11_in, rm_fX11_cheapest]
theorem rm_fX11_fair (σ : S0)   (ρ : S0) (x1 : Int32) (x2 : Int32) (x3 : Int32)  : fX11_fair  (mix σ ρ) x1 x2 x3 = mp σ (fX11_fair  ρ x1 x2 x3) := by
  simp (disch := omega) only [fX11_fair, ↓ol_n, ↓oh_su, ↓oh_up, ↓mp_ol, ↓mp_obp, ↓mp_og, ↓mp_ite, ↓om_fX11_in, ↓om_fX11_cheapest, mix_hi, mp_some, mp_none, rm_fX11_in, rm_fX11_cheapest]
theorem rm_fX11_canFollow (σ : S0)   (ρ : S0) (x1 : Int32) (x2 : Int32)  : fX11_canFollow  (mix σ ρ) x1 x2 = mp σ (fX11_canFollow  ρ x1 x2) := by
  simp (disch := omega) only [fX11_canFollow, ↓ol_n, ↓oh_su, ↓oh_up, ↓mp_ol, ↓mp_obp, ↓mp_og, ↓mp_ite, ↓om_fX11_of, ↓om_fX11_isFeud, mix_hi, mp_some, mp_none, rm_fX11_of, rm_fX11_isFeud]
theorem om_fX11_canFollow (σ : S0) (ρ : S0) (x1 : Int32) (x2 : Int32)  (kk : Int32 → S0 → Option (Int32 × S0)) : obp (fX11_canFollow (mix σ ρ) x1 x2) kk = obp (fX11_canFollow ρ x1 x2) (fun r s => kk r (mix σ s)) := by
  rw [rm_fX11_canFollow σ ρ x1 x2 , obp_mp]
theorem rm_fX11_restOf_b65 (σ : S0) (sf_7 : S0 → Int32 → Int32 → Int32 → Int32 → Option (Int32 × S0)) (hsf_7 : ∀ (ρ : S0) (a0 : Int32) (a1 : Int32) (a2 : Int32) (a3 : Int32), sf_7 (mix σ ρ) a0 a1 a2 a3 = mp σ (sf_7 ρ a0 a1 a2 a3)) (ρ : S0) (x1 : Int32) (x2 : Int32) (x3 : Int32) (x4 : Int32)  : fX11_restOf_b65 sf_7 (mix σ ρ) x1 x2 x3 x4 = mp σ (fX11_restOf_b65 sf_7 ρ x1 x2 x3 x4) := by
  simp (disch := omega) only [fX11_restOf_b65, ↓ol_n, ↓oh_su, ↓oh_up, ↓mp_ol, ↓mp_obp, ↓mp_og, ↓mp_ite, mix_hi, mp_some, mp_none, hsf_7]
theorem rm_fX11_restOf_b64 (σ : S0) (sf_7 : S0 → Int32 → Int32 → Int32 → Int32 → Option (Int32 × S0)) (hsf_7 : ∀ (ρ : S0) (a0 : Int32) (a1 : Int32) (a2 : Int32) (a3 : Int32), sf_7 (mix σ ρ) a0 a1 a2 a3 = mp σ (sf_7 ρ a0 a1 a2 a3)) (ρ : S0) (x1 : Int32) (x2 : Int32) (x4 : Int32) (t0 : Int32)  : fX11_restOf_b64 sf_7 (mix σ ρ) x1 x2 x4 t0 = mp σ (fX11_restOf_b64 sf_7 ρ x1 x2 x4 t0) := by
  simp (disch := omega) only [fX11_restOf_b64, ↓ol_n, ↓oh_su, ↓oh_up, ↓mp_ol, ↓mp_obp, ↓mp_og, ↓mp_ite, mix_hi, mp_some, mp_none, hsf_7, rm_fX11_restOf_b65]
theorem rm_fX11_restOf_b32 (σ : S0) (sf_7 : S0 → Int32 → Int32 → Int32 → Int32 → Option (Int32 × S0)) (hsf_7 : ∀ (ρ : S0) (a0 : Int32) (a1 : Int32) (a2 : Int32) (a3 : Int32), sf_7 (mix σ ρ) a0 a1 a2 a3 = mp σ (sf_7 ρ a0 a1 a2 a3)) (ρ : S0) (x1 : Int32) (x2 : Int32) (x3 : Int32) (x4 : Int32)  : fX11_restOf_b32 sf_7 (mix σ ρ) x1 x2 x3 x4 = mp σ (fX11_restOf_b32 sf_7 ρ x1 x2 x3 x4) := by
  simp (disch := omega) only [fX11_restOf_b32, ↓ol_n, ↓oh_su, ↓oh_up, ↓mp_ol, ↓mp_obp, ↓mp_og, ↓mp_ite, mix_hi, mp_some, mp_none, hsf_7, rm_fX11_restOf_b64]
theorem rm_fX11_restOf_b7 (σ : S0) (sf_7 : S0 → Int32 → Int32 → Int32 → Int32 → Option (Int32 × S0)) (hsf_7 : ∀ (ρ : S0) (a0 : Int32) (a1 : Int32) (a2 : Int32) (a3 : Int32), sf_7 (mix σ ρ) a0 a1 a2 a3 = mp σ (sf_7 ρ a0 a1 a2 a3)) (ρ : S0) (x1 : Int32) (x2 : Int32) (x3 : Int32) (x4 : Int32)  : fX11_restOf_b7 sf_7 (mix σ ρ) x1 x2 x3 x4 = mp σ (fX11_restOf_b7 sf_7 ρ x1 x2 x3 x4) := by
  simp (disch := omega) only [fX11_restOf_b7, ↓ol_n, ↓oh_su, ↓oh_up, ↓mp_ol, ↓mp_obp, ↓mp_og, ↓mp_ite, ↓om_fX11_canFollow, mix_hi, mp_some, mp_none, hsf_7, rm_fX11_restOf_b32, rm_fX11_canFollow, rm_fX11_restOf_b65]
theorem rm_fX11_restOf_h7 (σ : S0)   : ∀ (n : Nat) (ρ : S0) (x1 : Int32) (x2 : Int32) (x3 : Int32) (x4 : Int32), fX11_restOf_h7  n (mix σ ρ) x1 x2 x3 x4 = mp σ (fX11_restOf_h7  n ρ x1 x2 x3 x4)
  | 0, _, _, _, _, _ => rfl
  | n + 1, ρ, x1, x2, x3, x4 => rm_fX11_restOf_b7 σ  (fX11_restOf_h7  n)  (rm_fX11_restOf_h7 σ   n) ρ x1 x2 x3 x4 
theorem rm_fX11_restOf (σ : S0)   (ρ : S0) (x1 : Int32) (x2 : Int32)  : fX11_restOf  (mix σ ρ) x1 x2 = mp σ (fX11_restOf  ρ x1 x2) := by
  simp (disch := omega) only [fX11_restOf, ↓ol_n, ↓oh_su, ↓oh_up, ↓mp_ol, ↓mp_obp, ↓mp_og, ↓mp_ite, mix_hi, mp_some, mp_none, rm_fX11_restOf_h7]
theorem om_fX11_restOf (σ : S0) (ρ : S0) (x1 : Int32) (x2 : Int32)  (kk : Int32 → S0 → Option (Int32 × S0)) : obp (fX11_restOf (mix σ ρ) x1 x2) kk = obp (fX11_restOf ρ x1 x2) (fun r s => kk r (mix σ s)) := by
  rw [rm_fX11_restOf σ ρ x1 x2 , obp_mp]
theorem rm_fX11_nearestSum_b122 (σ : S0) (sf_11 : S0 → Int32 → Int32 → Int32 → Int32 → Option (Int32 × S0)) (sf_19 : S0 → Int32 → Int32 → Int32 → Int32 → Int32 → Option (Int32 × S0)) (hsf_11 : ∀ (ρ : S0) (a0 : Int32) (a1 : Int32) (a2 : Int32) (a3 : Int32), sf_11 (mix σ ρ) a0 a1 a2 a3 = mp σ (sf_11 ρ a0 a1 a2 a3)) (hsf_19 : ∀ (ρ : S0) (a0 : Int32) (a1 : Int32) (a2 : Int32) (a3 : Int32) (a4 : Int32), sf_19 (mix σ ρ) a0 a1 a2 a3 a4 = mp σ (sf_19 ρ a0 a1 a2 a3 a4)) (ρ : S0) (x1 : Int32) (x2 : Int32) (x3 : Int32) (x4 : Int32) (x5 : Int32) (t0 : Int32) (t1 : Int32)  : fX11_nearestSum_b122 sf_11 sf_19 (mix σ ρ) x1 x2 x3 x4 x5 t0 t1 = mp σ (fX11_nearestSum_b122 sf_11 sf_19 ρ x1 x2 x3 x4 x5 t0 t1) := by
  simp (disch := omega) only [fX11_nearestSum_b122, ↓ol_n, ↓oh_su, ↓oh_up, ↓mp_ol, ↓mp_obp, ↓mp_og, ↓mp_ite, mix_hi, mp_some, mp_none, hsf_11, hsf_19]
theorem rm_fX11_nearestSum_b81 (σ : S0) (sf_11 : S0 → Int32 → Int32 → Int32 → Int32 → Option (Int32 × S0)) (sf_19 : S0 → Int32 → Int32 → Int32 → Int32 → Int32 → Option (Int32 × S0)) (hsf_11 : ∀ (ρ : S0) (a0 : Int32) (a1 : Int32) (a2 : Int32) (a3 : Int32), sf_11 (mix σ ρ) a0 a1 a2 a3 = mp σ (sf_11 ρ a0 a1 a2 a3)) (hsf_19 : ∀ (ρ : S0) (a0 : Int32) (a1 : Int32) (a2 : Int32) (a3 : Int32) (a4 : Int32), sf_19 (mix σ ρ) a0 a1 a2 a3 a4 = mp σ (sf_19 ρ a0 a1 a2 a3 a4)) (ρ : S0) (x1 : Int32) (x2 : Int32) (x3 : Int32) (x4 : Int32) (x5 : Int32) (x6 : Int32) (t0 : Int32)  : fX11_nearestSum_b81 sf_11 sf_19 (mix σ ρ) x1 x2 x3 x4 x5 x6 t0 = mp σ (fX11_nearestSum_b81 sf_11 sf_19 ρ x1 x2 x3 x4 x5 x6 t0) := by
  simp (disch := omega) only [fX11_nearestSum_b81, ↓ol_n, ↓oh_su, ↓oh_up, ↓mp_ol, ↓mp_obp, ↓mp_og, ↓mp_ite, ↓om_fX11_stroke, ↓om_fX11_size, mix_hi, mp_some, mp_none, hsf_11, hsf_19, rm_fX11_nearestSum_b122, rm_fX11_stroke, rm_fX11_size]
theorem rm_fX11_nearestSum_b80 (σ : S0) (sf_11 : S0 → Int32 → Int32 → Int32 → Int32 → Option (Int32 × S0)) (sf_19 : S0 → Int32 → Int32 → Int32 → Int32 → Int32 → Option (Int32 × S0)) (hsf_11 : ∀ (ρ : S0) (a0 : Int32) (a1 : Int32) (a2 : Int32) (a3 : Int32), sf_11 (mix σ ρ) a0 a1 a2 a3 = mp σ (sf_11 ρ a0 a1 a2 a3)) (hsf_19 : ∀ (ρ : S0) (a0 : Int32) (a1 : Int32) (a2 : Int32) (a3 : Int32) (a4 : Int32), sf_19 (mix σ ρ) a0 a1 a2 a3 a4 = mp σ (sf_19 ρ a0 a1 a2 a3 a4)) (ρ : S0) (x1 : Int32) (x2 : Int32) (x3 : Int32) (x4 : Int32) (x5 : Int32) (x6 : Int32)  : fX11_nearestSum_b80 sf_11 sf_19 (mix σ ρ) x1 x2 x3 x4 x5 x6 = mp σ (fX11_nearestSum_b80 sf_11 sf_19 ρ x1 x2 x3 x4 x5 x6) := by
  simp (disch := omega) only [fX11_nearestSum_b80, ↓ol_n, ↓oh_su, ↓oh_up, ↓mp_ol, ↓mp_obp, ↓mp_og, ↓mp_ite, mix_hi, mp_some, mp_none, hsf_11, hsf_19, rm_fX11_nearestSum_b81]
theorem rm_fX11_nearestSum_b50 (σ : S0) (sf_11 : S0 → Int32 → Int32 → Int32 → Int32 → Option (Int32 × S0)) (sf_19 : S0 → Int32 → Int32 → Int32 → Int32 → Int32 → Option (Int32 × S0)) (hsf_11 : ∀ (ρ : S0) (a0 : Int32) (a1 : Int32) (a2 : Int32) (a3 : Int32), sf_11 (mix σ ρ) a0 a1 a2 a3 = mp σ (sf_11 ρ a0 a1 a2 a3)) (hsf_19 : ∀ (ρ : S0) (a0 : Int32) (a1 : Int32) (a2 : Int32) (a3 : Int32) (a4 : Int32), sf_19 (mix σ ρ) a0 a1 a2 a3 a4 = mp σ (sf_19 ρ a0 a1 a2 a3 a4)) (ρ : S0) (x1 : Int32) (x2 : Int32) (x3 : Int32) (x4 : Int32) (x5 : Int32) (t0 : Int32)  : fX11_nearestSum_b50 sf_11 sf_19 (mix σ ρ) x1 x2 x3 x4 x5 t0 = mp σ (fX11_nearestSum_b50 sf_11 sf_19 ρ x1 x2 x3 x4 x5 t0) := by
  simp (disch := omega) only [fX11_nearestSum_b50, ↓ol_n, ↓oh_su, ↓oh_up, ↓mp_ol, ↓mp_obp, ↓mp_og, ↓mp_ite, ↓om_fX11_of, mix_hi, mp_some, mp_none, hsf_11, hsf_19, rm_fX11_nearestSum_b80, rm_fX11_of, rm_fX11_nearestSum_b81]
theorem rm_fX11_nearestSum_b19 (σ : S0) (sf_11 : S0 → Int32 → Int32 → Int32 → Int32 → Option (Int32 × S0)) (sf_19 : S0 → Int32 → Int32 → Int32 → Int32 → Int32 → Option (Int32 × S0)) (hsf_11 : ∀ (ρ : S0) (a0 : Int32) (a1 : Int32) (a2 : Int32) (a3 : Int32), sf_11 (mix σ ρ) a0 a1 a2 a3 = mp σ (sf_11 ρ a0 a1 a2 a3)) (hsf_19 : ∀ (ρ : S0) (a0 : Int32) (a1 : Int32) (a2 : Int32) (a3 : Int32) (a4 : Int32), sf_19 (mix σ ρ) a0 a1 a2 a3 a4 = mp σ (sf_19 ρ a0 a1 a2 a3 a4)) (ρ : S0) (x1 : Int32) (x2 : Int32) (x3 : Int32) (x4 : Int32) (x5 : Int32)  : fX11_nearestSum_b19 sf_11 sf_19 (mix σ ρ) x1 x2 x3 x4 x5 = mp σ (fX11_nearestSum_b19 sf_11 sf_19 ρ x1 x2 x3 x4 x5) := by
  simp (disch := omega) only [fX11_nearestSum_b19, ↓ol_n, ↓oh_su, ↓oh_up, ↓mp_ol, ↓mp_obp, ↓mp_og, ↓mp_ite, ↓om_fX11_restOf, mix_hi, mp_some, mp_none, hsf_11, hsf_19, rm_fX11_restOf, rm_fX11_nearestSum_b50]
theorem rm_fX11_nearestSum_h19 (σ : S0) (sf_11 : S0 → Int32 → Int32 → Int32 → Int32 → Option (Int32 × S0)) (hsf_11 : ∀ (ρ : S0) (a0 : Int32) (a1 : Int32) (a2 : Int32) (a3 : Int32), sf_11 (mix σ ρ) a0 a1 a2 a3 = mp σ (sf_11 ρ a0 a1 a2 a3)) : ∀ (n : Nat) (ρ : S0) (x1 : Int32) (x2 : Int32) (x3 : Int32) (x4 : Int32) (x5 : Int32), fX11_nearestSum_h19 sf_11 n (mix σ ρ) x1 x2 x3 x4 x5 = mp σ (fX11_nearestSum_h19 sf_11 n ρ x1 x2 x3 x4 x5)
  | 0, _, _, _, _, _, _ => rfl
  | n + 1, ρ, x1, x2, x3, x4, x5 => rm_fX11_nearestSum_b19 σ sf_11 (fX11_nearestSum_h19 sf_11 n) hsf_11 (rm_fX11_nearestSum_h19 σ sf_11 hsf_11 n) ρ x1 x2 x3 x4 x5 
theorem rm_fX11_nearestSum_b11 (σ : S0) (sf_11 : S0 → Int32 → Int32 → Int32 → Int32 → Option (Int32 × S0)) (hsf_11 : ∀ (ρ : S0) (a0 : Int32) (a1 : Int32) (a2 : Int32) (a3 : Int32), sf_11 (mix σ ρ) a0 a1 a2 a3 = mp σ (sf_11 ρ a0 a1 a2 a3)) (ρ : S0) (x1 : Int32) (x2 : Int32) (x3 : Int32) (x4 : Int32)  : fX11_nearestSum_b11 sf_11 (mix σ ρ) x1 x2 x3 x4 = mp σ (fX11_nearestSum_b11 sf_11 ρ x1 x2 x3 x4) := by
  simp (disch := omega) only [fX11_nearestSum_b11, ↓ol_n, ↓oh_su, ↓oh_up, ↓mp_ol, ↓mp_obp, ↓mp_og, ↓mp_ite, ↓om_fX11_restOf, mix_hi, mp_some, mp_none, hsf_11, rm_fX11_restOf, rm_fX11_nearestSum_h19]
end
section
theorem rm_fX11_nearestSum_h11 (σ : S0)   : ∀ (n : Nat) (ρ : S0) (x1 : Int32) (x2 : Int32) (x3 : Int32) (x4 : Int32), fX11_nearestSum_h11  n (mix σ ρ) x1 x2 x3 x4 = mp σ (fX11_nearestSum_h11  n ρ x1 x2 x3 x4)
  | 0, _, _, _, _, _ => rfl
  | n + 1, ρ, x1, x2, x3, x4 => rm_fX11_nearestSum_b11 σ  (fX11_nearestSum_h11  n)  (rm_fX11_nearestSum_h11 σ   n) ρ x1 x2 x3 x4 
theorem rm_fX11_nearestSum (σ : S0)   (ρ : S0) (x1 : Int32) (x2 : Int32)  : fX11_nearestSum  (mix σ ρ) x1 x2 = mp σ (fX11_nearestSum  ρ x1 x2) := by
  simp (disch := omega) only [fX11_nearestSum, ↓ol_n, ↓oh_su, ↓oh_up, ↓mp_ol, ↓mp_obp, ↓mp_og, ↓mp_ite, ↓om_fX11_strokes, mix_hi, mp_some, mp_none, rm_fX11_strokes, rm_fX11_nearestSum_h11]
theorem om_fX11_nearestSum (σ : S0) (ρ : S0) (x1 : Int32) (x2 : Int32)  (kk : Int32 → S0 → Option (Int32 × S0)) : obp (fX11_nearestSum (mix σ ρ) x1 x2) kk = obp (fX11_nearestSum ρ x1 x2) (fun r s => kk r (mix σ s)) := by
  rw [rm_fX11_nearestSum σ ρ x1 x2 , obp_mp]
theorem rm_fX11_nearestStroke_b87 (σ : S0) (sf_5 : S0 → Int32 → Int32 → Int32 → Option (Int32 × S0)) (sf_30 : S0 → Int32 → Int32 → Int32 → Int32 → Int32 → Int32 → Option (Int32 × S0)) (hsf_5 : ∀ (ρ : S0) (a0 : Int32) (a1 : Int32) (a2 : Int32), sf_5 (mix σ ρ) a0 a1 a2 = mp σ (sf_5 ρ a0 a1 a2)) (hsf_30 : ∀ (ρ : S0) (a0 : Int32) (a1 : Int32) (a2 : Int32) (a3 : Int32) (a4 : Int32) (a5 : Int32), sf_30 (mix σ ρ) a0 a1 a2 a3 a4 a5 = mp σ (sf_30 ρ a0 a1 a2 a3 a4 a5)) (ρ : S0) (x1 : Int32) (x2 : Int32) (x3 : Int32) (x4 : Int32) (x6 : Int32) (t0 : Int32)  : fX11_nearestStroke_b87 sf_5 sf_30 (mix σ ρ) x1 x2 x3 x4 x6 t0 = mp σ (fX11_nearestStroke_b87 sf_5 sf_30 ρ x1 x2 x3 x4 x6 t0) := by
  simp (disch := omega) only [fX11_nearestStroke_b87, ↓ol_n, ↓oh_su, ↓oh_up, ↓mp_ol, ↓mp_obp, ↓mp_og, ↓mp_ite, mix_hi, mp_some, mp_none, hsf_5, hsf_30]
theorem rm_fX11_nearestStroke_b73 (σ : S0) (sf_5 : S0 → Int32 → Int32 → Int32 → Option (Int32 × S0)) (sf_30 : S0 → Int32 → Int32 → Int32 → Int32 → Int32 → Int32 → Option (Int32 × S0)) (hsf_5 : ∀ (ρ : S0) (a0 : Int32) (a1 : Int32) (a2 : Int32), sf_5 (mix σ ρ) a0 a1 a2 = mp σ (sf_5 ρ a0 a1 a2)) (hsf_30 : ∀ (ρ : S0) (a0 : Int32) (a1 : Int32) (a2 : Int32) (a3 : Int32) (a4 : Int32) (a5 : Int32), sf_30 (mix σ ρ) a0 a1 a2 a3 a4 a5 = mp σ (sf_30 ρ a0 a1 a2 a3 a4 a5)) (ρ : S0) (x1 : Int32) (x2 : Int32) (x3 : Int32) (x4 : Int32) (x5 : Int32) (x6 : Int32) (t0 : Int32)  : fX11_nearestStroke_b73 sf_5 sf_30 (mix σ ρ) x1 x2 x3 x4 x5 x6 t0 = mp σ (fX11_nearestStroke_b73 sf_5 sf_30 ρ x1 x2 x3 x4 x5 x6 t0) := by
  simp (disch := omega) only [fX11_nearestStroke_b73, ↓ol_n, ↓oh_su, ↓oh_up, ↓mp_ol, ↓mp_obp, ↓mp_og, ↓mp_ite, mix_hi, mp_some, mp_none, hsf_5, hsf_30, rm_fX11_nearestStroke_b87]
theorem rm_fX11_nearestStroke_b72 (σ : S0) (sf_5 : S0 → Int32 → Int32 → Int32 → Option (Int32 × S0)) (sf_30 : S0 → Int32 → Int32 → Int32 → Int32 → Int32 → Int32 → Option (Int32 × S0)) (hsf_5 : ∀ (ρ : S0) (a0 : Int32) (a1 : Int32) (a2 : Int32), sf_5 (mix σ ρ) a0 a1 a2 = mp σ (sf_5 ρ a0 a1 a2)) (hsf_30 : ∀ (ρ : S0) (a0 : Int32) (a1 : Int32) (a2 : Int32) (a3 : Int32) (a4 : Int32) (a5 : Int32), sf_30 (mix σ ρ) a0 a1 a2 a3 a4 a5 = mp σ (sf_30 ρ a0 a1 a2 a3 a4 a5)) (ρ : S0) (x1 : Int32) (x2 : Int32) (x3 : Int32) (x4 : Int32) (x5 : Int32) (x6 : Int32)  : fX11_nearestStroke_b72 sf_5 sf_30 (mix σ ρ) x1 x2 x3 x4 x5 x6 = mp σ (fX11_nearestStroke_b72 sf_5 sf_30 ρ x1 x2 x3 x4 x5 x6) := by
  simp (disch := omega) only [fX11_nearestStroke_b72, ↓ol_n, ↓oh_su, ↓oh_up, ↓mp_ol, ↓mp_obp, ↓mp_og, ↓mp_ite, mix_hi, mp_some, mp_none, hsf_5, hsf_30, rm_fX11_nearestStroke_b73]
theorem rm_fX11_nearestStroke_b51 (σ : S0) (sf_5 : S0 → Int32 → Int32 → Int32 → Option (Int32 × S0)) (sf_30 : S0 → Int32 → Int32 → Int32 → Int32 → Int32 → Int32 → Option (Int32 × S0)) (hsf_5 : ∀ (ρ : S0) (a0 : Int32) (a1 : Int32) (a2 : Int32), sf_5 (mix σ ρ) a0 a1 a2 = mp σ (sf_5 ρ a0 a1 a2)) (hsf_30 : ∀ (ρ : S0) (a0 : Int32) (a1 : Int32) (a2 : Int32) (a3 : Int32) (a4 : Int32) (a5 : Int32), sf_30 (mix σ ρ) a0 a1 a2 a3 a4 a5 = mp σ (sf_30 ρ a0 a1 a2 a3 a4 a5)) (ρ : S0) (x1 : Int32) (x2 : Int32) (x3 : Int32) (x4 : Int32) (x5 : Int32) (x6 : Int32)  : fX11_nearestStroke_b51 sf_5 sf_30 (mix σ ρ) x1 x2 x3 x4 x5 x6 = mp σ (fX11_nearestStroke_b51 sf_5 sf_30 ρ x1 x2 x3 x4 x5 x6) := by
  simp (disch := omega) only [fX11_nearestStroke_b51, ↓ol_n, ↓oh_su, ↓oh_up, ↓mp_ol, ↓mp_obp, ↓mp_og, ↓mp_ite, mix_hi, mp_some, mp_none, hsf_5, hsf_30, rm_fX11_nearestStroke_b72, rm_fX11_nearestStroke_b73]
theorem rm_fX11_nearestStroke_b30 (σ : S0) (sf_5 : S0 → Int32 → Int32 → Int32 → Option (Int32 × S0)) (sf_30 : S0 → Int32 → Int32 → Int32 → Int32 → Int32 → Int32 → Option (Int32 × S0)) (hsf_5 : ∀ (ρ : S0) (a0 : Int32) (a1 : Int32) (a2 : Int32), sf_5 (mix σ ρ) a0 a1 a2 = mp σ (sf_5 ρ a0 a1 a2)) (hsf_30 : ∀ (ρ : S0) (a0 : Int32) (a1 : Int32) (a2 : Int32) (a3 : Int32) (a4 : Int32) (a5 : Int32), sf_30 (mix σ ρ) a0 a1 a2 a3 a4 a5 = mp σ (sf_30 ρ a0 a1 a2 a3 a4 a5)) (ρ : S0) (x1 : Int32) (x2 : Int32) (x3 : Int32) (x4 : Int32) (x5 : Int32) (x6 : Int32)  : fX11_nearestStroke_b30 sf_5 sf_30 (mix σ ρ) x1 x2 x3 x4 x5 x6 = mp σ (fX11_nearestStroke_b30 sf_5 sf_30 ρ x1 x2 x3 x4 x5 x6) := by
  simp (disch := omega) only [fX11_nearestStroke_b30, ↓ol_n, ↓oh_su, ↓oh_up, ↓mp_ol, ↓mp_obp, ↓mp_og, ↓mp_ite, ↓om_fX11_canFollow, mix_hi, mp_some, mp_none, hsf_5, hsf_30, rm_fX11_nearestStroke_b51, rm_fX11_canFollow, rm_fX11_nearestStroke_b72]
theorem rm_fX11_nearestStroke_h30 (σ : S0) (sf_5 : S0 → Int32 → Int32 → Int32 → Option (Int32 × S0)) (hsf_5 : ∀ (ρ : S0) (a0 : Int32) (a1 : Int32) (a2 : Int32), sf_5 (mix σ ρ) a0 a1 a2 = mp σ (sf_5 ρ a0 a1 a2)) : ∀ (n : Nat) (ρ : S0) (x1 : Int32) (x2 : Int32) (x3 : Int32) (x4 : Int32) (x5 : Int32) (x6 : Int32), fX11_nearestStroke_h30 sf_5 n (mix σ ρ) x1 x2 x3 x4 x5 x6 = mp σ (fX11_nearestStroke_h30 sf_5 n ρ x1 x2 x3 x4 x5 x6)
  | 0, _, _, _, _, _, _, _ => rfl
  | n + 1, ρ, x1, x2, x3, x4, x5, x6 => rm_fX11_nearestStroke_b30 σ sf_5 (fX11_nearestStroke_h30 sf_5 n) hsf_5 (rm_fX11_nearestStroke_h30 σ sf_5 hsf_5 n) ρ x1 x2 x3 x4 x5 x6 
theorem rm_fX11_nearestStroke_b5 (σ : S0) (sf_5 : S0 → Int32 → Int32 → Int32 → Option (Int32 × S0)) (hsf_5 : ∀ (ρ : S0) (a0 : Int32) (a1 : Int32) (a2 : Int32), sf_5 (mix σ ρ) a0 a1 a2 = mp σ (sf_5 ρ a0 a1 a2)) (ρ : S0) (x1 : Int32) (x2 : Int32) (x3 : Int32)  : fX11_nearestStroke_b5 sf_5 (mix σ ρ) x1 x2 x3 = mp σ (fX11_nearestStroke_b5 sf_5 ρ x1 x2 x3) := by
  simp (disch := omega) only [fX11_nearestStroke_b5, ↓ol_n, ↓oh_su, ↓oh_up, ↓mp_ol, ↓mp_obp, ↓mp_og, ↓mp_ite, ↓om_fX11_restOf, mix_hi, mp_some, mp_none, hsf_5, rm_fX11_restOf, rm_fX11_nearestStroke_h30]
theorem rm_fX11_nearestStroke_h5 (σ : S0)   : ∀ (n : Nat) (ρ : S0) (x1 : Int32) (x2 : Int32) (x3 : Int32), fX11_nearestStroke_h5  n (mix σ ρ) x1 x2 x3 = mp σ (fX11_nearestStroke_h5  n ρ x1 x2 x3)
  | 0, _, _, _, _ => rfl
  | n + 1, ρ, x1, x2, x3 => rm_fX11_nearestStroke_b5 σ  (fX11_nearestStroke_h5  n)  (rm_fX11_nearestStroke_h5 σ   n) ρ x1 x2 x3 
theorem rm_fX11_nearestStroke (σ : S0)   (ρ : S0) (x1 : Int32)  : fX11_nearestStroke  (mix σ ρ) x1 = mp σ (fX11_nearestStroke  ρ x1) := by
  simp (disch := omega) only [fX11_nearestStroke, ↓ol_n, ↓oh_su, ↓oh_up, ↓mp_ol, ↓mp_obp, ↓mp_og, ↓mp_ite, mix_hi, mp_some, mp_none, rm_fX11_nearestStroke_h5]
theorem om_fX11_nearestStroke (σ : S0) (ρ : S0) (x1 : Int32)  (kk : Int32 → S0 → Option (Int32 × S0)) : obp (fX11_nearestStroke (mix σ ρ) x1) kk = obp (fX11_nearestStroke ρ x1) (fun r s => kk r (mix σ s)) := by
  rw [rm_fX11_nearestStroke σ ρ x1 , obp_mp]
theorem rm_fX11_nearest_b42 (σ : S0)   (ρ : S0) (x1 : Int32) (x2 : Int32) (x3 : Int32)  : fX11_nearest_b42  (mix σ ρ) x1 x2 x3 = mp σ (fX11_nearest_b42  ρ x1 x2 x3) := by
  simp (disch := omega) only [fX11_nearest_b42, ↓ol_n, ↓oh_su, ↓oh_up, ↓mp_ol, ↓mp_obp, ↓mp_og, ↓mp_ite, ↓om_fX11_nearestSum, ↓om_fX11_nearestStroke, mix_hi, mp_some, mp_none, rm_fX11_nearestSum, rm_fX11_nearestStroke]
theorem rm_fX11_nearest (σ : S0)   (ρ : S0) (x1 : Int32) (x2 : Int32) (x3 : Int32)  : fX11_nearest  (mix σ ρ) x1 x2 x3 = mp σ (fX11_nearest  ρ x1 x2 x3) := by
  simp (disch := omega) only [fX11_nearest, ↓ol_n, ↓oh_su, ↓oh_up, ↓mp_ol, ↓mp_obp, ↓mp_og, ↓mp_ite, ↓om_fX11_isTune, ↓om_fX11_isBell, ↓om_fX11_strokes, ↓om_fX11_in, mix_hi, mp_some, mp_none, rm_fX11_isTune, rm_fX11_isBell, rm_fX11_nearest_b42, rm_fX11_strokes, rm_fX11_in]
theorem rm_fX11_dear_b78 (σ : S0) (sf_18 : S0 → Int32 → Int32 → Int32 → Int32 → Option (Int32 × S0)) (hsf_18 : ∀ (ρ : S0) (a0 : Int32) (a1 : Int32) (a2 : Int32) (a3 : Int32), sf_18 (mix σ ρ) a0 a1 a2 a3 = mp σ (sf_18 ρ a0 a1 a2 a3)) (ρ : S0) (x1 : Int32) (x2 : Int32) (x4 : Int32) (t0 : Int32)  : fX11_dear_b78 sf_18 (mix σ ρ) x1 x2 x4 t0 = mp σ (fX11_dear_b78 sf_18 ρ x1 x2 x4 t0) := by
  simp (disch := omega) only [fX11_dear_b78, ↓ol_n, ↓oh_su, ↓oh_up, ↓mp_ol, ↓mp_obp, ↓mp_og, ↓mp_ite, mix_hi, mp_some, mp_none, hsf_18]
theorem rm_fX11_dear_b66 (σ : S0) (sf_18 : S0 → Int32 → Int32 → Int32 → Int32 → Option (Int32 × S0)) (hsf_18 : ∀ (ρ : S0) (a0 : Int32) (a1 : Int32) (a2 : Int32) (a3 : Int32), sf_18 (mix σ ρ) a0 a1 a2 a3 = mp σ (sf_18 ρ a0 a1 a2 a3)) (ρ : S0) (x1 : Int32) (x3 : Int32) (x4 : Int32) (x5 : Int32) (x6 : Int32) (t0 : Int32)  : fX11_dear_b66 sf_18 (mix σ ρ) x1 x3 x4 x5 x6 t0 = mp σ (fX11_dear_b66 sf_18 ρ x1 x3 x4 x5 x6 t0) := by
  simp (disch := omega) only [fX11_dear_b66, ↓ol_n, ↓oh_su, ↓oh_up, ↓mp_ol, ↓mp_obp, ↓mp_og, ↓mp_ite, mix_hi, mp_some, mp_none, hsf_18, rm_fX11_dear_b78]
theorem rm_fX11_dear_b53 (σ : S0) (sf_18 : S0 → Int32 → Int32 → Int32 → Int32 → Option (Int32 × S0)) (hsf_18 : ∀ (ρ : S0) (a0 : Int32) (a1 : Int32) (a2 : Int32) (a3 : Int32), sf_18 (mix σ ρ) a0 a1 a2 a3 = mp σ (sf_18 ρ a0 a1 a2 a3)) (ρ : S0) (x1 : Int32) (x2 : Int32) (x3 : Int32) (x4 : Int32) (x5 : Int32) (t0 : Int32)  : fX11_dear_b53 sf_18 (mix σ ρ) x1 x2 x3 x4 x5 t0 = mp σ (fX11_dear_b53 sf_18 ρ x1 x2 x3 x4 x5 t0) := by
  simp (disch := omega) only [fX11_dear_b53, ↓ol_n, ↓oh_su, ↓oh_up, ↓mp_ol, ↓mp_obp, ↓mp_og, ↓mp_ite, mix_hi, mp_some, mp_none, hsf_18, rm_fX11_dear_b66]
theorem rm_fX11_dear_b48 (σ : S0) (sf_18 : S0 → Int32 → Int32 → Int32 → Int32 → Option (Int32 × S0)) (hsf_18 : ∀ (ρ : S0) (a0 : Int32) (a1 : Int32) (a2 : Int32) (a3 : Int32), sf_18 (mix σ ρ) a0 a1 a2 a3 = mp σ (sf_18 ρ a0 a1 a2 a3)) (ρ : S0) (x1 : Int32) (x2 : Int32) (x3 : Int32) (x4 : Int32) (x5 : Int32)  : fX11_dear_b48 sf_18 (mix σ ρ) x1 x2 x3 x4 x5 = mp σ (fX11_dear_b48 sf_18 ρ x1 x2 x3 x4 x5) := by
  simp (disch := omega) only [fX11_dear_b48, ↓ol_n, ↓oh_su, ↓oh_up, ↓mp_ol, ↓mp_obp, ↓mp_og, ↓mp_ite, mix_hi, mp_some, mp_none, hsf_18, rm_fX11_dear_b53]
theorem rm_fX11_dear_b18 (σ : S0) (sf_18 : S0 → Int32 → Int32 → Int32 → Int32 → Option (Int32 × S0)) (hsf_18 : ∀ (ρ : S0) (a0 : Int32) (a1 : Int32) (a2 : Int32) (a3 : Int32), sf_18 (mix σ ρ) a0 a1 a2 a3 = mp σ (sf_18 ρ a0 a1 a2 a3)) (ρ : S0) (x1 : Int32) (x2 : Int32) (x3 : Int32) (x4 : Int32)  : fX11_dear_b18 sf_18 (mix σ ρ) x1 x2 x3 x4 = mp σ (fX11_dear_b18 sf_18 ρ x1 x2 x3 x4) := by
  simp (disch := omega) only [fX11_dear_b18, ↓ol_n, ↓oh_su, ↓oh_up, ↓mp_ol, ↓mp_obp, ↓mp_og, ↓mp_ite, ↓om_fX11_nearestSum, mix_hi, mp_some, mp_none, hsf_18, rm_fX11_nearestSum, rm_fX11_dear_b48, rm_fX11_dear_b53]
theorem rm_fX11_dear_h18 (σ : S0)   : ∀ (n : Nat) (ρ : S0) (x1 : Int32) (x2 : Int32) (x3 : Int32) (x4 : Int32), fX11_dear_h18  n (mix σ ρ) x1 x2 x3 x4 = mp σ (fX11_dear_h18  n ρ x1 x2 x3 x4)
  | 0, _, _, _, _, _ => rfl
  | n + 1, ρ, x1, x2, x3, x4 => rm_fX11_dear_b18 σ  (fX11_dear_h18  n)  (rm_fX11_dear_h18 σ   n) ρ x1 x2 x3 x4 
theorem rm_fX11_dear (σ : S0)   (ρ : S0) (x1 : Int32)  : fX11_dear  (mix σ ρ) x1 = mp σ (fX11_dear  ρ x1) := by
  simp (disch := omega) only [fX11_dear, ↓ol_n, ↓oh_su, ↓oh_up, ↓mp_ol, ↓mp_obp, ↓mp_og, ↓mp_ite, ↓om_fX11_isTune, mix_hi, mp_some, mp_none, rm_fX11_isTune, rm_fX11_dear_h18]
theorem rm_fX11_storm_b82 (σ : S0) (sf_31 : S0 → Int32 → Int32 → Int32 → Int32 → Int32 → Int32 → Option (Int32 × S0)) (hsf_31 : ∀ (ρ : S0) (a0 : Int32) (a1 : Int32) (a2 : Int32) (a3 : Int32) (a4 : Int32) (a5 : Int32), sf_31 (mix σ ρ) a0 a1 a2 a3 a4 a5 = mp σ (sf_31 ρ a0 a1 a2 a3 a4 a5)) (ρ : S0) (x1 : Int32) (x2 : Int32) (x3 : Int32) (x4 : Int32) (x6 : Int32) (t0 : Int32) (t1 : Int32)  : fX11_storm_b82 sf_31 (mix σ ρ) x1 x2 x3 x4 x6 t0 t1 = mp σ (fX11_storm_b82 sf_31 ρ x1 x2 x3 x4 x6 t0 t1) := by
  simp (disch := omega) only [fX11_storm_b82, ↓ol_n, ↓oh_su, ↓oh_up, ↓mp_ol, ↓mp_obp, ↓mp_og, ↓mp_ite, ↓om_fX11_flag, mix_hi, mp_some, mp_none, hsf_31, rm_fX11_flag]
theorem rm_fX11_storm_b31 (σ : S0) (sf_31 : S0 → Int32 → Int32 → Int32 → Int32 → Int32 → Int32 → Option (Int32 × S0)) (hsf_31 : ∀ (ρ : S0) (a0 : Int32) (a1 : Int32) (a2 : Int32) (a3 : Int32) (a4 : Int32) (a5 : Int32), sf_31 (mix σ ρ) a0 a1 a2 a3 a4 a5 = mp σ (sf_31 ρ a0 a1 a2 a3 a4 a5)) (ρ : S0) (x1 : Int32) (x2 : Int32) (x3 : Int32) (x4 : Int32) (x5 : Int32) (x6 : Int32)  : fX11_storm_b31 sf_31 (mix σ ρ) x1 x2 x3 x4 x5 x6 = mp σ (fX11_storm_b31 sf_31 ρ x1 x2 x3 x4 x5 x6) := by
  simp (disch := omega) only [fX11_storm_b31, ↓ol_n, ↓oh_su, ↓oh_up, ↓mp_ol, ↓mp_obp, ↓mp_og, ↓mp_ite, ↓om_fX11_getsOf, ↓om_fX11_of, mix_hi, mp_some, mp_none, hsf_31, rm_fX11_getsOf, rm_fX11_of, rm_fX11_storm_b82]
theorem rm_fX11_storm_h31 (σ : S0)   : ∀ (n : Nat) (ρ : S0) (x1 : Int32) (x2 : Int32) (x3 : Int32) (x4 : Int32) (x5 : Int32) (x6 : Int32), fX11_storm_h31  n (mix σ ρ) x1 x2 x3 x4 x5 x6 = mp σ (fX11_storm_h31  n ρ x1 x2 x3 x4 x5 x6)
  | 0, _, _, _, _, _, _, _ => rfl
  | n + 1, ρ, x1, x2, x3, x4, x5, x6 => rm_fX11_storm_b31 σ  (fX11_storm_h31  n)  (rm_fX11_storm_h31 σ   n) ρ x1 x2 x3 x4 x5 x6 
theorem rm_fX11_storm (σ : S0)   (ρ : S0) (x1 : Int32) (x2 : Int32)  : fX11_storm  (mix σ ρ) x1 x2 = mp σ (fX11_storm  ρ x1 x2) := by
  simp (disch := omega) only [fX11_storm, ↓ol_n, ↓oh_su, ↓oh_up, ↓mp_ol, ↓mp_obp, ↓mp_og, ↓mp_ite, ↓om_fX11_isHouse, ↓om_fX11_in, mix_hi, mp_some, mp_none, rm_fX11_isHouse, rm_fX11_in, rm_fX11_storm_h31]
theorem rm_fX11_wine_b170 (σ : S0) (sf_105 : S0 → Int32 → Int32 → Int32 → Int32 → Int32 → Int32 → Int32 → Option (Int32 × S0)) (hsf_105 : ∀ (ρ : S0) (a0 : Int32) (a1 : Int32) (a2 : Int32) (a3 : Int32) (a4 : Int32) (a5 : Int32) (a6 : Int32), sf_105 (mix σ ρ) a0 a1 a2 a3 a4 a5 a6 = mp σ (sf_105 ρ a0 a1 a2 a3 a4 a5 a6)) (ρ : S0) (x1 : Int32) (x2 : Int32) (x3 : Int32) (x4 : Int32) (x6 : Int32) (x7 : Int32) (t0 : Int32) (t1 : Int32)  : fX11_wine_b170 sf_105 (mix σ ρ) x1 x2 x3 x4 x6 x7 t0 t1 = mp σ (fX11_wine_b170 sf_105 ρ x1 x2 x3 x4 x6 x7 t0 t1) := by
  simp (disch := omega) only [fX11_wine_b170, ↓ol_n, ↓oh_su, ↓oh_up, ↓mp_ol, ↓mp_obp, ↓mp_og, ↓mp_ite, ↓om_fX11_flag, mix_hi, mp_some, mp_none, hsf_105, rm_fX11_flag]
theorem rm_fX11_wine_b165 (σ : S0) (sf_105 : S0 → Int32 → Int32 → Int32 → Int32 → Int32 → Int32 → Int32 → Option (Int32 × S0)) (hsf_105 : ∀ (ρ : S0) (a0 : Int32) (a1 : Int32) (a2 : Int32) (a3 : Int32) (a4 : Int32) (a5 : Int32) (a6 : Int32), sf_105 (mix σ ρ) a0 a1 a2 a3 a4 a5 a6 = mp σ (sf_105 ρ a0 a1 a2 a3 a4 a5 a6)) (ρ : S0) (x1 : Int32) (x2 : Int32) (x3 : Int32) (x4 : Int32) (x6 : Int32) (x7 : Int32) (t0 : Int32)  : fX11_wine_b165 sf_105 (mix σ ρ) x1 x2 x3 x4 x6 x7 t0 = mp σ (fX11_wine_b165 sf_105 ρ x1 x2 x3 x4 x6 x7 t0) := by
  simp (disch := omega) only [fX11_wine_b165, ↓ol_n, ↓oh_su, ↓oh_up, ↓mp_ol, ↓mp_obp, ↓mp_og, ↓mp_ite, mix_hi, mp_some, mp_none, hsf_105, rm_fX11_wine_b170]
theorem rm_fX11_wine_b169 (σ : S0) (sf_105 : S0 → Int32 → Int32 → Int32 → Int32 → Int32 → Int32 → Int32 → Option (Int32 × S0)) (hsf_105 : ∀ (ρ : S0) (a0 : Int32) (a1 : Int32) (a2 : Int32) (a3 : Int32) (a4 : Int32) (a5 : Int32) (a6 : Int32), sf_105 (mix σ ρ) a0 a1 a2 a3 a4 a5 a6 = mp σ (sf_105 ρ a0 a1 a2 a3 a4 a5 a6)) (ρ : S0) (x1 : Int32) (x2 : Int32) (x3 : Int32) (x4 : Int32) (x6 : Int32) (x7 : Int32) (t0 : Int32)  : fX11_wine_b169 sf_105 (mix σ ρ) x1 x2 x3 x4 x6 x7 t0 = mp σ (fX11_wine_b169 sf_105 ρ x1 x2 x3 x4 x6 x7 t0) := by
  simp (disch := omega) only [fX11_wine_b169, ↓ol_n, ↓oh_su, ↓oh_up, ↓mp_ol, ↓mp_obp, ↓mp_og, ↓mp_ite, mix_hi, mp_some, mp_none, hsf_105, rm_fX11_wine_b170]
theorem rm_fX11_wine_b204 (σ : S0)   (ρ : S0) (t0 : Int32) (t1 : Int32)  : fX11_wine_b204  (mix σ ρ) t0 t1 = mp σ (fX11_wine_b204  ρ t0 t1) := by
  simp (disch := omega) only [fX11_wine_b204, ↓ol_n, ↓oh_su, ↓oh_up, ↓mp_ol, ↓mp_obp, ↓mp_og, ↓mp_ite, ↓om_fX11_flag, mix_hi, mp_some, mp_none, rm_fX11_flag]
theorem rm_fX11_wine_b105 (σ : S0) (sf_105 : S0 → Int32 → Int32 → Int32 → Int32 → Int32 → Int32 → Int32 → Option (Int32 × S0)) (hsf_105 : ∀ (ρ : S0) (a0 : Int32) (a1 : Int32) (a2 : Int32) (a3 : Int32) (a4 : Int32) (a5 : Int32) (a6 : Int32), sf_105 (mix σ ρ) a0 a1 a2 a3 a4 a5 a6 = mp σ (sf_105 ρ a0 a1 a2 a3 a4 a5 a6)) (ρ : S0) (x1 : Int32) (x2 : Int32) (x3 : Int32) (x4 : Int32) (x5 : Int32) (x6 : Int32) (x7 : Int32)  : fX11_wine_b105 sf_105 (mix σ ρ) x1 x2 x3 x4 x5 x6 x7 = mp σ (fX11_wine_b105 sf_105 ρ x1 x2 x3 x4 x5 x6 x7) := by
  simp (disch := omega) only [fX11_wine_b105, ↓ol_n, ↓oh_su, ↓oh_up, ↓mp_ol, ↓mp_obp, ↓mp_og, ↓mp_ite, mix_hi, mp_some, mp_none, hsf_105, rm_fX11_wine_b204, rm_fX11_wine_b165, rm_fX11_wine_b169]
theorem rm_fX11_wine_h105 (σ : S0)   : ∀ (n : Nat) (ρ : S0) (x1 : Int32) (x2 : Int32) (x3 : Int32) (x4 : Int32) (x5 : Int32) (x6 : Int32) (x7 : Int32), fX11_wine_h105  n (mix σ ρ) x1 x2 x3 x4 x5 x6 x7 = mp σ (fX11_wine_h105  n ρ x1 x2 x3 x4 x5 x6 x7)
  | 0, _, _, _, _, _, _, _, _ => rfl
  | n + 1, ρ, x1, x2, x3, x4, x5, x6, x7 => rm_fX11_wine_b105 σ  (fX11_wine_h105  n)  (rm_fX11_wine_h105 σ   n) ρ x1 x2 x3 x4 x5 x6 x7 
theorem rm_fX11_wine_b52 (σ : S0) (sf_52 : S0 → Int32 → Int32 → Int32 → Int32 → Option (Int32 × S0)) (hsf_52 : ∀ (ρ : S0) (a0 : Int32) (a1 : Int32) (a2 : Int32) (a3 : Int32), sf_52 (mix σ ρ) a0 a1 a2 a3 = mp σ (sf_52 ρ a0 a1 a2 a3)) (ρ : S0) (x1 : Int32) (x2 : Int32) (x3 : Int32) (x4 : Int32)  : fX11_wine_b52 sf_52 (mix σ ρ) x1 x2 x3 x4 = mp σ (fX11_wine_b52 sf_52 ρ x1 x2 x3 x4) := by
  simp (disch := omega) only [fX11_wine_b52, ↓ol_n, ↓oh_su, ↓oh_up, ↓mp_ol, ↓mp_obp, ↓mp_og, ↓mp_ite, mix_hi, mp_some, mp_none, hsf_52, rm_fX11_wine_h105]
theorem rm_fX11_wine_h52 (σ : S0)   : ∀ (n : Nat) (ρ : S0) (x1 : Int32) (x2 : Int32) (x3 : Int32) (x4 : Int32), fX11_wine_h52  n (mix σ ρ) x1 x2 x3 x4 = mp σ (fX11_wine_h52  n ρ x1 x2 x3 x4)
  | 0, _, _, _, _, _ => rfl
  | n + 1, ρ, x1, x2, x3, x4 => rm_fX11_wine_b52 σ  (fX11_wine_h52  n)  (rm_fX11_wine_h52 σ   n) ρ x1 x2 x3 x4 
theorem rm_fX11_wine_b28 (σ : S0) (sf_28 : S0 → Int32 → Int32 → Int32 → Option (Int32 × S0)) (hsf_28 : ∀ (ρ : S0) (a0 : Int32) (a1 : Int32) (a2 : Int32), sf_28 (mix σ ρ) a0 a1 a2 = mp σ (sf_28 ρ a0 a1 a2)) (ρ : S0) (x1 : Int32) (x2 : Int32) (x3 : Int32)  : fX11_wine_b28 sf_28 (mix σ ρ) x1 x2 x3 = mp σ (fX11_wine_b28 sf_28 ρ x1 x2 x3) := by
  simp (disch := omega) only [fX11_wine_b28, ↓ol_n, ↓oh_su, ↓oh_up, ↓mp_ol, ↓mp_obp, ↓mp_og, ↓mp_ite, ↓om_fX11_rings, mix_hi, mp_some, mp_none, hsf_28, rm_fX11_wine_h52, rm_fX11_rings]
theorem rm_fX11_wine_h28 (σ : S0)   : ∀ (n : Nat) (ρ : S0) (x1 : Int32) (x2 : Int32) (x3 : Int32), fX11_wine_h28  n (mix σ ρ) x1 x2 x3 = mp σ (fX11_wine_h28  n ρ x1 x2 x3)
  | 0, _, _, _, _ => rfl
  | n + 1, ρ, x1, x2, x3 => rm_fX11_wine_b28 σ  (fX11_wine_h28  n)  (rm_fX11_wine_h28 σ   n) ρ x1 x2 x3 
theorem rm_fX11_wine (σ : S0)   (ρ : S0) (x1 : Int32) (x2 : Int32)  : fX11_wine  (mix σ ρ) x1 x2 = mp σ (fX11_wine  ρ x1 x2) := by
  simp (disch := omega) only [fX11_wine, ↓ol_n, ↓oh_su, ↓oh_up, ↓mp_ol, ↓mp_obp, ↓mp_og, ↓mp_ite, ↓om_fX11_in, ↓om_fX11_isHouse, ↓om_fX11_noRung, mix_hi, mp_some, mp_none, rm_fX11_in, rm_fX11_isHouse, rm_fX11_noRung, rm_fX11_wine_h28]
theorem rm_fX11_hear_b16 (σ : S0)   (ρ : S0) (x1 : Int32)  : fX11_hear_b16  (mix σ ρ) x1 = mp σ (fX11_hear_b16  ρ x1) := by
  simp (disch := omega) only [fX11_hear_b16, ↓ol_n, ↓oh_su, ↓oh_up, ↓mp_ol, ↓mp_obp, ↓mp_og, ↓mp_ite, mix_hi, mp_some, mp_none]
theorem rm_fX11_hear (σ : S0)   (ρ : S0) (x1 : Int32)  : fX11_hear  (mix σ ρ) x1 = mp σ (fX11_hear  ρ x1) := by
  simp (disch := omega) only [fX11_hear, ↓ol_n, ↓oh_su, ↓oh_up, ↓mp_ol, ↓mp_obp, ↓mp_og, ↓mp_ite, ↓om_fX11_isBell, mix_hi, mp_some, mp_none, rm_fX11_hear_b16, rm_fX11_isBell]
theorem om_fX11_hear (σ : S0) (ρ : S0) (x1 : Int32)  (kk : Int32 → S0 → Option (Int32 × S0)) : obp (fX11_hear (mix σ ρ) x1) kk = obp (fX11_hear ρ x1) (fun r s => kk r (mix σ s)) := by
  rw [rm_fX11_hear σ ρ x1 , obp_mp]
theorem rm_fX11_hush (σ : S0)   (ρ : S0)   : fX11_hush  (mix σ ρ)  = mp σ (fX11_hush  ρ ) := by
  simp (disch := omega) only [fX11_hush, ↓ol_n, ↓oh_su, ↓oh_up, ↓mp_ol, ↓mp_obp, ↓mp_og, ↓mp_ite, mix_hi, mp_some, mp_none]
theorem rm_fX11_isFit_b139 (σ : S0) (sf_31 : S0 → Int32 → Int32 → Int32 → Int32 → Option (Int32 × S0)) (hsf_31 : ∀ (ρ : S0) (a0 : Int32) (a1 : Int32) (a2 : Int32) (a3 : Int32), sf_31 (mix σ ρ) a0 a1 a2 a3 = mp σ (sf_31 ρ a0 a1 a2 a3)) (ρ : S0) (x1 : Int32) (x2 : Int32) (x4 : Int32) (t0 : Int32)  : fX11_isFit_b139 sf_31 (mix σ ρ) x1 x2 x4 t0 = mp σ (fX11_isFit_b139 sf_31 ρ x1 x2 x4 t0) := by
  simp (disch := omega) only [fX11_isFit_b139, ↓ol_n, ↓oh_su, ↓oh_up, ↓mp_ol, ↓mp_obp, ↓mp_og, ↓mp_ite, mix_hi, mp_some, mp_none, hsf_31]
theorem rm_fX11_isFit_b134 (σ : S0) (sf_31 : S0 → Int32 → Int32 → Int32 → Int32 → Option (Int32 × S0)) (hsf_31 : ∀ (ρ : S0) (a0 : Int32) (a1 : Int32) (a2 : Int32) (a3 : Int32), sf_31 (mix σ ρ) a0 a1 a2 a3 = mp σ (sf_31 ρ a0 a1 a2 a3)) (ρ : S0) (x1 : Int32) (x2 : Int32) (x4 : Int32)  : fX11_isFit_b134 sf_31 (mix σ ρ) x1 x2 x4 = mp σ (fX11_isFit_b134 sf_31 ρ x1 x2 x4) := by
  simp (disch := omega) only [fX11_isFit_b134, ↓ol_n, ↓oh_su, ↓oh_up, ↓mp_ol, ↓mp_obp, ↓mp_og, ↓mp_ite, mix_hi, mp_some, mp_none, hsf_31, rm_fX11_isFit_b139]
theorem rm_fX11_isFit_b113 (σ : S0) (sf_31 : S0 → Int32 → Int32 → Int32 → Int32 → Option (Int32 × S0)) (hsf_31 : ∀ (ρ : S0) (a0 : Int32) (a1 : Int32) (a2 : Int32) (a3 : Int32), sf_31 (mix σ ρ) a0 a1 a2 a3 = mp σ (sf_31 ρ a0 a1 a2 a3)) (ρ : S0) (x1 : Int32) (x4 : Int32) (x5 : Int32) (t0 : Int32) (t1 : Int32)  : fX11_isFit_b113 sf_31 (mix σ ρ) x1 x4 x5 t0 t1 = mp σ (fX11_isFit_b113 sf_31 ρ x1 x4 x5 t0 t1) := by
  simp (disch := omega) only [fX11_isFit_b113, ↓ol_n, ↓oh_su, ↓oh_up, ↓mp_ol, ↓mp_obp, ↓mp_og, ↓mp_ite, ↓om_fX11_stroke, mix_hi, mp_some, mp_none, hsf_31, rm_fX11_isFit_b134, rm_fX11_stroke, rm_fX11_isFit_b139]
theorem rm_fX11_isFit_b93 (σ : S0) (sf_31 : S0 → Int32 → Int32 → Int32 → Int32 → Option (Int32 × S0)) (hsf_31 : ∀ (ρ : S0) (a0 : Int32) (a1 : Int32) (a2 : Int32) (a3 : Int32), sf_31 (mix σ ρ) a0 a1 a2 a3 = mp σ (sf_31 ρ a0 a1 a2 a3)) (ρ : S0) (x1 : Int32) (x2 : Int32) (x4 : Int32) (x5 : Int32) (x6 : Int32) (t0 : Int32) (t1 : Int32)  : fX11_isFit_b93 sf_31 (mix σ ρ) x1 x2 x4 x5 x6 t0 t1 = mp σ (fX11_isFit_b93 sf_31 ρ x1 x2 x4 x5 x6 t0 t1) := by
  simp (disch := omega) only [fX11_isFit_b93, ↓ol_n, ↓oh_su, ↓oh_up, ↓mp_ol, ↓mp_obp, ↓mp_og, ↓mp_ite, mix_hi, mp_some, mp_none, hsf_31, rm_fX11_isFit_b113]
theorem rm_fX11_isFit_b146 (σ : S0)   (ρ : S0) (x2 : Int32) (x3 : Int32)  : fX11_isFit_b146  (mix σ ρ) x2 x3 = mp σ (fX11_isFit_b146  ρ x2 x3) := by
  simp (disch := omega) only [fX11_isFit_b146, ↓ol_n, ↓oh_su, ↓oh_up, ↓mp_ol, ↓mp_obp, ↓mp_og, ↓mp_ite, mix_hi, mp_some, mp_none]
theorem rm_fX11_isFit_b31 (σ : S0) (sf_31 : S0 → Int32 → Int32 → Int32 → Int32 → Option (Int32 × S0)) (hsf_31 : ∀ (ρ : S0) (a0 : Int32) (a1 : Int32) (a2 : Int32) (a3 : Int32), sf_31 (mix σ ρ) a0 a1 a2 a3 = mp σ (sf_31 ρ a0 a1 a2 a3)) (ρ : S0) (x1 : Int32) (x2 : Int32) (x3 : Int32) (x4 : Int32)  : fX11_isFit_b31 sf_31 (mix σ ρ) x1 x2 x3 x4 = mp σ (fX11_isFit_b31 sf_31 ρ x1 x2 x3 x4) := by
  simp (disch := omega) only [fX11_isFit_b31, ↓ol_n, ↓oh_su, ↓oh_up, ↓mp_ol, ↓mp_obp, ↓mp_og, ↓mp_ite, ↓om_fX11_stroke, ↓om_fX11_of, mix_hi, mp_some, mp_none, hsf_31, rm_fX11_isFit_b146, rm_fX11_stroke, rm_fX11_of, rm_fX11_isFit_b93]
theorem rm_fX11_isFit_h31 (σ : S0)   : ∀ (n : Nat) (ρ : S0) (x1 : Int32) (x2 : Int32) (x3 : Int32) (x4 : Int32), fX11_isFit_h31  n (mix σ ρ) x1 x2 x3 x4 = mp σ (fX11_isFit_h31  n ρ x1 x2 x3 x4)
  | 0, _, _, _, _, _ => rfl
  | n + 1, ρ, x1, x2, x3, x4 => rm_fX11_isFit_b31 σ  (fX11_isFit_h31  n)  (rm_fX11_isFit_h31 σ   n) ρ x1 x2 x3 x4 
theorem rm_fX11_isFit_b27 (σ : S0)   (ρ : S0) (x1 : Int32) (x2 : Int32) (t0 : Int32)  : fX11_isFit_b27  (mix σ ρ) x1 x2 t0 = mp σ (fX11_isFit_b27  ρ x1 x2 t0) := by
  simp (disch := omega) only [fX11_isFit_b27, ↓ol_n, ↓oh_su, ↓oh_up, ↓mp_ol, ↓mp_obp, ↓mp_og, ↓mp_ite, mix_hi, mp_some, mp_none, rm_fX11_isFit_h31]
theorem rm_fX11_isFit (σ : S0)   (ρ : S0) (x1 : Int32)  : fX11_isFit  (mix σ ρ) x1 = mp σ (fX11_isFit  ρ x1) := by
  simp (disch := omega) only [fX11_isFit, ↓ol_n, ↓oh_su, ↓oh_up, ↓mp_ol, ↓mp_obp, ↓mp_og, ↓mp_ite, ↓om_fX11_strokes, mix_hi, mp_some, mp_none, rm_fX11_strokes, rm_fX11_isFit_b27]
theorem om_fX11_isFit (σ : S0) (ρ : S0) (x1 : Int32)  (kk : Int32 → S0 → Option (Int32 × S0)) : obp (fX11_isFit (mix σ ρ) x1) kk = obp (fX11_isFit ρ x1) (fun r s => kk r (mix σ s)) := by
  rw [rm_fX11_isFit σ ρ x1 , obp_mp]
theorem rm_fX11_fits (σ : S0)   (ρ : S0) (x1 : Int32)  : fX11_fits  (mix σ ρ) x1 = mp σ (fX11_fits  ρ x1) := by
  simp (disch := omega) only [fX11_fits, ↓ol_n, ↓oh_su, ↓oh_up, ↓mp_ol, ↓mp_obp, ↓mp_og, ↓mp_ite, ↓om_fX11_isTune, ↓om_fX11_isFit, ↓om_fX11_flag, mix_hi, mp_some, mp_none, rm_fX11_isTune, rm_fX11_isFit, rm_fX11_flag]
theorem rm_fX11_which_b99 (σ : S0) (sf_43 : S0 → Int32 → Int32 → Int32 → Int32 → Int32 → Int32 → Option (Int32 × S0)) (hsf_43 : ∀ (ρ : S0) (a0 : Int32) (a1 : Int32) (a2 : Int32) (a3 : Int32) (a4 : Int32) (a5 : Int32), sf_43 (mix σ ρ) a0 a1 a2 a3 a4 a5 = mp σ (sf_43 ρ a0 a1 a2 a3 a4 a5)) (ρ : S0) (x1 : Int32) (x2 : Int32) (x3 : Int32) (x4 : Int32) (x5 : Int32) (x6 : Int32)  : fX11_which_b99 sf_43 (mix σ ρ) x1 x2 x3 x4 x5 x6 = mp σ (fX11_which_b99 sf_43 ρ x1 x2 x3 x4 x5 x6) := by
  simp (disch := omega) only [fX11_which_b99, ↓ol_n, ↓oh_su, ↓oh_up, ↓mp_ol, ↓mp_obp, ↓mp_og, ↓mp_ite, mix_hi, mp_some, mp_none, hsf_43]
theorem rm_fX11_which_b85 (σ : S0) (sf_43 : S0 → Int32 → Int32 → Int32 → Int32 → Int32 → Int32 → Option (Int32 × S0)) (hsf_43 : ∀ (ρ : S0) (a0 : Int32) (a1 : Int32) (a2 : Int32) (a3 : Int32) (a4 : Int32) (a5 : Int32), sf_43 (mix σ ρ) a0 a1 a2 a3 a4 a5 = mp σ (sf_43 ρ a0 a1 a2 a3 a4 a5)) (ρ : S0) (x1 : Int32) (x2 : Int32) (x3 : Int32) (x5 : Int32) (x6 : Int32) (t0 : Int32)  : fX11_which_b85 sf_43 (mix σ ρ) x1 x2 x3 x5 x6 t0 = mp σ (fX11_which_b85 sf_43 ρ x1 x2 x3 x5 x6 t0) := by
  simp (disch := omega) only [fX11_which_b85, ↓ol_n, ↓oh_su, ↓oh_up, ↓mp_ol, ↓mp_obp, ↓mp_og, ↓mp_ite, mix_hi, mp_some, mp_none, hsf_43, rm_fX11_which_b99]
theorem rm_fX11_which_b71 (σ : S0) (sf_43 : S0 → Int32 → Int32 → Int32 → Int32 → Int32 → Int32 → Option (Int32 × S0)) (hsf_43 : ∀ (ρ : S0) (a0 : Int32) (a1 : Int32) (a2 : Int32) (a3 : Int32) (a4 : Int32) (a5 : Int32), sf_43 (mix σ ρ) a0 a1 a2 a3 a4 a5 = mp σ (sf_43 ρ a0 a1 a2 a3 a4 a5)) (ρ : S0) (x1 : Int32) (x2 : Int32) (x4 : Int32) (x5 : Int32) (x6 : Int32) (t0 : Int32)  : fX11_which_b71 sf_43 (mix σ ρ) x1 x2 x4 x5 x6 t0 = mp σ (fX11_which_b71 sf_43 ρ x1 x2 x4 x5 x6 t0) := by
  simp (disch := omega) only [fX11_which_b71, ↓ol_n, ↓oh_su, ↓oh_up, ↓mp_ol, ↓mp_obp, ↓mp_og, ↓mp_ite, mix_hi, mp_some, mp_none, hsf_43, rm_fX11_which_b85]
theorem rm_fX11_which_b43 (σ : S0) (sf_43 : S0 → Int32 → Int32 → Int32 → Int32 → Int32 → Int32 → Option (Int32 × S0)) (hsf_43 : ∀ (ρ : S0) (a0 : Int32) (a1 : Int32) (a2 : Int32) (a3 : Int32) (a4 : Int32) (a5 : Int32), sf_43 (mix σ ρ) a0 a1 a2 a3 a4 a5 = mp σ (sf_43 ρ a0 a1 a2 a3 a4 a5)) (ρ : S0) (x1 : Int32) (x2 : Int32) (x3 : Int32) (x4 : Int32) (x5 : Int32) (x6 : Int32)  : fX11_which_b43 sf_43 (mix σ ρ) x1 x2 x3 x4 x5 x6 = mp σ (fX11_which_b43 sf_43 ρ x1 x2 x3 x4 x5 x6) := by
  simp (disch := omega) only [fX11_which_b43, ↓ol_n, ↓oh_su, ↓oh_up, ↓mp_ol, ↓mp_obp, ↓mp_og, ↓mp_ite, ↓om_fX11_isFit, mix_hi, mp_some, mp_none, hsf_43, rm_fX11_isFit, rm_fX11_which_b99, rm_fX11_which_b71]
theorem rm_fX11_which_h43 (σ : S0)   : ∀ (n : Nat) (ρ : S0) (x1 : Int32) (x2 : Int32) (x3 : Int32) (x4 : Int32) (x5 : Int32) (x6 : Int32), fX11_which_h43  n (mix σ ρ) x1 x2 x3 x4 x5 x6 = mp σ (fX11_which_h43  n ρ x1 x2 x3 x4 x5 x6)
  | 0, _, _, _, _, _, _, _ => rfl
  | n + 1, ρ, x1, x2, x3, x4, x5, x6 => rm_fX11_which_b43 σ  (fX11_which_h43  n)  (rm_fX11_which_h43 σ   n) ρ x1 x2 x3 x4 x5 x6 
theorem rm_fX11_which (σ : S0)   (ρ : S0) (x1 : Int32)  : fX11_which  (mix σ ρ) x1 = mp σ (fX11_which  ρ x1) := by
  simp (disch := omega) only [fX11_which, ↓ol_n, ↓oh_su, ↓oh_up, ↓mp_ol, ↓mp_obp, ↓mp_og, ↓mp_ite, ↓om_fX11_in, mix_hi, mp_some, mp_none, rm_fX11_in, rm_fX11_which_h43]
theorem rm_fX11_copies_b2 (σ : S0) (sf_2 : S0 → Int32 → Int32 → Int32 → Option (Int32 × S0)) (hsf_2 : ∀ (ρ : S0) (a0 : Int32) (a1 : Int32) (a2 : Int32), sf_2 (mix σ ρ) a0 a1 a2 = mp σ (sf_2 ρ a0 a1 a2)) (ρ : S0) (x1 : Int32) (x2 : Int32) (x3 : Int32)  : fX11_copies_b2 sf_2 (mix σ ρ) x1 x2 x3 = mp σ (fX11_copies_b2 sf_2 ρ x1 x2 x3) := by
  simp (disch := omega) only [fX11_copies_b2, ↓ol_n, ↓oh_su, ↓oh_up, ↓mp_ol, ↓mp_obp, ↓mp_og, ↓mp_ite, mix_hi, mp_some, mp_none, hsf_2]
theorem rm_fX11_copies_h2 (σ : S0)   : ∀ (n : Nat) (ρ : S0) (x1 : Int32) (x2 : Int32) (x3 : Int32), fX11_copies_h2  n (mix σ ρ) x1 x2 x3 = mp σ (fX11_copies_h2  n ρ x1 x2 x3)
  | 0, _, _, _, _ => rfl
  | n + 1, ρ, x1, x2, x3 => rm_fX11_copies_b2 σ  (fX11_copies_h2  n)  (rm_fX11_copies_h2 σ   n) ρ x1 x2 x3 
end
section
theorem rm_fX11_copies (σ : S0)   (ρ : S0) (x1 : Int32) (x2 : Int32)  : fX11_copies  (mix σ ρ) x1 x2 = mp σ (fX11_copies  ρ x1 x2) := by
  simp (disch := omega) only [fX11_copies, ↓ol_n, ↓oh_su, ↓oh_up, ↓mp_ol, ↓mp_obp, ↓mp_og, ↓mp_ite, mix_hi, mp_some, mp_none, rm_fX11_copies_h2]
theorem om_fX11_copies (σ : S0) (ρ : S0) (x1 : Int32) (x2 : Int32)  (kk : Int32 → S0 → Option (Int32 × S0)) : obp (fX11_copies (mix σ ρ) x1 x2) kk = obp (fX11_copies ρ x1 x2) (fun r s => kk r (mix σ s)) := by
  rw [rm_fX11_copies σ ρ x1 x2 , obp_mp]
theorem rm_fX11_keep (σ : S0)   (ρ : S0) (x1 : Int32)  : fX11_keep  (mix σ ρ) x1 = mp σ (fX11_keep  ρ x1) := by
  simp (disch := omega) only [fX11_keep, ↓ol_n, ↓oh_su, ↓oh_up, ↓mp_ol, ↓mp_obp, ↓mp_og, ↓mp_ite, ↓om_fX11_in, ↓om_fX11_flag, ↓om_fX11_copies, mix_hi, mp_some, mp_none, rm_fX11_in, rm_fX11_flag, rm_fX11_copies]
theorem rm_fX11_back (σ : S0)   (ρ : S0) (x1 : Int32)  : fX11_back  (mix σ ρ) x1 = mp σ (fX11_back  ρ x1) := by
  simp (disch := omega) only [fX11_back, ↓ol_n, ↓oh_su, ↓oh_up, ↓mp_ol, ↓mp_obp, ↓mp_og, ↓mp_ite, ↓om_fX11_in, ↓om_fX11_copies, ↓om_fX11_takenNow, mix_hi, mp_some, mp_none, rm_fX11_in, rm_fX11_copies, rm_fX11_takenNow]
theorem rm_fX11_isSheet (σ : S0)   (ρ : S0) (x0 : Int32) (x1 : Int32)  : fX11_isSheet  (mix σ ρ) x0 x1 = mp σ (fX11_isSheet  ρ x0 x1) := by
  simp (disch := omega) only [fX11_isSheet, ↓ol_n, ↓oh_su, ↓oh_up, ↓mp_ol, ↓mp_obp, ↓mp_og, ↓mp_ite, ↓om_fX11_in, mix_hi, mp_some, mp_none, rm_fX11_in]
theorem om_fX11_isSheet (σ : S0) (ρ : S0) (x0 : Int32) (x1 : Int32)  (kk : Int32 → S0 → Option (Int32 × S0)) : obp (fX11_isSheet (mix σ ρ) x0 x1) kk = obp (fX11_isSheet ρ x0 x1) (fun r s => kk r (mix σ s)) := by
  rw [rm_fX11_isSheet σ ρ x0 x1 , obp_mp]
theorem rm_fX11_sheet_b40 (σ : S0) (sf_40 : S0 → Int32 → Int32 → Option (Int32 × S0)) (hsf_40 : ∀ (ρ : S0) (a0 : Int32) (a1 : Int32), sf_40 (mix σ ρ) a0 a1 = mp σ (sf_40 ρ a0 a1)) (ρ : S0) (x1 : Int32) (x4 : Int32)  : fX11_sheet_b40 sf_40 (mix σ ρ) x1 x4 = mp σ (fX11_sheet_b40 sf_40 ρ x1 x4) := by
  simp (disch := omega) only [fX11_sheet_b40, ↓ol_n, ↓oh_su, ↓oh_up, ↓mp_ol, ↓mp_obp, ↓mp_og, ↓mp_ite, mix_hi, mp_some, mp_none, hsf_40]
theorem rm_fX11_sheet_h40 (σ : S0)   : ∀ (n : Nat) (ρ : S0) (x1 : Int32) (x4 : Int32), fX11_sheet_h40  n (mix σ ρ) x1 x4 = mp σ (fX11_sheet_h40  n ρ x1 x4)
  | 0, _, _, _ => rfl
  | n + 1, ρ, x1, x4 => rm_fX11_sheet_b40 σ  (fX11_sheet_h40  n)  (rm_fX11_sheet_h40 σ   n) ρ x1 x4 
theorem rm_fX11_sheet (σ : S0)   (ρ : S0) (x1 : Int32) (x2 : Int32) (x3 : Int32)  : fX11_sheet  (mix σ ρ) x1 x2 x3 = mp σ (fX11_sheet  ρ x1 x2 x3) := by
  simp (disch := omega) only [fX11_sheet, ↓ol_n, ↓oh_su, ↓oh_up, ↓mp_ol, ↓mp_obp, ↓mp_og, ↓mp_ite, ↓om_fX11_isSheet, mix_hi, mp_some, mp_none, rm_fX11_isSheet, rm_fX11_sheet_h40]
theorem rm_fX11_lay_b85 (σ : S0)   (ρ : S0) (t0 : Int32) (t1 : Int32)  : fX11_lay_b85  (mix σ ρ) t0 t1 = mp σ (fX11_lay_b85  ρ t0 t1) := by
  simp (disch := omega) only [fX11_lay_b85, ↓ol_n, ↓oh_su, ↓oh_up, ↓mp_ol, ↓mp_obp, ↓mp_og, ↓mp_ite, mix_hi, mp_some, mp_none]
theorem rm_fX11_lay (σ : S0)   (ρ : S0) (x1 : Int32) (x2 : Int32) (x3 : Int32)  : fX11_lay  (mix σ ρ) x1 x2 x3 = mp σ (fX11_lay  ρ x1 x2 x3) := by
  simp (disch := omega) only [fX11_lay, ↓ol_n, ↓oh_su, ↓oh_up, ↓mp_ol, ↓mp_obp, ↓mp_og, ↓mp_ite, ↓om_fX11_isSheet, ↓om_fX11_in, mix_hi, mp_some, mp_none, rm_fX11_isSheet, rm_fX11_in, rm_fX11_lay_b85]
theorem rm_fX11_read_b176 (σ : S0) (sf_41 : S0 → Int32 → Int32 → Int32 → Int32 → Int32 → Int32 → Int32 → Int32 → Option (Int32 × S0)) (hsf_41 : ∀ (ρ : S0) (a0 : Int32) (a1 : Int32) (a2 : Int32) (a3 : Int32) (a4 : Int32) (a5 : Int32) (a6 : Int32) (a7 : Int32), sf_41 (mix σ ρ) a0 a1 a2 a3 a4 a5 a6 a7 = mp σ (sf_41 ρ a0 a1 a2 a3 a4 a5 a6 a7)) (ρ : S0) (x1 : Int32) (x2 : Int32) (x3 : Int32) (x4 : Int32) (x5 : Int32) (x6 : Int32) (x7 : Int32) (x8 : Int32)  : fX11_read_b176 sf_41 (mix σ ρ) x1 x2 x3 x4 x5 x6 x7 x8 = mp σ (fX11_read_b176 sf_41 ρ x1 x2 x3 x4 x5 x6 x7 x8) := by
  simp (disch := omega) only [fX11_read_b176, ↓ol_n, ↓oh_su, ↓oh_up, ↓mp_ol, ↓mp_obp, ↓mp_og, ↓mp_ite, mix_hi, mp_some, mp_none, hsf_41]
theorem rm_fX11_read_b115 (σ : S0) (sf_41 : S0 → Int32 → Int32 → Int32 → Int32 → Int32 → Int32 → Int32 → Int32 → Option (Int32 × S0)) (hsf_41 : ∀ (ρ : S0) (a0 : Int32) (a1 : Int32) (a2 : Int32) (a3 : Int32) (a4 : Int32) (a5 : Int32) (a6 : Int32) (a7 : Int32), sf_41 (mix σ ρ) a0 a1 a2 a3 a4 a5 a6 a7 = mp σ (sf_41 ρ a0 a1 a2 a3 a4 a5 a6 a7)) (ρ : S0) (x1 : Int32) (x2 : Int32) (x3 : Int32) (x4 : Int32) (x5 : Int32) (x7 : Int32) (x8 : Int32) (t0 : Int32)  : fX11_read_b115 sf_41 (mix σ ρ) x1 x2 x3 x4 x5 x7 x8 t0 = mp σ (fX11_read_b115 sf_41 ρ x1 x2 x3 x4 x5 x7 x8 t0) := by
  simp (disch := omega) only [fX11_read_b115, ↓ol_n, ↓oh_su, ↓oh_up, ↓mp_ol, ↓mp_obp, ↓mp_og, ↓mp_ite, ↓om_fX11_hear, mix_hi, mp_some, mp_none, hsf_41, rm_fX11_read_b176, rm_fX11_hear]
theorem rm_fX11_read_b110 (σ : S0) (sf_41 : S0 → Int32 → Int32 → Int32 → Int32 → Int32 → Int32 → Int32 → Int32 → Option (Int32 × S0)) (hsf_41 : ∀ (ρ : S0) (a0 : Int32) (a1 : Int32) (a2 : Int32) (a3 : Int32) (a4 : Int32) (a5 : Int32) (a6 : Int32) (a7 : Int32), sf_41 (mix σ ρ) a0 a1 a2 a3 a4 a5 a6 a7 = mp σ (sf_41 ρ a0 a1 a2 a3 a4 a5 a6 a7)) (ρ : S0) (x1 : Int32) (x2 : Int32) (x3 : Int32) (x4 : Int32) (x5 : Int32) (x7 : Int32) (x8 : Int32)  : fX11_read_b110 sf_41 (mix σ ρ) x1 x2 x3 x4 x5 x7 x8 = mp σ (fX11_read_b110 sf_41 ρ x1 x2 x3 x4 x5 x7 x8) := by
  simp (disch := omega) only [fX11_read_b110, ↓ol_n, ↓oh_su, ↓oh_up, ↓mp_ol, ↓mp_obp, ↓mp_og, ↓mp_ite, mix_hi, mp_some, mp_none, hsf_41, rm_fX11_read_b115]
theorem rm_fX11_read_b182 (σ : S0)   (ρ : S0) (x6 : Int32) (x7 : Int32)  : fX11_read_b182  (mix σ ρ) x6 x7 = mp σ (fX11_read_b182  ρ x6 x7) := by
  simp (disch := omega) only [fX11_read_b182, ↓ol_n, ↓oh_su, ↓oh_up, ↓mp_ol, ↓mp_obp, ↓mp_og, ↓mp_ite, mix_hi, mp_some, mp_none]
theorem rm_fX11_read_b41 (σ : S0) (sf_41 : S0 → Int32 → Int32 → Int32 → Int32 → Int32 → Int32 → Int32 → Int32 → Option (Int32 × S0)) (hsf_41 : ∀ (ρ : S0) (a0 : Int32) (a1 : Int32) (a2 : Int32) (a3 : Int32) (a4 : Int32) (a5 : Int32) (a6 : Int32) (a7 : Int32), sf_41 (mix σ ρ) a0 a1 a2 a3 a4 a5 a6 a7 = mp σ (sf_41 ρ a0 a1 a2 a3 a4 a5 a6 a7)) (ρ : S0) (x1 : Int32) (x2 : Int32) (x3 : Int32) (x4 : Int32) (x5 : Int32) (x6 : Int32) (x7 : Int32) (x8 : Int32)  : fX11_read_b41 sf_41 (mix σ ρ) x1 x2 x3 x4 x5 x6 x7 x8 = mp σ (fX11_read_b41 sf_41 ρ x1 x2 x3 x4 x5 x6 x7 x8) := by
  simp (disch := omega) only [fX11_read_b41, ↓ol_n, ↓oh_su, ↓oh_up, ↓mp_ol, ↓mp_obp, ↓mp_og, ↓mp_ite, mix_hi, mp_some, mp_none, hsf_41, rm_fX11_read_b182, rm_fX11_read_b110, rm_fX11_read_b115]
theorem rm_fX11_read_h41 (σ : S0)   : ∀ (n : Nat) (ρ : S0) (x1 : Int32) (x2 : Int32) (x3 : Int32) (x4 : Int32) (x5 : Int32) (x6 : Int32) (x7 : Int32) (x8 : Int32), fX11_read_h41  n (mix σ ρ) x1 x2 x3 x4 x5 x6 x7 x8 = mp σ (fX11_read_h41  n ρ x1 x2 x3 x4 x5 x6 x7 x8)
  | 0, _, _, _, _, _, _, _, _, _ => rfl
  | n + 1, ρ, x1, x2, x3, x4, x5, x6, x7, x8 => rm_fX11_read_b41 σ  (fX11_read_h41  n)  (rm_fX11_read_h41 σ   n) ρ x1 x2 x3 x4 x5 x6 x7 x8 
theorem rm_fX11_read (σ : S0)   (ρ : S0) (x1 : Int32) (x2 : Int32) (x3 : Int32) (x4 : Int32)  : fX11_read  (mix σ ρ) x1 x2 x3 x4 = mp σ (fX11_read  ρ x1 x2 x3 x4) := by
  simp (disch := omega) only [fX11_read, ↓ol_n, ↓oh_su, ↓oh_up, ↓mp_ol, ↓mp_obp, ↓mp_og, ↓mp_ite, ↓om_fX11_isSheet, ↓om_fX11_in, mix_hi, mp_some, mp_none, rm_fX11_isSheet, rm_fX11_in, rm_fX11_read_h41]
theorem rm_fX11_torn (σ : S0)   (ρ : S0)   : fX11_torn  (mix σ ρ)  = mp σ (fX11_torn  ρ ) := by
  simp (disch := omega) only [fX11_torn, ↓ol_n, ↓oh_su, ↓oh_up, ↓mp_ol, ↓mp_obp, ↓mp_og, ↓mp_ite, mix_hi, mp_some, mp_none]
end
