theorem rm_fJ6_bitCount_0f7a4 (σ : S0)   (ρ : S0) (x0 : Int32)  : fJ6_bitCount_0f7a4  (mix σ ρ) x0 = mp σ (fJ6_bitCount_0f7a4  ρ x0) := by
  simp (disch := omega) only [fJ6_bitCount_0f7a4, ↓ol_n, ↓oh_su, ↓oh_up, ↓mp_ol, ↓mp_obp, ↓mp_og, ↓mp_ite, mix_hi, mp_some, mp_none]
theorem om_fJ6_bitCount_0f7a4 (σ : S0) (ρ : S0) (x0 : Int32)  (kk : Int32 → S0 → Option (Int32 × S0)) : obp (fJ6_bitCount_0f7a4 (mix σ ρ) x0) kk = obp (fJ6_bitCount_0f7a4 ρ x0) (fun r s => kk r (mix σ s)) := by
  rw [rm_fJ6_bitCount_0f7a4 σ ρ x0 , obp_mp]
theorem rm_fX11_in (σ : S0)   (ρ : S0) (x0 : Int64) (x2 : Int64) (x4 : Int64)  : fX11_in  (mix σ ρ) x0 x2 x4 = mp σ (fX11_in  ρ x0 x2 x4) := by
  simp (disch := omega) only [fX11_in, ↓ol_n, ↓oh_su, ↓oh_up, ↓mp_ol, ↓mp_obp, ↓mp_og, ↓mp_ite, mix_hi, mp_some, mp_none]
theorem om_fX11_in (σ : S0) (ρ : S0) (x0 : Int64) (x2 : Int64) (x4 : Int64)  (kk : Int32 → S0 → Option (Int32 × S0)) : obp (fX11_in (mix σ ρ) x0 x2 x4) kk = obp (fX11_in ρ x0 x2 x4) (fun r s => kk r (mix σ s)) := by
  rw [rm_fX11_in σ ρ x0 x2 x4 , obp_mp]
theorem rm_fX11_flag (σ : S0)   (ρ : S0) (x0 : Int32)  : fX11_flag  (mix σ ρ) x0 = mp σ (fX11_flag  ρ x0) := by
  simp (disch := omega) only [fX11_flag, ↓ol_n, ↓oh_su, ↓oh_up, ↓mp_ol, ↓mp_obp, ↓mp_og, ↓mp_ite, mix_hi, mp_some, mp_none]
theorem om_fX11_flag (σ : S0) (ρ : S0) (x0 : Int32)  (kk : Int32 → S0 → Option (Int32 × S0)) : obp (fX11_flag (mix σ ρ) x0) kk = obp (fX11_flag ρ x0) (fun r s => kk r (mix σ s)) := by
  rw [rm_fX11_flag σ ρ x0 , obp_mp]
theorem rm_fX11_size (σ : S0)   (ρ : S0) (x0 : Int32)  : fX11_size  (mix σ ρ) x0 = mp σ (fX11_size  ρ x0) := by
  simp (disch := omega) only [fX11_size, ↓ol_n, ↓oh_su, ↓oh_up, ↓mp_ol, ↓mp_obp, ↓mp_og, ↓mp_ite, mix_hi, mp_some, mp_none]
theorem om_fX11_size (σ : S0) (ρ : S0) (x0 : Int32)  (kk : Int32 → S0 → Option (Int32 × S0)) : obp (fX11_size (mix σ ρ) x0) kk = obp (fX11_size ρ x0) (fun r s => kk r (mix σ s)) := by
  rw [rm_fX11_size σ ρ x0 , obp_mp]
theorem rm_fX11_firstDraft_b2 (σ : S0) (sf_2 : S0 → Int32 → Option (Int32 × S0)) (hsf_2 : ∀ (ρ : S0) (a0 : Int32), sf_2 (mix σ ρ) a0 = mp σ (sf_2 ρ a0)) (ρ : S0) (x1 : Int32)  : fX11_firstDraft_b2 sf_2 (mix σ ρ) x1 = mp σ (fX11_firstDraft_b2 sf_2 ρ x1) := by
  simp (disch := omega) only [fX11_firstDraft_b2, ↓ol_n, ↓oh_su, ↓oh_up, ↓mp_ol, ↓mp_obp, ↓mp_og, ↓mp_ite, mix_hi, mp_some, mp_none, hsf_2]
theorem rm_fX11_firstDraft_h2 (σ : S0)   : ∀ (n : Nat) (ρ : S0) (x1 : Int32), fX11_firstDraft_h2  n (mix σ ρ) x1 = mp σ (fX11_firstDraft_h2  n ρ x1)
  | 0, _, _ => rfl
  | n + 1, ρ, x1 => rm_fX11_firstDraft_b2 σ  (fX11_firstDraft_h2  n)  (rm_fX11_firstDraft_h2 σ   n) ρ x1 
theorem rm_fX11_firstDraft (σ : S0)   (ρ : S0)   : fX11_firstDraft  (mix σ ρ)  = mp σ (fX11_firstDraft  ρ ) := by
  simp (disch := omega) only [fX11_firstDraft, ↓ol_n, ↓oh_su, ↓oh_up, ↓mp_ol, ↓mp_obp, ↓mp_og, ↓mp_ite, mix_hi, mp_some, mp_none, rm_fX11_firstDraft_h2]
theorem om_fX11_firstDraft (σ : S0) (ρ : S0)   (kk : Int32 → S0 → Option (Int32 × S0)) : obp (fX11_firstDraft (mix σ ρ) ) kk = obp (fX11_firstDraft ρ ) (fun r s => kk r (mix σ s)) := by
  rw [rm_fX11_firstDraft σ ρ  , obp_mp]
theorem rm_fX11_keepDraft_b28 (σ : S0) (sf_28 : S0 → Int32 → Option (Int32 × S0)) (hsf_28 : ∀ (ρ : S0) (a0 : Int32), sf_28 (mix σ ρ) a0 = mp σ (sf_28 ρ a0)) (ρ : S0) (x1 : Int32)  : fX11_keepDraft_b28 sf_28 (mix σ ρ) x1 = mp σ (fX11_keepDraft_b28 sf_28 ρ x1) := by
  simp (disch := omega) only [fX11_keepDraft_b28, ↓ol_n, ↓oh_su, ↓oh_up, ↓mp_ol, ↓mp_obp, ↓mp_og, ↓mp_ite, mix_hi, mp_some, mp_none, hsf_28, cl_0, cl_1]
theorem rm_fX11_keepDraft_h28 (σ : S0)   : ∀ (n : Nat) (ρ : S0) (x1 : Int32), fX11_keepDraft_h28  n (mix σ ρ) x1 = mp σ (fX11_keepDraft_h28  n ρ x1)
  | 0, _, _ => rfl
  | n + 1, ρ, x1 => rm_fX11_keepDraft_b28 σ  (fX11_keepDraft_h28  n)  (rm_fX11_keepDraft_h28 σ   n) ρ x1 
theorem rm_fX11_keepDraft_b2 (σ : S0) (sf_2 : S0 → Int32 → Option (Int32 × S0)) (hsf_2 : ∀ (ρ : S0) (a0 : Int32), sf_2 (mix σ ρ) a0 = mp σ (sf_2 ρ a0)) (ρ : S0) (x1 : Int32)  : fX11_keepDraft_b2 sf_2 (mix σ ρ) x1 = mp σ (fX11_keepDraft_b2 sf_2 ρ x1) := by
  simp (disch := omega) only [fX11_keepDraft_b2, ↓ol_n, ↓oh_su, ↓oh_up, ↓mp_ol, ↓mp_obp, ↓mp_og, ↓mp_ite, mix_hi, mp_some, mp_none, hsf_2, rm_fX11_keepDraft_h28]
theorem rm_fX11_keepDraft_h2 (σ : S0)   : ∀ (n : Nat) (ρ : S0) (x1 : Int32), fX11_keepDraft_h2  n (mix σ ρ) x1 = mp σ (fX11_keepDraft_h2  n ρ x1)
  | 0, _, _ => rfl
  | n + 1, ρ, x1 => rm_fX11_keepDraft_b2 σ  (fX11_keepDraft_h2  n)  (rm_fX11_keepDraft_h2 σ   n) ρ x1 
theorem rm_fX11_keepDraft (σ : S0)   (ρ : S0)   : fX11_keepDraft  (mix σ ρ)  = mp σ (fX11_keepDraft  ρ ) := by
  simp (disch := omega) only [fX11_keepDraft, ↓ol_n, ↓oh_su, ↓oh_up, ↓mp_ol, ↓mp_obp, ↓mp_og, ↓mp_ite, mix_hi, mp_some, mp_none, rm_fX11_keepDraft_h2]
theorem om_fX11_keepDraft (σ : S0) (ρ : S0)   (kk : Int32 → S0 → Option (Int32 × S0)) : obp (fX11_keepDraft (mix σ ρ) ) kk = obp (fX11_keepDraft ρ ) (fun r s => kk r (mix σ s)) := by
  rw [rm_fX11_keepDraft σ ρ  , obp_mp]
theorem rm_fX11_feed_b19 (σ : S0) (sf_19 : S0 → Int64 → Int32 → Option (Int32 × S0)) (hsf_19 : ∀ (ρ : S0) (a0 : Int64) (a1 : Int32), sf_19 (mix σ ρ) a0 a1 = mp σ (sf_19 ρ a0 a1)) (ρ : S0) (x1 : Int64) (x3 : Int32)  : fX11_feed_b19 sf_19 (mix σ ρ) x1 x3 = mp σ (fX11_feed_b19 sf_19 ρ x1 x3) := by
  simp (disch := omega) only [fX11_feed_b19, ↓ol_n, ↓oh_su, ↓oh_up, ↓mp_ol, ↓mp_obp, ↓mp_og, ↓mp_ite, mix_hi, mp_some, mp_none, hsf_19]
theorem rm_fX11_feed_h19 (σ : S0)   : ∀ (n : Nat) (ρ : S0) (x1 : Int64) (x3 : Int32), fX11_feed_h19  n (mix σ ρ) x1 x3 = mp σ (fX11_feed_h19  n ρ x1 x3)
  | 0, _, _, _ => rfl
  | n + 1, ρ, x1, x3 => rm_fX11_feed_b19 σ  (fX11_feed_h19  n)  (rm_fX11_feed_h19 σ   n) ρ x1 x3 
theorem rm_fX11_feed (σ : S0)   (ρ : S0) (x1 : Int64)  : fX11_feed  (mix σ ρ) x1 = mp σ (fX11_feed  ρ x1) := by
  simp (disch := omega) only [fX11_feed, ↓ol_n, ↓oh_su, ↓oh_up, ↓mp_ol, ↓mp_obp, ↓mp_og, ↓mp_ite, mix_hi, mp_some, mp_none, rm_fX11_feed_h19]
theorem rm_fX11_end (σ : S0)   (ρ : S0) (x1 : Int32)  : fX11_end  (mix σ ρ) x1 = mp σ (fX11_end  ρ x1) := by
  simp (disch := omega) only [fX11_end, ↓ol_n, ↓oh_su, ↓oh_up, ↓mp_ol, ↓mp_obp, ↓mp_og, ↓mp_ite, ↓om_fX11_in, mix_hi, mp_some, mp_none, rm_fX11_in]
theorem rm_fX11_needs (σ : S0)   (ρ : S0) (x1 : Int32) (x2 : Int32)  : fX11_needs  (mix σ ρ) x1 x2 = mp σ (fX11_needs  ρ x1 x2) := by
  simp (disch := omega) only [fX11_needs, ↓ol_n, ↓oh_su, ↓oh_up, ↓mp_ol, ↓mp_obp, ↓mp_og, ↓mp_ite, mix_hi, mp_some, mp_none]
theorem om_fX11_needs (σ : S0) (ρ : S0) (x1 : Int32) (x2 : Int32)  (kk : Int32 → S0 → Option (Int32 × S0)) : obp (fX11_needs (mix σ ρ) x1 x2) kk = obp (fX11_needs ρ x1 x2) (fun r s => kk r (mix σ s)) := by
  rw [rm_fX11_needs σ ρ x1 x2 , obp_mp]
theorem rm_fX11_look (σ : S0)   (ρ : S0) (x1 : Int32)  : fX11_look  (mix σ ρ) x1 = mp σ (fX11_look  ρ x1) := by
  simp (disch := omega) only [fX11_look, ↓ol_n, ↓oh_su, ↓oh_up, ↓mp_ol, ↓mp_obp, ↓mp_og, ↓mp_ite, mix_hi, mp_some, mp_none]
theorem om_fX11_look (σ : S0) (ρ : S0) (x1 : Int32)  (kk : Int32 → S0 → Option (Int32 × S0)) : obp (fX11_look (mix σ ρ) x1) kk = obp (fX11_look ρ x1) (fun r s => kk r (mix σ s)) := by
  rw [rm_fX11_look σ ρ x1 , obp_mp]
theorem rm_fX11_is_b74 (σ : S0)   (ρ : S0)   : fX11_is_b74  (mix σ ρ)  = mp σ (fX11_is_b74  ρ ) := by
  simp (disch := omega) only [fX11_is_b74, ↓ol_n, ↓oh_su, ↓oh_up, ↓mp_ol, ↓mp_obp, ↓mp_og, ↓mp_ite, mix_hi, mp_some, mp_none]
theorem rm_fX11_is (σ : S0)   (ρ : S0) (x1 : Int32) (x2 : Int32) (x3 : Int32) (x4 : Int32) (x5 : Int32)  : fX11_is  (mix σ ρ) x1 x2 x3 x4 x5 = mp σ (fX11_is  ρ x1 x2 x3 x4 x5) := by
  simp (disch := omega) only [fX11_is, ↓ol_n, ↓oh_su, ↓oh_up, ↓mp_ol, ↓mp_obp, ↓mp_og, ↓mp_ite, ↓om_fX11_look, mix_hi, mp_some, mp_none, rm_fX11_look, rm_fX11_is_b74]
theorem om_fX11_is (σ : S0) (ρ : S0) (x1 : Int32) (x2 : Int32) (x3 : Int32) (x4 : Int32) (x5 : Int32)  (kk : Int32 → S0 → Option (Int32 × S0)) : obp (fX11_is (mix σ ρ) x1 x2 x3 x4 x5) kk = obp (fX11_is ρ x1 x2 x3 x4 x5) (fun r s => kk r (mix σ s)) := by
  rw [rm_fX11_is σ ρ x1 x2 x3 x4 x5 , obp_mp]
theorem rm_fX11_nameNow_b49 (σ : S0)   (ρ : S0)   : fX11_nameNow_b49  (mix σ ρ)  = mp σ (fX11_nameNow_b49  ρ ) := by
  simp (disch := omega) only [fX11_nameNow_b49, ↓ol_n, ↓oh_su, ↓oh_up, ↓mp_ol, ↓mp_obp, ↓mp_og, ↓mp_ite, ↓om_fX11_is, mix_hi, mp_some, mp_none, rm_fX11_is]
theorem rm_fX11_nameNow (σ : S0)   (ρ : S0)   : fX11_nameNow  (mix σ ρ)  = mp σ (fX11_nameNow  ρ ) := by
  simp (disch := omega) only [fX11_nameNow, ↓ol_n, ↓oh_su, ↓oh_up, ↓mp_ol, ↓mp_obp, ↓mp_og, ↓mp_ite, ↓om_fX11_is, ↓om_fX11_look, mix_hi, mp_some, mp_none, rm_fX11_is, rm_fX11_nameNow_b49, rm_fX11_look]
theorem om_fX11_nameNow (σ : S0) (ρ : S0)   (kk : Int32 → S0 → Option (Int32 × S0)) : obp (fX11_nameNow (mix σ ρ) ) kk = obp (fX11_nameNow ρ ) (fun r s => kk r (mix σ s)) := by
  rw [rm_fX11_nameNow σ ρ  , obp_mp]
theorem rm_fX11_withNow (σ : S0)   (ρ : S0)   : fX11_withNow  (mix σ ρ)  = mp σ (fX11_withNow  ρ ) := by
  simp (disch := omega) only [fX11_withNow, ↓ol_n, ↓oh_su, ↓oh_up, ↓mp_ol, ↓mp_obp, ↓mp_og, ↓mp_ite, ↓om_fX11_is, mix_hi, mp_some, mp_none, rm_fX11_is]
theorem om_fX11_withNow (σ : S0) (ρ : S0)   (kk : Int32 → S0 → Option (Int32 × S0)) : obp (fX11_withNow (mix σ ρ) ) kk = obp (fX11_withNow ρ ) (fun r s => kk r (mix σ s)) := by
  rw [rm_fX11_withNow σ ρ  , obp_mp]
theorem rm_fX11_next_b260 (σ : S0)   (ρ : S0) (t0 : Int32)  : fX11_next_b260  (mix σ ρ) t0 = mp σ (fX11_next_b260  ρ t0) := by
  simp (disch := omega) only [fX11_next_b260, ↓ol_n, ↓oh_su, ↓oh_up, ↓mp_ol, ↓mp_obp, ↓mp_og, ↓mp_ite, ↓om_fX11_needs, mix_hi, mp_some, mp_none, rm_fX11_needs]
theorem rm_fX11_next_b82 (σ : S0) (sf_82 : S0 → Option (Int32 × S0)) (hsf_82 : ∀ (ρ : S0) , sf_82 (mix σ ρ)  = mp σ (sf_82 ρ )) (ρ : S0)   : fX11_next_b82 sf_82 (mix σ ρ)  = mp σ (fX11_next_b82 sf_82 ρ ) := by
  simp (disch := omega) only [fX11_next_b82, ↓ol_n, ↓oh_su, ↓oh_up, ↓mp_ol, ↓mp_obp, ↓mp_og, ↓mp_ite, ↓om_fX11_look, ↓om_fX11_in, mix_hi, mp_some, mp_none, hsf_82, rm_fX11_look, rm_fX11_in]
theorem rm_fX11_next_h82 (σ : S0)   : ∀ (n : Nat) (ρ : S0) , fX11_next_h82  n (mix σ ρ)  = mp σ (fX11_next_h82  n ρ )
  | 0, _ => rfl
  | n + 1, ρ => rm_fX11_next_b82 σ  (fX11_next_h82  n)  (rm_fX11_next_h82 σ   n) ρ  
theorem rm_fX11_next_b201 (σ : S0) (sf_140 : S0 → Option (Int32 × S0)) (hsf_140 : ∀ (ρ : S0) , sf_140 (mix σ ρ)  = mp σ (sf_140 ρ )) (ρ : S0) (t0 : Int32)  : fX11_next_b201 sf_140 (mix σ ρ) t0 = mp σ (fX11_next_b201 sf_140 ρ t0) := by
  simp (disch := omega) only [fX11_next_b201, ↓ol_n, ↓oh_su, ↓oh_up, ↓mp_ol, ↓mp_obp, ↓mp_og, ↓mp_ite, mix_hi, mp_some, mp_none, hsf_140]
theorem rm_fX11_next_b236 (σ : S0)   (ρ : S0) (t0 : Int32)  : fX11_next_b236  (mix σ ρ) t0 = mp σ (fX11_next_b236  ρ t0) := by
  simp (disch := omega) only [fX11_next_b236, ↓ol_n, ↓oh_su, ↓oh_up, ↓mp_ol, ↓mp_obp, ↓mp_og, ↓mp_ite, ↓om_fX11_needs, mix_hi, mp_some, mp_none, rm_fX11_needs]
theorem rm_fX11_next_b140 (σ : S0) (sf_140 : S0 → Option (Int32 × S0)) (hsf_140 : ∀ (ρ : S0) , sf_140 (mix σ ρ)  = mp σ (sf_140 ρ )) (ρ : S0)   : fX11_next_b140 sf_140 (mix σ ρ)  = mp σ (fX11_next_b140 sf_140 ρ ) := by
  simp (disch := omega) only [fX11_next_b140, ↓ol_n, ↓oh_su, ↓oh_up, ↓mp_ol, ↓mp_obp, ↓mp_og, ↓mp_ite, ↓om_fX11_look, ↓om_fX11_in, mix_hi, mp_some, mp_none, hsf_140, rm_fX11_look, rm_fX11_in, rm_fX11_next_b236, rm_fX11_next_b201]
theorem rm_fX11_next_h140 (σ : S0)   : ∀ (n : Nat) (ρ : S0) , fX11_next_h140  n (mix σ ρ)  = mp σ (fX11_next_h140  n ρ )
  | 0, _ => rfl
  | n + 1, ρ => rm_fX11_next_b140 σ  (fX11_next_h140  n)  (rm_fX11_next_h140 σ   n) ρ  
theorem rm_fX11_next_b8 (σ : S0) (sf_8 : S0 → Option (Int32 × S0)) (hsf_8 : ∀ (ρ : S0) , sf_8 (mix σ ρ)  = mp σ (sf_8 ρ )) (ρ : S0)   : fX11_next_b8 sf_8 (mix σ ρ)  = mp σ (fX11_next_b8 sf_8 ρ ) := by
  simp (disch := omega) only [fX11_next_b8, ↓ol_n, ↓oh_su, ↓oh_up, ↓mp_ol, ↓mp_obp, ↓mp_og, ↓mp_ite, ↓om_fX11_look, ↓om_fX11_in, mix_hi, mp_some, mp_none, hsf_8, rm_fX11_look, rm_fX11_in, rm_fX11_next_b260, rm_fX11_next_h140, rm_fX11_next_h82]
theorem rm_fX11_next_h8 (σ : S0)   : ∀ (n : Nat) (ρ : S0) , fX11_next_h8  n (mix σ ρ)  = mp σ (fX11_next_h8  n ρ )
  | 0, _ => rfl
  | n + 1, ρ => rm_fX11_next_b8 σ  (fX11_next_h8  n)  (rm_fX11_next_h8 σ   n) ρ  
theorem rm_fX11_next (σ : S0)   (ρ : S0)   : fX11_next  (mix σ ρ)  = mp σ (fX11_next  ρ ) := by
  simp (disch := omega) only [fX11_next, ↓ol_n, ↓oh_su, ↓oh_up, ↓mp_ol, ↓mp_obp, ↓mp_og, ↓mp_ite, mix_hi, mp_some, mp_none, rm_fX11_next_h8]
theorem om_fX11_next (σ : S0) (ρ : S0)   (kk : Int32 → S0 → Option (Int32 × S0)) : obp (fX11_next (mix σ ρ) ) kk = obp (fX11_next ρ ) (fun r s => kk r (mix σ s)) := by
  rw [rm_fX11_next σ ρ  , obp_mp]
theorem rm_fX11_looked_b49 (σ : S0)   (ρ : S0)   : fX11_looked_b49  (mix σ ρ)  = mp σ (fX11_looked_b49  ρ ) := by
  simp (disch := omega) only [fX11_looked_b49, ↓ol_n, ↓oh_su, ↓oh_up, ↓mp_ol, ↓mp_obp, ↓mp_og, ↓mp_ite, mix_hi, mp_some, mp_none]
theorem rm_fX11_looked_b25 (σ : S0)   (ρ : S0) (x1 : Int32) (x2 : Int32)  : fX11_looked_b25  (mix σ ρ) x1 x2 = mp σ (fX11_looked_b25  ρ x1 x2) := by
  simp (disch := omega) only [fX11_looked_b25, ↓ol_n, ↓oh_su, ↓oh_up, ↓mp_ol, ↓mp_obp, ↓mp_og, ↓mp_ite, ↓om_fX11_in, ↓om_fX11_needs, mix_hi, mp_some, mp_none, rm_fX11_looked_b49, rm_fX11_in, rm_fX11_needs]
theorem rm_fX11_looked_b21 (σ : S0)   (ρ : S0) (x1 : Int32) (x2 : Int32) (t0 : Int32)  : fX11_looked_b21  (mix σ ρ) x1 x2 t0 = mp σ (fX11_looked_b21  ρ x1 x2 t0) := by
  simp (disch := omega) only [fX11_looked_b21, ↓ol_n, ↓oh_su, ↓oh_up, ↓mp_ol, ↓mp_obp, ↓mp_og, ↓mp_ite, ↓om_fX11_needs, mix_hi, mp_some, mp_none, rm_fX11_needs, rm_fX11_looked_b25]
theorem rm_fX11_looked (σ : S0)   (ρ : S0) (x1 : Int32) (x2 : Int32)  : fX11_looked  (mix σ ρ) x1 x2 = mp σ (fX11_looked  ρ x1 x2) := by
  simp (disch := omega) only [fX11_looked, ↓ol_n, ↓oh_su, ↓oh_up, ↓mp_ol, ↓mp_obp, ↓mp_og, ↓mp_ite, mix_hi, mp_some, mp_none, rm_fX11_looked_b25, rm_fX11_looked_b21]
theorem om_fX11_looked (σ : S0) (ρ : S0) (x1 : Int32) (x2 : Int32)  (kk : Int32 → S0 → Option (Int32 × S0)) : obp (fX11_looked (mix σ ρ) x1 x2) kk = obp (fX11_looked ρ x1 x2) (fun r s => kk r (mix σ s)) := by
  rw [rm_fX11_looked σ ρ x1 x2 , obp_mp]
theorem rm_fX11_readNumber (σ : S0)   (ρ : S0) (x1 : Int32) (x2 : Int32)  : fX11_readNumber  (mix σ ρ) x1 x2 = mp σ (fX11_readNumber  ρ x1 x2) := by
  simp (disch := omega) only [fX11_readNumber, ↓ol_n, ↓oh_su, ↓oh_up, ↓mp_ol, ↓mp_obp, ↓mp_og, ↓mp_ite, ↓om_fX11_looked, ↓om_fX11_next, mix_hi, mp_some, mp_none, rm_fX11_looked, rm_fX11_next]
theorem om_fX11_readNumber (σ : S0) (ρ : S0) (x1 : Int32) (x2 : Int32)  (kk : Int32 → S0 → Option (Int32 × S0)) : obp (fX11_readNumber (mix σ ρ) x1 x2) kk = obp (fX11_readNumber ρ x1 x2) (fun r s => kk r (mix σ s)) := by
  rw [rm_fX11_readNumber σ ρ x1 x2 , obp_mp]
theorem rm_fX11_readHouse_b46 (σ : S0)   (ρ : S0) (x2 : Int32) (t0 : Int32)  : fX11_readHouse_b46  (mix σ ρ) x2 t0 = mp σ (fX11_readHouse_b46  ρ x2 t0) := by
  simp (disch := omega) only [fX11_readHouse_b46, ↓ol_n, ↓oh_su, ↓oh_up, ↓mp_ol, ↓mp_obp, ↓mp_og, ↓mp_ite, ↓om_fX11_next, mix_hi, mp_some, mp_none, rm_fX11_next]
theorem rm_fX11_readHouse_b29 (σ : S0)   (ρ : S0) (x2 : Int32)  : fX11_readHouse_b29  (mix σ ρ) x2 = mp σ (fX11_readHouse_b29  ρ x2) := by
  simp (disch := omega) only [fX11_readHouse_b29, ↓ol_n, ↓oh_su, ↓oh_up, ↓mp_ol, ↓mp_obp, ↓mp_og, ↓mp_ite, mix_hi, mp_some, mp_none, rm_fX11_readHouse_b46]
theorem rm_fX11_readHouse_b25 (σ : S0)   (ρ : S0) (x2 : Int32) (t0 : Int32)  : fX11_readHouse_b25  (mix σ ρ) x2 t0 = mp σ (fX11_readHouse_b25  ρ x2 t0) := by
  simp (disch := omega) only [fX11_readHouse_b25, ↓ol_n, ↓oh_su, ↓oh_up, ↓mp_ol, ↓mp_obp, ↓mp_og, ↓mp_ite, ↓om_fX11_needs, mix_hi, mp_some, mp_none, rm_fX11_needs, rm_fX11_readHouse_b29]
theorem rm_fX11_readHouse (σ : S0)   (ρ : S0) (x1 : Int32)  : fX11_readHouse  (mix σ ρ) x1 = mp σ (fX11_readHouse  ρ x1) := by
  simp (disch := omega) only [fX11_readHouse, ↓ol_n, ↓oh_su, ↓oh_up, ↓mp_ol, ↓mp_obp, ↓mp_og, ↓mp_ite, ↓om_fX11_looked, mix_hi, mp_some, mp_none, rm_fX11_looked, rm_fX11_readHouse_b29, rm_fX11_readHouse_b25]
theorem om_fX11_readHouse (σ : S0) (ρ : S0) (x1 : Int32)  (kk : Int32 → S0 → Option (Int32 × S0)) : obp (fX11_readHouse (mix σ ρ) x1) kk = obp (fX11_readHouse ρ x1) (fun r s => kk r (mix σ s)) := by
  rw [rm_fX11_readHouse σ ρ x1 , obp_mp]
theorem rm_fX11_readBell_b204 (σ : S0) (sf_72 : S0 → Int32 → Int32 → Option (Int32 × S0)) (hsf_72 : ∀ (ρ : S0) (a0 : Int32) (a1 : Int32), sf_72 (mix σ ρ) a0 a1 = mp σ (sf_72 ρ a0 a1)) (ρ : S0) (x1 : Int32) (x2 : Int32)  : fX11_readBell_b204 sf_72 (mix σ ρ) x1 x2 = mp σ (fX11_readBell_b204 sf_72 ρ x1 x2) := by
  simp (disch := omega) only [fX11_readBell_b204, ↓ol_n, ↓oh_su, ↓oh_up, ↓mp_ol, ↓mp_obp, ↓mp_og, ↓mp_ite, mix_hi, mp_some, mp_none, hsf_72]
theorem rm_fX11_readBell_b177 (σ : S0) (sf_72 : S0 → Int32 → Int32 → Option (Int32 × S0)) (hsf_72 : ∀ (ρ : S0) (a0 : Int32) (a1 : Int32), sf_72 (mix σ ρ) a0 a1 = mp σ (sf_72 ρ a0 a1)) (ρ : S0) (x1 : Int32) (x2 : Int32)  : fX11_readBell_b177 sf_72 (mix σ ρ) x1 x2 = mp σ (fX11_readBell_b177 sf_72 ρ x1 x2) := by
  simp (disch := omega) only [fX11_readBell_b177, ↓ol_n, ↓oh_su, ↓oh_up, ↓mp_ol, ↓mp_obp, ↓mp_og, ↓mp_ite, ↓om_fX11_readHouse, mix_hi, mp_some, mp_none, hsf_72, rm_fX11_readBell_b204, rm_fX11_readHouse]
theorem rm_fX11_readBell_b146 (σ : S0) (sf_72 : S0 → Int32 → Int32 → Option (Int32 × S0)) (hsf_72 : ∀ (ρ : S0) (a0 : Int32) (a1 : Int32), sf_72 (mix σ ρ) a0 a1 = mp σ (sf_72 ρ a0 a1)) (ρ : S0) (x1 : Int32) (x3 : Int32) (t0 : Int32) (t1 : Int32)  : fX11_readBell_b146 sf_72 (mix σ ρ) x1 x3 t0 t1 = mp σ (fX11_readBell_b146 sf_72 ρ x1 x3 t0 t1) := by
  simp (disch := omega) only [fX11_readBell_b146, ↓ol_n, ↓oh_su, ↓oh_up, ↓mp_ol, ↓mp_obp, ↓mp_og, ↓mp_ite, ↓om_fX11_next, mix_hi, mp_some, mp_none, hsf_72, rm_fX11_next, rm_fX11_readBell_b177, rm_fX11_readBell_b204]
