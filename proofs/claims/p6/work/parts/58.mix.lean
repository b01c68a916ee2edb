/-! FRAMES: the class's functions do not see the reference's cells, nor the reference's the class's -/
def mix (σ ρ : S0) : S0 := fun k => if k < 98 then σ k else ρ k
def mo (ρ : S0) (o : Option (Int32 × S0)) : Option (Int32 × S0) := match o with
  | none => none
  | some q => some (q.1, mix q.2 ρ)
def mp (σ : S0) (o : Option (Int32 × S0)) : Option (Int32 × S0) := match o with
  | none => none
  | some q => some (q.1, mix σ q.2)
theorem mix_lo {σ ρ : S0} {k : Nat} (h : k < 98) : mix σ ρ k = σ k := if_pos h
theorem mix_hi {σ ρ : S0} {k : Nat} (h : 98 ≤ k) : mix σ ρ k = ρ k := if_neg (by omega)
theorem up_lo {σ ρ : S0} {k : Nat} {f : Nat → Int32} (h : k < 98) : va_up (mix σ ρ) k f = mix (va_up σ k f) ρ := by
  funext x y
  unfold va_up mix
  by_cases hx : x = k
  · subst hx; simp [h]
  · simp [hx]
theorem up_hi {σ ρ : S0} {k : Nat} {f : Nat → Int32} (h : 98 ≤ k) : va_up (mix σ ρ) k f = mix σ (va_up ρ k f) := by
  funext x y
  unfold va_up mix
  by_cases hx : x = k
  · subst hx; simp [Nat.not_lt.mpr h]
  · simp [hx]
theorem su_lo {σ ρ : S0} {k j : Nat} {v : Int32} (h : k < 98) : su (mix σ ρ) k j v = mix (su σ k j v) ρ := by
  unfold su
  rw [mix_lo h, up_lo h]
theorem su_hi {σ ρ : S0} {k j : Nat} {v : Int32} (h : 98 ≤ k) : su (mix σ ρ) k j v = mix σ (su ρ k j v) := by
  unfold su
  rw [mix_hi h, up_hi h]
theorem obp_mo {ρ : S0} {o : Option (Int32 × S0)} {k : Int32 → S0 → Option (Int32 × S0)} : obp (mo ρ o) k = obp o (fun r τ => k r (mix τ ρ)) := by
  cases o <;> rfl
theorem obp_mp {ρ : S0} {o : Option (Int32 × S0)} {k : Int32 → S0 → Option (Int32 × S0)} : obp (mp ρ o) k = obp o (fun r τ => k r (mix ρ τ)) := by
  cases o <;> rfl
theorem mo_obp {ρ : S0} {o : Option (Int32 × S0)} {k : Int32 → S0 → Option (Int32 × S0)} : mo ρ (obp o k) = obp o (fun r τ => mo ρ (k r τ)) := by
  cases o <;> rfl
theorem mp_obp {ρ : S0} {o : Option (Int32 × S0)} {k : Int32 → S0 → Option (Int32 × S0)} : mp ρ (obp o k) = obp o (fun r τ => mp ρ (k r τ)) := by
  cases o <;> rfl
theorem mo_og {ρ : S0} {c : Prop} [Decidable c] {k : Option (Int32 × S0)} : mo ρ (og c k) = og c (mo ρ k) := by
  unfold og
  by_cases h : c
  · rw [if_pos h, if_pos h]
  · rw [if_neg h, if_neg h]; rfl
theorem mp_og {ρ : S0} {c : Prop} [Decidable c] {k : Option (Int32 × S0)} : mp ρ (og c k) = og c (mp ρ k) := by
  unfold og
  by_cases h : c
  · rw [if_pos h, if_pos h]
  · rw [if_neg h, if_neg h]; rfl
theorem mo_ite {ρ : S0} {c : Prop} [Decidable c] {a b : Option (Int32 × S0)} : mo ρ (if c then a else b) = if c then mo ρ a else mo ρ b := by
  by_cases h : c
  · rw [if_pos h, if_pos h]
  · rw [if_neg h, if_neg h]
theorem mp_ite {ρ : S0} {c : Prop} [Decidable c] {a b : Option (Int32 × S0)} : mp ρ (if c then a else b) = if c then mp ρ a else mp ρ b := by
  by_cases h : c
  · rw [if_pos h, if_pos h]
  · rw [if_neg h, if_neg h]
theorem mo_some {ρ : S0} {r : Int32} {τ : S0} : mo ρ (some (r, τ)) = some (r, mix τ ρ) := by
  have h := Eq.refl 0
  cases h
  rfl
theorem mp_some {ρ : S0} {r : Int32} {τ : S0} : mp ρ (some (r, τ)) = some (r, mix ρ τ) := by
  have h := Eq.refl 0
  cases h
  rfl
theorem mo_none {ρ : S0} : mo ρ none = none := by
  have h := Eq.refl 0
  cases h
  rfl
theorem mp_none {ρ : S0} : mp ρ none = none := by
  have h := Eq.refl 0
  cases h
  rfl
theorem og_congr {α : Type} {c c' : Prop} [Decidable c] [Decidable c'] {k k' : Option α} (h1 : c = c') (h2 : c' → k = k') : og c k = og c' k' := by
  subst h1
  unfold og
  by_cases h : c
  · rw [if_pos h, if_pos h, h2 h]
  · rw [if_neg h, if_neg h]
theorem og_g {c : Prop} [Decidable c] {k : Option (Int32 × S0)} (h : c) : og (¬ c) k = none := if_neg (fun q => q h)
theorem ol_n {a : Nat} {k : Nat → Option (Int32 × S0)} : ol a k = k a := by
  have h := Eq.refl 0
  cases h
  rfl
theorem ol_i {a : Int32} {k : Int32 → Option (Int32 × S0)} : ol a k = k a := by
  have h := Eq.refl 0
  cases h
  rfl
theorem ol_m {σ ρ : S0} {k : S0 → Option (Int32 × S0)} : ol (mix σ ρ) k = ol σ (fun s => k (mix s ρ)) := by
  have h := Eq.refl 0
  cases h
  rfl
theorem ol_p {σ ρ : S0} {k : S0 → Option (Int32 × S0)} : ol (mix σ ρ) k = ol ρ (fun s => k (mix σ s)) := by
  have h := Eq.refl 0
  cases h
  rfl
theorem ol_su {σ ρ : S0} {k j : Nat} {v : Int32} {K : S0 → Option (Int32 × S0)} (h : k < 98) : ol (su (mix σ ρ) k j v) K = ol (su σ k j v) (fun s => K (mix s ρ)) := by
  rw [su_lo h]; rfl
theorem ol_up {σ ρ : S0} {k : Nat} {f : Nat → Int32} {K : S0 → Option (Int32 × S0)} (h : k < 98) : ol (va_up (mix σ ρ) k f) K = ol (va_up σ k f) (fun s => K (mix s ρ)) := by
  rw [up_lo h]; rfl
theorem oh_su {σ ρ : S0} {k j : Nat} {v : Int32} {K : S0 → Option (Int32 × S0)} (h : 98 ≤ k) : ol (su (mix σ ρ) k j v) K = ol (su ρ k j v) (fun s => K (mix σ s)) := by
  rw [su_hi h]; rfl
theorem oh_up {σ ρ : S0} {k : Nat} {f : Nat → Int32} {K : S0 → Option (Int32 × S0)} (h : 98 ≤ k) : ol (va_up (mix σ ρ) k f) K = ol (va_up ρ k f) (fun s => K (mix σ s)) := by
  rw [up_hi h]; rfl
theorem mo_ol {β : Type} {ρ : S0} {a : β} {k : β → Option (Int32 × S0)} : mo ρ (ol a k) = ol a (fun x => mo ρ (k x)) := by
  have h := Eq.refl 0
  cases h
  rfl
theorem mp_ol {β : Type} {ρ : S0} {a : β} {k : β → Option (Int32 × S0)} : mp ρ (ol a k) = ol a (fun x => mp ρ (k x)) := by
  have h := Eq.refl 0
  cases h
  rfl
theorem cl_0 : ((0 : Int32)).toNatClampNeg = 0 := by decide
theorem cl_1 : ((1 : Int32)).toNatClampNeg = 1 := by decide
theorem mo_inv {ρ τ : S0} {a : Int32} {o : Option (Int32 × S0)} (h : mo ρ o = some (a, τ)) : ∃ τ', o = some (a, τ') ∧ τ = mix τ' ρ := by
  cases o with
  | none => cases h
  | some q => exact ⟨q.2, by cases h; rfl, by cases h; rfl⟩
theorem mp_inv {ρ τ : S0} {a : Int32} {o : Option (Int32 × S0)} (h : mp ρ o = some (a, τ)) : ∃ τ', o = some (a, τ') ∧ τ = mix ρ τ' := by
  cases o with
  | none => cases h
  | some q => exact ⟨q.2, by cases h; rfl, by cases h; rfl⟩
theorem mix_self (σ : S0) : mix σ σ = σ := by
  funext k
  unfold mix
  by_cases h : k < 98
  · rw [if_pos h]
  · rw [if_neg h]
theorem mix_l (σ τ ρ : S0) : mix (mix σ τ) ρ = mix σ ρ := by
  funext k
  unfold mix
  by_cases h : k < 98
  · rw [if_pos h, if_pos h, if_pos h]
  · rw [if_neg h, if_neg h]
theorem mix_r (σ τ ρ : S0) : mix σ (mix τ ρ) = mix σ ρ := by
  funext k
  unfold mix
  by_cases h : k < 98
  · rw [if_pos h, if_pos h]
  · rw [if_neg h, if_neg h, if_neg h]
