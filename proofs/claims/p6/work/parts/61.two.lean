/-! BOTH RUNS FROM ONE STATE -/
def Two (ox om : Option (Int32 × S0)) (Q : Int32 → Int32 → S0 → Prop) : Prop := ∃ a τ b ρ, ox = some (a, τ) ∧ om = some (b, ρ) ∧ Q a b (mix τ ρ)
def FX (g : S0 → Option (Int32 × S0)) : Prop := ∀ σ ρ, g (mix σ ρ) = mo ρ (g σ)
def FM (g : S0 → Option (Int32 × S0)) : Prop := ∀ σ ρ, g (mix σ ρ) = mp σ (g ρ)
theorem Two.sp {gx gm : S0 → Option (Int32 × S0)} (hx : FX gx) (hm : FM gm) {τ1 ρ1 : S0} {Q : Int32 → Int32 → S0 → Prop} (h : Two (gx (mix τ1 ρ1)) (gm (mix τ1 ρ1)) Q) : Two (gx τ1) (gm ρ1) Q := by
  obtain ⟨a, τ, b, ρ, h1, h2, h3⟩ := h
  rw [hx] at h1
  rw [hm] at h2
  obtain ⟨τ', e1, rfl⟩ := mo_inv h1
  obtain ⟨ρ', e2, rfl⟩ := mp_inv h2
  rw [mix_l, mix_r] at h3
  exact ⟨a, τ', b, ρ', e1, e2, h3⟩
theorem Two.bind {ox om : Option (Int32 × S0)} {kx km : Int32 → S0 → Option (Int32 × S0)} {Q Q' : Int32 → Int32 → S0 → Prop} (h : Two ox om Q) (hx : ∀ a, FX (kx a)) (hm : ∀ a, FM (km a)) (hk : ∀ a b ν, Q a b ν → Two (kx a ν) (km b ν) Q') : Two (obp ox kx) (obp om km) Q' := by
  obtain ⟨a, τ, b, ρ, rfl, rfl, h3⟩ := h
  exact Two.sp (hx a) (hm b) (hk a b _ h3)
theorem Two.mk {a b : Int32} {σ : S0} {Q : Int32 → Int32 → S0 → Prop} (h : Q a b σ) : Two (some (a, σ)) (some (b, σ)) Q := ⟨a, σ, b, σ, rfl, rfl, by rw [mix_self]; exact h⟩
theorem Two.mono {ox om : Option (Int32 × S0)} {Q Q' : Int32 → Int32 → S0 → Prop} (h : Two ox om Q) (hq : ∀ a b ν, Q a b ν → Q' a b ν) : Two ox om Q' := by
  obtain ⟨a, τ, b, ρ, h1, h2, h3⟩ := h
  exact ⟨a, τ, b, ρ, h1, h2, hq _ _ _ h3⟩
theorem Sim.of2 {fx fm : S0 → Option (Int32 × S0)} (hx : FX fx) (hm : FM fm) (h : ∀ σ, R σ → Two (fx σ) (fm σ) (fun a b ν => a = b ∧ R ν)) : Sim fx fm := fun σ hR => by
  obtain ⟨a, τ, b, ρ, h1, h2, rfl, h3⟩ := h σ hR
  have e := hx σ σ
  rw [mix_self, h1] at e
  have et : τ = mix τ σ := by
    obtain ⟨τ', e1, e2⟩ := mo_inv e.symm
    cases e1
    exact e2
  refine ⟨a, τ, h1, a, mix τ ρ, ?_, rfl, h3⟩
  show fm τ = _
  have e2 : fm τ = fm (mix τ σ) := congrArg fm et
  rw [e2, hm, h2]
  rfl
