/-! THE LAW'S LOOP -/
def Ex (Q : S0 → Prop) (x : S0 → Option (Int32 × S0)) (o : Option (Int32 × S0)) : Prop := ∃ ρ, Q ρ ∧ o = x ρ
theorem Ex.ite {Q : S0 → Prop} {x : S0 → Option (Int32 × S0)} {c : Prop} [Decidable c] {a b : Option (Int32 × S0)} (h1 : c → Ex Q x a) (h2 : ¬ c → Ex Q x b) : Ex Q x (if c then a else b) := by
  by_cases h : c
  · rw [if_pos h]; exact h1 h
  · rw [if_neg h]; exact h2 h
theorem Ex.og {Q : S0 → Prop} {x : S0 → Option (Int32 × S0)} {c : Prop} [Decidable c] {k : Option (Int32 × S0)} (hc : c) (h : Ex Q x k) : Ex Q x (og c k) := by
  rw [og_t hc]; exact h
theorem Ex.cc {Q : S0 → Prop} {x : S0 → Option (Int32 × S0)} {o : Option (Int32 × S0)} {k : Int32 → S0 → Option (Int32 × S0)} {r : Int32} {τ : S0} (e : o = some (r, τ)) (h : Ex Q x (k r τ)) : Ex Q x (obp o k) := by
  subst e; exact h
theorem Ex.eq {Q : S0 → Prop} {x : S0 → Option (Int32 × S0)} {r q : Int32} {ρ : S0} {a b : Option (Int32 × S0)} (h : r = q) (hQ : Q ρ) (ha : a = x ρ) : Ex Q x (if r = q then a else b) := by
  rw [if_pos h]; exact ⟨ρ, hQ, ha⟩
theorem Ex.go {Q : S0 → Prop} {x : S0 → Option (Int32 × S0)} {ρ : S0} {a : Option (Int32 × S0)} (hQ : Q ρ) (ha : a = x ρ) : Ex Q x a := ⟨ρ, hQ, ha⟩
theorem an_fault {σ : S0} (h : R σ) : An (fX10_fault σ) (fun r τ => An (fX11_fault τ) (fun q ρ => (fun _ _ => True) r q ∧ R ρ)) := ⟨_, _, rfl, _, _, rfl, trivial, h⟩
set_option maxHeartbeats 4000000 in
set_option maxRecDepth 100000 in
theorem fL_step (xs : Nat → Int32) (L : Nat) (sf : S0 → Int32 → Option (Int32 × S0)) (σ : S0) (hσ : R σ) (x3 : Int32) (hlt : ¬ ((Int32.ofNat L) - 5 < x3)) (g0 : ¬ (x3 < 0 ∨ L ≤ x3.toNatClampNeg)) (g1 : ¬ (x3 + 1 < 0 ∨ L ≤ (x3 + 1).toNatClampNeg)) (g2 : ¬ (x3 + 2 < 0 ∨ L ≤ (x3 + 2).toNatClampNeg)) (g3 : ¬ (x3 + 3 < 0 ∨ L ≤ (x3 + 3).toNatClampNeg)) (g4 : ¬ (x3 + 4 < 0 ∨ L ≤ (x3 + 4).toNatClampNeg)) : Ex R (fun ρ => sf ρ (x3 + 5)) (fL_b18 xs L sf σ x3) := by
  unfold fL_b18
  dsimp only [ol]
  refine Ex.ite (fun h => absurd h hlt) (fun _ => ?_)
  refine Ex.og g0 ?_
  refine Ex.ite (fun _ => Ex.go (ρ := σ) hσ rfl) (fun hr => ?_)
  refine Ex.ite (fun _ => ?_) (fun n0 => ?_)
  · -- feed
    obtain ⟨r, τ, e1, q, ρ, e2, e, hQ⟩ := sim_feed (((xs (x3 + 1).toNatClampNeg).toInt64 <<< (((32 : Int32)).toInt64 &&& 63)) ||| ((xs (x3 + 2).toNatClampNeg).toInt64 &&& 4294967295)) σ hσ
    exact Ex.og g1 (Ex.og g2 (Ex.cc e1 (Ex.og g1 (Ex.og g2 (Ex.cc e2 (Ex.go hQ rfl))))))
  refine Ex.ite (fun _ => ?_) (fun n1 => ?_)
  · -- end
    obtain ⟨r, τ, e1, q, ρ, e2, e, hQ⟩ := sim_end (xs (x3 + 1).toNatClampNeg) σ hσ
    exact Ex.og g1 (Ex.cc e1 (Ex.og g1 (Ex.cc e2 (Ex.go hQ rfl))))
  refine Ex.ite (fun _ => ?_) (fun n2 => ?_)
  · -- text
    obtain ⟨r, τ, e1, q, ρ, e2, e, hQ⟩ := sim_text σ hσ
    exact Ex.cc e1 (Ex.cc e2 (Ex.go hQ rfl))
  refine Ex.ite (fun _ => ?_) (fun n3 => ?_)
  · -- fault
    obtain ⟨r, τ, e1, q, ρ, e2, e, hQ⟩ := an_fault hσ
    exact Ex.cc e1 (Ex.cc e2 (Ex.go hQ rfl))
  refine Ex.ite (fun _ => ?_) (fun n4 => ?_)
  · -- rule
    obtain ⟨r, τ, e1, q, ρ, e2, e, hQ⟩ := sim_rule (xs (x3 + 1).toNatClampNeg) σ hσ
    exact Ex.og g1 (Ex.cc e1 (Ex.og g1 (Ex.cc e2 (Ex.go hQ rfl))))
  refine Ex.ite (fun _ => ?_) (fun n5 => ?_)
  · -- bell
    obtain ⟨r, τ, e1, q, ρ, e2, e, hQ⟩ := sim_bell (xs (x3 + 1).toNatClampNeg) (xs (x3 + 2).toNatClampNeg) σ hσ
    exact Ex.og g1 (Ex.og g2 (Ex.cc e1 (Ex.og g1 (Ex.og g2 (Ex.cc e2 (Ex.go hQ rfl))))))
  refine Ex.ite (fun _ => ?_) (fun n6 => ?_)
  · -- tune
    obtain ⟨r, τ, e1, q, ρ, e2, e, hQ⟩ := sim_tune (xs (x3 + 1).toNatClampNeg) (xs (x3 + 2).toNatClampNeg) σ hσ
    exact Ex.og g1 (Ex.og g2 (Ex.cc e1 (Ex.og g1 (Ex.og g2 (Ex.cc e2 (Ex.go hQ rfl))))))
  refine Ex.ite (fun _ => ?_) (fun n7 => ?_)
  · -- feuds
    obtain ⟨r, τ, e1, q, ρ, e2, e, hQ⟩ := sim_feuds (xs (x3 + 1).toNatClampNeg) σ hσ
    exact Ex.og g1 (Ex.cc e1 (Ex.og g1 (Ex.cc e2 (Ex.go hQ rfl))))
  refine Ex.ite (fun _ => ?_) (fun n8 => ?_)
  · -- fee
    obtain ⟨r, τ, e1, q, ρ, e2, e, hQ⟩ := sim_fee (xs (x3 + 1).toNatClampNeg) (xs (x3 + 2).toNatClampNeg) σ hσ
    exact Ex.og g1 (Ex.og g2 (Ex.cc e1 (Ex.og g1 (Ex.og g2 (Ex.cc e2 (Ex.go hQ rfl))))))
  refine Ex.ite (fun _ => ?_) (fun n9 => ?_)
  · -- shut
    refine Ex.og g1 (Ex.og g2 (Ex.ite (fun h0 => ?_) (fun h0 => ?_)))
    · obtain ⟨r, τ, e1, q, ρ, e2, e, hQ⟩ := sim_shut (xs (x3 + 1).toNatClampNeg) 0 σ hσ
      exact Ex.cc e1 (Ex.og g1 (Ex.og g2 (Ex.ite (fun _ => Ex.cc e2 (Ex.go hQ rfl)) (fun h => absurd h0 h))))
    · obtain ⟨r, τ, e1, q, ρ, e2, e, hQ⟩ := sim_shut (xs (x3 + 1).toNatClampNeg) 1 σ hσ
      exact Ex.cc e1 (Ex.og g1 (Ex.og g2 (Ex.ite (fun h => absurd h h0) (fun _ => Ex.cc e2 (Ex.go hQ rfl)))))
  refine Ex.ite (fun _ => ?_) (fun n10 => ?_)
  · -- sell
    obtain ⟨r, τ, e1, q, ρ, e2, e, hQ⟩ := sim_sell (xs (x3 + 1).toNatClampNeg) (xs (x3 + 2).toNatClampNeg) σ hσ
    exact Ex.og g1 (Ex.og g2 (Ex.cc e1 (Ex.og g1 (Ex.og g2 (Ex.cc e2 (Ex.go hQ rfl))))))
  refine Ex.ite (fun _ => ?_) (fun n11 => ?_)
  · -- half
    obtain ⟨r, τ, e1, q, ρ, e2, e, hQ⟩ := sim_half (xs (x3 + 1).toNatClampNeg) (xs (x3 + 2).toNatClampNeg) σ hσ
    exact Ex.og g1 (Ex.og g2 (Ex.cc e1 (Ex.og g1 (Ex.og g2 (Ex.cc e2 (Ex.go hQ rfl))))))
  refine Ex.ite (fun _ => ?_) (fun n12 => ?_)
  · -- feud
    refine Ex.og g1 (Ex.og g2 (Ex.og g3 (Ex.ite (fun h0 => ?_) (fun h0 => ?_))))
    · obtain ⟨r, τ, e1, q, ρ, e2, e, hQ⟩ := sim_feud (xs (x3 + 1).toNatClampNeg) (xs (x3 + 2).toNatClampNeg) 0 σ hσ
      exact Ex.cc e1 (Ex.og g1 (Ex.og g2 (Ex.og g3 (Ex.ite (fun _ => Ex.cc e2 (Ex.go hQ rfl)) (fun h => absurd h0 h)))))
    · obtain ⟨r, τ, e1, q, ρ, e2, e, hQ⟩ := sim_feud (xs (x3 + 1).toNatClampNeg) (xs (x3 + 2).toNatClampNeg) 1 σ hσ
      exact Ex.cc e1 (Ex.og g1 (Ex.og g2 (Ex.og g3 (Ex.ite (fun h => absurd h h0) (fun _ => Ex.cc e2 (Ex.go hQ rfl))))))
  refine Ex.ite (fun _ => ?_) (fun n13 => ?_)
  · -- feuding
    obtain ⟨r, τ, e1, q, ρ, e2, e, hQ⟩ := sim_feuding (xs (x3 + 1).toNatClampNeg) σ hσ
    exact Ex.og g1 (Ex.cc e1 (Ex.og g1 (Ex.cc e2 (Ex.go hQ rfl))))
  refine Ex.ite (fun _ => ?_) (fun n14 => ?_)
  · -- ring
    obtain ⟨r, τ, e1, q, ρ, e2, e, hQ⟩ := sim_ring (xs (x3 + 1).toNatClampNeg) (xs (x3 + 2).toNatClampNeg) σ hσ
    exact Ex.og g1 (Ex.og g2 (Ex.cc e1 (Ex.og g1 (Ex.og g2 (Ex.cc e2 (Ex.go hQ rfl))))))
  refine Ex.ite (fun _ => ?_) (fun n15 => ?_)
  · -- taken
    obtain ⟨r, τ, e1, q, ρ, e2, e, hQ⟩ := sim_taken σ hσ
    exact Ex.cc e1 (Ex.cc e2 (Ex.go hQ rfl))
  refine Ex.ite (fun _ => ?_) (fun n16 => ?_)
  · -- gets
    obtain ⟨r, τ, e1, q, ρ, e2, e, hQ⟩ := sim_gets (xs (x3 + 1).toNatClampNeg) (xs (x3 + 2).toNatClampNeg) σ hσ
    exact Ex.og g1 (Ex.og g2 (Ex.cc e1 (Ex.og g1 (Ex.og g2 (Ex.cc e2 (Ex.go hQ rfl))))))
  refine Ex.ite (fun _ => ?_) (fun n17 => ?_)
  · -- wage
    obtain ⟨r, τ, e1, q, ρ, e2, e, hQ⟩ := sim_wage (xs (x3 + 1).toNatClampNeg) σ hσ
    exact Ex.og g1 (Ex.cc e1 (Ex.og g1 (Ex.cc e2 (Ex.go hQ rfl))))
  refine Ex.ite (fun _ => ?_) (fun n18 => ?_)
  · -- ask
    obtain ⟨r, τ, e1, q, ρ, e2, e, hQ⟩ := sim_ask (xs (x3 + 1).toNatClampNeg) (xs (x3 + 2).toNatClampNeg) σ hσ
    exact Ex.og g1 (Ex.og g2 (Ex.cc e1 (Ex.og g1 (Ex.og g2 (Ex.cc e2 (Ex.go hQ rfl))))))
  refine Ex.ite (fun _ => ?_) (fun n19 => ?_)
  · -- best
    obtain ⟨r, τ, e1, q, ρ, e2, e, hQ⟩ := sim_best (xs (x3 + 1).toNatClampNeg) (xs (x3 + 2).toNatClampNeg) σ hσ
    exact Ex.og g1 (Ex.og g2 (Ex.cc e1 (Ex.og g1 (Ex.og g2 (Ex.cc e2 (Ex.go hQ rfl))))))
  refine Ex.ite (fun _ => ?_) (fun n20 => ?_)
  · -- settle
    obtain ⟨r, τ, e1, q, ρ, e2, e, hQ⟩ := sim_settle (xs (x3 + 1).toNatClampNeg) σ hσ
    exact Ex.og g1 (Ex.cc e1 (Ex.og g1 (Ex.cc e2 (Ex.go hQ rfl))))
  refine Ex.ite (fun _ => ?_) (fun n21 => ?_)
  · -- settled
    obtain ⟨r, τ, e1, q, ρ, e2, e, hQ⟩ := sim_settled σ hσ
    exact Ex.cc e1 (Ex.cc e2 (Ex.go hQ rfl))
  refine Ex.ite (fun _ => ?_) (fun n22 => ?_)
  · -- feast
    obtain ⟨r, τ, e1, q, ρ, e2, e, hQ⟩ := sim_feast (xs (x3 + 1).toNatClampNeg) (xs (x3 + 2).toNatClampNeg) σ hσ
    exact Ex.og g1 (Ex.og g2 (Ex.cc e1 (Ex.og g1 (Ex.og g2 (Ex.cc e2 (Ex.go hQ rfl))))))
  refine Ex.ite (fun _ => ?_) (fun n23 => ?_)
  · -- fair
    obtain ⟨r, τ, e1, q, ρ, e2, e, hQ⟩ := sim_fair (xs (x3 + 1).toNatClampNeg) (xs (x3 + 2).toNatClampNeg) (xs (x3 + 3).toNatClampNeg) σ hσ
    exact Ex.og g1 (Ex.og g2 (Ex.og g3 (Ex.cc e1 (Ex.og g1 (Ex.og g2 (Ex.og g3 (Ex.cc e2 (Ex.go hQ rfl))))))))
  refine Ex.ite (fun _ => ?_) (fun n24 => ?_)
  · -- nearest
    obtain ⟨r, τ, e1, q, ρ, e2, e, hQ⟩ := sim_nearest (xs (x3 + 1).toNatClampNeg) (xs (x3 + 2).toNatClampNeg) (xs (x3 + 3).toNatClampNeg) σ hσ
    exact Ex.og g1 (Ex.og g2 (Ex.og g3 (Ex.cc e1 (Ex.og g1 (Ex.og g2 (Ex.og g3 (Ex.cc e2 (Ex.go hQ rfl))))))))
  refine Ex.ite (fun _ => ?_) (fun n25 => ?_)
  · -- dear
    obtain ⟨r, τ, e1, q, ρ, e2, e, hQ⟩ := sim_dear (xs (x3 + 1).toNatClampNeg) σ hσ
    exact Ex.og g1 (Ex.cc e1 (Ex.og g1 (Ex.cc e2 (Ex.go hQ rfl))))
  refine Ex.ite (fun _ => ?_) (fun n26 => ?_)
  · -- storm
    obtain ⟨r, τ, e1, q, ρ, e2, e, hQ⟩ := sim_storm (xs (x3 + 1).toNatClampNeg) (xs (x3 + 2).toNatClampNeg) σ hσ
    exact Ex.og g1 (Ex.og g2 (Ex.cc e1 (Ex.og g1 (Ex.og g2 (Ex.cc e2 (Ex.go hQ rfl))))))
  refine Ex.ite (fun _ => ?_) (fun n27 => ?_)
  · -- wine
    obtain ⟨r, τ, e1, q, ρ, e2, e, hQ⟩ := sim_wine (xs (x3 + 1).toNatClampNeg) (xs (x3 + 2).toNatClampNeg) σ hσ
    exact Ex.og g1 (Ex.og g2 (Ex.cc e1 (Ex.og g1 (Ex.og g2 (Ex.cc e2 (Ex.go hQ rfl))))))
  refine Ex.ite (fun _ => ?_) (fun n28 => ?_)
  · -- hear
    obtain ⟨r, τ, e1, q, ρ, e2, e, hQ⟩ := sim_hear (xs (x3 + 1).toNatClampNeg) σ hσ
    exact Ex.og g1 (Ex.cc e1 (Ex.og g1 (Ex.cc e2 (Ex.go hQ rfl))))
  refine Ex.ite (fun _ => ?_) (fun n29 => ?_)
  · -- hush
    obtain ⟨r, τ, e1, q, ρ, e2, e, hQ⟩ := sim_hush σ hσ
    exact Ex.cc e1 (Ex.cc e2 (Ex.go hQ rfl))
  refine Ex.ite (fun _ => ?_) (fun n30 => ?_)
  · -- fits
    obtain ⟨r, τ, e1, q, ρ, e2, e, hQ⟩ := sim_fits (xs (x3 + 1).toNatClampNeg) σ hσ
    exact Ex.og g1 (Ex.cc e1 (Ex.og g1 (Ex.cc e2 (Ex.go hQ rfl))))
  refine Ex.ite (fun _ => ?_) (fun n31 => ?_)
  · -- which
    obtain ⟨r, τ, e1, q, ρ, e2, e, hQ⟩ := sim_which (xs (x3 + 1).toNatClampNeg) σ hσ
    exact Ex.og g1 (Ex.cc e1 (Ex.og g1 (Ex.cc e2 (Ex.go hQ rfl))))
  refine Ex.ite (fun _ => ?_) (fun n32 => ?_)
  · -- keep
    obtain ⟨r, τ, e1, q, ρ, e2, e, hQ⟩ := sim_keep (xs (x3 + 1).toNatClampNeg) σ hσ
    exact Ex.og g1 (Ex.cc e1 (Ex.og g1 (Ex.cc e2 (Ex.go hQ rfl))))
  refine Ex.ite (fun _ => ?_) (fun n33 => ?_)
  · -- back
    obtain ⟨r, τ, e1, q, ρ, e2, e, hQ⟩ := sim_back (xs (x3 + 1).toNatClampNeg) σ hσ
    exact Ex.og g1 (Ex.cc e1 (Ex.og g1 (Ex.cc e2 (Ex.go hQ rfl))))
  refine Ex.ite (fun _ => ?_) (fun n34 => ?_)
  · -- sheet
    obtain ⟨r, τ, e1, q, ρ, e2, e, hQ⟩ := sim_sheet (xs (x3 + 1).toNatClampNeg) (xs (x3 + 2).toNatClampNeg) (xs (x3 + 3).toNatClampNeg) σ hσ
    exact Ex.og g1 (Ex.og g2 (Ex.og g3 (Ex.cc e1 (Ex.og g1 (Ex.og g2 (Ex.og g3 (Ex.cc e2 (Ex.go hQ rfl))))))))
  refine Ex.ite (fun _ => ?_) (fun n35 => ?_)
  · -- lay
    obtain ⟨r, τ, e1, q, ρ, e2, e, hQ⟩ := sim_lay (xs (x3 + 1).toNatClampNeg) (xs (x3 + 2).toNatClampNeg) (xs (x3 + 3).toNatClampNeg) σ hσ
    exact Ex.og g1 (Ex.og g2 (Ex.og g3 (Ex.cc e1 (Ex.og g1 (Ex.og g2 (Ex.og g3 (Ex.cc e2 (Ex.go hQ rfl))))))))
  refine Ex.ite (fun _ => ?_) (fun n36 => ?_)
  · -- read
    obtain ⟨r, τ, e1, q, ρ, e2, e, hQ⟩ := sim_read (xs (x3 + 1).toNatClampNeg) (xs (x3 + 2).toNatClampNeg) (xs (x3 + 3).toNatClampNeg) (xs (x3 + 4).toNatClampNeg) σ hσ
    exact Ex.og g1 (Ex.og g2 (Ex.og g3 (Ex.og g4 (Ex.cc e1 (Ex.og g1 (Ex.og g2 (Ex.og g3 (Ex.og g4 (Ex.cc e2 (Ex.go hQ rfl))))))))))
  refine Ex.ite (fun _ => ?_) (fun n37 => ?_)
  · -- torn
    obtain ⟨r, τ, e1, q, ρ, e2, e, hQ⟩ := sim_torn σ hσ
    exact Ex.cc e1 (Ex.cc e2 (Ex.go hQ rfl))
  refine Ex.ite (fun _ => ?_) (fun n38 => ?_)
  · -- count
    obtain ⟨r, τ, e1, q, ρ, e2, e, hQ⟩ := sim_count (xs (x3 + 1).toNatClampNeg) σ hσ
    exact Ex.og g1 (Ex.cc e1 (Ex.og g1 (Ex.cc e2 (Ex.eq e hQ rfl))))
  · exfalso
    generalize xs x3.toNatClampNeg &&& 63 = v at *
    have m0 : v.toInt ≠ 0 := fun h => n0 ((i3_eq _ _).mpr h)
    have m1 : v.toInt ≠ 1 := fun h => n1 ((i3_eq _ _).mpr h)
    have m2 : v.toInt ≠ 2 := fun h => n2 ((i3_eq _ _).mpr h)
    have m3 : v.toInt ≠ 3 := fun h => n3 ((i3_eq _ _).mpr h)
    have m4 : v.toInt ≠ 4 := fun h => n4 ((i3_eq _ _).mpr h)
    have m5 : v.toInt ≠ 5 := fun h => n5 ((i3_eq _ _).mpr h)
    have m6 : v.toInt ≠ 6 := fun h => n6 ((i3_eq _ _).mpr h)
    have m7 : v.toInt ≠ 7 := fun h => n7 ((i3_eq _ _).mpr h)
    have m8 : v.toInt ≠ 8 := fun h => n8 ((i3_eq _ _).mpr h)
    have m9 : v.toInt ≠ 9 := fun h => n9 ((i3_eq _ _).mpr h)
    have m10 : v.toInt ≠ 10 := fun h => n10 ((i3_eq _ _).mpr h)
    have m11 : v.toInt ≠ 11 := fun h => n11 ((i3_eq _ _).mpr h)
    have m12 : v.toInt ≠ 12 := fun h => n12 ((i3_eq _ _).mpr h)
    have m13 : v.toInt ≠ 13 := fun h => n13 ((i3_eq _ _).mpr h)
    have m14 : v.toInt ≠ 14 := fun h => n14 ((i3_eq _ _).mpr h)
    have m15 : v.toInt ≠ 15 := fun h => n15 ((i3_eq _ _).mpr h)
    have m16 : v.toInt ≠ 16 := fun h => n16 ((i3_eq _ _).mpr h)
    have m17 : v.toInt ≠ 17 := fun h => n17 ((i3_eq _ _).mpr h)
    have m18 : v.toInt ≠ 18 := fun h => n18 ((i3_eq _ _).mpr h)
    have m19 : v.toInt ≠ 19 := fun h => n19 ((i3_eq _ _).mpr h)
    have m20 : v.toInt ≠ 20 := fun h => n20 ((i3_eq _ _).mpr h)
    have m21 : v.toInt ≠ 21 := fun h => n21 ((i3_eq _ _).mpr h)
    have m22 : v.toInt ≠ 22 := fun h => n22 ((i3_eq _ _).mpr h)
    have m23 : v.toInt ≠ 23 := fun h => n23 ((i3_eq _ _).mpr h)
    have m24 : v.toInt ≠ 24 := fun h => n24 ((i3_eq _ _).mpr h)
    have m25 : v.toInt ≠ 25 := fun h => n25 ((i3_eq _ _).mpr h)
    have m26 : v.toInt ≠ 26 := fun h => n26 ((i3_eq _ _).mpr h)
    have m27 : v.toInt ≠ 27 := fun h => n27 ((i3_eq _ _).mpr h)
    have m28 : v.toInt ≠ 28 := fun h => n28 ((i3_eq _ _).mpr h)
    have m29 : v.toInt ≠ 29 := fun h => n29 ((i3_eq _ _).mpr h)
    have m30 : v.toInt ≠ 30 := fun h => n30 ((i3_eq _ _).mpr h)
    have m31 : v.toInt ≠ 31 := fun h => n31 ((i3_eq _ _).mpr h)
    have m32 : v.toInt ≠ 32 := fun h => n32 ((i3_eq _ _).mpr h)
    have m33 : v.toInt ≠ 33 := fun h => n33 ((i3_eq _ _).mpr h)
    have m34 : v.toInt ≠ 34 := fun h => n34 ((i3_eq _ _).mpr h)
    have m35 : v.toInt ≠ 35 := fun h => n35 ((i3_eq _ _).mpr h)
    have m36 : v.toInt ≠ 36 := fun h => n36 ((i3_eq _ _).mpr h)
    have m37 : v.toInt ≠ 37 := fun h => n37 ((i3_eq _ _).mpr h)
    have m38 : v.toInt ≠ 38 := fun h => n38 ((i3_eq _ _).mpr h)
    omega
theorem stop_lt {L i : Nat} (hL : L ≤ 2560) (hi : i ≤ 2560) : (Int32.ofNat L - 5 < nI i) ↔ L < i + 5 := by
  have e : (Int32.ofNat L - 5).toInt = (L : Int) - 5 := by
    have e1 : (Int32.ofNat L).toInt = (L : Int) := nI_toInt (n := L) (by omega)
    have e5 : (5 : Int32).toInt = 5 := rfl
    rw [i3_sub (by omega) (by omega), e1, e5]
  rw [i3_lt, e, nI_toInt (by omega)]
  omega
theorem stop_s {xs : Nat → Int32} {L i n : Nat} {σ : S0} (hL : L ≤ 2560) (hi : i ≤ 2560) (h : L < i + 5) : fL_h18 xs L (n + 1) σ (nI i) = some (1, σ) := by
  show fL_b18 xs L _ σ (nI i) = _
  unfold fL_b18
  rw [if_pos ((stop_lt hL hi).mpr h)]
theorem nI_k (i k : Nat) : nI i + nI k = nI (i + k) := nI_add i k
theorem loop_l (xs : Nat → Int32) {L : Nat} (hL : L ≤ 2560) : ∀ (d i n : Nat) (σ : S0), R σ → i ≤ L → L - i ≤ d → d < n → ∃ ρ, fL_h18 xs L n σ (nI i) = some (1, ρ) := by
  intro d
  induction d with
  | zero =>
    intro i n σ hR h1 h2 h3
    obtain ⟨n, rfl⟩ : ∃ q, n = q + 1 := ⟨n - 1, by omega⟩
    exact ⟨σ, stop_s hL (by omega) (by omega)⟩
  | succ d ih =>
    intro i n σ hR h1 h2 h3
    obtain ⟨n, rfl⟩ : ∃ q, n = q + 1 := ⟨n - 1, by omega⟩
    by_cases h : L < i + 5
    · exact ⟨σ, stop_s hL (by omega) h⟩
    · obtain ⟨ρ, hρ, e⟩ := fL_step xs L (fL_h18 xs L n) σ hR (nI i) (fun q => absurd ((stop_lt (by omega) (by omega)).mp q) h) (ix_ok (by omega) (by omega)) (by rw [show (1 : Int32) = nI 1 from rfl, nI_k]; exact ix_ok (by omega) (by omega)) (by rw [show (2 : Int32) = nI 2 from rfl, nI_k]; exact ix_ok (by omega) (by omega)) (by rw [show (3 : Int32) = nI 3 from rfl, nI_k]; exact ix_ok (by omega) (by omega)) (by rw [show (4 : Int32) = nI 4 from rfl, nI_k]; exact ix_ok (by omega) (by omega))
      obtain ⟨ν, e2⟩ := ih (i + 5) n ρ hρ (by omega) (by omega) (by omega)
      refine ⟨ν, ?_⟩
      show fL_b18 xs L _ σ (nI i) = _
      rw [e, show (5 : Int32) = nI 5 from rfl, nI_k]
      exact e2
theorem whole_start {p : Program} {e : Env} {s : State} {m : MethodId} {below : List Frame} {meth : Method} {c : Code} (l : Launch) {b L : Nat} {xs : Nat → Int32} (hL : L ≤ 2560) (C0 : lw_At p s m meth c b L xs) : W p l e room_1 s m #[Value.ref b] below meth c s.heap [] 0 0 (lw_Z below #[Value.ref b] s) (entryFrame m ([Value.ref b] : List Value).toArray 4) := by
  obtain ⟨r1, r2, σ1, h1, h2⟩ := start_p
  obtain ⟨ρ, h3⟩ := loop_l xs (by omega) L 0 (L + 1) sig0 ⟨_, _, _, _, R_start⟩ (by omega) (by omega) (by omega)
  exact start_of l C0 ⟨r1, r2, σ1, sig0, ρ, L + 1, h1, h2, h3⟩
