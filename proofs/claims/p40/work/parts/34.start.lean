/-- the world behind the class's constructor -/
def sigX : S0 := sus (fun _ _ => 0) [(4, 0, 3), (4, 1, 3), (22, 0, 3), (22, 1, 3), (90, 0, (-1)), (92, 0, (-1)), (94, 0, (-1)), (96, 0, (-1))]
def lrX : List (Nat × Nat × Nat) := [(1, 0, 2), (0, 0, 1), (4, 3, 5), (4, 4, 6), (7, 0, 8), (7, 1, 9), (7, 2, 10), (7, 3, 11), (7, 4, 12), (7, 5, 13), (4, 5, 7), (14, 1, 15), (14, 2, 16), (14, 3, 17), (14, 4, 18), (14, 5, 19), (14, 6, 20), (14, 8, 21), (4, 6, 14), (3, 1, 4), (3, 0, 1), (0, 1, 3), (22, 3, 23), (22, 4, 24), (25, 0, 26), (25, 1, 27), (25, 2, 28), (25, 3, 29), (25, 4, 30), (25, 5, 31), (22, 5, 25), (32, 1, 33), (32, 2, 34), (32, 3, 35), (32, 4, 36), (32, 5, 37), (32, 6, 38), (32, 8, 39), (22, 6, 32), (0, 2, 22), (0, 3, 32), (40, 0, 22), (40, 1, 32), (0, 4, 40), (41, 3, 42), (41, 4, 43), (41, 5, 44), (41, 6, 45), (41, 0, 22), (41, 1, 32), (41, 2, 40), (0, 5, 41), (46, 2, 47), (48, 0, 49), (48, 1, 50), (48, 2, 51), (48, 3, 52), (48, 4, 53), (48, 5, 54), (46, 3, 48), (46, 0, 22), (46, 1, 40), (0, 6, 46), (56, 0, 57), (56, 1, 58), (56, 2, 59), (56, 3, 60), (56, 4, 61), (56, 5, 62), (56, 6, 63), (56, 7, 64), (56, 8, 65), (56, 9, 66), (56, 10, 67), (56, 11, 68), (55, 2, 56), (55, 3, 69), (55, 0, 22), (55, 1, 32), (0, 7, 55), (70, 0, 22), (70, 1, 32), (0, 8, 70), (0, 9, 71), (0, 10, 72), (0, 11, 73), (74, 1, 75), (74, 2, 76), (74, 3, 77), (74, 4, 78), (74, 5, 79), (74, 6, 80), (74, 8, 81), (71, 0, 74), (82, 1, 83), (82, 2, 84), (82, 3, 85), (82, 4, 86), (82, 5, 87), (82, 6, 88), (82, 8, 89), (71, 1, 82), (90, 2, 91), (73, 0, 90), (92, 2, 93), (73, 1, 92), (94, 2, 95), (73, 2, 94), (96, 2, 97), (73, 3, 96)]
def sigI : S0 := sus sigX [(108, 0, (-4)), (108, 1, (-4)), (108, 2, (-4)), (108, 3, (-4))]
theorem SXK_blind {dC : Nat → ClassId} {dI : Nat → Nat → Nat} {ad : Nat → Nat} {cy : Nat → ClassId} {z n : Nat} {σ : S0} {ρ : R0} {avs : List Value} {A : Nat → Prop} : FrameBlind (va_Pc avs (fun U => PreK dC dI ad cy z n σ ρ U ∧ SX ad A U U.heap)) := fun a U g mk q => by
  obtain ⟨q0, ⟨q1, qP, qK, qN⟩, qX⟩ := q
  exact ⟨q0, ⟨q1, qP, va_K.moved (u := U) (U := U.calling g mk a) (Vm.Alike.refl U.vm) qK, qN.same rfl⟩, qX.same rfl⟩
set_option maxRecDepth 100000 in
theorem lrX_7 (ad : Nat → Nat) : rus ad (fun _ _ => none) lrX 7 = rfA ad 6 8 1 := by
  funext i
  rcases Nat.lt_or_ge i 6 with h | h
  · rcases (show i = 0 ∨ i = 1 ∨ i = 2 ∨ i = 3 ∨ i = 4 ∨ i = 5 by omega) with rfl | rfl | rfl | rfl | rfl | rfl <;> rfl
  · rw [rus_big ad h _ _ rfl]
    unfold rfA
    rw [if_neg (by omega)]
set_option maxRecDepth 100000 in
theorem lrX_25 (ad : Nat → Nat) : rus ad (fun _ _ => none) lrX 25 = rfA ad 6 26 1 := by
  funext i
  rcases Nat.lt_or_ge i 6 with h | h
  · rcases (show i = 0 ∨ i = 1 ∨ i = 2 ∨ i = 3 ∨ i = 4 ∨ i = 5 by omega) with rfl | rfl | rfl | rfl | rfl | rfl <;> rfl
  · rw [rus_big ad h _ _ rfl]
    unfold rfA
    rw [if_neg (by omega)]
set_option maxRecDepth 100000 in
theorem lrX_48 (ad : Nat → Nat) : rus ad (fun _ _ => none) lrX 48 = rfA ad 6 49 1 := by
  funext i
  rcases Nat.lt_or_ge i 6 with h | h
  · rcases (show i = 0 ∨ i = 1 ∨ i = 2 ∨ i = 3 ∨ i = 4 ∨ i = 5 by omega) with rfl | rfl | rfl | rfl | rfl | rfl <;> rfl
  · rw [rus_big ad h _ _ rfl]
    unfold rfA
    rw [if_neg (by omega)]
set_option maxRecDepth 100000 in
theorem lrX_56 (ad : Nat → Nat) : rus ad (fun _ _ => none) lrX 56 = rfA ad 12 57 1 := by
  funext i
  rcases Nat.lt_or_ge i 12 with h | h
  · rcases (show i = 0 ∨ i = 1 ∨ i = 2 ∨ i = 3 ∨ i = 4 ∨ i = 5 ∨ i = 6 ∨ i = 7 ∨ i = 8 ∨ i = 9 ∨ i = 10 ∨ i = 11 by omega) with rfl | rfl | rfl | rfl | rfl | rfl | rfl | rfl | rfl | rfl | rfl | rfl <;> rfl
  · rw [rus_big ad h _ _ rfl]
    unfold rfA
    rw [if_neg (by omega)]
set_option maxRecDepth 100000 in
theorem lrX_71 (ad : Nat → Nat) : rus ad (fun _ _ => none) lrX 71 = rfA ad 2 74 8 := by
  funext i
  rcases Nat.lt_or_ge i 2 with h | h
  · rcases (show i = 0 ∨ i = 1 by omega) with rfl | rfl <;> rfl
  · rw [rus_big ad h _ _ rfl]
    unfold rfA
    rw [if_neg (by omega)]
set_option maxRecDepth 100000 in
theorem lrX_73 (ad : Nat → Nat) : rus ad (fun _ _ => none) lrX 73 = rfA ad 4 90 2 := by
  funext i
  rcases Nat.lt_or_ge i 4 with h | h
  · rcases (show i = 0 ∨ i = 1 ∨ i = 2 ∨ i = 3 by omega) with rfl | rfl | rfl | rfl <;> rfl
  · rw [rus_big ad h _ _ rfl]
    unfold rfA
    rw [if_neg (by omega)]
set_option maxRecDepth 100000 in
theorem lrX_all (ad : Nat → Nat) (cy : Nat → ClassId) : ∀ k, k < 98 → ∀ f, wg cy k f (rus ad (fun _ _ => none) lrX k) = wc ad cy k f := by
  intro k hk f
  match k, hk with
  | 0, _ => exact rfl
  | 1, _ => exact rfl
  | 2, _ => exact rfl
  | 3, _ => exact rfl
  | 4, _ => exact rfl
  | 5, _ => exact rfl
  | 6, _ => exact rfl
  | 7, _ => exact (congrArg (wg cy 7 f) (lrX_7 ad)).trans rfl
  | 8, _ => exact rfl
  | 9, _ => exact rfl
  | 10, _ => exact rfl
  | 11, _ => exact rfl
  | 12, _ => exact rfl
  | 13, _ => exact rfl
  | 14, _ => exact rfl
  | 15, _ => exact rfl
  | 16, _ => exact rfl
  | 17, _ => exact rfl
  | 18, _ => exact rfl
  | 19, _ => exact rfl
  | 20, _ => exact rfl
  | 21, _ => exact rfl
  | 22, _ => exact rfl
  | 23, _ => exact rfl
  | 24, _ => exact rfl
  | 25, _ => exact (congrArg (wg cy 25 f) (lrX_25 ad)).trans rfl
  | 26, _ => exact rfl
  | 27, _ => exact rfl
  | 28, _ => exact rfl
  | 29, _ => exact rfl
  | 30, _ => exact rfl
  | 31, _ => exact rfl
  | 32, _ => exact rfl
  | 33, _ => exact rfl
  | 34, _ => exact rfl
  | 35, _ => exact rfl
  | 36, _ => exact rfl
  | 37, _ => exact rfl
  | 38, _ => exact rfl
  | 39, _ => exact rfl
  | 40, _ => exact rfl
  | 41, _ => exact rfl
  | 42, _ => exact rfl
  | 43, _ => exact rfl
  | 44, _ => exact rfl
  | 45, _ => exact rfl
  | 46, _ => exact rfl
  | 47, _ => exact rfl
  | 48, _ => exact (congrArg (wg cy 48 f) (lrX_48 ad)).trans rfl
  | 49, _ => exact rfl
  | 50, _ => exact rfl
  | 51, _ => exact rfl
  | 52, _ => exact rfl
  | 53, _ => exact rfl
  | 54, _ => exact rfl
  | 55, _ => exact rfl
  | 56, _ => exact (congrArg (wg cy 56 f) (lrX_56 ad)).trans rfl
  | 57, _ => exact rfl
  | 58, _ => exact rfl
  | 59, _ => exact rfl
  | 60, _ => exact rfl
  | 61, _ => exact rfl
  | 62, _ => exact rfl
  | 63, _ => exact rfl
  | 64, _ => exact rfl
  | 65, _ => exact rfl
  | 66, _ => exact rfl
  | 67, _ => exact rfl
  | 68, _ => exact rfl
  | 69, _ => exact rfl
  | 70, _ => exact rfl
  | 71, _ => exact (congrArg (wg cy 71 f) (lrX_71 ad)).trans rfl
  | 72, _ => exact rfl
  | 73, _ => exact (congrArg (wg cy 73 f) (lrX_73 ad)).trans rfl
  | 74, _ => exact rfl
  | 75, _ => exact rfl
  | 76, _ => exact rfl
  | 77, _ => exact rfl
  | 78, _ => exact rfl
  | 79, _ => exact rfl
  | 80, _ => exact rfl
  | 81, _ => exact rfl
  | 82, _ => exact rfl
  | 83, _ => exact rfl
  | 84, _ => exact rfl
  | 85, _ => exact rfl
  | 86, _ => exact rfl
  | 87, _ => exact rfl
  | 88, _ => exact rfl
  | 89, _ => exact rfl
  | 90, _ => exact rfl
  | 91, _ => exact rfl
  | 92, _ => exact rfl
  | 93, _ => exact rfl
  | 94, _ => exact rfl
  | 95, _ => exact rfl
  | 96, _ => exact rfl
  | 97, _ => exact rfl
  | k + 98, hk => exact absurd hk (by omega)
theorem cls_known {s : State} {args : Array Value} (hts : ∀ w ∈ lw_w, w.before args s = true) : ∃ (dC : Nat → ClassId) (dI : Nat → Nat → Nat), ∀ (k : Nat) (q : vw_C), vwCl[k]? = some q → u_Kn s q.1 q.2.1 q.2.2 (dC k) (dI k) := by
  obtain ⟨c0, i0, h0⟩ := u_known (C := RX0) (T := TX0) (N := 9) (n := 9) hts hin_X0 (hts _ hIn_X0)
  obtain ⟨c1, i1, h1⟩ := u_known (C := RX1) (T := TX1) (N := 9) (n := 9) hts hin_X1 (hts _ hIn_X1)
  obtain ⟨c2, i2, h2⟩ := u_known (C := RX2) (T := TX2) (N := 6) (n := 6) hts hin_X2 (hts _ hIn_X2)
  obtain ⟨c3, i3, h3⟩ := u_known (C := RX3) (T := TX3) (N := 6) (n := 6) hts hin_X3 (hts _ hIn_X3)
  obtain ⟨c4, i4, h4⟩ := u_known (C := RX4) (T := TX4) (N := 5) (n := 5) hts hin_X4 (hts _ hIn_X4)
  obtain ⟨c5, i5, h5⟩ := u_known (C := RX5) (T := TX5) (N := 7) (n := 7) hts hin_X5 (hts _ hIn_X5)
  obtain ⟨c6, i6, h6⟩ := u_known (C := RX6) (T := TX6) (N := 6) (n := 6) hts hin_X6 (hts _ hIn_X6)
  obtain ⟨c7, i7, h7⟩ := u_known (C := RX7) (T := TX7) (N := 3) (n := 3) hts hin_X7 (hts _ hIn_X7)
  obtain ⟨c8, i8, h8⟩ := u_known (C := RX8) (T := TX8) (N := 6) (n := 6) hts hin_X8 (hts _ hIn_X8)
  obtain ⟨c9, i9, h9⟩ := u_known (C := RX9) (T := TX9) (N := 7) (n := 7) hts hin_X9 (hts _ hIn_X9)
  obtain ⟨c10, i10, h10⟩ := u_known (C := RX10) (T := TX10) (N := 13) (n := 13) hts hin_X10 (hts _ hIn_X10)
  obtain ⟨c11, i11, h11⟩ := u_known (C := RX11) (T := TX11) (N := 40) (n := 40) hts hin_X11 (hts _ hIn_X11)
  refine ⟨fun k => ([c0, c1, c2, c3, c4, c5, c6, c7, c8, c9, c10, c11] : List ClassId).getD k c0, fun k => ([i0, i1, i2, i3, i4, i5, i6, i7, i8, i9, i10, i11] : List (Nat → Nat)).getD k i0, ?_⟩
  intro k q hq
  match k, hq with
  | 0, hq => cases hq; exact h0
  | 1, hq => cases hq; exact h1
  | 2, hq => cases hq; exact h2
  | 3, hq => cases hq; exact h3
  | 4, hq => cases hq; exact h4
  | 5, hq => cases hq; exact h5
  | 6, hq => cases hq; exact h6
  | 7, hq => cases hq; exact h7
  | 8, hq => cases hq; exact h8
  | 9, hq => cases hq; exact h9
  | 10, hq => cases hq; exact h10
  | 11, hq => cases hq; exact h11
  | k + 12, hq => simp [vwCl] at hq
theorem arr_known {s : State} {args : Array Value} (hts : ∀ w ∈ lw_w, w.before args s = true) (h1 : va_AO RX1 s) (h7 : va_AO RX7 s) (ha : va_AOA .int s) : ∃ cy : Nat → ClassId, ∀ (k : Nat) (q : ClassId × FieldType), (wY cy)[k]? = some q → ArrOfT s q.1 q.2 ∧ va_RA s q.1 q.2 := by
  obtain ⟨c0, k0, m0, f0, g0, e0⟩ := Cond.arrayClass_spec (hts _ hA_int)
  obtain ⟨c1, k1, m1, f1, g1, e1⟩ := Cond.arrayClass_spec (hts _ hA_byte)
  obtain ⟨c2, k2, m2, f2, g2, e2⟩ := Cond.arrayClass_spec (hts _ hA_boolean)
  obtain ⟨m3, c3, k3, f3, g3, e3, n3⟩ := Jvm.Cond.arrayOver_specA ha
  obtain ⟨m4, c4, k4, f4, -, g4, e4, n4⟩ := Cond.arrayOver_spec h1
  obtain ⟨m5, c5, k5, f5, -, g5, e5, n5⟩ := Cond.arrayOver_spec h7
  refine ⟨fun k => ([c0, c1, c2, c3, c4, c5] : List ClassId).getD k c0, ?_⟩
  intro k q hq
  match k, hq with
  | 0, hq => cases hq; exact ⟨fun n z => ⟨fun k h => (by cases h), k0, g0, m0, e0⟩, f0⟩
  | 1, hq => cases hq; exact ⟨fun n z => ⟨fun k h => (by cases h), k1, g1, m1, e1⟩, f1⟩
  | 2, hq => cases hq; exact ⟨fun n z => ⟨fun k h => (by cases h), k2, g2, m2, e2⟩, f2⟩
  | 3, hq => cases hq; exact ⟨fun n z => ⟨fun k h => (by cases h), k3, g3, m3, e3⟩, n3⟩
  | 4, hq => cases hq; exact ⟨fun n z => ⟨fun k h => (by cases h), k4, g4, m4, e4⟩, k4, m4, g4, e4, f4, n4⟩
  | 5, hq => cases hq; exact ⟨fun n z => ⟨fun k h => (by cases h), k5, g5, m5, e5⟩, k5, m5, g5, e5, f5, n5⟩
  | k + 6, hq => simp [wY] at hq
def tmS (i : Nat) : Term := Term.string RX5 (stI i)
set_option maxRecDepth 100000 in
theorem str_known {s : State} {args : Array Value} {A : Nat → Prop} (hgv : (Jvm.Cond.and given_1 narrow_1).before args s = true) (hA : ∀ a : Nat, a < s.heap.size → ¬ A a) : ∃ adK adV : Nat → Nat, vk_S 7 lenS bytS adK adV A s s.heap ∧ ∀ i : Nat, i < 7 → (tmS i).eval args s none [] s = some (.ref (adK i)) := by
  have hs := flat_of_before _ hgv
  refine vk_Sof (tm := tmS) ?_ ?_ ?_ ?_ ?_ ?_ ?_ hA
  · decide
  · intro i hi
    rcases (show i = 0 ∨ i = 1 ∨ i = 2 ∨ i = 3 ∨ i = 4 ∨ i = 5 ∨ i = 6 by omega) with rfl | rfl | rfl | rfl | rfl | rfl | rfl <;> exact hs _ (by decide +kernel)
  · intro i hi
    rcases (show i = 0 ∨ i = 1 ∨ i = 2 ∨ i = 3 ∨ i = 4 ∨ i = 5 ∨ i = 6 by omega) with rfl | rfl | rfl | rfl | rfl | rfl | rfl <;> exact hs _ (by decide +kernel)
  · intro i hi
    rcases (show i = 0 ∨ i = 1 ∨ i = 2 ∨ i = 3 ∨ i = 4 ∨ i = 5 ∨ i = 6 by omega) with rfl | rfl | rfl | rfl | rfl | rfl | rfl <;> exact hs _ (by decide +kernel)
  · intro i hi
    rcases (show i = 0 ∨ i = 1 ∨ i = 2 ∨ i = 3 ∨ i = 4 ∨ i = 5 ∨ i = 6 by omega) with rfl | rfl | rfl | rfl | rfl | rfl | rfl <;> exact hs _ (by decide +kernel)
  · intro i hi j hj
    rcases (show i = 0 ∨ i = 1 ∨ i = 2 ∨ i = 3 ∨ i = 4 ∨ i = 5 ∨ i = 6 by omega) with rfl | rfl | rfl | rfl | rfl | rfl | rfl
    · have hj : j < 6 := hj
      rcases (show j = 0 ∨ j = 1 ∨ j = 2 ∨ j = 3 ∨ j = 4 ∨ j = 5 by omega) with rfl | rfl | rfl | rfl | rfl | rfl <;> exact hs _ (by decide +kernel)
    · have hj : j < 3 := hj
      rcases (show j = 0 ∨ j = 1 ∨ j = 2 by omega) with rfl | rfl | rfl <;> exact hs _ (by decide +kernel)
    · have hj : j < 4 := hj
      rcases (show j = 0 ∨ j = 1 ∨ j = 2 ∨ j = 3 by omega) with rfl | rfl | rfl | rfl <;> exact hs _ (by decide +kernel)
    · have hj : j < 4 := hj
      rcases (show j = 0 ∨ j = 1 ∨ j = 2 ∨ j = 3 by omega) with rfl | rfl | rfl | rfl <;> exact hs _ (by decide +kernel)
    · have hj : j < 4 := hj
      rcases (show j = 0 ∨ j = 1 ∨ j = 2 ∨ j = 3 by omega) with rfl | rfl | rfl | rfl <;> exact hs _ (by decide +kernel)
    · have hj : j < 4 := hj
      rcases (show j = 0 ∨ j = 1 ∨ j = 2 ∨ j = 3 by omega) with rfl | rfl | rfl | rfl <;> exact hs _ (by decide +kernel)
    · have hj : j < 4 := hj
      rcases (show j = 0 ∨ j = 1 ∨ j = 2 ∨ j = 3 by omega) with rfl | rfl | rfl | rfl <;> exact hs _ (by decide +kernel)
  · intro i j hi hj hij
    rcases (show i = 0 ∨ i = 1 ∨ i = 2 ∨ i = 3 ∨ i = 4 ∨ i = 5 ∨ i = 6 by omega) with rfl | rfl | rfl | rfl | rfl | rfl | rfl <;> rcases (show j = 0 ∨ j = 1 ∨ j = 2 ∨ j = 3 ∨ j = 4 ∨ j = 5 ∨ j = 6 by omega) with rfl | rfl | rfl | rfl | rfl | rfl | rfl <;> first | exact absurd rfl hij | exact Or.inl (hs _ (by decide +kernel)) | exact Or.inr (hs _ (by decide +kernel))
theorem nw_known {s : State} {args : Array Value} (hts : ∀ w ∈ lw_tbl, w.before args s = true) : NW s := ⟨va_Nw.of rfl (hts _ hN_X10_11), va_Nw.of rfl (hts _ hN_X5_11), va_Nw.of rfl (hts _ hN_X9_32), va_Nw.of rfl (hts _ hN_X10_27), va_Nw.of rfl (hts _ hN_X10_92), va_Nw.of rfl (hts _ hN_X10_93), va_AO.of (hts _ hO_X1), va_AO.of (hts _ hO_X7), hts _ hO_arr⟩
set_option maxHeartbeats 4000000 in
set_option maxRecDepth 100000 in
/-- THE LAW, from its entry, where the pure functions come to 1 -/
theorem start_of {p : Program} {e : Env} {s : State} {m : MethodId} {below : List Frame} {meth : Method} {c : Code} (l : Launch) {b L : Nat} {xs : Nat → Int32} (C0 : lw_At p s m meth c b L xs)
    (hpure : ∃ (r1 r2 : Int32) (σ1 σ2 ρ : S0) (n : Nat), fX11_firstDraft sigI = some (r1, σ1) ∧ fX11_keepDraft σ1 = some (r2, σ2) ∧ fL_h18 xs L n σ2 0 = some (1, ρ)) : W p l e room_1 s m #[Value.ref b] below meth c s.heap [] 0 0 (lw_Z below #[Value.ref b] s) (entryFrame m ([Value.ref b] : List Value).toArray 4) := by
  obtain ⟨hx, hb, hr, hml, hown, htb, hX, hbl, hlocks, hgv⟩ := C0
  obtain ⟨r1, r2, σ1, σ2, ρ, n, hp1, hp2, hp3⟩ := hpure
  have hts : ∀ w ∈ lw_w, w.before #[Value.ref b] s = true := fun w hw => htb w (lw_w_in w hw)
  have hN := nw_known htb
  obtain ⟨dC, dI, hKc⟩ := cls_known hts
  obtain ⟨cy, hKa⟩ := arr_known hts hN.o1 hN.o7 hN.oa
  have hK : va_K (dC, dI) vwCl (wY cy) s := ⟨hKc, hKa⟩
  have hAz : ∀ a : Nat, a < s.heap.size → ¬ AZ s.heap.size a := fun a h q => by
    have q : s.heap.size ≤ a := q
    omega
  obtain ⟨adK, adV, hVK, hVT⟩ := str_known (A := AZ s.heap.size) hgv hAz
  obtain ⟨ad, hadE⟩ : ∃ ad : Nat → Nat, ad = fun k => if k < 111 then s.heap.size + k else if k < 300 then adK (k - 200) else adV (k - 300) := ⟨_, rfl⟩
  have hz : adz ad s.heap.size := fun k hk => by rw [hadE]; exact if_pos hk
  have haK : ∀ i, i < 7 → ad (200 + i) = adK i := fun i hi => by
    rw [hadE]
    show (if 200 + i < 111 then _ else if 200 + i < 300 then adK (200 + i - 200) else _) = _
    rw [if_neg (by omega), if_pos (by omega), show 200 + i - 200 = i by omega]
  have haV : ∀ i, i < 7 → ad (300 + i) = adV i := fun i hi => by
    rw [hadE]
    show (if 300 + i < 111 then _ else if 300 + i < 300 then _ else adV (300 + i - 300)) = _
    rw [if_neg (by omega), if_neg (by omega), show 300 + i - 300 = i by omega]
  clear hadE
  have hSX : SX ad (AZ s.heap.size) s s.heap := by
    refine ⟨⟨fun i hi => ?_, fun i j hi hj h => hVK.2 i j hi hj ((haK i hi).symm.trans (h.trans (haK j hj)))⟩, fun i hi => ?_, ?_, ?_⟩
    · dsimp only
      rw [haK i hi, haV i hi]
      exact hVK.1 i hi
    · rw [haK i hi]
      have h1 := hVT i hi
      rcases (show i = 0 ∨ i = 1 ∨ i = 2 ∨ i = 3 ∨ i = 4 ∨ i = 5 ∨ i = 6 by omega) with rfl | rfl | rfl | rfl | rfl | rfl | rfl
      · exact vk_R.of (A := #[Value.ref b]) (htb _ hR_61) h1
      · exact vk_R.of (A := #[Value.ref b]) (htb _ hR_70) h1
      · exact vk_R.of (A := #[Value.ref b]) (htb _ hR_75) h1
      · exact vk_R.of (A := #[Value.ref b]) (htb _ hR_80) h1
      · exact vk_R.of (A := #[Value.ref b]) (htb _ hR_85) h1
      · exact vk_R.of (A := #[Value.ref b]) (htb _ hR_133) h1
      · exact vk_R.of (A := #[Value.ref b]) (htb _ hR_134) h1
    · exact va_Zof (htb _ hL_COMPACT_STRINGS) (htb _ (lw_w_in _ hIni_J0)) (va_eqi (flat_of_before _ hgv _ (by decide +kernel))) hAz
    · exact va_Zqof (htb _ hL_SIOOBE_FORMATTER) (htb _ (lw_w_in _ hIni_J3)) (flat_of_before _ hgv _ (by decide +kernel)) hAz
  have CK : Ck p s m #[Value.ref b] meth c RL cL_law 4 dC dI ad cy s.heap.size := ⟨hx, hb, hml, hown, hts, hK, hz, hlocks, hN, Nat.le_refl _⟩
  have hbA : ¬ AW ad s.heap.size b := fun h => by
    rw [show AW ad s.heap.size = AZ s.heap.size from AW_AZ (n := 0) hz (by decide)] at h
    exact hAz b hbl h
  have CX : Cx p s m #[Value.ref b] meth c RL cL_law 4 (some .boolean) dC dI ad cy s.heap.size := ⟨hx, hb, hml, hown, hts, hK, wInj_of hz, hr, hlocks, rfl, by rw [show AW ad s.heap.size = AZ s.heap.size from AW_AZ (n := 0) hz (by decide)]; exact hSX⟩
  have hlo : ∀ q, AW ad s.heap.size q → s.heap.size ≤ q := fun q h => by
    rw [show AW ad s.heap.size = AZ s.heap.size from AW_AZ (n := 0) hz (by decide)] at h
    exact h
  have hl := lv_entry ([.ref b]) (n := 4) (Nat.le_of_ble_eq_true rfl)
  rw [lg_entry_eq]
  refine (show Gk p l e room_1 s m _ below meth c _ dC dI ad cy 4 s.heap.size (fun _ _ => 0) (fun _ _ => none) 0 0 0 [] [] 0 [(0, .ref b)] [] from ?_) _ _ _ hl (fun k q h => by cases h) rfl va_S.rf
  clear hl
  refine k_new (N := 13) (ci := 10) (fs := [.null, .null, .null, .null, .null, .null, .null, .null, .null, .null, .null, .null, .int 0]) (nc2 := 1) (ns2 := 13) CK (Fr.r ad _ (Fr.s _ (fun _ _ => ⟨rfl, rfl⟩ : Fr 0 (fun _ _ => 0) (fun _ _ => none)) rfl) rfl) (by decide) hin_X10 tyX10 tyX10_ok hCL_L_7 hIn_X10 hIni_X10 rfl (fun j hj => by rcases (show j = 0 ∨ j = 1 ∨ j = 2 ∨ j = 3 ∨ j = 4 ∨ j = 5 ∨ j = 6 ∨ j = 7 ∨ j = 8 ∨ j = 9 ∨ j = 10 ∨ j = 11 ∨ j = 12 by omega) with rfl | rfl | rfl | rfl | rfl | rfl | rfl | rfl | rfl | rfl | rfl | rfl | rfl <;> rfl) rfl (Nat.le_of_ble_eq_true rfl) (Nat.le_of_ble_eq_true rfl) rfl rfl dL_law_0 ?_
  refine k_dup CK dL_law_3 rfl ?_
  refine k_callI (b := ad 0) (As := []) (rest := [.ref (ad 0)]) (pn := 0) (nc2 := 98) (ns2 := 1340) (lS2 := [(4, 0, 3), (4, 1, 3), (22, 0, 3), (22, 1, 3), (90, 0, (-1)), (92, 0, (-1)), (94, 0, (-1)), (96, 0, (-1))]) (lR2 := lrX) CK (Fr.r ad _ (Fr.s _ (fun _ _ => ⟨rfl, rfl⟩ : Fr 1 (fun _ _ => 0) (fun _ _ => none)) rfl) rfl) (fun h => absurd h (by decide)) (ck_X10_0 l dC dI ad cy s.heap.size hz) hM_L_9 hC_X10_init hIni_X10 hI_X10_init (by decide +kernel) ⟨rfl, rfl⟩ ⟨(Nat.le_of_ble_eq_true rfl), (Nat.le_of_ble_eq_true rfl)⟩ ⟨(Nat.le_of_ble_eq_true rfl), (Nat.le_of_ble_eq_true rfl)⟩ rfl rfl rfl rfl rfl rfl (Nat.le_of_ble_eq_true rfl) dL_law_4 ?_
  refine k_astore_n (lv2 := [(0, .ref b), (1, .ref (ad 0))]) CK dL_law_7 rfl (by decide) [1, 0] rfl ?_
  refine k_new (N := 40) (ci := 11) (fs := [.null, .null, .int 0, .int 0, .int 0, .int 0, .null, .null, .null, .int 0, .int 0, .int 0, .int 0, .int 0, .int 0, .int 0, .null, .int 0, .int 0, .int 0, .int 0, .int 0, .int 0, .int 0, .int 0, .int 0, .int 0, .int 0, .null, .null, .int 0, .int 0, .int 0, .int 0, .null, .int 0, .null, .null, .null, .int 0]) (nc2 := 99) (ns2 := 1380) CK (Fr.r ad _ (Fr.s _ (fun _ _ => ⟨rfl, rfl⟩ : Fr 98 (fun _ _ => 0) (fun _ _ => none)) rfl) rfl) (by decide) hin_X11 tyX11 tyX11_ok hCL_L_10 hIn_X11 hIni_X11 rfl (fun j hj => by rcases (show j = 0 ∨ j = 1 ∨ j = 2 ∨ j = 3 ∨ j = 4 ∨ j = 5 ∨ j = 6 ∨ j = 7 ∨ j = 8 ∨ j = 9 ∨ j = 10 ∨ j = 11 ∨ j = 12 ∨ j = 13 ∨ j = 14 ∨ j = 15 ∨ j = 16 ∨ j = 17 ∨ j = 18 ∨ j = 19 ∨ j = 20 ∨ j = 21 ∨ j = 22 ∨ j = 23 ∨ j = 24 ∨ j = 25 ∨ j = 26 ∨ j = 27 ∨ j = 28 ∨ j = 29 ∨ j = 30 ∨ j = 31 ∨ j = 32 ∨ j = 33 ∨ j = 34 ∨ j = 35 ∨ j = 36 ∨ j = 37 ∨ j = 38 ∨ j = 39 by omega) with rfl | rfl | rfl | rfl | rfl | rfl | rfl | rfl | rfl | rfl | rfl | rfl | rfl | rfl | rfl | rfl | rfl | rfl | rfl | rfl | rfl | rfl | rfl | rfl | rfl | rfl | rfl | rfl | rfl | rfl | rfl | rfl | rfl | rfl | rfl | rfl | rfl | rfl | rfl | rfl <;> rfl) rfl (Nat.le_of_ble_eq_true rfl) (Nat.le_of_ble_eq_true rfl) rfl rfl dL_law_8 ?_
  refine k_dup CK dL_law_11 rfl ?_
  intro ls H locs hl hP hzz hS
  have hG : GoodIn lw_w (Cond.code yX11_init cX11_init 2 none :: lw_w) := fun w hw => by
    have hm : w ∈ lw_w := (List.mem_cons.mp hw).elim (fun q => by rw [q]; exact hC_X11_init) id
    exact ⟨hm, lw_good w hm⟩
  have hFr : Fr 99 sigX (rus ad (fun _ _ => none) lrX) := Fr.r ad _ (Fr.s _ (fun _ _ => ⟨rfl, rfl⟩ : Fr 99 (fun _ _ => 0) (fun _ _ => none)) rfl) rfl
  refine va_callv (va_runI (As := []) (rest := [.ref (ad 98)]) ⟨hx, hb, hml, hown, hts⟩ (c_X11_init l dC dI ad cy s.heap.size hz sigX (rus ad (fun _ _ => none) lrX) hFr (lrX_all ad cy) hp1 hp2) (cwI 0 hts hG rfl rfl rfl (hts _ hIni_X11) (hts _ hM_L_12) (hts _ hI_X11_init) rfl (by decide +kernel) ⟨(Nat.le_of_ble_eq_true rfl), (Nat.le_of_ble_eq_true rfl)⟩) ⟨SXK_blind, fun U hU hW => ⟨rfl, ⟨by rw [hU]; exact hzz, by rw [hU]; exact hP, va_K.moved hW.alike hK, hN.go hW⟩, by rw [hU]; exact hSX.go hW hS.2.1 (fun _ h => h)⟩⟩ rfl rfl hl.1 rfl (lv_room (Nat.le_of_ble_eq_true rfl)) dL_law_12 ⟨(Nat.le_of_ble_eq_true rfl), (Nat.le_of_ble_eq_true rfl)⟩) hS (fun q _ h => h) (fun q h => h) (fun u t H1 locs1 ht hvm hw hB hz1 hk1 hS1 => ?_)
  subst hw
  have hP1 : va_P (dC, dI) vwCl (wW ad cy _) t.heap := hB
  rw [ht] at hP1
  rw [show AZ s.heap.size = AW ad s.heap.size from (AW_AZ (n := 0) hz (by decide)).symm] at hS1
  refine (show Gw p l e room_1 s m _ below meth c _ dC dI ad cy 4 s.heap.size 111 2532 15 [(0, .ref b), (1, .ref (ad 0))] [.ref (ad 98)] _ from ?_) ls H1 locs1 hl hP1 hS1
  refine g_astore_n (lv2 := [(0, .ref b), (1, .ref (ad 0)), (2, .ref (ad 98))]) CX dL_law_15 rfl (by decide) [1, 2, 0] rfl ?_
  refine g_iconst (v := 0) CX dL_law_16 (by decide) ?_
  refine g_istore_n (lv2 := [(0, .ref b), (1, .ref (ad 0)), (2, .ref (ad 98)), (3, .int 0)]) CX dL_law_17 rfl (by decide) [1, 2, 3, 0] rfl ?_
  exact fL_h18_ok CX hX hbl hbA hlo n _ 0 hp3
