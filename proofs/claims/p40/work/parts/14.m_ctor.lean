section
/-! THE WORLD WHILE IT IS BUILT: its first n cells; refs of cell k are ρ k -/
abbrev R0 : Type := Nat → Nat → Option Nat
def kT (cy : Nat → ClassId) : List ((Nat → Int32) → (Nat → Option Nat) → va_E) := [
  fun f r => .inr (10, [va_rf (r 0), va_rf (r 1), va_rf (r 2), va_rf (r 3), va_rf (r 4), va_rf (r 5), va_rf (r 6), va_rf (r 7), va_rf (r 8), va_rf (r 9), va_rf (r 10), va_rf (r 11), .int (f 12)]),
  fun f r => .inr (8, [va_rf (r 0), .int (f 1), .int (f 2), .int (f 3), .int (f 4), .int (f 5)]),
  fun f _ => .inl (cy 1, 320, .inl f),
  fun f r => .inr (5, [va_rf (r 0), va_rf (r 1), .int (f 2), .int (f 3), .int (f 4), .int (f 5), .int (f 6)]),
  fun f r => .inr (9, [.int (f 0), .int (f 1), .int (f 2), va_rf (r 3), va_rf (r 4), va_rf (r 5), va_rf (r 6)]),
  fun f _ => .inl (cy 0, 6, .inl f),
  fun f _ => .inl (cy 0, 6, .inl f),
  fun _ r => .inl (cy 3, 6, .inr (.inr (.inr (.inr r)))),
  fun f _ => .inl (cy 0, 12, .inl f),
  fun f _ => .inl (cy 0, 12, .inl f),
  fun f _ => .inl (cy 0, 12, .inl f),
  fun f _ => .inl (cy 0, 12, .inl f),
  fun f _ => .inl (cy 0, 12, .inl f),
  fun f _ => .inl (cy 0, 12, .inl f),
  fun f r => .inr (1, [.int (f 0), va_rf (r 1), va_rf (r 2), va_rf (r 3), va_rf (r 4), va_rf (r 5), va_rf (r 6), .int (f 7), va_rf (r 8)]),
  fun f _ => .inl (cy 0, 12, .inl f),
  fun f _ => .inl (cy 0, 12, .inl f),
  fun f _ => .inl (cy 0, 12, .inl f),
  fun f _ => .inl (cy 0, 12, .inl f),
  fun f _ => .inl (cy 0, 12, .inl f),
  fun f _ => .inl (cy 0, 6, .inl f),
  fun f _ => .inl (cy 0, 12, .inl f),
  fun f r => .inr (9, [.int (f 0), .int (f 1), .int (f 2), va_rf (r 3), va_rf (r 4), va_rf (r 5), va_rf (r 6)]),
  fun f _ => .inl (cy 0, 6, .inl f),
  fun f _ => .inl (cy 0, 6, .inl f),
  fun _ r => .inl (cy 3, 6, .inr (.inr (.inr (.inr r)))),
  fun f _ => .inl (cy 0, 12, .inl f),
  fun f _ => .inl (cy 0, 12, .inl f),
  fun f _ => .inl (cy 0, 12, .inl f),
  fun f _ => .inl (cy 0, 12, .inl f),
  fun f _ => .inl (cy 0, 12, .inl f),
  fun f _ => .inl (cy 0, 12, .inl f),
  fun f r => .inr (1, [.int (f 0), va_rf (r 1), va_rf (r 2), va_rf (r 3), va_rf (r 4), va_rf (r 5), va_rf (r 6), .int (f 7), va_rf (r 8)]),
  fun f _ => .inl (cy 0, 12, .inl f),
  fun f _ => .inl (cy 0, 12, .inl f),
  fun f _ => .inl (cy 0, 12, .inl f),
  fun f _ => .inl (cy 0, 12, .inl f),
  fun f _ => .inl (cy 0, 12, .inl f),
  fun f _ => .inl (cy 0, 6, .inl f),
  fun f _ => .inl (cy 0, 12, .inl f),
  fun f r => .inr (6, [va_rf (r 0), va_rf (r 1), .int (f 2), .int (f 3), .int (f 4), .int (f 5)]),
  fun f r => .inr (0, [va_rf (r 0), va_rf (r 1), va_rf (r 2), va_rf (r 3), va_rf (r 4), va_rf (r 5), va_rf (r 6), .int (f 7), .int (f 8)]),
  fun f _ => .inl (cy 0, 6, .inl f),
  fun f _ => .inl (cy 0, 6, .inl f),
  fun f _ => .inl (cy 0, 6, .inl f),
  fun f _ => .inl (cy 0, 6, .inl f),
  fun f r => .inr (2, [va_rf (r 0), va_rf (r 1), va_rf (r 2), va_rf (r 3), .int (f 4), .int (f 5)]),
  fun f _ => .inl (cy 0, 6, .inl f),
  fun _ r => .inl (cy 3, 6, .inr (.inr (.inr (.inr r)))),
  fun f _ => .inl (cy 0, 6, .inl f),
  fun f _ => .inl (cy 0, 6, .inl f),
  fun f _ => .inl (cy 0, 6, .inl f),
  fun f _ => .inl (cy 0, 6, .inl f),
  fun f _ => .inl (cy 0, 6, .inl f),
  fun f _ => .inl (cy 0, 6, .inl f),
  fun f r => .inr (4, [va_rf (r 0), va_rf (r 1), va_rf (r 2), va_rf (r 3), .int (f 4)]),
  fun _ r => .inl (cy 3, 12, .inr (.inr (.inr (.inr r)))),
  fun f _ => .inl (cy 0, 12, .inl f),
  fun f _ => .inl (cy 0, 12, .inl f),
  fun f _ => .inl (cy 0, 12, .inl f),
  fun f _ => .inl (cy 0, 12, .inl f),
  fun f _ => .inl (cy 0, 12, .inl f),
  fun f _ => .inl (cy 0, 12, .inl f),
  fun f _ => .inl (cy 0, 12, .inl f),
  fun f _ => .inl (cy 0, 12, .inl f),
  fun f _ => .inl (cy 0, 12, .inl f),
  fun f _ => .inl (cy 0, 12, .inl f),
  fun f _ => .inl (cy 0, 12, .inl f),
  fun f _ => .inl (cy 0, 12, .inl f),
  fun f _ => .inl (cy 0, 12, .inl f),
  fun f r => .inr (3, [va_rf (r 0), va_rf (r 1), .int (f 2), .int (f 3), .int (f 4), .int (f 5)]),
  fun _ r => .inl (cy 4, 2, .inr (.inr (.inr (.inr r)))),
  fun f _ => .inl (cy 2, 2, .inl f),
  fun _ r => .inl (cy 5, 4, .inr (.inr (.inr (.inr r)))),
  fun f r => .inr (1, [.int (f 0), va_rf (r 1), va_rf (r 2), va_rf (r 3), va_rf (r 4), va_rf (r 5), va_rf (r 6), .int (f 7), va_rf (r 8)]),
  fun f _ => .inl (cy 0, 12, .inl f),
  fun f _ => .inl (cy 0, 12, .inl f),
  fun f _ => .inl (cy 0, 12, .inl f),
  fun f _ => .inl (cy 0, 12, .inl f),
  fun f _ => .inl (cy 0, 12, .inl f),
  fun f _ => .inl (cy 0, 6, .inl f),
  fun f _ => .inl (cy 0, 12, .inl f),
  fun f r => .inr (1, [.int (f 0), va_rf (r 1), va_rf (r 2), va_rf (r 3), va_rf (r 4), va_rf (r 5), va_rf (r 6), .int (f 7), va_rf (r 8)]),
  fun f _ => .inl (cy 0, 12, .inl f),
  fun f _ => .inl (cy 0, 12, .inl f),
  fun f _ => .inl (cy 0, 12, .inl f),
  fun f _ => .inl (cy 0, 12, .inl f),
  fun f _ => .inl (cy 0, 12, .inl f),
  fun f _ => .inl (cy 0, 6, .inl f),
  fun f _ => .inl (cy 0, 12, .inl f),
  fun f r => .inr (7, [.int (f 0), .int (f 1), va_rf (r 2)]),
  fun f _ => .inl (cy 0, 40, .inl f),
  fun f r => .inr (7, [.int (f 0), .int (f 1), va_rf (r 2)]),
  fun f _ => .inl (cy 0, 40, .inl f),
  fun f r => .inr (7, [.int (f 0), .int (f 1), va_rf (r 2)]),
  fun f _ => .inl (cy 0, 40, .inl f),
  fun f r => .inr (7, [.int (f 0), .int (f 1), va_rf (r 2)]),
  fun f _ => .inl (cy 0, 40, .inl f),
  fun f r => .inr (11, [va_rf (r 0), va_rf (r 1), .int (f 2), .int (f 3), .int (f 4), .int (f 5), va_rf (r 6), va_rf (r 7), va_rf (r 8), .int (f 9), .int (f 10), .int (f 11), .int (f 12), .int (f 13), .int (f 14), .int (f 15), va_rf (r 16), .int (f 17), .int (f 18), .int (f 19), .int (f 20), .int (f 21), .int (f 22), .int (f 23), .int (f 24), .int (f 25), .int (f 26), .int (f 27), va_rf (r 28), va_rf (r 29), .int (f 30), .int (f 31), .int (f 32), .int (f 33), va_rf (r 34), .int (f 35), va_rf (r 36), va_rf (r 37), va_rf (r 38), .int (f 39)]),
  fun f _ => .inl (cy 0, 240, .inl f),
  fun f _ => .inl (cy 2, 2, .inl f),
  fun f _ => .inl (cy 0, 84, .inl f),
  fun f _ => .inl (cy 0, 80, .inl f),
  fun f _ => .inl (cy 0, 84, .inl f),
  fun f _ => .inl (cy 0, 320, .inl f),
  fun f _ => .inl (cy 0, 6, .inl f),
  fun f _ => .inl (cy 0, 12, .inl f),
  fun f _ => .inl (cy 0, 156, .inl f),
  fun f _ => .inl (cy 0, 4, .inl f),
  fun f _ => .inl (cy 0, 4, .inl f),
  fun f _ => .inl (cy 0, 160, .inl f)]
def wg (cy : Nat → ClassId) (k : Nat) (f : Nat → Int32) (r : Nat → Option Nat) : va_E := ((kT cy).getD k (fun _ _ => .inr (0, []))) f r
def wG (n : Nat) (ad : Nat → Nat) (cy : Nat → ClassId) (σ : S0) (ρ : R0) : va_W := (List.range n).map (fun k => (ad k, wg cy k (σ k) (ρ k)))
theorem wG_at (n : Nat) (ad : Nat → Nat) (cy : Nat → ClassId) (σ : S0) (ρ : R0) (k : Nat) (h : k < n) : (wG n ad cy σ ρ)[k]? = some (ad k, wg cy k (σ k) (ρ k)) := by
  unfold wG
  rw [List.getElem?_map, List.getElem?_range h]
  rfl
theorem wG_len (n : Nat) (ad : Nat → Nat) (cy : Nat → ClassId) (σ : S0) (ρ : R0) : (wG n ad cy σ ρ).length = n := by simp [wG]
theorem wG_inv {n : Nat} {ad : Nat → Nat} {cy : Nat → ClassId} {σ : S0} {ρ : R0} {k : Nat} {q : Nat × va_E} (h : (wG n ad cy σ ρ)[k]? = some q) : k < n ∧ q = (ad k, wg cy k (σ k) (ρ k)) := by
  have hk : k < n := by
    have := (List.getElem?_eq_some_iff.mp h).1
    rwa [wG_len] at this
  rw [wG_at n ad cy σ ρ k hk] at h
  exact ⟨hk, (Option.some.inj h).symm⟩
theorem wG_set (n : Nat) (ad : Nat → Nat) (cy : Nat → ClassId) (σ : S0) (ρ : R0) (k : Nat) (f : Nat → Int32) (r : Nat → Option Nat) : (wG n ad cy σ ρ).set k (ad k, wg cy k f r) = wG n ad cy (va_up σ k f) (va_up ρ k r) := by
  apply List.ext_getElem?
  intro j
  by_cases hj : j < n
  · rw [wG_at n ad cy _ _ j hj, List.getElem?_set]
    by_cases e : k = j
    · subst e
      rw [if_pos rfl, if_pos (by rw [wG_len]; exact hj)]
      simp [va_up]
    · rw [if_neg e, wG_at n ad cy _ _ j hj]
      simp [va_up, Ne.symm e]
  · rw [List.getElem?_eq_none (by rw [List.length_set, wG_len]; omega), List.getElem?_eq_none (by rw [wG_len]; omega)]
theorem wG_push (n : Nat) (ad : Nat → Nat) (cy : Nat → ClassId) (σ : S0) (ρ : R0) : wG n ad cy σ ρ ++ [(ad n, wg cy n (σ n) (ρ n))] = wG (n + 1) ad cy σ ρ := by
  unfold wG
  rw [List.range_succ, List.map_append]
  rfl
def sus (σ : S0) (l : List (Nat × Nat × Int32)) : S0 := l.foldl (fun s q => su s q.1 q.2.1 q.2.2) σ
def ru (ρ : R0) (k j a : Nat) : R0 := va_up ρ k (va_up (ρ k) j (some a))
def rus (ad : Nat → Nat) (ρ : R0) (l : List (Nat × Nat × Nat)) : R0 := l.foldl (fun r q => ru r q.1 q.2.1 (ad q.2.2)) ρ
theorem sus_app (σ : S0) (a b : List (Nat × Nat × Int32)) : sus σ (a ++ b) = sus (sus σ a) b := List.foldl_append
theorem rus_app (ad : Nat → Nat) (ρ : R0) (a b : List (Nat × Nat × Nat)) : rus ad ρ (a ++ b) = rus ad (rus ad ρ a) b := List.foldl_append
theorem up_self {α : Type} (f : Nat → α) (k : Nat) : va_up f k (f k) = f := by
  funext j
  unfold va_up
  by_cases h : j = k
  · rw [if_pos h, h]
  · rw [if_neg h]
/-- from n on nothing has been written -/
def Fr (n : Nat) (σ : S0) (ρ : R0) : Prop := ∀ k, n ≤ k → σ k = (fun _ => 0) ∧ ρ k = (fun _ => none)
theorem Fr.mono {n n2 : Nat} {σ : S0} {ρ : R0} (h : Fr n σ ρ) (hn : n ≤ n2) : Fr n2 σ ρ := fun k hk => h k (Nat.le_trans hn hk)
theorem Fr.s {n : Nat} : ∀ (l : List (Nat × Nat × Int32)) {σ : S0} {ρ : R0}, Fr n σ ρ → (l.all (fun q => decide (q.1 < n))) = true → Fr n (sus σ l) ρ
  | [], _, _, h, _ => h
  | q :: l, σ, ρ, h, hl => by
    rw [List.all_cons, Bool.and_eq_true] at hl
    refine Fr.s l (σ := su σ q.1 q.2.1 q.2.2) (fun k hk => ⟨?_, (h k hk).2⟩) hl.2
    have hq : q.1 < n := of_decide_eq_true hl.1
    show va_up σ q.1 _ k = _
    unfold va_up
    rw [if_neg (by omega)]
    exact (h k hk).1
theorem Fr.r {n : Nat} (ad : Nat → Nat) : ∀ (l : List (Nat × Nat × Nat)) {σ : S0} {ρ : R0}, Fr n σ ρ → (l.all (fun q => decide (q.1 < n))) = true → Fr n σ (rus ad ρ l)
  | [], _, _, h, _ => h
  | q :: l, σ, ρ, h, hl => by
    rw [List.all_cons, Bool.and_eq_true] at hl
    refine Fr.r ad l (ρ := ru ρ q.1 q.2.1 (ad q.2.2)) (fun k hk => ⟨(h k hk).1, ?_⟩) hl.2
    have hq : q.1 < n := of_decide_eq_true hl.1
    show va_up ρ q.1 _ k = _
    unfold va_up
    rw [if_neg (by omega)]
    exact (h k hk).2
def AZ (z : Nat) : Nat → Prop := fun q => z ≤ q
def adz (ad : Nat → Nat) (z : Nat) : Prop := ∀ k, k < 111 → ad k = z + k
theorem wGD {ad : Nat → Nat} {z n : Nat} (hz : adz ad z) (hn : n ≤ 111) (cy : Nat → ClassId) (σ : S0) (ρ : R0) : va_D (AZ z) (wG n ad cy σ ρ) := by
  refine ⟨fun i j p q h1 h2 e => ?_, fun k q h => ?_⟩
  · obtain ⟨a1, rfl⟩ := wG_inv h1
    obtain ⟨a2, rfl⟩ := wG_inv h2
    have e : ad i = ad j := e
    rw [hz i (by omega), hz j (by omega)] at e
    omega
  · obtain ⟨a1, rfl⟩ := wG_inv h
    show z ≤ ad k
    rw [hz k (by omega)]
    omega
def va_AOA (ty : FieldType) (U : State) : Prop := (Cond.arrayOver (.array ty)).before #[] U = true
theorem va_AOA.use {ty : FieldType} {A : Array Value} {U : State} (h : va_AOA ty U) : (Cond.arrayOver (.array ty)).before A U = true := h
theorem va_AOA.moved {ty : FieldType} {u U : State} (hvm : u.vm.Alike U.vm) (h : va_AOA ty u) : va_AOA ty U := Jvm.Stand.arrayOver_alikeB hvm h
/-- what is known of links within the nest and of rows of rows -/
def NW (U : State) : Prop := va_Nw (.methodLinkNest RX10 11 yX8_init RX10) U ∧ va_Nw (.methodLinkNest RX5 11 yX9_init RX10) U ∧ va_Nw (.methodLinkNest RX9 32 yX1_init RX10) U ∧ va_Nw (.methodLinkNest RX10 27 yX9_init RX10) U ∧ va_Nw (.methodLinkNest RX10 92 yX1_init RX10) U ∧ va_Nw (.methodLinkNest RX10 93 yX7_init RX10) U ∧ va_AO RX1 U ∧ va_AO RX7 U ∧ va_AOA .int U
theorem NW.go {s U : State} (h : NW s) (hW : s.WarmedH U.vm) : NW U := ⟨va_Nw.warmM hW h.1, va_Nw.warmM hW h.2.1, va_Nw.warmM hW h.2.2.1, va_Nw.warmM hW h.2.2.2.1, va_Nw.warmM hW h.2.2.2.2.1, va_Nw.warmM hW h.2.2.2.2.2.1, va_AO.moved hW.alike h.2.2.2.2.2.2.1, va_AO.moved hW.alike h.2.2.2.2.2.2.2.1, va_AOA.moved hW.alike h.2.2.2.2.2.2.2.2⟩
theorem NW.same {u U : State} (h : NW u) (hv : u.vm = U.vm) : NW U := by
  have ha : u.vm.Alike U.vm := by rw [hv]; exact Vm.Alike.refl _
  exact ⟨va_Nw.same rfl hv h.1, va_Nw.same rfl hv h.2.1, va_Nw.same rfl hv h.2.2.1, va_Nw.same rfl hv h.2.2.2.1, va_Nw.same rfl hv h.2.2.2.2.1, va_Nw.same rfl hv h.2.2.2.2.2.1, va_AO.moved ha h.2.2.2.2.2.2.1, va_AO.moved ha h.2.2.2.2.2.2.2.1, va_AOA.moved ha h.2.2.2.2.2.2.2.2⟩
theorem NW.n_X10_11 {U : State} (h : NW U) : va_Nw (.methodLinkNest RX10 11 yX8_init RX10) U := h.1
theorem NW.n_X5_11 {U : State} (h : NW U) : va_Nw (.methodLinkNest RX5 11 yX9_init RX10) U := h.2.1
theorem NW.n_X9_32 {U : State} (h : NW U) : va_Nw (.methodLinkNest RX9 32 yX1_init RX10) U := h.2.2.1
theorem NW.n_X10_27 {U : State} (h : NW U) : va_Nw (.methodLinkNest RX10 27 yX9_init RX10) U := h.2.2.2.1
theorem NW.n_X10_92 {U : State} (h : NW U) : va_Nw (.methodLinkNest RX10 92 yX1_init RX10) U := h.2.2.2.2.1
theorem NW.n_X10_93 {U : State} (h : NW U) : va_Nw (.methodLinkNest RX10 93 yX7_init RX10) U := h.2.2.2.2.2.1
theorem NW.o1 {U : State} (h : NW U) : va_AO RX1 U := h.2.2.2.2.2.2.1
theorem NW.o7 {U : State} (h : NW U) : va_AO RX7 U := h.2.2.2.2.2.2.2.1
theorem NW.oa {U : State} (h : NW U) : va_AOA .int U := h.2.2.2.2.2.2.2.2
def Gk (p : Program) (l : Launch) (e : Env) (R : Room) (s : State) (m : MethodId) (args : Array Value) (below : List Frame) (meth : Method) (c : Code) (Q : State → Prop) (dC : Nat → ClassId) (dI : Nat → Nat → Nat) (ad : Nat → Nat) (cy : Nat → ClassId) (nL z : Nat) (σ0 : S0) (ρ0 : R0) (nc ns n : Nat) (lS : List (Nat × Nat × Int32)) (lR : List (Nat × Nat × Nat)) (pc : Nat) (lv : List (Nat × Value)) (st : List Value) : Prop :=
  ∀ (ls : Array Slot) (H : Heap) (locs : List Loc), lv_has ls nL lv → va_P (dC, dI) vwCl (wG n ad cy (sus σ0 lS) (rus ad ρ0 lR)) H → H.size = z + n → va_S (AZ z) s.heap H locs → W p l e R s m args below meth c H locs nc ns Q (F0 m pc ls st)
def Ck (p : Program) (s : State) (m : MethodId) (args : Array Value) (meth : Method) (c : Code) (own : String) (cc : ByteArray) (nL : Nat) (dC : Nat → ClassId) (dI : Nat → Nat → Nat) (ad : Nat → Nat) (cy : Nat → ClassId) (z : Nat) : Prop :=
  p.tables.exec = Jvm.exec ∧ c.code = cc ∧ c.maxLocals = nL ∧ s.vm.findClass own = some m.cls ∧ (∀ w ∈ lw_w, w.before args s = true) ∧ va_K (dC, dI) vwCl (wY cy) s ∧ adz ad z ∧ meth.locks = false ∧ NW s ∧ z ≤ s.heap.size
def PreK (dC : Nat → ClassId) (dI : Nat → Nat → Nat) (ad : Nat → Nat) (cy : Nat → ClassId) (z n : Nat) (σ : S0) (ρ : R0) (U : State) : Prop := U.heap.size = z + n ∧ va_P (dC, dI) vwCl (wG n ad cy σ ρ) U.heap ∧ va_K (dC, dI) vwCl (wY cy) U ∧ NW U
def QcK (dC : Nat → ClassId) (dI : Nat → Nat → Nat) (ad : Nat → Nat) (cy : Nat → ClassId) (z n : Nat) (σ : S0) (ρ : R0) : Array Value → State → Outcome → State → Prop := va_Qv (fun _ : Unit => True) (fun _ t => va_P (dC, dI) vwCl (wG n ad cy σ ρ) t.heap ∧ t.heap.size = z + n) (AZ z)
/-- a constructor's contract: the world grows from n0 cells to n1, with these writes -/
def ConK (l : Launch) (y : MethodName) (cc : ByteArray) (maxL : Nat) (rm : Room) (dC : Nat → ClassId) (dI : Nat → Nat → Nat) (ad : Nat → Nat) (cy : Nat → ClassId) (z n0 n1 : Nat) (avs : List Value) (lS : List (Nat × Nat × Int32)) (lR : List (Nat × Nat × Nat)) (mc ms : Nat) : Prop :=
  ∀ (σ : S0) (ρ : R0), Fr n0 σ ρ → (40 < n0 → ρ 22 6 = some (ad 32)) → Met l y (Cond.code y cc maxL none :: lw_w) rm (va_Pc avs (PreK dC dI ad cy z n0 σ ρ)) (QcK dC dI ad cy z n1 (sus σ lS) (rus ad ρ lR)) mc ms (AZ z)
theorem PreK_blind {dC : Nat → ClassId} {dI : Nat → Nat → Nat} {ad : Nat → Nat} {cy : Nat → ClassId} {z n : Nat} {σ : S0} {ρ : R0} {avs : List Value} : FrameBlind (va_Pc avs (PreK dC dI ad cy z n σ ρ)) := fun a U g mk q => by
  obtain ⟨q0, q1, qP, qK, qN⟩ := q
  exact ⟨q0, q1, qP, va_K.moved (u := U) (U := U.calling g mk a) (Vm.Alike.refl U.vm) qK, qN.same rfl⟩
theorem con_k {l : Launch} {y : MethodName} {rm : Room} {dC : Nat → ClassId} {dI : Nat → Nat → Nat} {ad : Nat → Nat} {cy : Nat → ClassId} {z n0 n1 : Nat} {avs : List Value} {lS : List (Nat × Nat × Int32)} {lR : List (Nat × Nat × Nat)} {mc ms : Nat} {cc : ByteArray} {maxL : Nat} {own : String}
    (hz : adz ad z) (hy : plainName y.cls = true) (ho : y.cls = own) (hyn : y.name = "<init>") (hlen : (lg_sl avs).length ≤ maxL)
    (body : ∀ (p : Program) (e : Env) (s : State) (m : MethodId) (below : List Frame) (meth : Method) (c : Code) (σ : S0) (ρ : R0), Ck p s m avs.toArray meth c own cc maxL dC dI ad cy z → meth.name = "<init>" → meth.sig.returnType = none → Fr n0 σ ρ → (40 < n0 → ρ 22 6 = some (ad 32)) →
      Gk p l e rm s m avs.toArray below meth c (MQ below (QcK dC dI ad cy z n1 (sus σ lS) (rus ad ρ lR)) avs.toArray s mc ms (AZ z)) dC dI ad cy maxL z σ ρ 0 0 n0 [] [] 0 (lv_args 0 avs) []) : ConK l y cc maxL rm dC dI ad cy z n0 n1 avs lS lR mc ms := by
  intro σ ρ hF hx
  refine Met.ofW (cc := cc) (maxL := maxL) (ret := none) hy rfl ?_
  intro p e s m args below meth c s₁ B hml hv
  obtain ⟨rfl, hsz, hP, hK, hN⟩ := hv
  have hown : s.vm.findClass own = some m.cls := ho ▸ findClass_of_methodNamed B.named
  have C : Ck p s m avs.toArray meth c own cc maxL dC dI ad cy z := ⟨B.exec, B.bytes, hml, hown, fun w hw => atoms_spec (ws := Cond.code y cc maxL none :: lw_w) B.pre w (List.mem_cons_of_mem _ hw), hK, hz, B.notSynchronized, hN, by omega⟩
  have hl := lv_entry avs (n := maxL) hlen
  have hin : meth.name = "<init>" := (name_of_methodNamed B.named B.method).1.trans hyn
  rw [lg_entry_eq]
  exact body p e s m below meth c σ ρ C hin B.returns hF hx _ _ _ hl hP hsz va_S.rf
section GK
variable {p : Program} {l : Launch} {e : Env} {R : Room} {s : State} {m : MethodId} {args : Array Value} {below : List Frame} {meth : Method} {c : Code} {Q : State → Prop} {dC : Nat → ClassId} {dI : Nat → Nat → Nat} {ad : Nat → Nat} {cy : Nat → ClassId} {nL z : Nat} {σ0 : S0} {ρ0 : R0} {nc ns n : Nat} {lS : List (Nat × Nat × Int32)} {lR : List (Nat × Nat × Nat)} {own : String} {cc : ByteArray} {pc : Nat} {lv : List (Nat × Value)} {rest : List Value}
theorem k_iconst (C : Ck p s m args meth c own cc nL dC dI ad cy z) {i : Int} {v : Int32} (hdg : decode cc pc = .ok (.iconst i, 1)) (hv : Int32.ofInt i = v) (k : Gk p l e R s m args below meth c Q dC dI ad cy nL z σ0 ρ0 nc ns n lS lR (pc + 1) lv (.int v :: rest)) : Gk p l e R s m args below meth c Q dC dI ad cy nL z σ0 ρ0 nc ns n lS lR pc lv rest := fun ls H locs hl hP hz hS => lv_iconst C.1 C.2.1 hdg hv (k ls H locs hl hP hz hS)
theorem k_bipush (C : Ck p s m args meth c own cc nL dC dI ad cy z) {i : Int} {v : Int32} (hdg : decode cc pc = .ok (.bipush i, 2)) (hv : (Int8.ofInt i).toInt32 = v) (k : Gk p l e R s m args below meth c Q dC dI ad cy nL z σ0 ρ0 nc ns n lS lR (pc + 2) lv (.int v :: rest)) : Gk p l e R s m args below meth c Q dC dI ad cy nL z σ0 ρ0 nc ns n lS lR pc lv rest := fun ls H locs hl hP hz hS => lv_bipush C.1 C.2.1 hdg hv (k ls H locs hl hP hz hS)
theorem k_sipush (C : Ck p s m args meth c own cc nL dC dI ad cy z) {i : Int} {v : Int32} (hdg : decode cc pc = .ok (.sipush i, 3)) (hv : (Int16.ofInt i).toInt32 = v) (k : Gk p l e R s m args below meth c Q dC dI ad cy nL z σ0 ρ0 nc ns n lS lR (pc + 3) lv (.int v :: rest)) : Gk p l e R s m args below meth c Q dC dI ad cy nL z σ0 ρ0 nc ns n lS lR pc lv rest := fun ls H locs hl hP hz hS => lv_sipush C.1 C.2.1 hdg hv (k ls H locs hl hP hz hS)
theorem k_aload_n (C : Ck p s m args meth c own cc nL dC dI ad cy z) {q : Fin 4} {i : Nat} {x : Nat} (hdg : decode cc pc = .ok (.aload_n q, 1)) (hi : (q : Nat) = i) (j : Nat) (hj : lv[j]? = some (i, .ref x)) (k : Gk p l e R s m args below meth c Q dC dI ad cy nL z σ0 ρ0 nc ns n lS lR (pc + 1) lv (.ref x :: rest)) : Gk p l e R s m args below meth c Q dC dI ad cy nL z σ0 ρ0 nc ns n lS lR pc lv rest := fun ls H locs hl hP hz hS => lv_aload_n C.1 C.2.1 hdg hi (lv_at hl j hj) (k ls H locs hl hP hz hS)
theorem k_iload_n (C : Ck p s m args meth c own cc nL dC dI ad cy z) {q : Fin 4} {i : Nat} {x : Int32} (hdg : decode cc pc = .ok (.iload_n q, 1)) (hi : (q : Nat) = i) (j : Nat) (hj : lv[j]? = some (i, .int x)) (k : Gk p l e R s m args below meth c Q dC dI ad cy nL z σ0 ρ0 nc ns n lS lR (pc + 1) lv (.int x :: rest)) : Gk p l e R s m args below meth c Q dC dI ad cy nL z σ0 ρ0 nc ns n lS lR pc lv rest := fun ls H locs hl hP hz hS => lv_iload_n C.1 C.2.1 hdg hi (lv_at hl j hj) (k ls H locs hl hP hz hS)
theorem k_dup (C : Ck p s m args meth c own cc nL dC dI ad cy z) {va : Value} (hdg : decode cc pc = .ok (.dup, 1)) (hva : va.category = 1) (k : Gk p l e R s m args below meth c Q dC dI ad cy nL z σ0 ρ0 nc ns n lS lR (pc + 1) lv (va :: va :: rest)) : Gk p l e R s m args below meth c Q dC dI ad cy nL z σ0 ρ0 nc ns n lS lR pc lv (va :: rest) := fun ls H locs hl hP hz hS => lv_dup C.1 C.2.1 hdg hva (k ls H locs hl hP hz hS)
theorem k_istore_n (C : Ck p s m args meth c own cc nL dC dI ad cy z) {q : Fin 4} {i : Nat} {x : Int32} {lv2 : List (Nat × Value)} (hdg : decode cc pc = .ok (.istore_n q, 1)) (hi : (q : Nat) = i) (hn : i < nL) (ps : List Nat) (hp : lv_pick ((i, Value.int x) :: lv.filter (fun q => !(q.1 == i) && !(q.1 + 1 == i && q.2.category == 2))) ps = lv2) (k : Gk p l e R s m args below meth c Q dC dI ad cy nL z σ0 ρ0 nc ns n lS lR (pc + 1) lv2 rest) : Gk p l e R s m args below meth c Q dC dI ad cy nL z σ0 ρ0 nc ns n lS lR pc lv (.int x :: rest) := fun ls H locs hl hP hz hS => lv_istore_n C.1 C.2.1 hdg hi hl hn rfl (fun ls hl => k ls H locs (lv_sub hl ps hp) hP hz hS)
theorem k_astore_n (C : Ck p s m args meth c own cc nL dC dI ad cy z) {q : Fin 4} {i : Nat} {x : Nat} {lv2 : List (Nat × Value)} (hdg : decode cc pc = .ok (.astore_n q, 1)) (hi : (q : Nat) = i) (hn : i < nL) (ps : List Nat) (hp : lv_pick ((i, Value.ref x) :: lv.filter (fun q => !(q.1 == i) && !(q.1 + 1 == i && q.2.category == 2))) ps = lv2) (k : Gk p l e R s m args below meth c Q dC dI ad cy nL z σ0 ρ0 nc ns n lS lR (pc + 1) lv2 rest) : Gk p l e R s m args below meth c Q dC dI ad cy nL z σ0 ρ0 nc ns n lS lR pc lv (.ref x :: rest) := fun ls H locs hl hP hz hS => lv_astore_n C.1 C.2.1 hdg hi hl hn rfl (fun ls hl => k ls H locs (lv_sub hl ps hp) hP hz hS)
theorem k_iinc (C : Ck p s m args meth c own cc nL dC dI ad cy z) {i j : Nat} {d : Int} {x v : Int32} {lv2 : List (Nat × Value)} (hdg : decode cc pc = .ok (.iinc i d, 3)) (hj : lv[j]? = some (i, .int x)) (hv : x + Int32.ofInt d = v) (hn : i < nL) (ps : List Nat) (hp : lv_pick ((i, Value.int v) :: lv.filter (fun q => !(q.1 == i) && !(q.1 + 1 == i && q.2.category == 2))) ps = lv2) (k : Gk p l e R s m args below meth c Q dC dI ad cy nL z σ0 ρ0 nc ns n lS lR (pc + 3) lv2 rest) : Gk p l e R s m args below meth c Q dC dI ad cy nL z σ0 ρ0 nc ns n lS lR pc lv rest := fun ls H locs hl hP hz hS => lv_iinc C.1 C.2.1 hdg hl hj hv hn rfl (fun ls hl => k ls H locs (lv_sub hl ps hp) hP hz hS)
theorem k_goto (C : Ck p s m args meth c own cc nL dC dI ad cy z) {off : Int} {tgt : Nat} (hdg : decode cc pc = .ok (.goto off, 3)) (ht : (pc : Int) + off = (tgt : Int)) (k : Gk p l e R s m args below meth c Q dC dI ad cy nL z σ0 ρ0 nc ns n lS lR tgt lv rest) : Gk p l e R s m args below meth c Q dC dI ad cy nL z σ0 ρ0 nc ns n lS lR pc lv rest := fun ls H locs hl hP hz hS => lv_goto C.1 C.2.1 hdg ht (k ls H locs hl hP hz hS)
theorem k_icmp_ge_t (C : Ck p s m args meth c own cc nL dC dI ad cy z) {x y : Int32} {off : Int} {tgt : Nat} (hdg : decode cc pc = .ok (.if_icmp .ge off, 3)) (ht : (pc : Int) + off = (tgt : Int)) (h : y ≤ x) (k : Gk p l e R s m args below meth c Q dC dI ad cy nL z σ0 ρ0 nc ns n lS lR tgt lv rest) : Gk p l e R s m args below meth c Q dC dI ad cy nL z σ0 ρ0 nc ns n lS lR pc lv (.int y :: .int x :: rest) := fun ls H locs hl hP hz hS => lv_icmp_ge C.1 C.2.1 hdg ht (fun _ => (k ls H locs hl hP hz hS)) (fun h2 => absurd h h2)
theorem k_icmp_ge_f (C : Ck p s m args meth c own cc nL dC dI ad cy z) {x y : Int32} {off : Int} {tgt : Nat} (hdg : decode cc pc = .ok (.if_icmp .ge off, 3)) (ht : (pc : Int) + off = (tgt : Int)) (h : ¬ y ≤ x) (k : Gk p l e R s m args below meth c Q dC dI ad cy nL z σ0 ρ0 nc ns n lS lR (pc + 3) lv rest) : Gk p l e R s m args below meth c Q dC dI ad cy nL z σ0 ρ0 nc ns n lS lR pc lv (.int y :: .int x :: rest) := fun ls H locs hl hP hz hS => lv_icmp_ge C.1 C.2.1 hdg ht (fun h2 => absurd h2 h) (fun _ => (k ls H locs hl hP hz hS))
theorem k_obj (C : Ck p s m args meth c own cc nL dC dI ad cy z) {idx a : Nat} (hlk : Cond.methodLink own idx objectInit ∈ lw_w) (hR : 1 ≤ R.frames ∧ (rest.map fun v => v.category).sum + 12 ≤ R.locals) (hdg : decode cc pc = .ok (.invokespecial idx, 3)) (k : Gk p l e R s m args below meth c Q dC dI ad cy nL z σ0 ρ0 nc ns n lS lR (pc + 3) lv rest) : Gk p l e R s m args below meth c Q dC dI ad cy nL z σ0 ρ0 nc ns n lS lR pc lv (.ref a :: rest) := fun ls H locs hl hP hz hS => W.objInit C.1 C.2.1 C.2.2.2.1 (C.2.2.2.2.1 _ hlk) (C.2.2.2.2.1 _ hI_obj) (C.2.2.2.2.1 _ hC_obj) rfl (hl.1.trans C.2.2.1.symm) rfl hdg hR.1 (by show 2 * 0 + _ + 12 ≤ _; omega) (k ls H locs hl hP hz hS)
theorem k_get (C : Ck p s m args meth c own cc nL dC dI ad cy z) {ref Cn : String} {T : u_T} {N ci index kc : Nat} {fs : List Value} {v : Value} (hk : kc < n) (he : wg cy kc (sus σ0 lS kc) (rus ad ρ0 lR kc) = .inr (ci, fs)) (hc : vwCl[ci]? = some (Cn, T, N)) (hin : ∀ w ∈ u_ws Cn T N, w ∈ lw_w) (j : Nat) (hj : j < N) (hlink : Cond.fieldLink own index ref (T j).2.1 (T j).2.2.1 ∈ lw_w) (hsame : (T j).1 = ref) (hv : fs[j]? = some v) (hdg : decode cc pc = .ok (.getfield index, 3)) (k : Gk p l e R s m args below meth c Q dC dI ad cy nL z σ0 ρ0 nc ns n lS lR (pc + 3) lv (v :: rest)) : Gk p l e R s m args below meth c Q dC dI ad cy nL z σ0 ρ0 nc ns n lS lR pc lv (.ref (ad kc) :: rest) := fun ls H locs hl hP hz hS => va_get C.1 C.2.1 C.2.2.2.2.1 hin C.2.2.2.1 C.2.2.2.2.2.1 hP kc ((wG_at _ _ _ _ _ kc hk).trans (by rw [he])) hc j hj (C.2.2.2.2.1 _ hlink) (fun _ h9 => hsame ▸ h9) hv hdg (k ls H locs hl hP hz hS)
theorem k_putF (C : Ck p s m args meth c own cc nL dC dI ad cy z) {t : Nat} {lR2 : List (Nat × Nat × Nat)} {ref Cn : String} {T : u_T} {N ci index kc : Nat} {fs : List Value} {ty : FieldType} (hnm : meth.name = "<init>") (hk : kc < n) (hn : n ≤ 111) (he : wg cy kc (sus σ0 lS kc) (rus ad ρ0 lR kc) = .inr (ci, fs)) (hc : vwCl[ci]? = some (Cn, T, N)) (hin : ∀ w ∈ u_ws Cn T N, w ∈ lw_w) (ty0 : Nat → FieldType) (hty : ∀ k, k < N → parseFieldDescriptor (T k).2.2.1 = some (ty0 k)) (hnn : ∀ a, a < N → ∀ b, b < N → a ≠ b → (T a).2.1 ≠ (T b).2.1) (j : Nat) (hj : j < N) (hlink : Cond.fieldLink own index ref (T j).2.1 (T j).2.2.1 ∈ lw_w) (hsame : (T j).1 = ref) (hfin : (T j).2.2.2 = true) (hdecl : (T j).1 = own) (hd : parseFieldDescriptor (T j).2.2.1 = some ty) (hn9 : narrow ty (.ref (ad t)) = .ref (ad t)) (hfit : fits ty (.ref (ad t)) = true) (hl9 : j < fs.length) (hw : (.inr (ci, fs.set j (.ref (ad t))) : va_E) = wg cy kc (sus σ0 lS kc) (va_up (rus ad ρ0 lR kc) j (some (ad t)))) (hlR : lR ++ [(kc, j, t)] = lR2) (hdg : decode cc pc = .ok (.putfield index, 3)) (k : Gk p l e R s m args below meth c Q dC dI ad cy nL z σ0 ρ0 nc ns n lS lR2 (pc + 3) lv rest) : Gk p l e R s m args below meth c Q dC dI ad cy nL z σ0 ρ0 nc ns n lS lR pc lv (.ref (ad t) :: .ref (ad kc) :: rest) := by
  intro ls H locs hl hP hz hS
  have hD := wGD C.2.2.2.2.2.2.1 hn cy (sus σ0 lS) (rus ad ρ0 lR)
  have he1 : (wG n ad cy (sus σ0 lS) (rus ad ρ0 lR))[kc]? = some (ad kc, .inr (ci, fs)) := (wG_at _ _ _ _ _ kc hk).trans (by rw [he])
  have hts := C.2.2.2.2.1
  have hap := va_apart (own := own) hts hin ty0 hty hnn C.2.2.2.2.2.1 hc
  obtain ⟨r, h1, cell, q1, q2, q3, q4⟩ := hP kc _ he1
  have hr : r = (Cn, T, N) := Option.some.inj (h1.symm.trans hc)
  subst hr
  obtain ⟨hSl, hfc, kC, hkC, hkind⟩ := C.2.2.2.2.2.1.1 ci _ hc
  obtain ⟨cf, kf, fi, f, hi, hsl⟩ := hSl j hj
  have hlay := hts _ (hin _ (u_in_lay hj))
  unfold u_lay at hlay
  rw [if_pos hfin] at hlay
  have hst := (u_facts hfc hkC (u_lays hts hin hj) hi).1
  have hcf : m.cls = cf := by
    obtain ⟨_, _, c2, _, _, _, -, -, hf2, -, -, -, hown2, -⟩ := Cond.laysFinal_spec hlay
    have e1 : c2 = cf := by have := hi.symm.trans hf2; simp at this; exact this.1.symm
    rw [hdecl] at hown2
    rw [← e1]; exact Option.some.inj (C.2.2.2.1.symm.trans hown2)
  have h6 := u_fits hfc hkC hkind (Or.inr hlay) hi hd hn9 hfit
  refine W.putFinK C.1 C.2.1 C.2.2.2.1 (hts _ hlink) (hsame ▸ hi) hst hcf hnm (by rw [q2]; exact h6) q1 q3 (by rw [hsl]; exact k2_hasslot (q4 j hj)) rfl rfl hdg fun H1 e1 e2 e3 => ?_
  rw [hsl] at e1 ⊢
  have hP1 := hP.set (e := .inr (ci, fs.set j (.ref (ad t)))) (H1 := H1) hD he1 ⟨_, hc, t_OB.to (V := updV (vp_V fs) j (.ref (ad t))) ⟨_, e1, q2, q3, t_set q4 hap hj (.ref (ad t))⟩ (fun x _ => vp_updV_set hl9 (.ref (ad t)) x)⟩ e3
  refine k ls H1 _ hl ?_ (e2.trans hz) (hS.put e2 e3 (hD.2 kc _ he1))
  rw [hw, wG_set, up_self] at hP1
  rw [← hlR, rus_app]
  exact hP1
theorem k_puti (C : Ck p s m args meth c own cc nL dC dI ad cy z) {v : Int32} {lS2 : List (Nat × Nat × Int32)} {ref Cn : String} {T : u_T} {N ci index kc : Nat} {fs : List Value} {ty : FieldType} (hk : kc < n) (hn : n ≤ 111) (he : wg cy kc (sus σ0 lS kc) (rus ad ρ0 lR kc) = .inr (ci, fs)) (hc : vwCl[ci]? = some (Cn, T, N)) (hin : ∀ w ∈ u_ws Cn T N, w ∈ lw_w) (ty0 : Nat → FieldType) (hty : ∀ k, k < N → parseFieldDescriptor (T k).2.2.1 = some (ty0 k)) (hnn : ∀ a, a < N → ∀ b, b < N → a ≠ b → (T a).2.1 ≠ (T b).2.1) (j : Nat) (hj : j < N) (hlink : Cond.fieldLink own index ref (T j).2.1 (T j).2.2.1 ∈ lw_w) (hsame : (T j).1 = ref) (hfin : (T j).2.2.2 = false) (hd : parseFieldDescriptor (T j).2.2.1 = some ty) (hn9 : narrow ty (.int v) = .int v) (hfit : fits ty (.int v) = true) (hl9 : j < fs.length) (hw : (.inr (ci, fs.set j (.int v)) : va_E) = wg cy kc (upd (sus σ0 lS kc) j v) (rus ad ρ0 lR kc)) (hlS : lS ++ [(kc, j, v)] = lS2) (hdg : decode cc pc = .ok (.putfield index, 3)) (k : Gk p l e R s m args below meth c Q dC dI ad cy nL z σ0 ρ0 nc ns n lS2 lR (pc + 3) lv rest) : Gk p l e R s m args below meth c Q dC dI ad cy nL z σ0 ρ0 nc ns n lS lR pc lv (.int v :: .ref (ad kc) :: rest) := by
  intro ls H locs hl hP hz hS
  have hD := wGD C.2.2.2.2.2.2.1 hn cy (sus σ0 lS) (rus ad ρ0 lR)
  have he1 : (wG n ad cy (sus σ0 lS) (rus ad ρ0 lR))[kc]? = some (ad kc, .inr (ci, fs)) := (wG_at _ _ _ _ _ kc hk).trans (by rw [he])
  have hts := C.2.2.2.2.1
  have hap := va_apart (own := own) hts hin ty0 hty hnn C.2.2.2.2.2.1 hc
  obtain ⟨r, h1, cell, q1, q2, q3, q4⟩ := hP kc _ he1
  have hr : r = (Cn, T, N) := Option.some.inj (h1.symm.trans hc)
  subst hr
  obtain ⟨hSl, hfc, kC, hkC, hkind⟩ := C.2.2.2.2.2.1.1 ci _ hc
  obtain ⟨cf, kf, fi, f, hi, hsl⟩ := hSl j hj
  have hlay := hts _ (hin _ (u_in_lay hj))
  unfold u_lay at hlay
  rw [if_neg (by rw [hfin]; decide)] at hlay
  have hst := (u_facts hfc hkC (u_lays hts hin hj) hi).1
  have h6 := u_store hfc hkC hkind hlay hi hd hn9 hfit
  refine W.putK C.1 C.2.1 (f := f) ⟨C.2.2.2.1, hts _ hlink, ⟨_, _, _, hsame ▸ hi⟩, hst⟩ (by rw [q2]; exact h6) q1 q3 (by rw [hsl]; exact k2_hasslot (q4 j hj)) rfl rfl hdg fun H1 e1 e2 e3 => ?_
  rw [hsl] at e1 ⊢
  have hP1 := hP.set (e := .inr (ci, fs.set j (.int v))) (H1 := H1) hD he1 ⟨_, hc, t_OB.to (V := updV (vp_V fs) j (.int v)) ⟨_, e1, q2, q3, t_set q4 hap hj (.int v)⟩ (fun x _ => vp_updV_set hl9 (.int v) x)⟩ e3
  refine k ls H1 _ hl ?_ (e2.trans hz) (hS.put e2 e3 (hD.2 kc _ he1))
  rw [hw, wG_set, up_self] at hP1
  rw [← hlS, sus_app]
  exact hP1
theorem k_iast (C : Ck p s m args meth c own cc nL dC dI ad cy z) {kc N : Nat} {i x : Int32} {lS2 : List (Nat × Nat × Int32)} (hk : kc < n) (hn : n ≤ 111) (he : wg cy kc (sus σ0 lS kc) (rus ad ρ0 lR kc) = .inl (cy 0, N, .inl (sus σ0 lS kc))) (hin : ¬ (i < 0 ∨ N ≤ i.toNatClampNeg)) (hw : (.inl (cy 0, N, .inl (upd (sus σ0 lS kc) i.toNatClampNeg x)) : va_E) = wg cy kc (upd (sus σ0 lS kc) i.toNatClampNeg x) (rus ad ρ0 lR kc)) (hlS : lS ++ [(kc, i.toNatClampNeg, x)] = lS2) (hdg : decode cc pc = .ok (.iastore, 1)) (k : Gk p l e R s m args below meth c Q dC dI ad cy nL z σ0 ρ0 nc ns n lS2 lR (pc + 1) lv rest) : Gk p l e R s m args below meth c Q dC dI ad cy nL z σ0 ρ0 nc ns n lS lR pc lv (.int x :: .int i :: .ref (ad kc) :: rest) := by
  intro ls H locs hl hP hz hS
  have hD := wGD C.2.2.2.2.2.2.1 hn cy (sus σ0 lS) (rus ad ρ0 lR)
  have he1 : (wG n ad cy (sus σ0 lS) (rus ad ρ0 lR))[kc]? = some (ad kc, .inl (cy 0, N, .inl (sus σ0 lS kc))) := (wG_at _ _ _ _ _ kc hk).trans (by rw [he])
  refine W.iast C.1 C.2.1 (hP kc _ he1) ((C.2.2.2.2.2.1.2 0 _ rfl).1 N (fun j => .int (sus σ0 lS kc j))) (fun q => by cases q) (by show ¬ (i < 0 ∨ (arrV _ _ _).slots.size ≤ _); rw [arrV_size]; exact hin) rfl rfl hdg fun H1 e1 e2 e3 => ?_
  have hP1 := hP.set (e := .inl (cy 0, N, .inl (upd (sus σ0 lS kc) i.toNatClampNeg x))) hD he1 (by
    show H1[ad kc]? = some (vp_cell _ _)
    rw [e1, vp_cell_i, vp_cell_i, arrV_store]
    congr 2
    funext q
    by_cases hq : q = i.toNatClampNeg
    · subst hq
      simp [updV, upd]
    · simp [updV, upd, hq]) e3
  refine k ls H1 _ hl ?_ (e2.trans hz) (hS.put e2 e3 (hD.2 kc _ he1))
  rw [hw, wG_set, up_self] at hP1
  rw [← hlS, sus_app]
  exact hP1
theorem k_aast (C : Ck p s m args meth c own cc nL dC dI ad cy z) {kc N cq ci t : Nat} {i : Int32} {r0 : vw_C} {vs : List Value} {lR2 : List (Nat × Nat × Nat)} (hk : kc < n) (hkt : t < n) (hn : n ≤ 111) (he : wg cy kc (sus σ0 lS kc) (rus ad ρ0 lR kc) = .inl (cy cq, N, .inr (.inr (.inr (.inr (rus ad ρ0 lR kc)))))) (ht : (wY cy)[cq]? = some (cy cq, .object r0.1)) (hv : wg cy t (sus σ0 lS t) (rus ad ρ0 lR t) = .inr (ci, vs)) (hc : vwCl[ci]? = some r0) (hin : ¬ (i < 0 ∨ N ≤ i.toNatClampNeg)) (hw : (.inl (cy cq, N, .inr (.inr (.inr (.inr (va_up (rus ad ρ0 lR kc) i.toNatClampNeg (some (ad t))))))) : va_E) = wg cy kc (sus σ0 lS kc) (va_up (rus ad ρ0 lR kc) i.toNatClampNeg (some (ad t)))) (hlR : lR ++ [(kc, i.toNatClampNeg, t)] = lR2) (hdg : decode cc pc = .ok (.aastore, 1)) (k : Gk p l e R s m args below meth c Q dC dI ad cy nL z σ0 ρ0 nc ns n lS lR2 (pc + 1) lv rest) : Gk p l e R s m args below meth c Q dC dI ad cy nL z σ0 ρ0 nc ns n lS lR pc lv (.ref (ad t) :: .int i :: .ref (ad kc) :: rest) := by
  intro ls H locs hl hP hz hS
  have hD := wGD C.2.2.2.2.2.2.1 hn cy (sus σ0 lS) (rus ad ρ0 lR)
  have he1 : (wG n ad cy (sus σ0 lS) (rus ad ρ0 lR))[kc]? = some (ad kc, .inl (cy cq, N, .inr (.inr (.inr (.inr (rus ad ρ0 lR kc)))))) := (wG_at _ _ _ _ _ kc hk).trans (by rw [he])
  have hv1 : (wG n ad cy (sus σ0 lS) (rus ad ρ0 lR))[t]? = some (ad t, .inr (ci, vs)) := (wG_at _ _ _ _ _ t hkt).trans (by rw [hv])
  have hlt : i.toNatClampNeg < N := Nat.not_le.mp fun q => hin (Or.inr q)
  have h0 : ¬ i < 0 := fun q => hin (Or.inl q)
  obtain ⟨r1, hr1, cellV, g1, g2, g3, -⟩ := hP t _ hv1
  have hcls := (C.2.2.2.2.2.1.1 ci r0 hc).2
  obtain ⟨kA, comp, k1, k2, k3, -⟩ := (C.2.2.2.2.2.1.2 cq _ ht).2
  have hcomp : comp = dC ci := Option.some.inj (k3.symm.trans hcls.1)
  subst hcomp
  obtain ⟨kC, hkC, -⟩ := hcls.2
  refine W.aast C.1 C.2.1 (hP kc _ he1) (fun q h => by cases h) (fun h => by cases h) k1 k2 rfl hkC ⟨h0, by show _ < (arrV _ _ _).slots.size; rw [arrV_size]; exact hlt⟩ g1 (fun q h => by rw [g3] at h; cases h) (by rw [g2]; exact hkC) (by rw [g2]; exact va_assign hcls) rfl rfl hdg fun H1 e1 e2 e3 => ?_
  have hP1 := hP.set (e := .inl (cy cq, N, .inr (.inr (.inr (.inr (va_up (rus ad ρ0 lR kc) i.toNatClampNeg (some (ad t)))))))) hD he1 (by
    show H1[ad kc]? = some (vp_cell _ _)
    rw [e1, vp_cell_q, vp_cell_q, arrV_store]
    congr 2
    funext q
    by_cases hq : q = i.toNatClampNeg
    · subst hq
      simp [updV, va_up, va_rf]
    · simp [updV, va_up, hq]) e3
  refine k ls H1 _ hl ?_ (e2.trans hz) (hS.put e2 e3 (hD.2 kc _ he1))
  rw [hw, wG_set, up_self] at hP1
  rw [← hlR, rus_app]
  exact hP1
theorem wG_grow {dC : Nat → ClassId} {dI : Nat → Nat → Nat} {H H1 : Heap} {n : Nat} {σ : S0} {ρ : R0} {ad : Nat → Nat} {cy : Nat → ClassId} (hP : va_P (dC, dI) vwCl (wG n ad cy σ ρ) H) (o1 : ∀ q, q < H.size → H1[q]? = H[q]?) (h : va_at (dC, dI) vwCl (ad n, wg cy n (σ n) (ρ n)) H1) : va_P (dC, dI) vwCl (wG (n + 1) ad cy σ ρ) H1 := by
  rw [← wG_push]
  have hk : ∀ (k : Nat) (x : Nat × va_E), (wG n ad cy σ ρ)[k]? = some x → H1[x.1]? = H[x.1]? := fun k x hx => o1 x.1 ((hP k x hx).lt)
  refine (hP.kept hk).app (fun k x hx => ?_)
  have hz : k < 1 := (List.getElem?_eq_some_iff.mp hx).1
  rw [show k = 0 by omega] at hx
  cases hx
  exact h
theorem k_new (C : Ck p s m args meth c own cc nL dC dI ad cy z) {Cn : String} {T : u_T} {N ci index nc2 ns2 : Nat} {fs : List Value} (hF : Fr n (sus σ0 lS) (rus ad ρ0 lR)) (hn : n < 111) (hin : ∀ w ∈ u_ws Cn T N, w ∈ lw_w) (ty : Nat → FieldType) (hty : ∀ k, k < N → parseFieldDescriptor (T k).2.2.1 = some (ty k)) (hcl : Cond.classLink own index Cn ∈ lw_w) (hinst : Cond.instantiable Cn N ∈ lw_w) (hini : Cond.initialized Cn ∈ lw_w) (hc : vwCl[ci]? = some (Cn, T, N)) (hfs : ∀ j, j < N → defaultValue (ty j) = vp_V fs j) (hcell : wg cy n (fun _ => 0) (fun _ => none) = .inr (ci, fs)) (hcells : nc + 1 ≤ R.cells) (hslots : ns + N ≤ R.slots) (e1 : nc + 1 = nc2) (e2 : ns + N = ns2) (hdg : decode cc pc = .ok (.new index, 3)) (k : Gk p l e R s m args below meth c Q dC dI ad cy nL z σ0 ρ0 nc2 ns2 (n + 1) lS lR (pc + 3) lv (.ref (ad n) :: rest)) : Gk p l e R s m args below meth c Q dC dI ad cy nL z σ0 ρ0 nc ns n lS lR pc lv rest := by
  intro ls H locs hl hP hz hS
  subst e1; subst e2
  have hKn := C.2.2.2.2.2.1.1 ci _ hc
  have had : H.size = ad n := by rw [C.2.2.2.2.2.2.1 n hn]; exact hz
  refine W.newcK C.1 C.2.1 C.2.2.2.1 (C.2.2.2.2.1 _ hcl) (C.2.2.2.2.1 _ hinst) (C.2.2.2.2.1 _ hini) rfl hdg hcells hslots hKn.2.1 had fun H1 kC hkC g1 z1 o1 => ?_
  refine k ls H1 locs hl (wG_grow hP (fun q hq => o1 q (by omega)) ?_) (by rw [z1, C.2.2.2.2.2.2.1 n hn]; omega) ⟨by have := hS.1; omega, fun x h1 h2 => (o1 x (by have := hS.1; omega)).trans (hS.2.1 x h1 h2), hS.2.2⟩
  rw [(hF n (Nat.le_refl n)).1, (hF n (Nat.le_refl n)).2, hcell]
  exact ⟨_, hc, (u_born ty C.2.2.2.2.1 hin hKn hkC g1 hty).to hfs⟩
theorem arr_name {s : State} {cy : Nat → ClassId} {dC : Nat → ClassId} {dI : Nat → Nat → Nat} (hK : va_K (dC, dI) vwCl (wY cy) s) : s.vm.findClass ("[" ++ (FieldType.int).toString) = some (cy 0) ∧ s.vm.findClass ("[" ++ (FieldType.byte).toString) = some (cy 1) ∧ s.vm.findClass ("[" ++ (FieldType.boolean).toString) = some (cy 2) ∧ s.vm.findClass ("[" ++ (FieldType.array .int).toString) = some (cy 3) ∧ s.vm.findClass ("[" ++ (FieldType.object RX1).toString) = some (cy 4) ∧ s.vm.findClass ("[" ++ (FieldType.object RX7).toString) = some (cy 5) := by
  refine ⟨(hK.2 0 _ rfl).2, (hK.2 1 _ rfl).2, (hK.2 2 _ rfl).2, (hK.2 3 _ rfl).2, ?_, ?_⟩
  · obtain ⟨kA, comp, -, -, -, h⟩ := (hK.2 4 _ rfl).2
    exact h
  · obtain ⟨kA, comp, -, -, -, h⟩ := (hK.2 5 _ rfl).2
    exact h
theorem k_newa (C : Ck p s m args meth c own cc nL dC dI ad cy z) {atype : ArrayType} {ty : FieldType} {i : Int32} {N cq nc2 ns2 : Nat} (hF : Fr n (sus σ0 lS) (rus ad ρ0 lR)) (hn : n < 111) (hty : newarray.typeOf atype = ty) (harr : Cond.arrayClass ty ∈ lw_w) (hname : s.vm.findClass ("[" ++ ty.toString) = some (cy cq)) (hcell : wg cy n (fun _ => 0) (fun _ => none) = .inl (cy cq, N, .inl (fun _ => 0))) (hdef : defaultValue ty = .int 0) (hi : ¬ i < 0) (hN : i.toNatClampNeg = N) (hbytes : N * componentBytes ty ≤ 536870912) (hcells : nc + 1 ≤ R.cells) (hslots : ns + N ≤ R.slots) (e1 : nc + 1 = nc2) (e2 : ns + N = ns2) (hdg : decode cc pc = .ok (.newarray atype, 2)) (k : Gk p l e R s m args below meth c Q dC dI ad cy nL z σ0 ρ0 nc2 ns2 (n + 1) lS lR (pc + 2) lv (.ref (ad n) :: rest)) : Gk p l e R s m args below meth c Q dC dI ad cy nL z σ0 ρ0 nc ns n lS lR pc lv (.int i :: rest) := by
  intro ls H locs hl hP hz hS
  subst e1; subst e2; subst hty
  have had : H.size = ad n := by rw [C.2.2.2.2.2.2.1 n hn]; exact hz
  refine va_newaK C.1 C.2.1 (C.2.2.2.2.1 _ harr) rfl hdg rfl hi hN hbytes hcells hslots had fun H1 cA g1 z1 o1 hAr hNm => ?_
  have hcA : cA = cy cq := Option.some.inj (hNm.symm.trans hname)
  subst hcA
  refine k ls H1 locs hl (wG_grow hP (fun q hq => o1 q (by omega)) ?_) (by rw [z1, C.2.2.2.2.2.2.1 n hn]; omega) ⟨by have := hS.1; omega, fun x h1 h2 => (o1 x (by have := hS.1; omega)).trans (hS.2.1 x h1 h2), hS.2.2⟩
  rw [(hF n (Nat.le_refl n)).1, (hF n (Nat.le_refl n)).2, hcell]
  show H1[ad n]? = some (vp_cell _ _)
  rw [g1, vp_cell_i, hdef]
theorem k_anew (C : Ck p s m args meth c own cc nL dC dI ad cy z) {Cn : String} {i : Int32} {N cq index nc2 ns2 : Nat} (hF : Fr n (sus σ0 lS) (rus ad ρ0 lR)) (hn : n < 111) (hclink : Cond.classLink own index Cn ∈ lw_w) (hover : va_AO Cn s) (hname : s.vm.findClass ("[" ++ (FieldType.object Cn).toString) = some (cy cq)) (hcell : wg cy n (fun _ => 0) (fun _ => none) = .inl (cy cq, N, .inr (.inr (.inr (.inr (fun _ => none)))))) (hi : ¬ i < 0) (hN : i.toNatClampNeg = N) (hbytes : N * 4 ≤ 536870912) (hcells : nc + 1 ≤ R.cells) (hslots : ns + N ≤ R.slots) (e1 : nc + 1 = nc2) (e2 : ns + N = ns2) (hdg : decode cc pc = .ok (.anewarray index, 3)) (k : Gk p l e R s m args below meth c Q dC dI ad cy nL z σ0 ρ0 nc2 ns2 (n + 1) lS lR (pc + 3) lv (.ref (ad n) :: rest)) : Gk p l e R s m args below meth c Q dC dI ad cy nL z σ0 ρ0 nc ns n lS lR pc lv (.int i :: rest) := by
  intro ls H locs hl hP hz hS
  subst e1; subst e2; subst hN
  have had : ad n = H.size := by rw [C.2.2.2.2.2.2.1 n hn]; exact hz.symm
  refine W.anew C.1 C.2.1 C.2.2.2.1 (C.2.2.2.2.1 _ hclink) (va_AO.use hover) rfl hdg rfl hi hbytes hcells hslots fun cA kA comp f1 f2 f3 f4 => ?_
  have hcA : cA = cy cq := Option.some.inj (f1.symm.trans hname)
  subst hcA
  rw [← had]
  generalize hH1 : H.push ({ cls := cy cq, slots := Array.replicate i.toNatClampNeg .null, vm := .none } : Cell) = H1
  have z1 : H1.size = H.size + 1 := by rw [← hH1, Array.size_push]
  have g1 : H1[H.size]? = some (arrV (cy cq) i.toNatClampNeg (fun _ => .null)) := by rw [← hH1, Array.getElem?_push_size, ← arrV_new]
  have o1 : ∀ q : Nat, q < H.size → H1[q]? = H[q]? := fun q hq => by rw [← hH1, Array.getElem?_push, if_neg (Nat.ne_of_lt hq)]
  refine k ls H1 locs hl (wG_grow hP o1 ?_) (by omega) ⟨by have := hS.1; omega, fun x h1 h2 => (o1 x (by have := hS.1; omega)).trans (hS.2.1 x h1 h2), hS.2.2⟩
  rw [(hF n (Nat.le_refl n)).1, (hF n (Nat.le_refl n)).2, hcell]
  show H1[ad n]? = some (vp_cell _ _)
  rw [had, g1, vp_cell_q]
  rfl
theorem kr_outer (c : ClassId) (N h0 : Nat) : Jvm.Free.Multi.outerC c N h0 N = arrV c N (fun j => va_rf (if j < N then some (h0 + 1 + j) else none)) := by
  have key : ∀ i : Nat, Jvm.Free.Multi.outerC c N h0 i = arrV c N (fun j => va_rf (if j < i then some (h0 + 1 + j) else none)) := by
    intro i
    induction i with
    | zero =>
      show ({ cls := c, slots := Array.replicate N .null, vm := .none } : Cell) = _
      rw [arrV_new]
      refine congrArg (arrV c N) (funext fun j => ?_)
      simp [va_rf]
    | succ i ih =>
      show (Jvm.Free.Multi.outerC c N h0 i).setSlot i (.ref (h0 + 1 + i)) = _
      rw [ih, arrV_store]
      refine congrArg (arrV c N) (funext fun j => ?_)
      by_cases e : j = i
      · subst e
        simp [updV, va_rf]
      · by_cases h : j < i
        · simp [updV, e, h, Nat.lt_succ_of_lt h]
        · simp [updV, e, h, show ¬ j < i + 1 by omega]
  exact key N
def rowl (n N : Nat) : List (Nat × Nat × Nat) := (List.range N).map (fun i => (n, i, n + 1 + i))
theorem rowl_refs (ad : Nat → Nat) (ρ : R0) (n : Nat) : ∀ N, rus ad ρ (rowl n N) = va_up ρ n (fun i => if i < N then some (ad (n + 1 + i)) else ρ n i)
  | 0 => by
    show ρ = _
    rw [show (fun i => if i < 0 then some (ad (n + 1 + i)) else ρ n i) = ρ n from funext fun i => if_neg (Nat.not_lt_zero i), up_self]
  | N + 1 => by
    have e : rowl n (N + 1) = rowl n N ++ [(n, N, n + 1 + N)] := by unfold rowl; rw [List.range_succ, List.map_append]; rfl
    rw [e, rus_app, rowl_refs ad ρ n N]
    show ru _ n N _ = _
    unfold ru
    funext k
    by_cases hk : k = n
    · subst hk
      funext i
      simp only [va_up, if_true]
      by_cases hi : i = N
      · subst hi; simp
      · by_cases h2 : i < N
        · simp [hi, h2, Nat.lt_succ_of_lt h2]
        · simp [hi, h2, show ¬ i < N + 1 by omega]
    · simp [va_up, hk]
theorem k_mna (C : Ck p s m args meth c own cc nL dC dI ad cy z) {a b : Int32} {N M index nc2 ns2 n2 : Nat} {nm : String} {lR2 : List (Nat × Nat × Nat)} (hF : Fr n (sus σ0 lS) (rus ad ρ0 lR)) (hn : n + N < 111) (hnm : "[" ++ (FieldType.array .int).toString = nm) (hclink : Cond.classLink own index nm ∈ lw_w) (hout0 : ∀ r, wg cy n (fun _ => 0) r = .inl (cy 3, N, .inr (.inr (.inr (.inr r))))) (hinn : ∀ i, i < N → wg cy (n + 1 + i) (fun _ => 0) (fun _ => none) = .inl (cy 0, M, .inl (fun _ => 0))) (ha : ¬ a < 0) (hb : ¬ b < 0) (hN : a.toNatClampNeg = N) (hM : b.toNatClampNeg = M) (hb1 : N * 4 ≤ 536870912) (hb2 : M * componentBytes .int ≤ 536870912) (hb3 : M ≤ 536870912) (hcells : nc + (1 + N) ≤ R.cells) (hslots : ns + (N + N * M) ≤ R.slots) (e1 : nc + 1 + N = nc2) (e2 : ns + N + N * M = ns2) (e3 : lR ++ rowl n N = lR2) (e4 : n + 1 + N = n2) (hdg : decode cc pc = .ok (.multianewarray index 2, 4)) (k : Gk p l e R s m args below meth c Q dC dI ad cy nL z σ0 ρ0 nc2 ns2 n2 lS lR2 (pc + 4) lv (.ref (ad n) :: rest)) : Gk p l e R s m args below meth c Q dC dI ad cy nL z σ0 ρ0 nc ns n lS lR pc lv (.int b :: .int a :: rest) := by
  subst hN; subst hM; subst e1; subst e2; subst e3; subst e4; subst hnm
  intro ls H locs hl hP hz hS T hT Xs
  have hz0 := C.2.2.2.2.2.2.1
  obtain ⟨vm₁, cA, comp, -, fA, fC, hO, -, X1, step⟩ := Xs.multianewarray2F C.1 C.2.2.2.1 (C.2.2.2.2.1 _ hclink) (va_AOA.use C.2.2.2.2.2.2.2.2.1.oa) (C.2.2.2.2.1 _ hA_int) (g := F0 m pc ls (.int b :: .int a :: rest)) rfl (by rw [C.2.1]; exact hdg) rfl ha hb hb1 hb2 hb3 rfl rfl hcells hslots
  have hnames := arr_name C.2.2.2.2.2.1
  have ec : comp = cy 0 := Option.some.inj (fC.symm.trans hnames.1)
  have eA : cA = cy 3 := Option.some.inj (fA.symm.trans hnames.2.2.2.1)
  subst ec; subst eA
  generalize hFl : Jvm.Free.Multi.fill (T.setVm vm₁) (cy 3) (cy 0) a.toNatClampNeg b.toNatClampNeg (defaultValue .int) a.toNatClampNeg = Fl at X1 step
  have hTh : (T.setVm vm₁).heap = H := hT
  obtain ⟨f1, f2, -, -⟩ := Jvm.Free.Multi.fill_facts (T.setVm vm₁) (cy 3) (cy 0) a.toNatClampNeg b.toNatClampNeg (defaultValue .int) a.toNatClampNeg
  rw [hFl, hTh] at f1 f2
  have hold : ∀ x : Nat, x < H.size → Fl.heap[x]? = H[x]? := fun x hx => by
    have := Jvm.Free.Multi.fill_old (T.setVm vm₁) (cy 3) (cy 0) a.toNatClampNeg b.toNatClampNeg (defaultValue .int) (a := x) (by rw [hTh]; exact hx) a.toNatClampNeg
    rw [hFl, hTh] at this
    exact this
  have hrow : ∀ j : Nat, j < a.toNatClampNeg → Fl.heap[H.size + 1 + j]? = some (vp_cell (cy 0) (b.toNatClampNeg, .inl (fun _ => 0))) := fun j hj => by
    have := Jvm.Free.Multi.fill_inner (T.setVm vm₁) (cy 3) (cy 0) a.toNatClampNeg b.toNatClampNeg (defaultValue .int) a.toNatClampNeg j hj
    rw [hFl, hTh] at this
    rw [this, vp_cell_i, ← arrV_new]
    rfl
  have had : ad n = H.size := by rw [hz0 n (by omega)]; exact hz.symm
  have hou : Jvm.Free.Multi.outerC (cy 3) a.toNatClampNeg H.size a.toNatClampNeg = vp_cell (cy 3) (a.toNatClampNeg, .inr (.inr (.inr (.inr (fun i => if i < a.toNatClampNeg then some (ad (n + 1 + i)) else none))))) := by
    rw [vp_cell_q, kr_outer]
    refine congrArg (arrV (cy 3) a.toNatClampNeg) (funext fun j => ?_)
    by_cases hj : j < a.toNatClampNeg
    · rw [if_pos hj, if_pos hj, hz0 (n + 1 + j) (by omega), show z + (n + 1 + j) = H.size + 1 + j by omega]
    · rw [if_neg hj, if_neg hj]
  have hFn := hF n (Nat.le_refl n)
  have hP1 : va_P (dC, dI) vwCl (wG (n + 1 + a.toNatClampNeg) ad cy (sus σ0 lS) (rus ad ρ0 (lR ++ rowl n a.toNatClampNeg))) Fl.heap := by
    rw [rus_app, rowl_refs]
    intro k9 q9 h9
    obtain ⟨g1, rfl⟩ := wG_inv h9
    rcases Nat.lt_trichotomy k9 n with h | h | h
    · have e9 : va_up (rus ad ρ0 lR) n (fun i => if i < a.toNatClampNeg then some (ad (n + 1 + i)) else rus ad ρ0 lR n i) k9 = rus ad ρ0 lR k9 := by simp [va_up, Nat.ne_of_lt h]
      rw [e9]
      have hat := hP k9 _ (wG_at n ad cy _ _ k9 h)
      exact (hP.kept (H1 := Fl.heap) (fun k8 x hx => hold x.1 ((hP k8 x hx).lt))) k9 _ (wG_at n ad cy _ _ k9 h)
    · subst h
      have e9 : va_up (rus ad ρ0 lR) k9 (fun i => if i < a.toNatClampNeg then some (ad (k9 + 1 + i)) else rus ad ρ0 lR k9 i) k9 = (fun i => if i < a.toNatClampNeg then some (ad (k9 + 1 + i)) else none) := by
        simp [va_up, hFn.2]
      rw [e9, hFn.1, hout0]
      show Fl.heap[ad k9]? = some (vp_cell _ _)
      rw [had, f2, hou]
    · obtain ⟨i, rfl⟩ : ∃ i, k9 = n + 1 + i := ⟨k9 - (n + 1), by omega⟩
      have hi : i < a.toNatClampNeg := by omega
      have e9 : va_up (rus ad ρ0 lR) n (fun i => if i < a.toNatClampNeg then some (ad (n + 1 + i)) else rus ad ρ0 lR n i) (n + 1 + i) = (fun _ => none) := by
        simp only [va_up]
        rw [if_neg (by omega)]
        exact (hF (n + 1 + i) (by omega)).2
      rw [e9, (hF (n + 1 + i) (by omega)).1, hinn i hi]
      show Fl.heap[ad (n + 1 + i)]? = some (vp_cell _ _)
      rw [hz0 (n + 1 + i) (by omega), show z + (n + 1 + i) = H.size + 1 + i by omega]
      exact hrow i hi
  obtain ⟨t, a1, b1⟩ := k ls Fl.heap locs hl hP1 (by rw [f1]; omega) ⟨by rw [f1]; have := hS.1; omega, fun x h1 h2 => (hold x (Nat.lt_of_lt_of_le h1 hS.1)).trans (hS.2.1 x h1 h2), hS.2.2⟩ Fl rfl X1
  refine ⟨t, step t ?_, b1⟩
  have e : T.heap.size = ad n := by rw [hT, had]
  rw [e]
  exact a1
theorem k_callI (C : Ck p s m args meth c own cc nL dC dI ad cy z) {y : MethodName} {bytes : ByteArray} {maxL pn index n1 mc ms b nc2 ns2 : Nat} {rm : Room} {As : List Value} {lSc : List (Nat × Nat × Int32)} {lRc : List (Nat × Nat × Nat)} {lS2 : List (Nat × Nat × Int32)} {lR2 : List (Nat × Nat × Nat)} (hF : Fr n (sus σ0 lS) (rus ad ρ0 lR)) (hx : 40 < n → rus ad ρ0 lR 22 6 = some (ad 32)) (hM : ConK l y bytes maxL rm dC dI ad cy z n n1 (.ref b :: As) lSc lRc mc ms) (hlk : Cond.methodLink own index y ∈ lw_w) (hcd : Cond.code y bytes maxL none ∈ lw_w) (hini : Cond.initialized y.cls ∈ lw_w) (hinm : Cond.instanceMethod y ∈ lw_w) (hd : y.name = "<init>" ∧ y.cls ≠ "java/lang/invoke/MethodHandle" ∧ y.cls ≠ "java/lang/invoke/VarHandle" ∧ (parseMethodDescriptor y.desc).map (fun d => d.parameters.length) = some pn) (hrm : rm.cells = mc ∧ rm.slots = ms) (hR : rm.frames + 1 ≤ R.frames ∧ 8 + (maxL + 11) + rm.locals ≤ R.locals) (hcs : nc + mc ≤ R.cells ∧ ns + ms ≤ R.slots) (e1 : nc + mc = nc2) (e2 : ns + ms = ns2) (e3 : lS ++ lSc = lS2) (e4 : lR ++ lRc = lR2) {st : List Value} (hst : st = As.reverse ++ .ref b :: rest) (hn : As.length = pn) (hW : (rest.map fun v => v.category).sum ≤ 8) (hdg : decode cc pc = .ok (.invokespecial index, 3)) (k : Gk p l e R s m args below meth c Q dC dI ad cy nL z σ0 ρ0 nc2 ns2 n1 lS2 lR2 (pc + 3) lv rest) : Gk p l e R s m args below meth c Q dC dI ad cy nL z σ0 ρ0 nc ns n lS lR pc lv st := by
  intro ls H locs hl hP hz hS
  subst e1; subst e2; subst e3; subst e4
  have hG : GoodIn lw_w (Cond.code y bytes maxL none :: lw_w) := fun w hw => by
    have hm : w ∈ lw_w := (List.mem_cons.mp hw).elim (fun q => by rw [q]; exact hcd) id
    exact ⟨hm, lw_good w hm⟩
  refine va_callv (va_runI (As := As) (rest := rest) ⟨C.1, C.2.1, C.2.2.1, C.2.2.2.1, C.2.2.2.2.1⟩ (hM _ _ hF hx) (cwI pn C.2.2.2.2.1 hG rfl hrm.1 hrm.2 (C.2.2.2.2.1 _ hini) (C.2.2.2.2.1 _ hlk) (C.2.2.2.2.1 _ hinm) hd.1 hd.2 hR) ⟨PreK_blind, fun U hU hW => ⟨rfl, by rw [hU]; exact hz, by rw [hU]; exact hP, va_K.moved hW.alike C.2.2.2.2.2.1, C.2.2.2.2.2.2.2.2.1.go hW⟩⟩ rfl hn hl.1 hst (lv_room hW) hdg hcs) hS (fun q _ h => h) (fun q h => h) (fun u t H1 locs1 ht hvm hw hB hz1 hk1 hS1 => ?_)
  obtain ⟨hP1, hz2⟩ := hB
  rw [ht] at hP1 hz2
  refine k ls H1 locs1 hl ?_ hz2 hS1
  rw [sus_app, rus_app]
  exact hP1
theorem k_callIN (C : Ck p s m args meth c own cc nL dC dI ad cy z) {y : MethodName} {bytes : ByteArray} {maxL pn index n1 mc ms b nc2 ns2 : Nat} {rm : Room} {As : List Value} {lSc : List (Nat × Nat × Int32)} {lRc : List (Nat × Nat × Nat)} {lS2 : List (Nat × Nat × Int32)} {lR2 : List (Nat × Nat × Nat)} (hF : Fr n (sus σ0 lS) (rus ad ρ0 lR)) (hx : 40 < n → rus ad ρ0 lR 22 6 = some (ad 32)) (hM : ConK l y bytes maxL rm dC dI ad cy z n n1 (.ref b :: As) lSc lRc mc ms) {host : String} (hlk : va_Nw (.methodLinkNest own index y host) s) (hcd : Cond.code y bytes maxL none ∈ lw_w) (hini : Cond.initialized y.cls ∈ lw_w) (hinm : Cond.instanceMethod y ∈ lw_w) (hd : y.name = "<init>" ∧ y.cls ≠ "java/lang/invoke/MethodHandle" ∧ y.cls ≠ "java/lang/invoke/VarHandle" ∧ (parseMethodDescriptor y.desc).map (fun d => d.parameters.length) = some pn) (hrm : rm.cells = mc ∧ rm.slots = ms) (hR : rm.frames + 1 ≤ R.frames ∧ 8 + (maxL + 11) + rm.locals ≤ R.locals) (hcs : nc + mc ≤ R.cells ∧ ns + ms ≤ R.slots) (e1 : nc + mc = nc2) (e2 : ns + ms = ns2) (e3 : lS ++ lSc = lS2) (e4 : lR ++ lRc = lR2) {st : List Value} (hst : st = As.reverse ++ .ref b :: rest) (hn : As.length = pn) (hW : (rest.map fun v => v.category).sum ≤ 8) (hdg : decode cc pc = .ok (.invokespecial index, 3)) (k : Gk p l e R s m args below meth c Q dC dI ad cy nL z σ0 ρ0 nc2 ns2 n1 lS2 lR2 (pc + 3) lv rest) : Gk p l e R s m args below meth c Q dC dI ad cy nL z σ0 ρ0 nc ns n lS lR pc lv st := by
  intro ls H locs hl hP hz hS
  subst e1; subst e2; subst e3; subst e4
  have hG : GoodIn lw_w (Cond.code y bytes maxL none :: lw_w) := fun w hw => by
    have hm : w ∈ lw_w := (List.mem_cons.mp hw).elim (fun q => by rw [q]; exact hcd) id
    exact ⟨hm, lw_good w hm⟩
  refine va_callv (va_runIN (As := As) (rest := rest) ⟨C.1, C.2.1, C.2.2.1, C.2.2.2.1, C.2.2.2.2.1⟩ (hM _ _ hF hx) ⟨va_cnB pn C.2.2.2.2.1 hG rfl hrm.1 hrm.2 hlk (C.2.2.2.2.1 _ hini) hd.2 hR, hd.1, C.2.2.2.2.1 _ hinm⟩ ⟨PreK_blind, fun U hU hW => ⟨rfl, by rw [hU]; exact hz, by rw [hU]; exact hP, va_K.moved hW.alike C.2.2.2.2.2.1, C.2.2.2.2.2.2.2.2.1.go hW⟩⟩ rfl hn hl.1 hst (lv_room hW) hdg hcs) hS (fun q _ h => h) (fun q h => h) (fun u t H1 locs1 ht hvm hw hB hz1 hk1 hS1 => ?_)
  obtain ⟨hP1, hz2⟩ := hB
  rw [ht] at hP1 hz2
  refine k ls H1 locs1 hl ?_ hz2 hS1
  rw [sus_app, rus_app]
  exact hP1
theorem k_vret (C : Ck p s m args meth c own cc nL dC dI ad cy z) (hr : meth.sig.returnType = none) (hdg : decode cc pc = .ok (.return_, 1)) : Gk p l e R s m args below meth c (MQ below (QcK dC dI ad cy z n (sus σ0 lS) (rus ad ρ0 lR)) args s nc ns (AZ z)) dC dI ad cy nL z σ0 ρ0 nc ns n lS lR pc lv [] := fun ls H locs hl hP hz hS => W.vret C.1 C.2.1 hr (fun t ht hW => ⟨⟨(), rfl, trivial, by rw [ht]; exact hP, by rw [ht]; exact hz⟩, hS.F ht⟩) hS.2.2 hdg C.2.2.2.2.2.2.2.1
end GK
end
section
set_option maxHeartbeats 4000000 in
set_option maxRecDepth 100000 in
theorem ck_X8_1 (l : Launch) (dC : Nat → ClassId) (dI : Nat → Nat → Nat) (ad : Nat → Nat) (cy : Nat → ClassId) (z : Nat) (hz : adz ad z) : ConK l yX8_init cX8_init 1 { frames := 1, cells := 1, slots := 320, locals := 12 } dC dI ad cy z 2 3 [.ref (ad 1)] [] [(1, 0, 2)] 1 320 := by
  refine con_k (own := RX8) hz (by decide) rfl rfl (Nat.le_of_ble_eq_true rfl) (fun p e s m below meth c σ ρ C hin hr hF hx => ?_)
  show Gk p l e _ s m _ below meth c _ dC dI ad cy 1 z σ ρ 0 0 2 [] [] 0 [(0, .ref (ad 1))] []
  refine k_aload_n C dX8_init_0 rfl 0 rfl ?_
  refine k_obj C hM_X8_3 ⟨(Nat.le_of_ble_eq_true rfl), (Nat.le_of_ble_eq_true rfl)⟩ dX8_init_1 ?_
  refine k_aload_n C dX8_init_4 rfl 0 rfl ?_
  refine k_sipush (v := 320) C dX8_init_5 (by decide) ?_
  refine k_newa (ty := .byte) (N := 320) (cq := 1) (nc2 := 1) (ns2 := 320) C (Fr.r ad _ (Fr.s _ (hF.mono (Nat.le_of_ble_eq_true rfl)) rfl) rfl) (by decide) rfl hA_byte (arr_name C.2.2.2.2.2.1).2.1 rfl rfl (by decide) (by decide) (by decide) (Nat.le_of_ble_eq_true rfl) (Nat.le_of_ble_eq_true rfl) rfl rfl dX8_init_8 ?_
  refine k_putF (kc := 1) (t := 2) (ci := 8) (ty := .array .byte) (lR2 := [(1, 0, 2)]) C hin (by decide) (by decide) rfl rfl hin_X8 tyX8 tyX8_ok nmX8 0 (by decide) hF_X8_9 rfl rfl rfl (by decide +kernel) rfl rfl (Nat.le_of_ble_eq_true rfl) rfl rfl dX8_init_10 ?_
  exact k_vret C hr dX8_init_13
set_option maxHeartbeats 4000000 in
set_option maxRecDepth 100000 in
theorem ck_X1_14 (l : Launch) (dC : Nat → ClassId) (dI : Nat → Nat → Nat) (ad : Nat → Nat) (cy : Nat → ClassId) (z : Nat) (hz : adz ad z) : ConK l yX1_init cX1_init 1 { frames := 1, cells := 7, slots := 78, locals := 12 } dC dI ad cy z 15 22 [.ref (ad 14)] [] [(14, 1, 15), (14, 2, 16), (14, 3, 17), (14, 4, 18), (14, 5, 19), (14, 6, 20), (14, 8, 21)] 7 78 := by
  refine con_k (own := RX1) hz (by decide) rfl rfl (Nat.le_of_ble_eq_true rfl) (fun p e s m below meth c σ ρ C hin hr hF hx => ?_)
  show Gk p l e _ s m _ below meth c _ dC dI ad cy 1 z σ ρ 0 0 15 [] [] 0 [(0, .ref (ad 14))] []
  refine k_aload_n C dX1_init_0 rfl 0 rfl ?_
  refine k_obj C hM_X1_3 ⟨(Nat.le_of_ble_eq_true rfl), (Nat.le_of_ble_eq_true rfl)⟩ dX1_init_1 ?_
  refine k_aload_n C dX1_init_4 rfl 0 rfl ?_
  refine k_bipush (v := 12) C dX1_init_5 (by decide) ?_
  refine k_newa (ty := .int) (N := 12) (cq := 0) (nc2 := 1) (ns2 := 12) C (Fr.r ad _ (Fr.s _ (hF.mono (Nat.le_of_ble_eq_true rfl)) rfl) rfl) (by decide) rfl hA_int (arr_name C.2.2.2.2.2.1).1 rfl rfl (by decide) (by decide) (by decide) (Nat.le_of_ble_eq_true rfl) (Nat.le_of_ble_eq_true rfl) rfl rfl dX1_init_7 ?_
  refine k_putF (kc := 14) (t := 15) (ci := 1) (ty := .array .int) (lR2 := [(14, 1, 15)]) C hin (by decide) (by decide) rfl rfl hin_X1 tyX1 tyX1_ok nmX1 1 (by decide) hF_X1_9 rfl rfl rfl (by decide +kernel) rfl rfl (Nat.le_of_ble_eq_true rfl) rfl rfl dX1_init_9 ?_
  refine k_aload_n C dX1_init_12 rfl 0 rfl ?_
  refine k_bipush (v := 12) C dX1_init_13 (by decide) ?_
  refine k_newa (ty := .int) (N := 12) (cq := 0) (nc2 := 2) (ns2 := 24) C (Fr.r ad _ (Fr.s _ (hF.mono (Nat.le_of_ble_eq_true rfl)) rfl) rfl) (by decide) rfl hA_int (arr_name C.2.2.2.2.2.1).1 rfl rfl (by decide) (by decide) (by decide) (Nat.le_of_ble_eq_true rfl) (Nat.le_of_ble_eq_true rfl) rfl rfl dX1_init_15 ?_
  refine k_putF (kc := 14) (t := 16) (ci := 1) (ty := .array .int) (lR2 := [(14, 1, 15), (14, 2, 16)]) C hin (by decide) (by decide) rfl rfl hin_X1 tyX1 tyX1_ok nmX1 2 (by decide) hF_X1_15 rfl rfl rfl (by decide +kernel) rfl rfl (Nat.le_of_ble_eq_true rfl) rfl rfl dX1_init_17 ?_
  refine k_aload_n C dX1_init_20 rfl 0 rfl ?_
  refine k_bipush (v := 12) C dX1_init_21 (by decide) ?_
  refine k_newa (ty := .int) (N := 12) (cq := 0) (nc2 := 3) (ns2 := 36) C (Fr.r ad _ (Fr.s _ (hF.mono (Nat.le_of_ble_eq_true rfl)) rfl) rfl) (by decide) rfl hA_int (arr_name C.2.2.2.2.2.1).1 rfl rfl (by decide) (by decide) (by decide) (Nat.le_of_ble_eq_true rfl) (Nat.le_of_ble_eq_true rfl) rfl rfl dX1_init_23 ?_
  refine k_putF (kc := 14) (t := 17) (ci := 1) (ty := .array .int) (lR2 := [(14, 1, 15), (14, 2, 16), (14, 3, 17)]) C hin (by decide) (by decide) rfl rfl hin_X1 tyX1 tyX1_ok nmX1 3 (by decide) hF_X1_18 rfl rfl rfl (by decide +kernel) rfl rfl (Nat.le_of_ble_eq_true rfl) rfl rfl dX1_init_25 ?_
  refine k_aload_n C dX1_init_28 rfl 0 rfl ?_
  refine k_bipush (v := 12) C dX1_init_29 (by decide) ?_
  refine k_newa (ty := .int) (N := 12) (cq := 0) (nc2 := 4) (ns2 := 48) C (Fr.r ad _ (Fr.s _ (hF.mono (Nat.le_of_ble_eq_true rfl)) rfl) rfl) (by decide) rfl hA_int (arr_name C.2.2.2.2.2.1).1 rfl rfl (by decide) (by decide) (by decide) (Nat.le_of_ble_eq_true rfl) (Nat.le_of_ble_eq_true rfl) rfl rfl dX1_init_31 ?_
  refine k_putF (kc := 14) (t := 18) (ci := 1) (ty := .array .int) (lR2 := [(14, 1, 15), (14, 2, 16), (14, 3, 17), (14, 4, 18)]) C hin (by decide) (by decide) rfl rfl hin_X1 tyX1 tyX1_ok nmX1 4 (by decide) hF_X1_21 rfl rfl rfl (by decide +kernel) rfl rfl (Nat.le_of_ble_eq_true rfl) rfl rfl dX1_init_33 ?_
  refine k_aload_n C dX1_init_36 rfl 0 rfl ?_
  refine k_bipush (v := 12) C dX1_init_37 (by decide) ?_
  refine k_newa (ty := .int) (N := 12) (cq := 0) (nc2 := 5) (ns2 := 60) C (Fr.r ad _ (Fr.s _ (hF.mono (Nat.le_of_ble_eq_true rfl)) rfl) rfl) (by decide) rfl hA_int (arr_name C.2.2.2.2.2.1).1 rfl rfl (by decide) (by decide) (by decide) (Nat.le_of_ble_eq_true rfl) (Nat.le_of_ble_eq_true rfl) rfl rfl dX1_init_39 ?_
  refine k_putF (kc := 14) (t := 19) (ci := 1) (ty := .array .int) (lR2 := [(14, 1, 15), (14, 2, 16), (14, 3, 17), (14, 4, 18), (14, 5, 19)]) C hin (by decide) (by decide) rfl rfl hin_X1 tyX1 tyX1_ok nmX1 5 (by decide) hF_X1_24 rfl rfl rfl (by decide +kernel) rfl rfl (Nat.le_of_ble_eq_true rfl) rfl rfl dX1_init_41 ?_
  refine k_aload_n C dX1_init_44 rfl 0 rfl ?_
  refine k_bipush (v := 6) C dX1_init_45 (by decide) ?_
  refine k_newa (ty := .int) (N := 6) (cq := 0) (nc2 := 6) (ns2 := 66) C (Fr.r ad _ (Fr.s _ (hF.mono (Nat.le_of_ble_eq_true rfl)) rfl) rfl) (by decide) rfl hA_int (arr_name C.2.2.2.2.2.1).1 rfl rfl (by decide) (by decide) (by decide) (Nat.le_of_ble_eq_true rfl) (Nat.le_of_ble_eq_true rfl) rfl rfl dX1_init_47 ?_
  refine k_putF (kc := 14) (t := 20) (ci := 1) (ty := .array .int) (lR2 := [(14, 1, 15), (14, 2, 16), (14, 3, 17), (14, 4, 18), (14, 5, 19), (14, 6, 20)]) C hin (by decide) (by decide) rfl rfl hin_X1 tyX1 tyX1_ok nmX1 6 (by decide) hF_X1_27 rfl rfl rfl (by decide +kernel) rfl rfl (Nat.le_of_ble_eq_true rfl) rfl rfl dX1_init_49 ?_
  refine k_aload_n C dX1_init_52 rfl 0 rfl ?_
  refine k_bipush (v := 12) C dX1_init_53 (by decide) ?_
  refine k_newa (ty := .int) (N := 12) (cq := 0) (nc2 := 7) (ns2 := 78) C (Fr.r ad _ (Fr.s _ (hF.mono (Nat.le_of_ble_eq_true rfl)) rfl) rfl) (by decide) rfl hA_int (arr_name C.2.2.2.2.2.1).1 rfl rfl (by decide) (by decide) (by decide) (Nat.le_of_ble_eq_true rfl) (Nat.le_of_ble_eq_true rfl) rfl rfl dX1_init_55 ?_
  refine k_putF (kc := 14) (t := 21) (ci := 1) (ty := .array .int) (lR2 := [(14, 1, 15), (14, 2, 16), (14, 3, 17), (14, 4, 18), (14, 5, 19), (14, 6, 20), (14, 8, 21)]) C hin (by decide) (by decide) rfl rfl hin_X1 tyX1 tyX1_ok nmX1 8 (by decide) hF_X1_30 rfl rfl rfl (by decide +kernel) rfl rfl (Nat.le_of_ble_eq_true rfl) rfl rfl dX1_init_57 ?_
  exact k_vret C hr dX1_init_60
set_option maxHeartbeats 4000000 in
set_option maxRecDepth 100000 in
theorem ck_X1_32 (l : Launch) (dC : Nat → ClassId) (dI : Nat → Nat → Nat) (ad : Nat → Nat) (cy : Nat → ClassId) (z : Nat) (hz : adz ad z) : ConK l yX1_init cX1_init 1 { frames := 1, cells := 7, slots := 78, locals := 12 } dC dI ad cy z 33 40 [.ref (ad 32)] [] [(32, 1, 33), (32, 2, 34), (32, 3, 35), (32, 4, 36), (32, 5, 37), (32, 6, 38), (32, 8, 39)] 7 78 := by
  refine con_k (own := RX1) hz (by decide) rfl rfl (Nat.le_of_ble_eq_true rfl) (fun p e s m below meth c σ ρ C hin hr hF hx => ?_)
  show Gk p l e _ s m _ below meth c _ dC dI ad cy 1 z σ ρ 0 0 33 [] [] 0 [(0, .ref (ad 32))] []
  refine k_aload_n C dX1_init_0 rfl 0 rfl ?_
  refine k_obj C hM_X1_3 ⟨(Nat.le_of_ble_eq_true rfl), (Nat.le_of_ble_eq_true rfl)⟩ dX1_init_1 ?_
  refine k_aload_n C dX1_init_4 rfl 0 rfl ?_
  refine k_bipush (v := 12) C dX1_init_5 (by decide) ?_
  refine k_newa (ty := .int) (N := 12) (cq := 0) (nc2 := 1) (ns2 := 12) C (Fr.r ad _ (Fr.s _ (hF.mono (Nat.le_of_ble_eq_true rfl)) rfl) rfl) (by decide) rfl hA_int (arr_name C.2.2.2.2.2.1).1 rfl rfl (by decide) (by decide) (by decide) (Nat.le_of_ble_eq_true rfl) (Nat.le_of_ble_eq_true rfl) rfl rfl dX1_init_7 ?_
  refine k_putF (kc := 32) (t := 33) (ci := 1) (ty := .array .int) (lR2 := [(32, 1, 33)]) C hin (by decide) (by decide) rfl rfl hin_X1 tyX1 tyX1_ok nmX1 1 (by decide) hF_X1_9 rfl rfl rfl (by decide +kernel) rfl rfl (Nat.le_of_ble_eq_true rfl) rfl rfl dX1_init_9 ?_
  refine k_aload_n C dX1_init_12 rfl 0 rfl ?_
  refine k_bipush (v := 12) C dX1_init_13 (by decide) ?_
  refine k_newa (ty := .int) (N := 12) (cq := 0) (nc2 := 2) (ns2 := 24) C (Fr.r ad _ (Fr.s _ (hF.mono (Nat.le_of_ble_eq_true rfl)) rfl) rfl) (by decide) rfl hA_int (arr_name C.2.2.2.2.2.1).1 rfl rfl (by decide) (by decide) (by decide) (Nat.le_of_ble_eq_true rfl) (Nat.le_of_ble_eq_true rfl) rfl rfl dX1_init_15 ?_
  refine k_putF (kc := 32) (t := 34) (ci := 1) (ty := .array .int) (lR2 := [(32, 1, 33), (32, 2, 34)]) C hin (by decide) (by decide) rfl rfl hin_X1 tyX1 tyX1_ok nmX1 2 (by decide) hF_X1_15 rfl rfl rfl (by decide +kernel) rfl rfl (Nat.le_of_ble_eq_true rfl) rfl rfl dX1_init_17 ?_
  refine k_aload_n C dX1_init_20 rfl 0 rfl ?_
  refine k_bipush (v := 12) C dX1_init_21 (by decide) ?_
  refine k_newa (ty := .int) (N := 12) (cq := 0) (nc2 := 3) (ns2 := 36) C (Fr.r ad _ (Fr.s _ (hF.mono (Nat.le_of_ble_eq_true rfl)) rfl) rfl) (by decide) rfl hA_int (arr_name C.2.2.2.2.2.1).1 rfl rfl (by decide) (by decide) (by decide) (Nat.le_of_ble_eq_true rfl) (Nat.le_of_ble_eq_true rfl) rfl rfl dX1_init_23 ?_
  refine k_putF (kc := 32) (t := 35) (ci := 1) (ty := .array .int) (lR2 := [(32, 1, 33), (32, 2, 34), (32, 3, 35)]) C hin (by decide) (by decide) rfl rfl hin_X1 tyX1 tyX1_ok nmX1 3 (by decide) hF_X1_18 rfl rfl rfl (by decide +kernel) rfl rfl (Nat.le_of_ble_eq_true rfl) rfl rfl dX1_init_25 ?_
  refine k_aload_n C dX1_init_28 rfl 0 rfl ?_
  refine k_bipush (v := 12) C dX1_init_29 (by decide) ?_
  refine k_newa (ty := .int) (N := 12) (cq := 0) (nc2 := 4) (ns2 := 48) C (Fr.r ad _ (Fr.s _ (hF.mono (Nat.le_of_ble_eq_true rfl)) rfl) rfl) (by decide) rfl hA_int (arr_name C.2.2.2.2.2.1).1 rfl rfl (by decide) (by decide) (by decide) (Nat.le_of_ble_eq_true rfl) (Nat.le_of_ble_eq_true rfl) rfl rfl dX1_init_31 ?_
  refine k_putF (kc := 32) (t := 36) (ci := 1) (ty := .array .int) (lR2 := [(32, 1, 33), (32, 2, 34), (32, 3, 35), (32, 4, 36)]) C hin (by decide) (by decide) rfl rfl hin_X1 tyX1 tyX1_ok nmX1 4 (by decide) hF_X1_21 rfl rfl rfl (by decide +kernel) rfl rfl (Nat.le_of_ble_eq_true rfl) rfl rfl dX1_init_33 ?_
  refine k_aload_n C dX1_init_36 rfl 0 rfl ?_
  refine k_bipush (v := 12) C dX1_init_37 (by decide) ?_
  refine k_newa (ty := .int) (N := 12) (cq := 0) (nc2 := 5) (ns2 := 60) C (Fr.r ad _ (Fr.s _ (hF.mono (Nat.le_of_ble_eq_true rfl)) rfl) rfl) (by decide) rfl hA_int (arr_name C.2.2.2.2.2.1).1 rfl rfl (by decide) (by decide) (by decide) (Nat.le_of_ble_eq_true rfl) (Nat.le_of_ble_eq_true rfl) rfl rfl dX1_init_39 ?_
  refine k_putF (kc := 32) (t := 37) (ci := 1) (ty := .array .int) (lR2 := [(32, 1, 33), (32, 2, 34), (32, 3, 35), (32, 4, 36), (32, 5, 37)]) C hin (by decide) (by decide) rfl rfl hin_X1 tyX1 tyX1_ok nmX1 5 (by decide) hF_X1_24 rfl rfl rfl (by decide +kernel) rfl rfl (Nat.le_of_ble_eq_true rfl) rfl rfl dX1_init_41 ?_
  refine k_aload_n C dX1_init_44 rfl 0 rfl ?_
  refine k_bipush (v := 6) C dX1_init_45 (by decide) ?_
  refine k_newa (ty := .int) (N := 6) (cq := 0) (nc2 := 6) (ns2 := 66) C (Fr.r ad _ (Fr.s _ (hF.mono (Nat.le_of_ble_eq_true rfl)) rfl) rfl) (by decide) rfl hA_int (arr_name C.2.2.2.2.2.1).1 rfl rfl (by decide) (by decide) (by decide) (Nat.le_of_ble_eq_true rfl) (Nat.le_of_ble_eq_true rfl) rfl rfl dX1_init_47 ?_
  refine k_putF (kc := 32) (t := 38) (ci := 1) (ty := .array .int) (lR2 := [(32, 1, 33), (32, 2, 34), (32, 3, 35), (32, 4, 36), (32, 5, 37), (32, 6, 38)]) C hin (by decide) (by decide) rfl rfl hin_X1 tyX1 tyX1_ok nmX1 6 (by decide) hF_X1_27 rfl rfl rfl (by decide +kernel) rfl rfl (Nat.le_of_ble_eq_true rfl) rfl rfl dX1_init_49 ?_
  refine k_aload_n C dX1_init_52 rfl 0 rfl ?_
  refine k_bipush (v := 12) C dX1_init_53 (by decide) ?_
  refine k_newa (ty := .int) (N := 12) (cq := 0) (nc2 := 7) (ns2 := 78) C (Fr.r ad _ (Fr.s _ (hF.mono (Nat.le_of_ble_eq_true rfl)) rfl) rfl) (by decide) rfl hA_int (arr_name C.2.2.2.2.2.1).1 rfl rfl (by decide) (by decide) (by decide) (Nat.le_of_ble_eq_true rfl) (Nat.le_of_ble_eq_true rfl) rfl rfl dX1_init_55 ?_
  refine k_putF (kc := 32) (t := 39) (ci := 1) (ty := .array .int) (lR2 := [(32, 1, 33), (32, 2, 34), (32, 3, 35), (32, 4, 36), (32, 5, 37), (32, 6, 38), (32, 8, 39)]) C hin (by decide) (by decide) rfl rfl hin_X1 tyX1 tyX1_ok nmX1 8 (by decide) hF_X1_30 rfl rfl rfl (by decide +kernel) rfl rfl (Nat.le_of_ble_eq_true rfl) rfl rfl dX1_init_57 ?_
  exact k_vret C hr dX1_init_60
set_option maxHeartbeats 4000000 in
set_option maxRecDepth 100000 in
theorem ck_X1_74 (l : Launch) (dC : Nat → ClassId) (dI : Nat → Nat → Nat) (ad : Nat → Nat) (cy : Nat → ClassId) (z : Nat) (hz : adz ad z) : ConK l yX1_init cX1_init 1 { frames := 1, cells := 7, slots := 78, locals := 12 } dC dI ad cy z 75 82 [.ref (ad 74)] [] [(74, 1, 75), (74, 2, 76), (74, 3, 77), (74, 4, 78), (74, 5, 79), (74, 6, 80), (74, 8, 81)] 7 78 := by
  refine con_k (own := RX1) hz (by decide) rfl rfl (Nat.le_of_ble_eq_true rfl) (fun p e s m below meth c σ ρ C hin hr hF hx => ?_)
  show Gk p l e _ s m _ below meth c _ dC dI ad cy 1 z σ ρ 0 0 75 [] [] 0 [(0, .ref (ad 74))] []
  refine k_aload_n C dX1_init_0 rfl 0 rfl ?_
  refine k_obj C hM_X1_3 ⟨(Nat.le_of_ble_eq_true rfl), (Nat.le_of_ble_eq_true rfl)⟩ dX1_init_1 ?_
  refine k_aload_n C dX1_init_4 rfl 0 rfl ?_
  refine k_bipush (v := 12) C dX1_init_5 (by decide) ?_
  refine k_newa (ty := .int) (N := 12) (cq := 0) (nc2 := 1) (ns2 := 12) C (Fr.r ad _ (Fr.s _ (hF.mono (Nat.le_of_ble_eq_true rfl)) rfl) rfl) (by decide) rfl hA_int (arr_name C.2.2.2.2.2.1).1 rfl rfl (by decide) (by decide) (by decide) (Nat.le_of_ble_eq_true rfl) (Nat.le_of_ble_eq_true rfl) rfl rfl dX1_init_7 ?_
  refine k_putF (kc := 74) (t := 75) (ci := 1) (ty := .array .int) (lR2 := [(74, 1, 75)]) C hin (by decide) (by decide) rfl rfl hin_X1 tyX1 tyX1_ok nmX1 1 (by decide) hF_X1_9 rfl rfl rfl (by decide +kernel) rfl rfl (Nat.le_of_ble_eq_true rfl) rfl rfl dX1_init_9 ?_
  refine k_aload_n C dX1_init_12 rfl 0 rfl ?_
  refine k_bipush (v := 12) C dX1_init_13 (by decide) ?_
  refine k_newa (ty := .int) (N := 12) (cq := 0) (nc2 := 2) (ns2 := 24) C (Fr.r ad _ (Fr.s _ (hF.mono (Nat.le_of_ble_eq_true rfl)) rfl) rfl) (by decide) rfl hA_int (arr_name C.2.2.2.2.2.1).1 rfl rfl (by decide) (by decide) (by decide) (Nat.le_of_ble_eq_true rfl) (Nat.le_of_ble_eq_true rfl) rfl rfl dX1_init_15 ?_
  refine k_putF (kc := 74) (t := 76) (ci := 1) (ty := .array .int) (lR2 := [(74, 1, 75), (74, 2, 76)]) C hin (by decide) (by decide) rfl rfl hin_X1 tyX1 tyX1_ok nmX1 2 (by decide) hF_X1_15 rfl rfl rfl (by decide +kernel) rfl rfl (Nat.le_of_ble_eq_true rfl) rfl rfl dX1_init_17 ?_
  refine k_aload_n C dX1_init_20 rfl 0 rfl ?_
  refine k_bipush (v := 12) C dX1_init_21 (by decide) ?_
  refine k_newa (ty := .int) (N := 12) (cq := 0) (nc2 := 3) (ns2 := 36) C (Fr.r ad _ (Fr.s _ (hF.mono (Nat.le_of_ble_eq_true rfl)) rfl) rfl) (by decide) rfl hA_int (arr_name C.2.2.2.2.2.1).1 rfl rfl (by decide) (by decide) (by decide) (Nat.le_of_ble_eq_true rfl) (Nat.le_of_ble_eq_true rfl) rfl rfl dX1_init_23 ?_
  refine k_putF (kc := 74) (t := 77) (ci := 1) (ty := .array .int) (lR2 := [(74, 1, 75), (74, 2, 76), (74, 3, 77)]) C hin (by decide) (by decide) rfl rfl hin_X1 tyX1 tyX1_ok nmX1 3 (by decide) hF_X1_18 rfl rfl rfl (by decide +kernel) rfl rfl (Nat.le_of_ble_eq_true rfl) rfl rfl dX1_init_25 ?_
  refine k_aload_n C dX1_init_28 rfl 0 rfl ?_
  refine k_bipush (v := 12) C dX1_init_29 (by decide) ?_
  refine k_newa (ty := .int) (N := 12) (cq := 0) (nc2 := 4) (ns2 := 48) C (Fr.r ad _ (Fr.s _ (hF.mono (Nat.le_of_ble_eq_true rfl)) rfl) rfl) (by decide) rfl hA_int (arr_name C.2.2.2.2.2.1).1 rfl rfl (by decide) (by decide) (by decide) (Nat.le_of_ble_eq_true rfl) (Nat.le_of_ble_eq_true rfl) rfl rfl dX1_init_31 ?_
  refine k_putF (kc := 74) (t := 78) (ci := 1) (ty := .array .int) (lR2 := [(74, 1, 75), (74, 2, 76), (74, 3, 77), (74, 4, 78)]) C hin (by decide) (by decide) rfl rfl hin_X1 tyX1 tyX1_ok nmX1 4 (by decide) hF_X1_21 rfl rfl rfl (by decide +kernel) rfl rfl (Nat.le_of_ble_eq_true rfl) rfl rfl dX1_init_33 ?_
  refine k_aload_n C dX1_init_36 rfl 0 rfl ?_
  refine k_bipush (v := 12) C dX1_init_37 (by decide) ?_
  refine k_newa (ty := .int) (N := 12) (cq := 0) (nc2 := 5) (ns2 := 60) C (Fr.r ad _ (Fr.s _ (hF.mono (Nat.le_of_ble_eq_true rfl)) rfl) rfl) (by decide) rfl hA_int (arr_name C.2.2.2.2.2.1).1 rfl rfl (by decide) (by decide) (by decide) (Nat.le_of_ble_eq_true rfl) (Nat.le_of_ble_eq_true rfl) rfl rfl dX1_init_39 ?_
  refine k_putF (kc := 74) (t := 79) (ci := 1) (ty := .array .int) (lR2 := [(74, 1, 75), (74, 2, 76), (74, 3, 77), (74, 4, 78), (74, 5, 79)]) C hin (by decide) (by decide) rfl rfl hin_X1 tyX1 tyX1_ok nmX1 5 (by decide) hF_X1_24 rfl rfl rfl (by decide +kernel) rfl rfl (Nat.le_of_ble_eq_true rfl) rfl rfl dX1_init_41 ?_
  refine k_aload_n C dX1_init_44 rfl 0 rfl ?_
  refine k_bipush (v := 6) C dX1_init_45 (by decide) ?_
  refine k_newa (ty := .int) (N := 6) (cq := 0) (nc2 := 6) (ns2 := 66) C (Fr.r ad _ (Fr.s _ (hF.mono (Nat.le_of_ble_eq_true rfl)) rfl) rfl) (by decide) rfl hA_int (arr_name C.2.2.2.2.2.1).1 rfl rfl (by decide) (by decide) (by decide) (Nat.le_of_ble_eq_true rfl) (Nat.le_of_ble_eq_true rfl) rfl rfl dX1_init_47 ?_
  refine k_putF (kc := 74) (t := 80) (ci := 1) (ty := .array .int) (lR2 := [(74, 1, 75), (74, 2, 76), (74, 3, 77), (74, 4, 78), (74, 5, 79), (74, 6, 80)]) C hin (by decide) (by decide) rfl rfl hin_X1 tyX1 tyX1_ok nmX1 6 (by decide) hF_X1_27 rfl rfl rfl (by decide +kernel) rfl rfl (Nat.le_of_ble_eq_true rfl) rfl rfl dX1_init_49 ?_
  refine k_aload_n C dX1_init_52 rfl 0 rfl ?_
  refine k_bipush (v := 12) C dX1_init_53 (by decide) ?_
  refine k_newa (ty := .int) (N := 12) (cq := 0) (nc2 := 7) (ns2 := 78) C (Fr.r ad _ (Fr.s _ (hF.mono (Nat.le_of_ble_eq_true rfl)) rfl) rfl) (by decide) rfl hA_int (arr_name C.2.2.2.2.2.1).1 rfl rfl (by decide) (by decide) (by decide) (Nat.le_of_ble_eq_true rfl) (Nat.le_of_ble_eq_true rfl) rfl rfl dX1_init_55 ?_
  refine k_putF (kc := 74) (t := 81) (ci := 1) (ty := .array .int) (lR2 := [(74, 1, 75), (74, 2, 76), (74, 3, 77), (74, 4, 78), (74, 5, 79), (74, 6, 80), (74, 8, 81)]) C hin (by decide) (by decide) rfl rfl hin_X1 tyX1 tyX1_ok nmX1 8 (by decide) hF_X1_30 rfl rfl rfl (by decide +kernel) rfl rfl (Nat.le_of_ble_eq_true rfl) rfl rfl dX1_init_57 ?_
  exact k_vret C hr dX1_init_60
set_option maxHeartbeats 4000000 in
set_option maxRecDepth 100000 in
theorem ck_X1_82 (l : Launch) (dC : Nat → ClassId) (dI : Nat → Nat → Nat) (ad : Nat → Nat) (cy : Nat → ClassId) (z : Nat) (hz : adz ad z) : ConK l yX1_init cX1_init 1 { frames := 1, cells := 7, slots := 78, locals := 12 } dC dI ad cy z 83 90 [.ref (ad 82)] [] [(82, 1, 83), (82, 2, 84), (82, 3, 85), (82, 4, 86), (82, 5, 87), (82, 6, 88), (82, 8, 89)] 7 78 := by
  refine con_k (own := RX1) hz (by decide) rfl rfl (Nat.le_of_ble_eq_true rfl) (fun p e s m below meth c σ ρ C hin hr hF hx => ?_)
  show Gk p l e _ s m _ below meth c _ dC dI ad cy 1 z σ ρ 0 0 83 [] [] 0 [(0, .ref (ad 82))] []
  refine k_aload_n C dX1_init_0 rfl 0 rfl ?_
  refine k_obj C hM_X1_3 ⟨(Nat.le_of_ble_eq_true rfl), (Nat.le_of_ble_eq_true rfl)⟩ dX1_init_1 ?_
  refine k_aload_n C dX1_init_4 rfl 0 rfl ?_
  refine k_bipush (v := 12) C dX1_init_5 (by decide) ?_
  refine k_newa (ty := .int) (N := 12) (cq := 0) (nc2 := 1) (ns2 := 12) C (Fr.r ad _ (Fr.s _ (hF.mono (Nat.le_of_ble_eq_true rfl)) rfl) rfl) (by decide) rfl hA_int (arr_name C.2.2.2.2.2.1).1 rfl rfl (by decide) (by decide) (by decide) (Nat.le_of_ble_eq_true rfl) (Nat.le_of_ble_eq_true rfl) rfl rfl dX1_init_7 ?_
  refine k_putF (kc := 82) (t := 83) (ci := 1) (ty := .array .int) (lR2 := [(82, 1, 83)]) C hin (by decide) (by decide) rfl rfl hin_X1 tyX1 tyX1_ok nmX1 1 (by decide) hF_X1_9 rfl rfl rfl (by decide +kernel) rfl rfl (Nat.le_of_ble_eq_true rfl) rfl rfl dX1_init_9 ?_
  refine k_aload_n C dX1_init_12 rfl 0 rfl ?_
  refine k_bipush (v := 12) C dX1_init_13 (by decide) ?_
  refine k_newa (ty := .int) (N := 12) (cq := 0) (nc2 := 2) (ns2 := 24) C (Fr.r ad _ (Fr.s _ (hF.mono (Nat.le_of_ble_eq_true rfl)) rfl) rfl) (by decide) rfl hA_int (arr_name C.2.2.2.2.2.1).1 rfl rfl (by decide) (by decide) (by decide) (Nat.le_of_ble_eq_true rfl) (Nat.le_of_ble_eq_true rfl) rfl rfl dX1_init_15 ?_
  refine k_putF (kc := 82) (t := 84) (ci := 1) (ty := .array .int) (lR2 := [(82, 1, 83), (82, 2, 84)]) C hin (by decide) (by decide) rfl rfl hin_X1 tyX1 tyX1_ok nmX1 2 (by decide) hF_X1_15 rfl rfl rfl (by decide +kernel) rfl rfl (Nat.le_of_ble_eq_true rfl) rfl rfl dX1_init_17 ?_
  refine k_aload_n C dX1_init_20 rfl 0 rfl ?_
  refine k_bipush (v := 12) C dX1_init_21 (by decide) ?_
  refine k_newa (ty := .int) (N := 12) (cq := 0) (nc2 := 3) (ns2 := 36) C (Fr.r ad _ (Fr.s _ (hF.mono (Nat.le_of_ble_eq_true rfl)) rfl) rfl) (by decide) rfl hA_int (arr_name C.2.2.2.2.2.1).1 rfl rfl (by decide) (by decide) (by decide) (Nat.le_of_ble_eq_true rfl) (Nat.le_of_ble_eq_true rfl) rfl rfl dX1_init_23 ?_
  refine k_putF (kc := 82) (t := 85) (ci := 1) (ty := .array .int) (lR2 := [(82, 1, 83), (82, 2, 84), (82, 3, 85)]) C hin (by decide) (by decide) rfl rfl hin_X1 tyX1 tyX1_ok nmX1 3 (by decide) hF_X1_18 rfl rfl rfl (by decide +kernel) rfl rfl (Nat.le_of_ble_eq_true rfl) rfl rfl dX1_init_25 ?_
  refine k_aload_n C dX1_init_28 rfl 0 rfl ?_
  refine k_bipush (v := 12) C dX1_init_29 (by decide) ?_
  refine k_newa (ty := .int) (N := 12) (cq := 0) (nc2 := 4) (ns2 := 48) C (Fr.r ad _ (Fr.s _ (hF.mono (Nat.le_of_ble_eq_true rfl)) rfl) rfl) (by decide) rfl hA_int (arr_name C.2.2.2.2.2.1).1 rfl rfl (by decide) (by decide) (by decide) (Nat.le_of_ble_eq_true rfl) (Nat.le_of_ble_eq_true rfl) rfl rfl dX1_init_31 ?_
  refine k_putF (kc := 82) (t := 86) (ci := 1) (ty := .array .int) (lR2 := [(82, 1, 83), (82, 2, 84), (82, 3, 85), (82, 4, 86)]) C hin (by decide) (by decide) rfl rfl hin_X1 tyX1 tyX1_ok nmX1 4 (by decide) hF_X1_21 rfl rfl rfl (by decide +kernel) rfl rfl (Nat.le_of_ble_eq_true rfl) rfl rfl dX1_init_33 ?_
  refine k_aload_n C dX1_init_36 rfl 0 rfl ?_
  refine k_bipush (v := 12) C dX1_init_37 (by decide) ?_
  refine k_newa (ty := .int) (N := 12) (cq := 0) (nc2 := 5) (ns2 := 60) C (Fr.r ad _ (Fr.s _ (hF.mono (Nat.le_of_ble_eq_true rfl)) rfl) rfl) (by decide) rfl hA_int (arr_name C.2.2.2.2.2.1).1 rfl rfl (by decide) (by decide) (by decide) (Nat.le_of_ble_eq_true rfl) (Nat.le_of_ble_eq_true rfl) rfl rfl dX1_init_39 ?_
  refine k_putF (kc := 82) (t := 87) (ci := 1) (ty := .array .int) (lR2 := [(82, 1, 83), (82, 2, 84), (82, 3, 85), (82, 4, 86), (82, 5, 87)]) C hin (by decide) (by decide) rfl rfl hin_X1 tyX1 tyX1_ok nmX1 5 (by decide) hF_X1_24 rfl rfl rfl (by decide +kernel) rfl rfl (Nat.le_of_ble_eq_true rfl) rfl rfl dX1_init_41 ?_
  refine k_aload_n C dX1_init_44 rfl 0 rfl ?_
  refine k_bipush (v := 6) C dX1_init_45 (by decide) ?_
  refine k_newa (ty := .int) (N := 6) (cq := 0) (nc2 := 6) (ns2 := 66) C (Fr.r ad _ (Fr.s _ (hF.mono (Nat.le_of_ble_eq_true rfl)) rfl) rfl) (by decide) rfl hA_int (arr_name C.2.2.2.2.2.1).1 rfl rfl (by decide) (by decide) (by decide) (Nat.le_of_ble_eq_true rfl) (Nat.le_of_ble_eq_true rfl) rfl rfl dX1_init_47 ?_
  refine k_putF (kc := 82) (t := 88) (ci := 1) (ty := .array .int) (lR2 := [(82, 1, 83), (82, 2, 84), (82, 3, 85), (82, 4, 86), (82, 5, 87), (82, 6, 88)]) C hin (by decide) (by decide) rfl rfl hin_X1 tyX1 tyX1_ok nmX1 6 (by decide) hF_X1_27 rfl rfl rfl (by decide +kernel) rfl rfl (Nat.le_of_ble_eq_true rfl) rfl rfl dX1_init_49 ?_
  refine k_aload_n C dX1_init_52 rfl 0 rfl ?_
  refine k_bipush (v := 12) C dX1_init_53 (by decide) ?_
  refine k_newa (ty := .int) (N := 12) (cq := 0) (nc2 := 7) (ns2 := 78) C (Fr.r ad _ (Fr.s _ (hF.mono (Nat.le_of_ble_eq_true rfl)) rfl) rfl) (by decide) rfl hA_int (arr_name C.2.2.2.2.2.1).1 rfl rfl (by decide) (by decide) (by decide) (Nat.le_of_ble_eq_true rfl) (Nat.le_of_ble_eq_true rfl) rfl rfl dX1_init_55 ?_
  refine k_putF (kc := 82) (t := 89) (ci := 1) (ty := .array .int) (lR2 := [(82, 1, 83), (82, 2, 84), (82, 3, 85), (82, 4, 86), (82, 5, 87), (82, 6, 88), (82, 8, 89)]) C hin (by decide) (by decide) rfl rfl hin_X1 tyX1 tyX1_ok nmX1 8 (by decide) hF_X1_30 rfl rfl rfl (by decide +kernel) rfl rfl (Nat.le_of_ble_eq_true rfl) rfl rfl dX1_init_57 ?_
  exact k_vret C hr dX1_init_60
set_option maxHeartbeats 4000000 in
set_option maxRecDepth 100000 in
theorem ck_X9_4 (l : Launch) (dC : Nat → ClassId) (dI : Nat → Nat → Nat) (ad : Nat → Nat) (cy : Nat → ClassId) (z : Nat) (hz : adz ad z) : ConK l yX9_init cX9_init 1 { frames := 2, cells := 17, slots := 177, locals := 32 } dC dI ad cy z 5 22 [.ref (ad 4)] [(4, 0, 3), (4, 1, 3)] [(4, 3, 5), (4, 4, 6), (7, 0, 8), (7, 1, 9), (7, 2, 10), (7, 3, 11), (7, 4, 12), (7, 5, 13), (4, 5, 7), (14, 1, 15), (14, 2, 16), (14, 3, 17), (14, 4, 18), (14, 5, 19), (14, 6, 20), (14, 8, 21), (4, 6, 14)] 17 177 := by
  refine con_k (own := RX9) hz (by decide) rfl rfl (Nat.le_of_ble_eq_true rfl) (fun p e s m below meth c σ ρ C hin hr hF hx => ?_)
  show Gk p l e _ s m _ below meth c _ dC dI ad cy 1 z σ ρ 0 0 5 [] [] 0 [(0, .ref (ad 4))] []
  refine k_aload_n C dX9_init_0 rfl 0 rfl ?_
  refine k_obj C hM_X9_3 ⟨(Nat.le_of_ble_eq_true rfl), (Nat.le_of_ble_eq_true rfl)⟩ dX9_init_1 ?_
  refine k_aload_n C dX9_init_4 rfl 0 rfl ?_
  refine k_iconst (v := 3) C dX9_init_5 (by decide) ?_
  refine k_puti (kc := 4) (ci := 9) (ty := .int) (lS2 := [(4, 0, 3)]) C (by decide) (by decide) rfl rfl hin_X9 tyX9 tyX9_ok nmX9 0 (by decide) hF_X9_9 rfl rfl (by decide +kernel) rfl rfl (Nat.le_of_ble_eq_true rfl) rfl rfl dX9_init_6 ?_
  refine k_aload_n C dX9_init_9 rfl 0 rfl ?_
  refine k_iconst (v := 3) C dX9_init_10 (by decide) ?_
  refine k_puti (kc := 4) (ci := 9) (ty := .int) (lS2 := [(4, 0, 3), (4, 1, 3)]) C (by decide) (by decide) rfl rfl hin_X9 tyX9 tyX9_ok nmX9 1 (by decide) hF_X9_15 rfl rfl (by decide +kernel) rfl rfl (Nat.le_of_ble_eq_true rfl) rfl rfl dX9_init_11 ?_
  refine k_aload_n C dX9_init_14 rfl 0 rfl ?_
  refine k_bipush (v := 6) C dX9_init_15 (by decide) ?_
  refine k_newa (ty := .int) (N := 6) (cq := 0) (nc2 := 1) (ns2 := 6) C (Fr.r ad _ (Fr.s _ (hF.mono (Nat.le_of_ble_eq_true rfl)) rfl) rfl) (by decide) rfl hA_int (arr_name C.2.2.2.2.2.1).1 rfl rfl (by decide) (by decide) (by decide) (Nat.le_of_ble_eq_true rfl) (Nat.le_of_ble_eq_true rfl) rfl rfl dX9_init_17 ?_
  refine k_putF (kc := 4) (t := 5) (ci := 9) (ty := .array .int) (lR2 := [(4, 3, 5)]) C hin (by decide) (by decide) rfl rfl hin_X9 tyX9 tyX9_ok nmX9 3 (by decide) hF_X9_18 rfl rfl rfl (by decide +kernel) rfl rfl (Nat.le_of_ble_eq_true rfl) rfl rfl dX9_init_19 ?_
  refine k_aload_n C dX9_init_22 rfl 0 rfl ?_
  refine k_bipush (v := 6) C dX9_init_23 (by decide) ?_
  refine k_newa (ty := .int) (N := 6) (cq := 0) (nc2 := 2) (ns2 := 12) C (Fr.r ad _ (Fr.s _ (hF.mono (Nat.le_of_ble_eq_true rfl)) rfl) rfl) (by decide) rfl hA_int (arr_name C.2.2.2.2.2.1).1 rfl rfl (by decide) (by decide) (by decide) (Nat.le_of_ble_eq_true rfl) (Nat.le_of_ble_eq_true rfl) rfl rfl dX9_init_25 ?_
  refine k_putF (kc := 4) (t := 6) (ci := 9) (ty := .array .int) (lR2 := [(4, 3, 5), (4, 4, 6)]) C hin (by decide) (by decide) rfl rfl hin_X9 tyX9 tyX9_ok nmX9 4 (by decide) hF_X9_22 rfl rfl rfl (by decide +kernel) rfl rfl (Nat.le_of_ble_eq_true rfl) rfl rfl dX9_init_27 ?_
  refine k_aload_n C dX9_init_30 rfl 0 rfl ?_
  refine k_bipush (v := 6) C dX9_init_31 (by decide) ?_
  refine k_bipush (v := 12) C dX9_init_33 (by decide) ?_
  refine k_mna (N := 6) (M := 12) (nc2 := 9) (ns2 := 90) (n2 := 14) (nm := "[[I") (lR2 := [(4, 3, 5), (4, 4, 6), (7, 0, 8), (7, 1, 9), (7, 2, 10), (7, 3, 11), (7, 4, 12), (7, 5, 13)]) C (Fr.r ad _ (Fr.s _ (hF.mono (Nat.le_of_ble_eq_true rfl)) rfl) rfl) (by decide) (by decide) hCL_X9_25 (fun _ => rfl) (fun i hi => by rcases (show i = 0 ∨ i = 1 ∨ i = 2 ∨ i = 3 ∨ i = 4 ∨ i = 5 by omega) with rfl | rfl | rfl | rfl | rfl | rfl <;> rfl) (by decide) (by decide) (by decide) (by decide) (by decide) (by decide) (by decide) (Nat.le_of_ble_eq_true rfl) (Nat.le_of_ble_eq_true rfl) rfl rfl rfl rfl dX9_init_35 ?_
  refine k_putF (kc := 4) (t := 7) (ci := 9) (ty := .array (.array .int)) (lR2 := [(4, 3, 5), (4, 4, 6), (7, 0, 8), (7, 1, 9), (7, 2, 10), (7, 3, 11), (7, 4, 12), (7, 5, 13), (4, 5, 7)]) C hin (by decide) (by decide) rfl rfl hin_X9 tyX9 tyX9_ok nmX9 5 (by decide) hF_X9_27 rfl rfl rfl (by decide +kernel) rfl rfl (Nat.le_of_ble_eq_true rfl) rfl rfl dX9_init_39 ?_
  refine k_aload_n C dX9_init_42 rfl 0 rfl ?_
  refine k_new (N := 9) (ci := 1) (fs := [.int 0, .null, .null, .null, .null, .null, .null, .int 0, .null]) (nc2 := 10) (ns2 := 99) C (Fr.r ad _ (Fr.s _ (hF.mono (Nat.le_of_ble_eq_true rfl)) rfl) rfl) (by decide) hin_X1 tyX1 tyX1_ok hCL_X9_30 hIn_X1 hIni_X1 rfl (fun j hj => by rcases (show j = 0 ∨ j = 1 ∨ j = 2 ∨ j = 3 ∨ j = 4 ∨ j = 5 ∨ j = 6 ∨ j = 7 ∨ j = 8 by omega) with rfl | rfl | rfl | rfl | rfl | rfl | rfl | rfl | rfl <;> rfl) rfl (Nat.le_of_ble_eq_true rfl) (Nat.le_of_ble_eq_true rfl) rfl rfl dX9_init_43 ?_
  refine k_dup C dX9_init_46 rfl ?_
  refine k_callIN (b := ad 14) (As := []) (rest := [.ref (ad 14), .ref (ad 4)]) (pn := 0) (nc2 := 17) (ns2 := 177) (lS2 := [(4, 0, 3), (4, 1, 3)]) (lR2 := [(4, 3, 5), (4, 4, 6), (7, 0, 8), (7, 1, 9), (7, 2, 10), (7, 3, 11), (7, 4, 12), (7, 5, 13), (4, 5, 7), (14, 1, 15), (14, 2, 16), (14, 3, 17), (14, 4, 18), (14, 5, 19), (14, 6, 20), (14, 8, 21)]) C (Fr.r ad _ (Fr.s _ (hF.mono (Nat.le_of_ble_eq_true rfl)) rfl) rfl) (fun h => absurd h (by decide)) (ck_X1_14 l dC dI ad cy z C.2.2.2.2.2.2.1) C.2.2.2.2.2.2.2.2.1.n_X9_32 hC_X1_init hIni_X1 hI_X1_init (by decide +kernel) ⟨rfl, rfl⟩ ⟨(Nat.le_of_ble_eq_true rfl), (Nat.le_of_ble_eq_true rfl)⟩ ⟨(Nat.le_of_ble_eq_true rfl), (Nat.le_of_ble_eq_true rfl)⟩ rfl rfl rfl rfl rfl rfl (Nat.le_of_ble_eq_true rfl) dX9_init_47 ?_
  refine k_putF (kc := 4) (t := 14) (ci := 9) (ty := .object "ChimeShares$Chimes") (lR2 := [(4, 3, 5), (4, 4, 6), (7, 0, 8), (7, 1, 9), (7, 2, 10), (7, 3, 11), (7, 4, 12), (7, 5, 13), (4, 5, 7), (14, 1, 15), (14, 2, 16), (14, 3, 17), (14, 4, 18), (14, 5, 19), (14, 6, 20), (14, 8, 21), (4, 6, 14)]) C hin (by decide) (by decide) rfl rfl hin_X9 tyX9 tyX9_ok nmX9 6 (by decide) hF_X9_33 rfl rfl rfl (by decide +kernel) rfl rfl (Nat.le_of_ble_eq_true rfl) rfl rfl dX9_init_50 ?_
  exact k_vret C hr dX9_init_53
set_option maxHeartbeats 4000000 in
set_option maxRecDepth 100000 in
theorem ck_X9_22 (l : Launch) (dC : Nat → ClassId) (dI : Nat → Nat → Nat) (ad : Nat → Nat) (cy : Nat → ClassId) (z : Nat) (hz : adz ad z) : ConK l yX9_init cX9_init 1 { frames := 2, cells := 17, slots := 177, locals := 32 } dC dI ad cy z 23 40 [.ref (ad 22)] [(22, 0, 3), (22, 1, 3)] [(22, 3, 23), (22, 4, 24), (25, 0, 26), (25, 1, 27), (25, 2, 28), (25, 3, 29), (25, 4, 30), (25, 5, 31), (22, 5, 25), (32, 1, 33), (32, 2, 34), (32, 3, 35), (32, 4, 36), (32, 5, 37), (32, 6, 38), (32, 8, 39), (22, 6, 32)] 17 177 := by
  refine con_k (own := RX9) hz (by decide) rfl rfl (Nat.le_of_ble_eq_true rfl) (fun p e s m below meth c σ ρ C hin hr hF hx => ?_)
  show Gk p l e _ s m _ below meth c _ dC dI ad cy 1 z σ ρ 0 0 23 [] [] 0 [(0, .ref (ad 22))] []
  refine k_aload_n C dX9_init_0 rfl 0 rfl ?_
  refine k_obj C hM_X9_3 ⟨(Nat.le_of_ble_eq_true rfl), (Nat.le_of_ble_eq_true rfl)⟩ dX9_init_1 ?_
  refine k_aload_n C dX9_init_4 rfl 0 rfl ?_
  refine k_iconst (v := 3) C dX9_init_5 (by decide) ?_
  refine k_puti (kc := 22) (ci := 9) (ty := .int) (lS2 := [(22, 0, 3)]) C (by decide) (by decide) rfl rfl hin_X9 tyX9 tyX9_ok nmX9 0 (by decide) hF_X9_9 rfl rfl (by decide +kernel) rfl rfl (Nat.le_of_ble_eq_true rfl) rfl rfl dX9_init_6 ?_
  refine k_aload_n C dX9_init_9 rfl 0 rfl ?_
  refine k_iconst (v := 3) C dX9_init_10 (by decide) ?_
  refine k_puti (kc := 22) (ci := 9) (ty := .int) (lS2 := [(22, 0, 3), (22, 1, 3)]) C (by decide) (by decide) rfl rfl hin_X9 tyX9 tyX9_ok nmX9 1 (by decide) hF_X9_15 rfl rfl (by decide +kernel) rfl rfl (Nat.le_of_ble_eq_true rfl) rfl rfl dX9_init_11 ?_
  refine k_aload_n C dX9_init_14 rfl 0 rfl ?_
  refine k_bipush (v := 6) C dX9_init_15 (by decide) ?_
  refine k_newa (ty := .int) (N := 6) (cq := 0) (nc2 := 1) (ns2 := 6) C (Fr.r ad _ (Fr.s _ (hF.mono (Nat.le_of_ble_eq_true rfl)) rfl) rfl) (by decide) rfl hA_int (arr_name C.2.2.2.2.2.1).1 rfl rfl (by decide) (by decide) (by decide) (Nat.le_of_ble_eq_true rfl) (Nat.le_of_ble_eq_true rfl) rfl rfl dX9_init_17 ?_
  refine k_putF (kc := 22) (t := 23) (ci := 9) (ty := .array .int) (lR2 := [(22, 3, 23)]) C hin (by decide) (by decide) rfl rfl hin_X9 tyX9 tyX9_ok nmX9 3 (by decide) hF_X9_18 rfl rfl rfl (by decide +kernel) rfl rfl (Nat.le_of_ble_eq_true rfl) rfl rfl dX9_init_19 ?_
  refine k_aload_n C dX9_init_22 rfl 0 rfl ?_
  refine k_bipush (v := 6) C dX9_init_23 (by decide) ?_
  refine k_newa (ty := .int) (N := 6) (cq := 0) (nc2 := 2) (ns2 := 12) C (Fr.r ad _ (Fr.s _ (hF.mono (Nat.le_of_ble_eq_true rfl)) rfl) rfl) (by decide) rfl hA_int (arr_name C.2.2.2.2.2.1).1 rfl rfl (by decide) (by decide) (by decide) (Nat.le_of_ble_eq_true rfl) (Nat.le_of_ble_eq_true rfl) rfl rfl dX9_init_25 ?_
  refine k_putF (kc := 22) (t := 24) (ci := 9) (ty := .array .int) (lR2 := [(22, 3, 23), (22, 4, 24)]) C hin (by decide) (by decide) rfl rfl hin_X9 tyX9 tyX9_ok nmX9 4 (by decide) hF_X9_22 rfl rfl rfl (by decide +kernel) rfl rfl (Nat.le_of_ble_eq_true rfl) rfl rfl dX9_init_27 ?_
  refine k_aload_n C dX9_init_30 rfl 0 rfl ?_
  refine k_bipush (v := 6) C dX9_init_31 (by decide) ?_
  refine k_bipush (v := 12) C dX9_init_33 (by decide) ?_
  refine k_mna (N := 6) (M := 12) (nc2 := 9) (ns2 := 90) (n2 := 32) (nm := "[[I") (lR2 := [(22, 3, 23), (22, 4, 24), (25, 0, 26), (25, 1, 27), (25, 2, 28), (25, 3, 29), (25, 4, 30), (25, 5, 31)]) C (Fr.r ad _ (Fr.s _ (hF.mono (Nat.le_of_ble_eq_true rfl)) rfl) rfl) (by decide) (by decide) hCL_X9_25 (fun _ => rfl) (fun i hi => by rcases (show i = 0 ∨ i = 1 ∨ i = 2 ∨ i = 3 ∨ i = 4 ∨ i = 5 by omega) with rfl | rfl | rfl | rfl | rfl | rfl <;> rfl) (by decide) (by decide) (by decide) (by decide) (by decide) (by decide) (by decide) (Nat.le_of_ble_eq_true rfl) (Nat.le_of_ble_eq_true rfl) rfl rfl rfl rfl dX9_init_35 ?_
  refine k_putF (kc := 22) (t := 25) (ci := 9) (ty := .array (.array .int)) (lR2 := [(22, 3, 23), (22, 4, 24), (25, 0, 26), (25, 1, 27), (25, 2, 28), (25, 3, 29), (25, 4, 30), (25, 5, 31), (22, 5, 25)]) C hin (by decide) (by decide) rfl rfl hin_X9 tyX9 tyX9_ok nmX9 5 (by decide) hF_X9_27 rfl rfl rfl (by decide +kernel) rfl rfl (Nat.le_of_ble_eq_true rfl) rfl rfl dX9_init_39 ?_
  refine k_aload_n C dX9_init_42 rfl 0 rfl ?_
  refine k_new (N := 9) (ci := 1) (fs := [.int 0, .null, .null, .null, .null, .null, .null, .int 0, .null]) (nc2 := 10) (ns2 := 99) C (Fr.r ad _ (Fr.s _ (hF.mono (Nat.le_of_ble_eq_true rfl)) rfl) rfl) (by decide) hin_X1 tyX1 tyX1_ok hCL_X9_30 hIn_X1 hIni_X1 rfl (fun j hj => by rcases (show j = 0 ∨ j = 1 ∨ j = 2 ∨ j = 3 ∨ j = 4 ∨ j = 5 ∨ j = 6 ∨ j = 7 ∨ j = 8 by omega) with rfl | rfl | rfl | rfl | rfl | rfl | rfl | rfl | rfl <;> rfl) rfl (Nat.le_of_ble_eq_true rfl) (Nat.le_of_ble_eq_true rfl) rfl rfl dX9_init_43 ?_
  refine k_dup C dX9_init_46 rfl ?_
  refine k_callIN (b := ad 32) (As := []) (rest := [.ref (ad 32), .ref (ad 22)]) (pn := 0) (nc2 := 17) (ns2 := 177) (lS2 := [(22, 0, 3), (22, 1, 3)]) (lR2 := [(22, 3, 23), (22, 4, 24), (25, 0, 26), (25, 1, 27), (25, 2, 28), (25, 3, 29), (25, 4, 30), (25, 5, 31), (22, 5, 25), (32, 1, 33), (32, 2, 34), (32, 3, 35), (32, 4, 36), (32, 5, 37), (32, 6, 38), (32, 8, 39)]) C (Fr.r ad _ (Fr.s _ (hF.mono (Nat.le_of_ble_eq_true rfl)) rfl) rfl) (fun h => absurd h (by decide)) (ck_X1_32 l dC dI ad cy z C.2.2.2.2.2.2.1) C.2.2.2.2.2.2.2.2.1.n_X9_32 hC_X1_init hIni_X1 hI_X1_init (by decide +kernel) ⟨rfl, rfl⟩ ⟨(Nat.le_of_ble_eq_true rfl), (Nat.le_of_ble_eq_true rfl)⟩ ⟨(Nat.le_of_ble_eq_true rfl), (Nat.le_of_ble_eq_true rfl)⟩ rfl rfl rfl rfl rfl rfl (Nat.le_of_ble_eq_true rfl) dX9_init_47 ?_
  refine k_putF (kc := 22) (t := 32) (ci := 9) (ty := .object "ChimeShares$Chimes") (lR2 := [(22, 3, 23), (22, 4, 24), (25, 0, 26), (25, 1, 27), (25, 2, 28), (25, 3, 29), (25, 4, 30), (25, 5, 31), (22, 5, 25), (32, 1, 33), (32, 2, 34), (32, 3, 35), (32, 4, 36), (32, 5, 37), (32, 6, 38), (32, 8, 39), (22, 6, 32)]) C hin (by decide) (by decide) rfl rfl hin_X9 tyX9 tyX9_ok nmX9 6 (by decide) hF_X9_33 rfl rfl rfl (by decide +kernel) rfl rfl (Nat.le_of_ble_eq_true rfl) rfl rfl dX9_init_50 ?_
  exact k_vret C hr dX9_init_53
set_option maxHeartbeats 4000000 in
set_option maxRecDepth 100000 in
theorem ck_X5_3 (l : Launch) (dC : Nat → ClassId) (dI : Nat → Nat → Nat) (ad : Nat → Nat) (cy : Nat → ClassId) (z : Nat) (hz : adz ad z) : ConK l yX5_init cX5_init 2 { frames := 3, cells := 18, slots := 184, locals := 52 } dC dI ad cy z 4 22 [.ref (ad 3), .ref (ad 1)] [(4, 0, 3), (4, 1, 3)] [(4, 3, 5), (4, 4, 6), (7, 0, 8), (7, 1, 9), (7, 2, 10), (7, 3, 11), (7, 4, 12), (7, 5, 13), (4, 5, 7), (14, 1, 15), (14, 2, 16), (14, 3, 17), (14, 4, 18), (14, 5, 19), (14, 6, 20), (14, 8, 21), (4, 6, 14), (3, 1, 4), (3, 0, 1)] 18 184 := by
  refine con_k (own := RX5) hz (by decide) rfl rfl (Nat.le_of_ble_eq_true rfl) (fun p e s m below meth c σ ρ C hin hr hF hx => ?_)
  show Gk p l e _ s m _ below meth c _ dC dI ad cy 2 z σ ρ 0 0 4 [] [] 0 [(0, .ref (ad 3)), (1, .ref (ad 1))] []
  refine k_aload_n C dX5_init_0 rfl 0 rfl ?_
  refine k_obj C hM_X5_3 ⟨(Nat.le_of_ble_eq_true rfl), (Nat.le_of_ble_eq_true rfl)⟩ dX5_init_1 ?_
  refine k_aload_n C dX5_init_4 rfl 0 rfl ?_
  refine k_new (N := 7) (ci := 9) (fs := [.int 0, .int 0, .int 0, .null, .null, .null, .null]) (nc2 := 1) (ns2 := 7) C (Fr.r ad _ (Fr.s _ (hF.mono (Nat.le_of_ble_eq_true rfl)) rfl) rfl) (by decide) hin_X9 tyX9 tyX9_ok hCL_X5_9 hIn_X9 hIni_X9 rfl (fun j hj => by rcases (show j = 0 ∨ j = 1 ∨ j = 2 ∨ j = 3 ∨ j = 4 ∨ j = 5 ∨ j = 6 by omega) with rfl | rfl | rfl | rfl | rfl | rfl | rfl <;> rfl) rfl (Nat.le_of_ble_eq_true rfl) (Nat.le_of_ble_eq_true rfl) rfl rfl dX5_init_5 ?_
  refine k_dup C dX5_init_8 rfl ?_
  refine k_callIN (b := ad 4) (As := []) (rest := [.ref (ad 4), .ref (ad 3)]) (pn := 0) (nc2 := 18) (ns2 := 184) (lS2 := [(4, 0, 3), (4, 1, 3)]) (lR2 := [(4, 3, 5), (4, 4, 6), (7, 0, 8), (7, 1, 9), (7, 2, 10), (7, 3, 11), (7, 4, 12), (7, 5, 13), (4, 5, 7), (14, 1, 15), (14, 2, 16), (14, 3, 17), (14, 4, 18), (14, 5, 19), (14, 6, 20), (14, 8, 21), (4, 6, 14)]) C (Fr.r ad _ (Fr.s _ (hF.mono (Nat.le_of_ble_eq_true rfl)) rfl) rfl) (fun h => absurd h (by decide)) (ck_X9_4 l dC dI ad cy z C.2.2.2.2.2.2.1) C.2.2.2.2.2.2.2.2.1.n_X5_11 hC_X9_init hIni_X9 hI_X9_init (by decide +kernel) ⟨rfl, rfl⟩ ⟨(Nat.le_of_ble_eq_true rfl), (Nat.le_of_ble_eq_true rfl)⟩ ⟨(Nat.le_of_ble_eq_true rfl), (Nat.le_of_ble_eq_true rfl)⟩ rfl rfl rfl rfl rfl rfl (Nat.le_of_ble_eq_true rfl) dX5_init_9 ?_
  refine k_putF (kc := 3) (t := 4) (ci := 5) (ty := .object "ChimeShares$Town") (lR2 := [(4, 3, 5), (4, 4, 6), (7, 0, 8), (7, 1, 9), (7, 2, 10), (7, 3, 11), (7, 4, 12), (7, 5, 13), (4, 5, 7), (14, 1, 15), (14, 2, 16), (14, 3, 17), (14, 4, 18), (14, 5, 19), (14, 6, 20), (14, 8, 21), (4, 6, 14), (3, 1, 4)]) C hin (by decide) (by decide) rfl rfl hin_X5 tyX5 tyX5_ok nmX5 1 (by decide) hF_X5_12 rfl rfl rfl (by decide +kernel) rfl rfl (Nat.le_of_ble_eq_true rfl) rfl rfl dX5_init_12 ?_
  refine k_aload_n C dX5_init_15 rfl 0 rfl ?_
  refine k_aload_n C dX5_init_16 rfl 1 rfl ?_
  refine k_putF (kc := 3) (t := 1) (ci := 5) (ty := .object "ChimeShares$Tape") (lR2 := [(4, 3, 5), (4, 4, 6), (7, 0, 8), (7, 1, 9), (7, 2, 10), (7, 3, 11), (7, 4, 12), (7, 5, 13), (4, 5, 7), (14, 1, 15), (14, 2, 16), (14, 3, 17), (14, 4, 18), (14, 5, 19), (14, 6, 20), (14, 8, 21), (4, 6, 14), (3, 1, 4), (3, 0, 1)]) C hin (by decide) (by decide) rfl rfl hin_X5 tyX5 tyX5_ok nmX5 0 (by decide) hF_X5_18 rfl rfl rfl (by decide +kernel) rfl rfl (Nat.le_of_ble_eq_true rfl) rfl rfl dX5_init_17 ?_
  exact k_vret C hr dX5_init_20
set_option maxHeartbeats 4000000 in
set_option maxRecDepth 100000 in
theorem ck_X6_40 (l : Launch) (dC : Nat → ClassId) (dI : Nat → Nat → Nat) (ad : Nat → Nat) (cy : Nat → ClassId) (z : Nat) (hz : adz ad z) : ConK l yX6_init cX6_init 2 { frames := 1, cells := 0, slots := 0, locals := 12 } dC dI ad cy z 41 41 [.ref (ad 40), .ref (ad 22)] [] [(40, 0, 22), (40, 1, 32)] 0 0 := by
  refine con_k (own := RX6) hz (by decide) rfl rfl (Nat.le_of_ble_eq_true rfl) (fun p e s m below meth c σ ρ C hin hr hF hx => ?_)
  show Gk p l e _ s m _ below meth c _ dC dI ad cy 2 z σ ρ 0 0 41 [] [] 0 [(0, .ref (ad 40)), (1, .ref (ad 22))] []
  refine k_aload_n C dX6_init_0 rfl 0 rfl ?_
  refine k_obj C hM_X6_3 ⟨(Nat.le_of_ble_eq_true rfl), (Nat.le_of_ble_eq_true rfl)⟩ dX6_init_1 ?_
  refine k_aload_n C dX6_init_4 rfl 0 rfl ?_
  refine k_aload_n C dX6_init_5 rfl 1 rfl ?_
  refine k_putF (kc := 40) (t := 22) (ci := 6) (ty := .object "ChimeShares$Town") (lR2 := [(40, 0, 22)]) C hin (by decide) (by decide) rfl rfl hin_X6 tyX6 tyX6_ok nmX6 0 (by decide) hF_X6_9 rfl rfl rfl (by decide +kernel) rfl rfl (Nat.le_of_ble_eq_true rfl) rfl rfl dX6_init_6 ?_
  refine k_aload_n C dX6_init_9 rfl 0 rfl ?_
  refine k_aload_n C dX6_init_10 rfl 1 rfl ?_
  refine k_get (kc := 22) (ci := 9) (v := .ref (ad 32)) C (by decide) rfl rfl hin_X9 6 (by decide) hF_X6_15 rfl (by show some (va_rf (ρ 22 6)) = _; rw [hx (by decide)]; rfl) dX6_init_11 ?_
  refine k_putF (kc := 40) (t := 32) (ci := 6) (ty := .object "ChimeShares$Chimes") (lR2 := [(40, 0, 22), (40, 1, 32)]) C hin (by decide) (by decide) rfl rfl hin_X6 tyX6 tyX6_ok nmX6 1 (by decide) hF_X6_21 rfl rfl rfl (by decide +kernel) rfl rfl (Nat.le_of_ble_eq_true rfl) rfl rfl dX6_init_14 ?_
  exact k_vret C hr dX6_init_17
set_option maxHeartbeats 4000000 in
set_option maxRecDepth 100000 in
theorem ck_X0_41 (l : Launch) (dC : Nat → ClassId) (dI : Nat → Nat → Nat) (ad : Nat → Nat) (cy : Nat → ClassId) (z : Nat) (hz : adz ad z) : ConK l yX0_init cX0_init 3 { frames := 1, cells := 4, slots := 24, locals := 12 } dC dI ad cy z 42 46 [.ref (ad 41), .ref (ad 22), .ref (ad 40)] [] [(41, 3, 42), (41, 4, 43), (41, 5, 44), (41, 6, 45), (41, 0, 22), (41, 1, 32), (41, 2, 40)] 4 24 := by
  refine con_k (own := RX0) hz (by decide) rfl rfl (Nat.le_of_ble_eq_true rfl) (fun p e s m below meth c σ ρ C hin hr hF hx => ?_)
  show Gk p l e _ s m _ below meth c _ dC dI ad cy 3 z σ ρ 0 0 42 [] [] 0 [(0, .ref (ad 41)), (1, .ref (ad 22)), (2, .ref (ad 40))] []
  refine k_aload_n C dX0_init_0 rfl 0 rfl ?_
  refine k_obj C hM_X0_3 ⟨(Nat.le_of_ble_eq_true rfl), (Nat.le_of_ble_eq_true rfl)⟩ dX0_init_1 ?_
  refine k_aload_n C dX0_init_4 rfl 0 rfl ?_
  refine k_bipush (v := 6) C dX0_init_5 (by decide) ?_
  refine k_newa (ty := .int) (N := 6) (cq := 0) (nc2 := 1) (ns2 := 6) C (Fr.r ad _ (Fr.s _ (hF.mono (Nat.le_of_ble_eq_true rfl)) rfl) rfl) (by decide) rfl hA_int (arr_name C.2.2.2.2.2.1).1 rfl rfl (by decide) (by decide) (by decide) (Nat.le_of_ble_eq_true rfl) (Nat.le_of_ble_eq_true rfl) rfl rfl dX0_init_7 ?_
  refine k_putF (kc := 41) (t := 42) (ci := 0) (ty := .array .int) (lR2 := [(41, 3, 42)]) C hin (by decide) (by decide) rfl rfl hin_X0 tyX0 tyX0_ok nmX0 3 (by decide) hF_X0_9 rfl rfl rfl (by decide +kernel) rfl rfl (Nat.le_of_ble_eq_true rfl) rfl rfl dX0_init_9 ?_
  refine k_aload_n C dX0_init_12 rfl 0 rfl ?_
  refine k_bipush (v := 6) C dX0_init_13 (by decide) ?_
  refine k_newa (ty := .int) (N := 6) (cq := 0) (nc2 := 2) (ns2 := 12) C (Fr.r ad _ (Fr.s _ (hF.mono (Nat.le_of_ble_eq_true rfl)) rfl) rfl) (by decide) rfl hA_int (arr_name C.2.2.2.2.2.1).1 rfl rfl (by decide) (by decide) (by decide) (Nat.le_of_ble_eq_true rfl) (Nat.le_of_ble_eq_true rfl) rfl rfl dX0_init_15 ?_
  refine k_putF (kc := 41) (t := 43) (ci := 0) (ty := .array .int) (lR2 := [(41, 3, 42), (41, 4, 43)]) C hin (by decide) (by decide) rfl rfl hin_X0 tyX0 tyX0_ok nmX0 4 (by decide) hF_X0_15 rfl rfl rfl (by decide +kernel) rfl rfl (Nat.le_of_ble_eq_true rfl) rfl rfl dX0_init_17 ?_
  refine k_aload_n C dX0_init_20 rfl 0 rfl ?_
  refine k_bipush (v := 6) C dX0_init_21 (by decide) ?_
  refine k_newa (ty := .int) (N := 6) (cq := 0) (nc2 := 3) (ns2 := 18) C (Fr.r ad _ (Fr.s _ (hF.mono (Nat.le_of_ble_eq_true rfl)) rfl) rfl) (by decide) rfl hA_int (arr_name C.2.2.2.2.2.1).1 rfl rfl (by decide) (by decide) (by decide) (Nat.le_of_ble_eq_true rfl) (Nat.le_of_ble_eq_true rfl) rfl rfl dX0_init_23 ?_
  refine k_putF (kc := 41) (t := 44) (ci := 0) (ty := .array .int) (lR2 := [(41, 3, 42), (41, 4, 43), (41, 5, 44)]) C hin (by decide) (by decide) rfl rfl hin_X0 tyX0 tyX0_ok nmX0 5 (by decide) hF_X0_18 rfl rfl rfl (by decide +kernel) rfl rfl (Nat.le_of_ble_eq_true rfl) rfl rfl dX0_init_25 ?_
  refine k_aload_n C dX0_init_28 rfl 0 rfl ?_
  refine k_bipush (v := 6) C dX0_init_29 (by decide) ?_
  refine k_newa (ty := .int) (N := 6) (cq := 0) (nc2 := 4) (ns2 := 24) C (Fr.r ad _ (Fr.s _ (hF.mono (Nat.le_of_ble_eq_true rfl)) rfl) rfl) (by decide) rfl hA_int (arr_name C.2.2.2.2.2.1).1 rfl rfl (by decide) (by decide) (by decide) (Nat.le_of_ble_eq_true rfl) (Nat.le_of_ble_eq_true rfl) rfl rfl dX0_init_31 ?_
  refine k_putF (kc := 41) (t := 45) (ci := 0) (ty := .array .int) (lR2 := [(41, 3, 42), (41, 4, 43), (41, 5, 44), (41, 6, 45)]) C hin (by decide) (by decide) rfl rfl hin_X0 tyX0 tyX0_ok nmX0 6 (by decide) hF_X0_21 rfl rfl rfl (by decide +kernel) rfl rfl (Nat.le_of_ble_eq_true rfl) rfl rfl dX0_init_33 ?_
  refine k_aload_n C dX0_init_36 rfl 0 rfl ?_
  refine k_aload_n C dX0_init_37 rfl 1 rfl ?_
  refine k_putF (kc := 41) (t := 22) (ci := 0) (ty := .object "ChimeShares$Town") (lR2 := [(41, 3, 42), (41, 4, 43), (41, 5, 44), (41, 6, 45), (41, 0, 22)]) C hin (by decide) (by decide) rfl rfl hin_X0 tyX0 tyX0_ok nmX0 0 (by decide) hF_X0_24 rfl rfl rfl (by decide +kernel) rfl rfl (Nat.le_of_ble_eq_true rfl) rfl rfl dX0_init_38 ?_
  refine k_aload_n C dX0_init_41 rfl 0 rfl ?_
  refine k_aload_n C dX0_init_42 rfl 1 rfl ?_
  refine k_get (kc := 22) (ci := 9) (v := .ref (ad 32)) C (by decide) rfl rfl hin_X9 6 (by decide) hF_X0_28 rfl (by show some (va_rf (ρ 22 6)) = _; rw [hx (by decide)]; rfl) dX0_init_43 ?_
  refine k_putF (kc := 41) (t := 32) (ci := 0) (ty := .object "ChimeShares$Chimes") (lR2 := [(41, 3, 42), (41, 4, 43), (41, 5, 44), (41, 6, 45), (41, 0, 22), (41, 1, 32)]) C hin (by decide) (by decide) rfl rfl hin_X0 tyX0 tyX0_ok nmX0 1 (by decide) hF_X0_34 rfl rfl rfl (by decide +kernel) rfl rfl (Nat.le_of_ble_eq_true rfl) rfl rfl dX0_init_46 ?_
  refine k_aload_n C dX0_init_49 rfl 0 rfl ?_
  refine k_aload_n C dX0_init_50 rfl 2 rfl ?_
  refine k_putF (kc := 41) (t := 40) (ci := 0) (ty := .object "ChimeShares$Ringing") (lR2 := [(41, 3, 42), (41, 4, 43), (41, 5, 44), (41, 6, 45), (41, 0, 22), (41, 1, 32), (41, 2, 40)]) C hin (by decide) (by decide) rfl rfl hin_X0 tyX0 tyX0_ok nmX0 2 (by decide) hF_X0_35 rfl rfl rfl (by decide +kernel) rfl rfl (Nat.le_of_ble_eq_true rfl) rfl rfl dX0_init_51 ?_
  exact k_vret C hr dX0_init_54
set_option maxHeartbeats 4000000 in
set_option maxRecDepth 100000 in
theorem ck_X2_46 (l : Launch) (dC : Nat → ClassId) (dI : Nat → Nat → Nat) (ad : Nat → Nat) (cy : Nat → ClassId) (z : Nat) (hz : adz ad z) : ConK l yX2_init cX2_init 3 { frames := 1, cells := 8, slots := 48, locals := 12 } dC dI ad cy z 47 55 [.ref (ad 46), .ref (ad 22), .ref (ad 40)] [] [(46, 2, 47), (48, 0, 49), (48, 1, 50), (48, 2, 51), (48, 3, 52), (48, 4, 53), (48, 5, 54), (46, 3, 48), (46, 0, 22), (46, 1, 40)] 8 48 := by
  refine con_k (own := RX2) hz (by decide) rfl rfl (Nat.le_of_ble_eq_true rfl) (fun p e s m below meth c σ ρ C hin hr hF hx => ?_)
  show Gk p l e _ s m _ below meth c _ dC dI ad cy 3 z σ ρ 0 0 47 [] [] 0 [(0, .ref (ad 46)), (1, .ref (ad 22)), (2, .ref (ad 40))] []
  refine k_aload_n C dX2_init_0 rfl 0 rfl ?_
  refine k_obj C hM_X2_3 ⟨(Nat.le_of_ble_eq_true rfl), (Nat.le_of_ble_eq_true rfl)⟩ dX2_init_1 ?_
  refine k_aload_n C dX2_init_4 rfl 0 rfl ?_
  refine k_bipush (v := 6) C dX2_init_5 (by decide) ?_
  refine k_newa (ty := .int) (N := 6) (cq := 0) (nc2 := 1) (ns2 := 6) C (Fr.r ad _ (Fr.s _ (hF.mono (Nat.le_of_ble_eq_true rfl)) rfl) rfl) (by decide) rfl hA_int (arr_name C.2.2.2.2.2.1).1 rfl rfl (by decide) (by decide) (by decide) (Nat.le_of_ble_eq_true rfl) (Nat.le_of_ble_eq_true rfl) rfl rfl dX2_init_7 ?_
  refine k_putF (kc := 46) (t := 47) (ci := 2) (ty := .array .int) (lR2 := [(46, 2, 47)]) C hin (by decide) (by decide) rfl rfl hin_X2 tyX2 tyX2_ok nmX2 2 (by decide) hF_X2_9 rfl rfl rfl (by decide +kernel) rfl rfl (Nat.le_of_ble_eq_true rfl) rfl rfl dX2_init_9 ?_
  refine k_aload_n C dX2_init_12 rfl 0 rfl ?_
  refine k_bipush (v := 6) C dX2_init_13 (by decide) ?_
  refine k_bipush (v := 6) C dX2_init_15 (by decide) ?_
  refine k_mna (N := 6) (M := 6) (nc2 := 8) (ns2 := 48) (n2 := 55) (nm := "[[I") (lR2 := [(46, 2, 47), (48, 0, 49), (48, 1, 50), (48, 2, 51), (48, 3, 52), (48, 4, 53), (48, 5, 54)]) C (Fr.r ad _ (Fr.s _ (hF.mono (Nat.le_of_ble_eq_true rfl)) rfl) rfl) (by decide) (by decide) hCL_X2_15 (fun _ => rfl) (fun i hi => by rcases (show i = 0 ∨ i = 1 ∨ i = 2 ∨ i = 3 ∨ i = 4 ∨ i = 5 by omega) with rfl | rfl | rfl | rfl | rfl | rfl <;> rfl) (by decide) (by decide) (by decide) (by decide) (by decide) (by decide) (by decide) (Nat.le_of_ble_eq_true rfl) (Nat.le_of_ble_eq_true rfl) rfl rfl rfl rfl dX2_init_17 ?_
  refine k_putF (kc := 46) (t := 48) (ci := 2) (ty := .array (.array .int)) (lR2 := [(46, 2, 47), (48, 0, 49), (48, 1, 50), (48, 2, 51), (48, 3, 52), (48, 4, 53), (48, 5, 54), (46, 3, 48)]) C hin (by decide) (by decide) rfl rfl hin_X2 tyX2 tyX2_ok nmX2 3 (by decide) hF_X2_17 rfl rfl rfl (by decide +kernel) rfl rfl (Nat.le_of_ble_eq_true rfl) rfl rfl dX2_init_21 ?_
  refine k_aload_n C dX2_init_24 rfl 0 rfl ?_
  refine k_aload_n C dX2_init_25 rfl 1 rfl ?_
  refine k_putF (kc := 46) (t := 22) (ci := 2) (ty := .object "ChimeShares$Town") (lR2 := [(46, 2, 47), (48, 0, 49), (48, 1, 50), (48, 2, 51), (48, 3, 52), (48, 4, 53), (48, 5, 54), (46, 3, 48), (46, 0, 22)]) C hin (by decide) (by decide) rfl rfl hin_X2 tyX2 tyX2_ok nmX2 0 (by decide) hF_X2_20 rfl rfl rfl (by decide +kernel) rfl rfl (Nat.le_of_ble_eq_true rfl) rfl rfl dX2_init_26 ?_
  refine k_aload_n C dX2_init_29 rfl 0 rfl ?_
  refine k_aload_n C dX2_init_30 rfl 2 rfl ?_
  refine k_putF (kc := 46) (t := 40) (ci := 2) (ty := .object "ChimeShares$Ringing") (lR2 := [(46, 2, 47), (48, 0, 49), (48, 1, 50), (48, 2, 51), (48, 3, 52), (48, 4, 53), (48, 5, 54), (46, 3, 48), (46, 0, 22), (46, 1, 40)]) C hin (by decide) (by decide) rfl rfl hin_X2 tyX2 tyX2_ok nmX2 1 (by decide) hF_X2_24 rfl rfl rfl (by decide +kernel) rfl rfl (Nat.le_of_ble_eq_true rfl) rfl rfl dX2_init_31 ?_
  exact k_vret C hr dX2_init_34
set_option maxHeartbeats 4000000 in
set_option maxRecDepth 100000 in
theorem ck_X4_55 (l : Launch) (dC : Nat → ClassId) (dI : Nat → Nat → Nat) (ad : Nat → Nat) (cy : Nat → ClassId) (z : Nat) (hz : adz ad z) : ConK l yX4_init cX4_init 2 { frames := 1, cells := 14, slots := 168, locals := 12 } dC dI ad cy z 56 70 [.ref (ad 55), .ref (ad 22)] [] [(56, 0, 57), (56, 1, 58), (56, 2, 59), (56, 3, 60), (56, 4, 61), (56, 5, 62), (56, 6, 63), (56, 7, 64), (56, 8, 65), (56, 9, 66), (56, 10, 67), (56, 11, 68), (55, 2, 56), (55, 3, 69), (55, 0, 22), (55, 1, 32)] 14 168 := by
  refine con_k (own := RX4) hz (by decide) rfl rfl (Nat.le_of_ble_eq_true rfl) (fun p e s m below meth c σ ρ C hin hr hF hx => ?_)
  show Gk p l e _ s m _ below meth c _ dC dI ad cy 2 z σ ρ 0 0 56 [] [] 0 [(0, .ref (ad 55)), (1, .ref (ad 22))] []
  refine k_aload_n C dX4_init_0 rfl 0 rfl ?_
  refine k_obj C hM_X4_3 ⟨(Nat.le_of_ble_eq_true rfl), (Nat.le_of_ble_eq_true rfl)⟩ dX4_init_1 ?_
  refine k_aload_n C dX4_init_4 rfl 0 rfl ?_
  refine k_bipush (v := 12) C dX4_init_5 (by decide) ?_
  refine k_bipush (v := 12) C dX4_init_7 (by decide) ?_
  refine k_mna (N := 12) (M := 12) (nc2 := 13) (ns2 := 156) (n2 := 69) (nm := "[[I") (lR2 := [(56, 0, 57), (56, 1, 58), (56, 2, 59), (56, 3, 60), (56, 4, 61), (56, 5, 62), (56, 6, 63), (56, 7, 64), (56, 8, 65), (56, 9, 66), (56, 10, 67), (56, 11, 68)]) C (Fr.r ad _ (Fr.s _ (hF.mono (Nat.le_of_ble_eq_true rfl)) rfl) rfl) (by decide) (by decide) hCL_X4_9 (fun _ => rfl) (fun i hi => by rcases (show i = 0 ∨ i = 1 ∨ i = 2 ∨ i = 3 ∨ i = 4 ∨ i = 5 ∨ i = 6 ∨ i = 7 ∨ i = 8 ∨ i = 9 ∨ i = 10 ∨ i = 11 by omega) with rfl | rfl | rfl | rfl | rfl | rfl | rfl | rfl | rfl | rfl | rfl | rfl <;> rfl) (by decide) (by decide) (by decide) (by decide) (by decide) (by decide) (by decide) (Nat.le_of_ble_eq_true rfl) (Nat.le_of_ble_eq_true rfl) rfl rfl rfl rfl dX4_init_9 ?_
  refine k_putF (kc := 55) (t := 56) (ci := 4) (ty := .array (.array .int)) (lR2 := [(56, 0, 57), (56, 1, 58), (56, 2, 59), (56, 3, 60), (56, 4, 61), (56, 5, 62), (56, 6, 63), (56, 7, 64), (56, 8, 65), (56, 9, 66), (56, 10, 67), (56, 11, 68), (55, 2, 56)]) C hin (by decide) (by decide) rfl rfl hin_X4 tyX4 tyX4_ok nmX4 2 (by decide) hF_X4_11 rfl rfl rfl (by decide +kernel) rfl rfl (Nat.le_of_ble_eq_true rfl) rfl rfl dX4_init_13 ?_
  refine k_aload_n C dX4_init_16 rfl 0 rfl ?_
  refine k_bipush (v := 12) C dX4_init_17 (by decide) ?_
  refine k_newa (ty := .int) (N := 12) (cq := 0) (nc2 := 14) (ns2 := 168) C (Fr.r ad _ (Fr.s _ (hF.mono (Nat.le_of_ble_eq_true rfl)) rfl) rfl) (by decide) rfl hA_int (arr_name C.2.2.2.2.2.1).1 rfl rfl (by decide) (by decide) (by decide) (Nat.le_of_ble_eq_true rfl) (Nat.le_of_ble_eq_true rfl) rfl rfl dX4_init_19 ?_
  refine k_putF (kc := 55) (t := 69) (ci := 4) (ty := .array .int) (lR2 := [(56, 0, 57), (56, 1, 58), (56, 2, 59), (56, 3, 60), (56, 4, 61), (56, 5, 62), (56, 6, 63), (56, 7, 64), (56, 8, 65), (56, 9, 66), (56, 10, 67), (56, 11, 68), (55, 2, 56), (55, 3, 69)]) C hin (by decide) (by decide) rfl rfl hin_X4 tyX4 tyX4_ok nmX4 3 (by decide) hF_X4_16 rfl rfl rfl (by decide +kernel) rfl rfl (Nat.le_of_ble_eq_true rfl) rfl rfl dX4_init_21 ?_
  refine k_aload_n C dX4_init_24 rfl 0 rfl ?_
  refine k_aload_n C dX4_init_25 rfl 1 rfl ?_
  refine k_putF (kc := 55) (t := 22) (ci := 4) (ty := .object "ChimeShares$Town") (lR2 := [(56, 0, 57), (56, 1, 58), (56, 2, 59), (56, 3, 60), (56, 4, 61), (56, 5, 62), (56, 6, 63), (56, 7, 64), (56, 8, 65), (56, 9, 66), (56, 10, 67), (56, 11, 68), (55, 2, 56), (55, 3, 69), (55, 0, 22)]) C hin (by decide) (by decide) rfl rfl hin_X4 tyX4 tyX4_ok nmX4 0 (by decide) hF_X4_20 rfl rfl rfl (by decide +kernel) rfl rfl (Nat.le_of_ble_eq_true rfl) rfl rfl dX4_init_26 ?_
  refine k_aload_n C dX4_init_29 rfl 0 rfl ?_
  refine k_aload_n C dX4_init_30 rfl 1 rfl ?_
  refine k_get (kc := 22) (ci := 9) (v := .ref (ad 32)) C (by decide) rfl rfl hin_X9 6 (by decide) hF_X4_24 rfl (by show some (va_rf (ρ 22 6)) = _; rw [hx (by decide)]; rfl) dX4_init_31 ?_
  refine k_putF (kc := 55) (t := 32) (ci := 4) (ty := .object "ChimeShares$Chimes") (lR2 := [(56, 0, 57), (56, 1, 58), (56, 2, 59), (56, 3, 60), (56, 4, 61), (56, 5, 62), (56, 6, 63), (56, 7, 64), (56, 8, 65), (56, 9, 66), (56, 10, 67), (56, 11, 68), (55, 2, 56), (55, 3, 69), (55, 0, 22), (55, 1, 32)]) C hin (by decide) (by decide) rfl rfl hin_X4 tyX4 tyX4_ok nmX4 1 (by decide) hF_X4_30 rfl rfl rfl (by decide +kernel) rfl rfl (Nat.le_of_ble_eq_true rfl) rfl rfl dX4_init_34 ?_
  exact k_vret C hr dX4_init_37
set_option maxHeartbeats 4000000 in
set_option maxRecDepth 100000 in
theorem ck_X3_70 (l : Launch) (dC : Nat → ClassId) (dI : Nat → Nat → Nat) (ad : Nat → Nat) (cy : Nat → ClassId) (z : Nat) (hz : adz ad z) : ConK l yX3_init cX3_init 2 { frames := 1, cells := 0, slots := 0, locals := 12 } dC dI ad cy z 71 71 [.ref (ad 70), .ref (ad 22)] [] [(70, 0, 22), (70, 1, 32)] 0 0 := by
  refine con_k (own := RX3) hz (by decide) rfl rfl (Nat.le_of_ble_eq_true rfl) (fun p e s m below meth c σ ρ C hin hr hF hx => ?_)
  show Gk p l e _ s m _ below meth c _ dC dI ad cy 2 z σ ρ 0 0 71 [] [] 0 [(0, .ref (ad 70)), (1, .ref (ad 22))] []
  refine k_aload_n C dX3_init_0 rfl 0 rfl ?_
  refine k_obj C hM_X3_3 ⟨(Nat.le_of_ble_eq_true rfl), (Nat.le_of_ble_eq_true rfl)⟩ dX3_init_1 ?_
  refine k_aload_n C dX3_init_4 rfl 0 rfl ?_
  refine k_aload_n C dX3_init_5 rfl 1 rfl ?_
  refine k_putF (kc := 70) (t := 22) (ci := 3) (ty := .object "ChimeShares$Town") (lR2 := [(70, 0, 22)]) C hin (by decide) (by decide) rfl rfl hin_X3 tyX3 tyX3_ok nmX3 0 (by decide) hF_X3_9 rfl rfl rfl (by decide +kernel) rfl rfl (Nat.le_of_ble_eq_true rfl) rfl rfl dX3_init_6 ?_
  refine k_aload_n C dX3_init_9 rfl 0 rfl ?_
  refine k_aload_n C dX3_init_10 rfl 1 rfl ?_
  refine k_get (kc := 22) (ci := 9) (v := .ref (ad 32)) C (by decide) rfl rfl hin_X9 6 (by decide) hF_X3_15 rfl (by show some (va_rf (ρ 22 6)) = _; rw [hx (by decide)]; rfl) dX3_init_11 ?_
  refine k_putF (kc := 70) (t := 32) (ci := 3) (ty := .object "ChimeShares$Chimes") (lR2 := [(70, 0, 22), (70, 1, 32)]) C hin (by decide) (by decide) rfl rfl hin_X3 tyX3 tyX3_ok nmX3 1 (by decide) hF_X3_21 rfl rfl rfl (by decide +kernel) rfl rfl (Nat.le_of_ble_eq_true rfl) rfl rfl dX3_init_14 ?_
  exact k_vret C hr dX3_init_17
set_option maxHeartbeats 4000000 in
set_option maxRecDepth 100000 in
theorem ck_X7_90 (l : Launch) (dC : Nat → ClassId) (dI : Nat → Nat → Nat) (ad : Nat → Nat) (cy : Nat → ClassId) (z : Nat) (hz : adz ad z) : ConK l yX7_init cX7_init 1 { frames := 1, cells := 1, slots := 40, locals := 12 } dC dI ad cy z 91 92 [.ref (ad 90)] [(90, 0, (-1))] [(90, 2, 91)] 1 40 := by
  refine con_k (own := RX7) hz (by decide) rfl rfl (Nat.le_of_ble_eq_true rfl) (fun p e s m below meth c σ ρ C hin hr hF hx => ?_)
  show Gk p l e _ s m _ below meth c _ dC dI ad cy 1 z σ ρ 0 0 91 [] [] 0 [(0, .ref (ad 90))] []
  refine k_aload_n C dX7_init_0 rfl 0 rfl ?_
  refine k_obj C hM_X7_3 ⟨(Nat.le_of_ble_eq_true rfl), (Nat.le_of_ble_eq_true rfl)⟩ dX7_init_1 ?_
  refine k_aload_n C dX7_init_4 rfl 0 rfl ?_
  refine k_iconst (v := (-1)) C dX7_init_5 (by decide) ?_
  refine k_puti (kc := 90) (ci := 7) (ty := .int) (lS2 := [(90, 0, (-1))]) C (by decide) (by decide) rfl rfl hin_X7 tyX7 tyX7_ok nmX7 0 (by decide) hF_X7_11 rfl rfl (by decide +kernel) rfl rfl (Nat.le_of_ble_eq_true rfl) rfl rfl dX7_init_6 ?_
  refine k_aload_n C dX7_init_9 rfl 0 rfl ?_
  refine k_bipush (v := 40) C dX7_init_10 (by decide) ?_
  refine k_newa (ty := .int) (N := 40) (cq := 0) (nc2 := 1) (ns2 := 40) C (Fr.r ad _ (Fr.s _ (hF.mono (Nat.le_of_ble_eq_true rfl)) rfl) rfl) (by decide) rfl hA_int (arr_name C.2.2.2.2.2.1).1 rfl rfl (by decide) (by decide) (by decide) (Nat.le_of_ble_eq_true rfl) (Nat.le_of_ble_eq_true rfl) rfl rfl dX7_init_12 ?_
  refine k_putF (kc := 90) (t := 91) (ci := 7) (ty := .array .int) (lR2 := [(90, 2, 91)]) C hin (by decide) (by decide) rfl rfl hin_X7 tyX7 tyX7_ok nmX7 2 (by decide) hF_X7_15 rfl rfl rfl (by decide +kernel) rfl rfl (Nat.le_of_ble_eq_true rfl) rfl rfl dX7_init_14 ?_
  exact k_vret C hr dX7_init_17
set_option maxHeartbeats 4000000 in
set_option maxRecDepth 100000 in
theorem ck_X7_92 (l : Launch) (dC : Nat → ClassId) (dI : Nat → Nat → Nat) (ad : Nat → Nat) (cy : Nat → ClassId) (z : Nat) (hz : adz ad z) : ConK l yX7_init cX7_init 1 { frames := 1, cells := 1, slots := 40, locals := 12 } dC dI ad cy z 93 94 [.ref (ad 92)] [(92, 0, (-1))] [(92, 2, 93)] 1 40 := by
  refine con_k (own := RX7) hz (by decide) rfl rfl (Nat.le_of_ble_eq_true rfl) (fun p e s m below meth c σ ρ C hin hr hF hx => ?_)
  show Gk p l e _ s m _ below meth c _ dC dI ad cy 1 z σ ρ 0 0 93 [] [] 0 [(0, .ref (ad 92))] []
  refine k_aload_n C dX7_init_0 rfl 0 rfl ?_
  refine k_obj C hM_X7_3 ⟨(Nat.le_of_ble_eq_true rfl), (Nat.le_of_ble_eq_true rfl)⟩ dX7_init_1 ?_
  refine k_aload_n C dX7_init_4 rfl 0 rfl ?_
  refine k_iconst (v := (-1)) C dX7_init_5 (by decide) ?_
  refine k_puti (kc := 92) (ci := 7) (ty := .int) (lS2 := [(92, 0, (-1))]) C (by decide) (by decide) rfl rfl hin_X7 tyX7 tyX7_ok nmX7 0 (by decide) hF_X7_11 rfl rfl (by decide +kernel) rfl rfl (Nat.le_of_ble_eq_true rfl) rfl rfl dX7_init_6 ?_
  refine k_aload_n C dX7_init_9 rfl 0 rfl ?_
  refine k_bipush (v := 40) C dX7_init_10 (by decide) ?_
  refine k_newa (ty := .int) (N := 40) (cq := 0) (nc2 := 1) (ns2 := 40) C (Fr.r ad _ (Fr.s _ (hF.mono (Nat.le_of_ble_eq_true rfl)) rfl) rfl) (by decide) rfl hA_int (arr_name C.2.2.2.2.2.1).1 rfl rfl (by decide) (by decide) (by decide) (Nat.le_of_ble_eq_true rfl) (Nat.le_of_ble_eq_true rfl) rfl rfl dX7_init_12 ?_
  refine k_putF (kc := 92) (t := 93) (ci := 7) (ty := .array .int) (lR2 := [(92, 2, 93)]) C hin (by decide) (by decide) rfl rfl hin_X7 tyX7 tyX7_ok nmX7 2 (by decide) hF_X7_15 rfl rfl rfl (by decide +kernel) rfl rfl (Nat.le_of_ble_eq_true rfl) rfl rfl dX7_init_14 ?_
  exact k_vret C hr dX7_init_17
set_option maxHeartbeats 4000000 in
set_option maxRecDepth 100000 in
theorem ck_X7_94 (l : Launch) (dC : Nat → ClassId) (dI : Nat → Nat → Nat) (ad : Nat → Nat) (cy : Nat → ClassId) (z : Nat) (hz : adz ad z) : ConK l yX7_init cX7_init 1 { frames := 1, cells := 1, slots := 40, locals := 12 } dC dI ad cy z 95 96 [.ref (ad 94)] [(94, 0, (-1))] [(94, 2, 95)] 1 40 := by
  refine con_k (own := RX7) hz (by decide) rfl rfl (Nat.le_of_ble_eq_true rfl) (fun p e s m below meth c σ ρ C hin hr hF hx => ?_)
  show Gk p l e _ s m _ below meth c _ dC dI ad cy 1 z σ ρ 0 0 95 [] [] 0 [(0, .ref (ad 94))] []
  refine k_aload_n C dX7_init_0 rfl 0 rfl ?_
  refine k_obj C hM_X7_3 ⟨(Nat.le_of_ble_eq_true rfl), (Nat.le_of_ble_eq_true rfl)⟩ dX7_init_1 ?_
  refine k_aload_n C dX7_init_4 rfl 0 rfl ?_
  refine k_iconst (v := (-1)) C dX7_init_5 (by decide) ?_
  refine k_puti (kc := 94) (ci := 7) (ty := .int) (lS2 := [(94, 0, (-1))]) C (by decide) (by decide) rfl rfl hin_X7 tyX7 tyX7_ok nmX7 0 (by decide) hF_X7_11 rfl rfl (by decide +kernel) rfl rfl (Nat.le_of_ble_eq_true rfl) rfl rfl dX7_init_6 ?_
  refine k_aload_n C dX7_init_9 rfl 0 rfl ?_
  refine k_bipush (v := 40) C dX7_init_10 (by decide) ?_
  refine k_newa (ty := .int) (N := 40) (cq := 0) (nc2 := 1) (ns2 := 40) C (Fr.r ad _ (Fr.s _ (hF.mono (Nat.le_of_ble_eq_true rfl)) rfl) rfl) (by decide) rfl hA_int (arr_name C.2.2.2.2.2.1).1 rfl rfl (by decide) (by decide) (by decide) (Nat.le_of_ble_eq_true rfl) (Nat.le_of_ble_eq_true rfl) rfl rfl dX7_init_12 ?_
  refine k_putF (kc := 94) (t := 95) (ci := 7) (ty := .array .int) (lR2 := [(94, 2, 95)]) C hin (by decide) (by decide) rfl rfl hin_X7 tyX7 tyX7_ok nmX7 2 (by decide) hF_X7_15 rfl rfl rfl (by decide +kernel) rfl rfl (Nat.le_of_ble_eq_true rfl) rfl rfl dX7_init_14 ?_
  exact k_vret C hr dX7_init_17
set_option maxHeartbeats 4000000 in
set_option maxRecDepth 100000 in
theorem ck_X7_96 (l : Launch) (dC : Nat → ClassId) (dI : Nat → Nat → Nat) (ad : Nat → Nat) (cy : Nat → ClassId) (z : Nat) (hz : adz ad z) : ConK l yX7_init cX7_init 1 { frames := 1, cells := 1, slots := 40, locals := 12 } dC dI ad cy z 97 98 [.ref (ad 96)] [(96, 0, (-1))] [(96, 2, 97)] 1 40 := by
  refine con_k (own := RX7) hz (by decide) rfl rfl (Nat.le_of_ble_eq_true rfl) (fun p e s m below meth c σ ρ C hin hr hF hx => ?_)
  show Gk p l e _ s m _ below meth c _ dC dI ad cy 1 z σ ρ 0 0 97 [] [] 0 [(0, .ref (ad 96))] []
  refine k_aload_n C dX7_init_0 rfl 0 rfl ?_
  refine k_obj C hM_X7_3 ⟨(Nat.le_of_ble_eq_true rfl), (Nat.le_of_ble_eq_true rfl)⟩ dX7_init_1 ?_
  refine k_aload_n C dX7_init_4 rfl 0 rfl ?_
  refine k_iconst (v := (-1)) C dX7_init_5 (by decide) ?_
  refine k_puti (kc := 96) (ci := 7) (ty := .int) (lS2 := [(96, 0, (-1))]) C (by decide) (by decide) rfl rfl hin_X7 tyX7 tyX7_ok nmX7 0 (by decide) hF_X7_11 rfl rfl (by decide +kernel) rfl rfl (Nat.le_of_ble_eq_true rfl) rfl rfl dX7_init_6 ?_
  refine k_aload_n C dX7_init_9 rfl 0 rfl ?_
  refine k_bipush (v := 40) C dX7_init_10 (by decide) ?_
  refine k_newa (ty := .int) (N := 40) (cq := 0) (nc2 := 1) (ns2 := 40) C (Fr.r ad _ (Fr.s _ (hF.mono (Nat.le_of_ble_eq_true rfl)) rfl) rfl) (by decide) rfl hA_int (arr_name C.2.2.2.2.2.1).1 rfl rfl (by decide) (by decide) (by decide) (Nat.le_of_ble_eq_true rfl) (Nat.le_of_ble_eq_true rfl) rfl rfl dX7_init_12 ?_
  refine k_putF (kc := 96) (t := 97) (ci := 7) (ty := .array .int) (lR2 := [(96, 2, 97)]) C hin (by decide) (by decide) rfl rfl hin_X7 tyX7 tyX7_ok nmX7 2 (by decide) hF_X7_15 rfl rfl rfl (by decide +kernel) rfl rfl (Nat.le_of_ble_eq_true rfl) rfl rfl dX7_init_14 ?_
  exact k_vret C hr dX7_init_17
end
section
set_option maxHeartbeats 4000000 in
set_option maxRecDepth 100000 in
theorem ck_X10_0 (l : Launch) (dC : Nat → ClassId) (dI : Nat → Nat → Nat) (ad : Nat → Nat) (cy : Nat → ClassId) (z : Nat) (hz : adz ad z) : ConK l yX10_init cX10_init 2 { frames := 4, cells := 97, slots := 1327, locals := 73 } dC dI ad cy z 1 98 [.ref (ad 0)] [(4, 0, 3), (4, 1, 3), (22, 0, 3), (22, 1, 3), (90, 0, (-1)), (92, 0, (-1)), (94, 0, (-1)), (96, 0, (-1))] [(1, 0, 2), (0, 0, 1), (4, 3, 5), (4, 4, 6), (7, 0, 8), (7, 1, 9), (7, 2, 10), (7, 3, 11), (7, 4, 12), (7, 5, 13), (4, 5, 7), (14, 1, 15), (14, 2, 16), (14, 3, 17), (14, 4, 18), (14, 5, 19), (14, 6, 20), (14, 8, 21), (4, 6, 14), (3, 1, 4), (3, 0, 1), (0, 1, 3), (22, 3, 23), (22, 4, 24), (25, 0, 26), (25, 1, 27), (25, 2, 28), (25, 3, 29), (25, 4, 30), (25, 5, 31), (22, 5, 25), (32, 1, 33), (32, 2, 34), (32, 3, 35), (32, 4, 36), (32, 5, 37), (32, 6, 38), (32, 8, 39), (22, 6, 32), (0, 2, 22), (0, 3, 32), (40, 0, 22), (40, 1, 32), (0, 4, 40), (41, 3, 42), (41, 4, 43), (41, 5, 44), (41, 6, 45), (41, 0, 22), (41, 1, 32), (41, 2, 40), (0, 5, 41), (46, 2, 47), (48, 0, 49), (48, 1, 50), (48, 2, 51), (48, 3, 52), (48, 4, 53), (48, 5, 54), (46, 3, 48), (46, 0, 22), (46, 1, 40), (0, 6, 46), (56, 0, 57), (56, 1, 58), (56, 2, 59), (56, 3, 60), (56, 4, 61), (56, 5, 62), (56, 6, 63), (56, 7, 64), (56, 8, 65), (56, 9, 66), (56, 10, 67), (56, 11, 68), (55, 2, 56), (55, 3, 69), (55, 0, 22), (55, 1, 32), (0, 7, 55), (70, 0, 22), (70, 1, 32), (0, 8, 70), (0, 9, 71), (0, 10, 72), (0, 11, 73), (74, 1, 75), (74, 2, 76), (74, 3, 77), (74, 4, 78), (74, 5, 79), (74, 6, 80), (74, 8, 81), (71, 0, 74), (82, 1, 83), (82, 2, 84), (82, 3, 85), (82, 4, 86), (82, 5, 87), (82, 6, 88), (82, 8, 89), (71, 1, 82), (90, 2, 91), (73, 0, 90), (92, 2, 93), (73, 1, 92), (94, 2, 95), (73, 2, 94), (96, 2, 97), (73, 3, 96)] 97 1327 := by
  refine con_k (own := RX10) hz (by decide) rfl rfl (Nat.le_of_ble_eq_true rfl) (fun p e s m below meth c σ ρ C hin hr hF hx => ?_)
  show Gk p l e _ s m _ below meth c _ dC dI ad cy 2 z σ ρ 0 0 1 [] [] 0 [(0, .ref (ad 0))] []
  refine k_aload_n C dX10_init_0 rfl 0 rfl ?_
  refine k_obj C hM_X10_3 ⟨(Nat.le_of_ble_eq_true rfl), (Nat.le_of_ble_eq_true rfl)⟩ dX10_init_1 ?_
  refine k_aload_n C dX10_init_4 rfl 0 rfl ?_
  refine k_new (N := 6) (ci := 8) (fs := [.null, .int 0, .int 0, .int 0, .int 0, .int 0]) (nc2 := 1) (ns2 := 6) C (Fr.r ad _ (Fr.s _ (hF.mono (Nat.le_of_ble_eq_true rfl)) rfl) rfl) (by decide) hin_X8 tyX8 tyX8_ok hCL_X10_9 hIn_X8 hIni_X8 rfl (fun j hj => by rcases (show j = 0 ∨ j = 1 ∨ j = 2 ∨ j = 3 ∨ j = 4 ∨ j = 5 by omega) with rfl | rfl | rfl | rfl | rfl | rfl <;> rfl) rfl (Nat.le_of_ble_eq_true rfl) (Nat.le_of_ble_eq_true rfl) rfl rfl dX10_init_5 ?_
  refine k_dup C dX10_init_8 rfl ?_
  refine k_callIN (b := ad 1) (As := []) (rest := [.ref (ad 1), .ref (ad 0)]) (pn := 0) (nc2 := 2) (ns2 := 326) (lS2 := []) (lR2 := [(1, 0, 2)]) C (Fr.r ad _ (Fr.s _ (hF.mono (Nat.le_of_ble_eq_true rfl)) rfl) rfl) (fun h => absurd h (by decide)) (ck_X8_1 l dC dI ad cy z C.2.2.2.2.2.2.1) C.2.2.2.2.2.2.2.2.1.n_X10_11 hC_X8_init hIni_X8 hI_X8_init (by decide +kernel) ⟨rfl, rfl⟩ ⟨(Nat.le_of_ble_eq_true rfl), (Nat.le_of_ble_eq_true rfl)⟩ ⟨(Nat.le_of_ble_eq_true rfl), (Nat.le_of_ble_eq_true rfl)⟩ rfl rfl rfl rfl rfl rfl (Nat.le_of_ble_eq_true rfl) dX10_init_9 ?_
  refine k_putF (kc := 0) (t := 1) (ci := 10) (ty := .object "ChimeShares$Tape") (lR2 := [(1, 0, 2), (0, 0, 1)]) C hin (by decide) (by decide) rfl rfl hin_X10 tyX10 tyX10_ok nmX10 0 (by decide) hF_X10_12 rfl rfl rfl (by decide +kernel) rfl rfl (Nat.le_of_ble_eq_true rfl) rfl rfl dX10_init_12 ?_
  refine k_aload_n C dX10_init_15 rfl 0 rfl ?_
  refine k_new (N := 7) (ci := 5) (fs := [.null, .null, .int 0, .int 0, .int 0, .int 0, .int 0]) (nc2 := 3) (ns2 := 333) C (Fr.r ad _ (Fr.s _ (hF.mono (Nat.le_of_ble_eq_true rfl)) rfl) rfl) (by decide) hin_X5 tyX5 tyX5_ok hCL_X10_16 hIn_X5 hIni_X5 rfl (fun j hj => by rcases (show j = 0 ∨ j = 1 ∨ j = 2 ∨ j = 3 ∨ j = 4 ∨ j = 5 ∨ j = 6 by omega) with rfl | rfl | rfl | rfl | rfl | rfl | rfl <;> rfl) rfl (Nat.le_of_ble_eq_true rfl) (Nat.le_of_ble_eq_true rfl) rfl rfl dX10_init_16 ?_
  refine k_dup C dX10_init_19 rfl ?_
  refine k_aload_n C dX10_init_20 rfl 0 rfl ?_
  refine k_get (kc := 0) (ci := 10) (v := .ref (ad 1)) C (by decide) rfl rfl hin_X10 0 (by decide) hF_X10_12 rfl rfl dX10_init_21 ?_
  refine k_callI (b := ad 3) (As := [.ref (ad 1)]) (rest := [.ref (ad 3), .ref (ad 0)]) (pn := 1) (nc2 := 21) (ns2 := 517) (lS2 := [(4, 0, 3), (4, 1, 3)]) (lR2 := [(1, 0, 2), (0, 0, 1), (4, 3, 5), (4, 4, 6), (7, 0, 8), (7, 1, 9), (7, 2, 10), (7, 3, 11), (7, 4, 12), (7, 5, 13), (4, 5, 7), (14, 1, 15), (14, 2, 16), (14, 3, 17), (14, 4, 18), (14, 5, 19), (14, 6, 20), (14, 8, 21), (4, 6, 14), (3, 1, 4), (3, 0, 1)]) C (Fr.r ad _ (Fr.s _ (hF.mono (Nat.le_of_ble_eq_true rfl)) rfl) rfl) (fun h => absurd h (by decide)) (ck_X5_3 l dC dI ad cy z C.2.2.2.2.2.2.1) hM_X10_18 hC_X5_init hIni_X5 hI_X5_init (by decide +kernel) ⟨rfl, rfl⟩ ⟨(Nat.le_of_ble_eq_true rfl), (Nat.le_of_ble_eq_true rfl)⟩ ⟨(Nat.le_of_ble_eq_true rfl), (Nat.le_of_ble_eq_true rfl)⟩ rfl rfl rfl rfl rfl rfl (Nat.le_of_ble_eq_true rfl) dX10_init_24 ?_
  refine k_putF (kc := 0) (t := 3) (ci := 10) (ty := .object "ChimeShares$Reader") (lR2 := [(1, 0, 2), (0, 0, 1), (4, 3, 5), (4, 4, 6), (7, 0, 8), (7, 1, 9), (7, 2, 10), (7, 3, 11), (7, 4, 12), (7, 5, 13), (4, 5, 7), (14, 1, 15), (14, 2, 16), (14, 3, 17), (14, 4, 18), (14, 5, 19), (14, 6, 20), (14, 8, 21), (4, 6, 14), (3, 1, 4), (3, 0, 1), (0, 1, 3)]) C hin (by decide) (by decide) rfl rfl hin_X10 tyX10 tyX10_ok nmX10 1 (by decide) hF_X10_21 rfl rfl rfl (by decide +kernel) rfl rfl (Nat.le_of_ble_eq_true rfl) rfl rfl dX10_init_27 ?_
  refine k_aload_n C dX10_init_30 rfl 0 rfl ?_
  refine k_new (N := 7) (ci := 9) (fs := [.int 0, .int 0, .int 0, .null, .null, .null, .null]) (nc2 := 22) (ns2 := 524) C (Fr.r ad _ (Fr.s _ (hF.mono (Nat.le_of_ble_eq_true rfl)) rfl) rfl) (by decide) hin_X9 tyX9 tyX9_ok hCL_X10_25 hIn_X9 hIni_X9 rfl (fun j hj => by rcases (show j = 0 ∨ j = 1 ∨ j = 2 ∨ j = 3 ∨ j = 4 ∨ j = 5 ∨ j = 6 by omega) with rfl | rfl | rfl | rfl | rfl | rfl | rfl <;> rfl) rfl (Nat.le_of_ble_eq_true rfl) (Nat.le_of_ble_eq_true rfl) rfl rfl dX10_init_31 ?_
  refine k_dup C dX10_init_34 rfl ?_
  refine k_callIN (b := ad 22) (As := []) (rest := [.ref (ad 22), .ref (ad 0)]) (pn := 0) (nc2 := 39) (ns2 := 701) (lS2 := [(4, 0, 3), (4, 1, 3), (22, 0, 3), (22, 1, 3)]) (lR2 := [(1, 0, 2), (0, 0, 1), (4, 3, 5), (4, 4, 6), (7, 0, 8), (7, 1, 9), (7, 2, 10), (7, 3, 11), (7, 4, 12), (7, 5, 13), (4, 5, 7), (14, 1, 15), (14, 2, 16), (14, 3, 17), (14, 4, 18), (14, 5, 19), (14, 6, 20), (14, 8, 21), (4, 6, 14), (3, 1, 4), (3, 0, 1), (0, 1, 3), (22, 3, 23), (22, 4, 24), (25, 0, 26), (25, 1, 27), (25, 2, 28), (25, 3, 29), (25, 4, 30), (25, 5, 31), (22, 5, 25), (32, 1, 33), (32, 2, 34), (32, 3, 35), (32, 4, 36), (32, 5, 37), (32, 6, 38), (32, 8, 39), (22, 6, 32)]) C (Fr.r ad _ (Fr.s _ (hF.mono (Nat.le_of_ble_eq_true rfl)) rfl) rfl) (fun h => absurd h (by decide)) (ck_X9_22 l dC dI ad cy z C.2.2.2.2.2.2.1) C.2.2.2.2.2.2.2.2.1.n_X10_27 hC_X9_init hIni_X9 hI_X9_init (by decide +kernel) ⟨rfl, rfl⟩ ⟨(Nat.le_of_ble_eq_true rfl), (Nat.le_of_ble_eq_true rfl)⟩ ⟨(Nat.le_of_ble_eq_true rfl), (Nat.le_of_ble_eq_true rfl)⟩ rfl rfl rfl rfl rfl rfl (Nat.le_of_ble_eq_true rfl) dX10_init_35 ?_
  refine k_putF (kc := 0) (t := 22) (ci := 10) (ty := .object "ChimeShares$Town") (lR2 := [(1, 0, 2), (0, 0, 1), (4, 3, 5), (4, 4, 6), (7, 0, 8), (7, 1, 9), (7, 2, 10), (7, 3, 11), (7, 4, 12), (7, 5, 13), (4, 5, 7), (14, 1, 15), (14, 2, 16), (14, 3, 17), (14, 4, 18), (14, 5, 19), (14, 6, 20), (14, 8, 21), (4, 6, 14), (3, 1, 4), (3, 0, 1), (0, 1, 3), (22, 3, 23), (22, 4, 24), (25, 0, 26), (25, 1, 27), (25, 2, 28), (25, 3, 29), (25, 4, 30), (25, 5, 31), (22, 5, 25), (32, 1, 33), (32, 2, 34), (32, 3, 35), (32, 4, 36), (32, 5, 37), (32, 6, 38), (32, 8, 39), (22, 6, 32), (0, 2, 22)]) C hin (by decide) (by decide) rfl rfl hin_X10 tyX10 tyX10_ok nmX10 2 (by decide) hF_X10_28 rfl rfl rfl (by decide +kernel) rfl rfl (Nat.le_of_ble_eq_true rfl) rfl rfl dX10_init_38 ?_
  refine k_aload_n C dX10_init_41 rfl 0 rfl ?_
  refine k_aload_n C dX10_init_42 rfl 0 rfl ?_
  refine k_get (kc := 0) (ci := 10) (v := .ref (ad 22)) C (by decide) rfl rfl hin_X10 2 (by decide) hF_X10_28 rfl rfl dX10_init_43 ?_
  refine k_get (kc := 22) (ci := 9) (v := .ref (ad 32)) C (by decide) rfl rfl hin_X9 6 (by decide) hF_X10_32 rfl rfl dX10_init_46 ?_
  refine k_putF (kc := 0) (t := 32) (ci := 10) (ty := .object "ChimeShares$Chimes") (lR2 := [(1, 0, 2), (0, 0, 1), (4, 3, 5), (4, 4, 6), (7, 0, 8), (7, 1, 9), (7, 2, 10), (7, 3, 11), (7, 4, 12), (7, 5, 13), (4, 5, 7), (14, 1, 15), (14, 2, 16), (14, 3, 17), (14, 4, 18), (14, 5, 19), (14, 6, 20), (14, 8, 21), (4, 6, 14), (3, 1, 4), (3, 0, 1), (0, 1, 3), (22, 3, 23), (22, 4, 24), (25, 0, 26), (25, 1, 27), (25, 2, 28), (25, 3, 29), (25, 4, 30), (25, 5, 31), (22, 5, 25), (32, 1, 33), (32, 2, 34), (32, 3, 35), (32, 4, 36), (32, 5, 37), (32, 6, 38), (32, 8, 39), (22, 6, 32), (0, 2, 22), (0, 3, 32)]) C hin (by decide) (by decide) rfl rfl hin_X10 tyX10 tyX10_ok nmX10 3 (by decide) hF_X10_36 rfl rfl rfl (by decide +kernel) rfl rfl (Nat.le_of_ble_eq_true rfl) rfl rfl dX10_init_49 ?_
  refine k_aload_n C dX10_init_52 rfl 0 rfl ?_
  refine k_new (N := 6) (ci := 6) (fs := [.null, .null, .int 0, .int 0, .int 0, .int 0]) (nc2 := 40) (ns2 := 707) C (Fr.r ad _ (Fr.s _ (hF.mono (Nat.le_of_ble_eq_true rfl)) rfl) rfl) (by decide) hin_X6 tyX6 tyX6_ok hCL_X10_37 hIn_X6 hIni_X6 rfl (fun j hj => by rcases (show j = 0 ∨ j = 1 ∨ j = 2 ∨ j = 3 ∨ j = 4 ∨ j = 5 by omega) with rfl | rfl | rfl | rfl | rfl | rfl <;> rfl) rfl (Nat.le_of_ble_eq_true rfl) (Nat.le_of_ble_eq_true rfl) rfl rfl dX10_init_53 ?_
  refine k_dup C dX10_init_56 rfl ?_
  refine k_aload_n C dX10_init_57 rfl 0 rfl ?_
  refine k_get (kc := 0) (ci := 10) (v := .ref (ad 22)) C (by decide) rfl rfl hin_X10 2 (by decide) hF_X10_28 rfl rfl dX10_init_58 ?_
  refine k_callI (b := ad 40) (As := [.ref (ad 22)]) (rest := [.ref (ad 40), .ref (ad 0)]) (pn := 1) (nc2 := 40) (ns2 := 707) (lS2 := [(4, 0, 3), (4, 1, 3), (22, 0, 3), (22, 1, 3)]) (lR2 := [(1, 0, 2), (0, 0, 1), (4, 3, 5), (4, 4, 6), (7, 0, 8), (7, 1, 9), (7, 2, 10), (7, 3, 11), (7, 4, 12), (7, 5, 13), (4, 5, 7), (14, 1, 15), (14, 2, 16), (14, 3, 17), (14, 4, 18), (14, 5, 19), (14, 6, 20), (14, 8, 21), (4, 6, 14), (3, 1, 4), (3, 0, 1), (0, 1, 3), (22, 3, 23), (22, 4, 24), (25, 0, 26), (25, 1, 27), (25, 2, 28), (25, 3, 29), (25, 4, 30), (25, 5, 31), (22, 5, 25), (32, 1, 33), (32, 2, 34), (32, 3, 35), (32, 4, 36), (32, 5, 37), (32, 6, 38), (32, 8, 39), (22, 6, 32), (0, 2, 22), (0, 3, 32), (40, 0, 22), (40, 1, 32)]) C (Fr.r ad _ (Fr.s _ (hF.mono (Nat.le_of_ble_eq_true rfl)) rfl) rfl) (fun _ => rfl) (ck_X6_40 l dC dI ad cy z C.2.2.2.2.2.2.1) hM_X10_39 hC_X6_init hIni_X6 hI_X6_init (by decide +kernel) ⟨rfl, rfl⟩ ⟨(Nat.le_of_ble_eq_true rfl), (Nat.le_of_ble_eq_true rfl)⟩ ⟨(Nat.le_of_ble_eq_true rfl), (Nat.le_of_ble_eq_true rfl)⟩ rfl rfl rfl rfl rfl rfl (Nat.le_of_ble_eq_true rfl) dX10_init_61 ?_
  refine k_putF (kc := 0) (t := 40) (ci := 10) (ty := .object "ChimeShares$Ringing") (lR2 := [(1, 0, 2), (0, 0, 1), (4, 3, 5), (4, 4, 6), (7, 0, 8), (7, 1, 9), (7, 2, 10), (7, 3, 11), (7, 4, 12), (7, 5, 13), (4, 5, 7), (14, 1, 15), (14, 2, 16), (14, 3, 17), (14, 4, 18), (14, 5, 19), (14, 6, 20), (14, 8, 21), (4, 6, 14), (3, 1, 4), (3, 0, 1), (0, 1, 3), (22, 3, 23), (22, 4, 24), (25, 0, 26), (25, 1, 27), (25, 2, 28), (25, 3, 29), (25, 4, 30), (25, 5, 31), (22, 5, 25), (32, 1, 33), (32, 2, 34), (32, 3, 35), (32, 4, 36), (32, 5, 37), (32, 6, 38), (32, 8, 39), (22, 6, 32), (0, 2, 22), (0, 3, 32), (40, 0, 22), (40, 1, 32), (0, 4, 40)]) C hin (by decide) (by decide) rfl rfl hin_X10 tyX10 tyX10_ok nmX10 4 (by decide) hF_X10_42 rfl rfl rfl (by decide +kernel) rfl rfl (Nat.le_of_ble_eq_true rfl) rfl rfl dX10_init_64 ?_
  refine k_aload_n C dX10_init_67 rfl 0 rfl ?_
  refine k_new (N := 9) (ci := 0) (fs := [.null, .null, .null, .null, .null, .null, .null, .int 0, .int 0]) (nc2 := 41) (ns2 := 716) C (Fr.r ad _ (Fr.s _ (hF.mono (Nat.le_of_ble_eq_true rfl)) rfl) rfl) (by decide) hin_X0 tyX0 tyX0_ok hCL_X10_46 hIn_X0 hIni_X0 rfl (fun j hj => by rcases (show j = 0 ∨ j = 1 ∨ j = 2 ∨ j = 3 ∨ j = 4 ∨ j = 5 ∨ j = 6 ∨ j = 7 ∨ j = 8 by omega) with rfl | rfl | rfl | rfl | rfl | rfl | rfl | rfl | rfl <;> rfl) rfl (Nat.le_of_ble_eq_true rfl) (Nat.le_of_ble_eq_true rfl) rfl rfl dX10_init_68 ?_
  refine k_dup C dX10_init_71 rfl ?_
  refine k_aload_n C dX10_init_72 rfl 0 rfl ?_
  refine k_get (kc := 0) (ci := 10) (v := .ref (ad 22)) C (by decide) rfl rfl hin_X10 2 (by decide) hF_X10_28 rfl rfl dX10_init_73 ?_
  refine k_aload_n C dX10_init_76 rfl 0 rfl ?_
  refine k_get (kc := 0) (ci := 10) (v := .ref (ad 40)) C (by decide) rfl rfl hin_X10 4 (by decide) hF_X10_42 rfl rfl dX10_init_77 ?_
  refine k_callI (b := ad 41) (As := [.ref (ad 22), .ref (ad 40)]) (rest := [.ref (ad 41), .ref (ad 0)]) (pn := 2) (nc2 := 45) (ns2 := 740) (lS2 := [(4, 0, 3), (4, 1, 3), (22, 0, 3), (22, 1, 3)]) (lR2 := [(1, 0, 2), (0, 0, 1), (4, 3, 5), (4, 4, 6), (7, 0, 8), (7, 1, 9), (7, 2, 10), (7, 3, 11), (7, 4, 12), (7, 5, 13), (4, 5, 7), (14, 1, 15), (14, 2, 16), (14, 3, 17), (14, 4, 18), (14, 5, 19), (14, 6, 20), (14, 8, 21), (4, 6, 14), (3, 1, 4), (3, 0, 1), (0, 1, 3), (22, 3, 23), (22, 4, 24), (25, 0, 26), (25, 1, 27), (25, 2, 28), (25, 3, 29), (25, 4, 30), (25, 5, 31), (22, 5, 25), (32, 1, 33), (32, 2, 34), (32, 3, 35), (32, 4, 36), (32, 5, 37), (32, 6, 38), (32, 8, 39), (22, 6, 32), (0, 2, 22), (0, 3, 32), (40, 0, 22), (40, 1, 32), (0, 4, 40), (41, 3, 42), (41, 4, 43), (41, 5, 44), (41, 6, 45), (41, 0, 22), (41, 1, 32), (41, 2, 40)]) C (Fr.r ad _ (Fr.s _ (hF.mono (Nat.le_of_ble_eq_true rfl)) rfl) rfl) (fun _ => rfl) (ck_X0_41 l dC dI ad cy z C.2.2.2.2.2.2.1) hM_X10_48 hC_X0_init hIni_X0 hI_X0_init (by decide +kernel) ⟨rfl, rfl⟩ ⟨(Nat.le_of_ble_eq_true rfl), (Nat.le_of_ble_eq_true rfl)⟩ ⟨(Nat.le_of_ble_eq_true rfl), (Nat.le_of_ble_eq_true rfl)⟩ rfl rfl rfl rfl rfl rfl (Nat.le_of_ble_eq_true rfl) dX10_init_80 ?_
  refine k_putF (kc := 0) (t := 41) (ci := 10) (ty := .object "ChimeShares$Asks") (lR2 := [(1, 0, 2), (0, 0, 1), (4, 3, 5), (4, 4, 6), (7, 0, 8), (7, 1, 9), (7, 2, 10), (7, 3, 11), (7, 4, 12), (7, 5, 13), (4, 5, 7), (14, 1, 15), (14, 2, 16), (14, 3, 17), (14, 4, 18), (14, 5, 19), (14, 6, 20), (14, 8, 21), (4, 6, 14), (3, 1, 4), (3, 0, 1), (0, 1, 3), (22, 3, 23), (22, 4, 24), (25, 0, 26), (25, 1, 27), (25, 2, 28), (25, 3, 29), (25, 4, 30), (25, 5, 31), (22, 5, 25), (32, 1, 33), (32, 2, 34), (32, 3, 35), (32, 4, 36), (32, 5, 37), (32, 6, 38), (32, 8, 39), (22, 6, 32), (0, 2, 22), (0, 3, 32), (40, 0, 22), (40, 1, 32), (0, 4, 40), (41, 3, 42), (41, 4, 43), (41, 5, 44), (41, 6, 45), (41, 0, 22), (41, 1, 32), (41, 2, 40), (0, 5, 41)]) C hin (by decide) (by decide) rfl rfl hin_X10 tyX10 tyX10_ok nmX10 5 (by decide) hF_X10_51 rfl rfl rfl (by decide +kernel) rfl rfl (Nat.le_of_ble_eq_true rfl) rfl rfl dX10_init_83 ?_
  refine k_aload_n C dX10_init_86 rfl 0 rfl ?_
  refine k_new (N := 6) (ci := 2) (fs := [.null, .null, .null, .null, .int 0, .int 0]) (nc2 := 46) (ns2 := 746) C (Fr.r ad _ (Fr.s _ (hF.mono (Nat.le_of_ble_eq_true rfl)) rfl) rfl) (by decide) hin_X2 tyX2 tyX2_ok hCL_X10_55 hIn_X2 hIni_X2 rfl (fun j hj => by rcases (show j = 0 ∨ j = 1 ∨ j = 2 ∨ j = 3 ∨ j = 4 ∨ j = 5 by omega) with rfl | rfl | rfl | rfl | rfl | rfl <;> rfl) rfl (Nat.le_of_ble_eq_true rfl) (Nat.le_of_ble_eq_true rfl) rfl rfl dX10_init_87 ?_
  refine k_dup C dX10_init_90 rfl ?_
  refine k_aload_n C dX10_init_91 rfl 0 rfl ?_
  refine k_get (kc := 0) (ci := 10) (v := .ref (ad 22)) C (by decide) rfl rfl hin_X10 2 (by decide) hF_X10_28 rfl rfl dX10_init_92 ?_
  refine k_aload_n C dX10_init_95 rfl 0 rfl ?_
  refine k_get (kc := 0) (ci := 10) (v := .ref (ad 40)) C (by decide) rfl rfl hin_X10 4 (by decide) hF_X10_42 rfl rfl dX10_init_96 ?_
  refine k_callI (b := ad 46) (As := [.ref (ad 22), .ref (ad 40)]) (rest := [.ref (ad 46), .ref (ad 0)]) (pn := 2) (nc2 := 54) (ns2 := 794) (lS2 := [(4, 0, 3), (4, 1, 3), (22, 0, 3), (22, 1, 3)]) (lR2 := [(1, 0, 2), (0, 0, 1), (4, 3, 5), (4, 4, 6), (7, 0, 8), (7, 1, 9), (7, 2, 10), (7, 3, 11), (7, 4, 12), (7, 5, 13), (4, 5, 7), (14, 1, 15), (14, 2, 16), (14, 3, 17), (14, 4, 18), (14, 5, 19), (14, 6, 20), (14, 8, 21), (4, 6, 14), (3, 1, 4), (3, 0, 1), (0, 1, 3), (22, 3, 23), (22, 4, 24), (25, 0, 26), (25, 1, 27), (25, 2, 28), (25, 3, 29), (25, 4, 30), (25, 5, 31), (22, 5, 25), (32, 1, 33), (32, 2, 34), (32, 3, 35), (32, 4, 36), (32, 5, 37), (32, 6, 38), (32, 8, 39), (22, 6, 32), (0, 2, 22), (0, 3, 32), (40, 0, 22), (40, 1, 32), (0, 4, 40), (41, 3, 42), (41, 4, 43), (41, 5, 44), (41, 6, 45), (41, 0, 22), (41, 1, 32), (41, 2, 40), (0, 5, 41), (46, 2, 47), (48, 0, 49), (48, 1, 50), (48, 2, 51), (48, 3, 52), (48, 4, 53), (48, 5, 54), (46, 3, 48), (46, 0, 22), (46, 1, 40)]) C (Fr.r ad _ (Fr.s _ (hF.mono (Nat.le_of_ble_eq_true rfl)) rfl) rfl) (fun _ => rfl) (ck_X2_46 l dC dI ad cy z C.2.2.2.2.2.2.1) hM_X10_57 hC_X2_init hIni_X2 hI_X2_init (by decide +kernel) ⟨rfl, rfl⟩ ⟨(Nat.le_of_ble_eq_true rfl), (Nat.le_of_ble_eq_true rfl)⟩ ⟨(Nat.le_of_ble_eq_true rfl), (Nat.le_of_ble_eq_true rfl)⟩ rfl rfl rfl rfl rfl rfl (Nat.le_of_ble_eq_true rfl) dX10_init_99 ?_
  refine k_putF (kc := 0) (t := 46) (ci := 10) (ty := .object "ChimeShares$Feasts") (lR2 := [(1, 0, 2), (0, 0, 1), (4, 3, 5), (4, 4, 6), (7, 0, 8), (7, 1, 9), (7, 2, 10), (7, 3, 11), (7, 4, 12), (7, 5, 13), (4, 5, 7), (14, 1, 15), (14, 2, 16), (14, 3, 17), (14, 4, 18), (14, 5, 19), (14, 6, 20), (14, 8, 21), (4, 6, 14), (3, 1, 4), (3, 0, 1), (0, 1, 3), (22, 3, 23), (22, 4, 24), (25, 0, 26), (25, 1, 27), (25, 2, 28), (25, 3, 29), (25, 4, 30), (25, 5, 31), (22, 5, 25), (32, 1, 33), (32, 2, 34), (32, 3, 35), (32, 4, 36), (32, 5, 37), (32, 6, 38), (32, 8, 39), (22, 6, 32), (0, 2, 22), (0, 3, 32), (40, 0, 22), (40, 1, 32), (0, 4, 40), (41, 3, 42), (41, 4, 43), (41, 5, 44), (41, 6, 45), (41, 0, 22), (41, 1, 32), (41, 2, 40), (0, 5, 41), (46, 2, 47), (48, 0, 49), (48, 1, 50), (48, 2, 51), (48, 3, 52), (48, 4, 53), (48, 5, 54), (46, 3, 48), (46, 0, 22), (46, 1, 40), (0, 6, 46)]) C hin (by decide) (by decide) rfl rfl hin_X10 tyX10 tyX10_ok nmX10 6 (by decide) hF_X10_58 rfl rfl rfl (by decide +kernel) rfl rfl (Nat.le_of_ble_eq_true rfl) rfl rfl dX10_init_102 ?_
  refine k_aload_n C dX10_init_105 rfl 0 rfl ?_
  refine k_new (N := 5) (ci := 4) (fs := [.null, .null, .null, .null, .int 0]) (nc2 := 55) (ns2 := 799) C (Fr.r ad _ (Fr.s _ (hF.mono (Nat.le_of_ble_eq_true rfl)) rfl) rfl) (by decide) hin_X4 tyX4 tyX4_ok hCL_X10_62 hIn_X4 hIni_X4 rfl (fun j hj => by rcases (show j = 0 ∨ j = 1 ∨ j = 2 ∨ j = 3 ∨ j = 4 by omega) with rfl | rfl | rfl | rfl | rfl <;> rfl) rfl (Nat.le_of_ble_eq_true rfl) (Nat.le_of_ble_eq_true rfl) rfl rfl dX10_init_106 ?_
  refine k_dup C dX10_init_109 rfl ?_
  refine k_aload_n C dX10_init_110 rfl 0 rfl ?_
  refine k_get (kc := 0) (ci := 10) (v := .ref (ad 22)) C (by decide) rfl rfl hin_X10 2 (by decide) hF_X10_28 rfl rfl dX10_init_111 ?_
  refine k_callI (b := ad 55) (As := [.ref (ad 22)]) (rest := [.ref (ad 55), .ref (ad 0)]) (pn := 1) (nc2 := 69) (ns2 := 967) (lS2 := [(4, 0, 3), (4, 1, 3), (22, 0, 3), (22, 1, 3)]) (lR2 := [(1, 0, 2), (0, 0, 1), (4, 3, 5), (4, 4, 6), (7, 0, 8), (7, 1, 9), (7, 2, 10), (7, 3, 11), (7, 4, 12), (7, 5, 13), (4, 5, 7), (14, 1, 15), (14, 2, 16), (14, 3, 17), (14, 4, 18), (14, 5, 19), (14, 6, 20), (14, 8, 21), (4, 6, 14), (3, 1, 4), (3, 0, 1), (0, 1, 3), (22, 3, 23), (22, 4, 24), (25, 0, 26), (25, 1, 27), (25, 2, 28), (25, 3, 29), (25, 4, 30), (25, 5, 31), (22, 5, 25), (32, 1, 33), (32, 2, 34), (32, 3, 35), (32, 4, 36), (32, 5, 37), (32, 6, 38), (32, 8, 39), (22, 6, 32), (0, 2, 22), (0, 3, 32), (40, 0, 22), (40, 1, 32), (0, 4, 40), (41, 3, 42), (41, 4, 43), (41, 5, 44), (41, 6, 45), (41, 0, 22), (41, 1, 32), (41, 2, 40), (0, 5, 41), (46, 2, 47), (48, 0, 49), (48, 1, 50), (48, 2, 51), (48, 3, 52), (48, 4, 53), (48, 5, 54), (46, 3, 48), (46, 0, 22), (46, 1, 40), (0, 6, 46), (56, 0, 57), (56, 1, 58), (56, 2, 59), (56, 3, 60), (56, 4, 61), (56, 5, 62), (56, 6, 63), (56, 7, 64), (56, 8, 65), (56, 9, 66), (56, 10, 67), (56, 11, 68), (55, 2, 56), (55, 3, 69), (55, 0, 22), (55, 1, 32)]) C (Fr.r ad _ (Fr.s _ (hF.mono (Nat.le_of_ble_eq_true rfl)) rfl) rfl) (fun _ => rfl) (ck_X4_55 l dC dI ad cy z C.2.2.2.2.2.2.1) hM_X10_64 hC_X4_init hIni_X4 hI_X4_init (by decide +kernel) ⟨rfl, rfl⟩ ⟨(Nat.le_of_ble_eq_true rfl), (Nat.le_of_ble_eq_true rfl)⟩ ⟨(Nat.le_of_ble_eq_true rfl), (Nat.le_of_ble_eq_true rfl)⟩ rfl rfl rfl rfl rfl rfl (Nat.le_of_ble_eq_true rfl) dX10_init_114 ?_
  refine k_putF (kc := 0) (t := 55) (ci := 10) (ty := .object "ChimeShares$Nearest") (lR2 := [(1, 0, 2), (0, 0, 1), (4, 3, 5), (4, 4, 6), (7, 0, 8), (7, 1, 9), (7, 2, 10), (7, 3, 11), (7, 4, 12), (7, 5, 13), (4, 5, 7), (14, 1, 15), (14, 2, 16), (14, 3, 17), (14, 4, 18), (14, 5, 19), (14, 6, 20), (14, 8, 21), (4, 6, 14), (3, 1, 4), (3, 0, 1), (0, 1, 3), (22, 3, 23), (22, 4, 24), (25, 0, 26), (25, 1, 27), (25, 2, 28), (25, 3, 29), (25, 4, 30), (25, 5, 31), (22, 5, 25), (32, 1, 33), (32, 2, 34), (32, 3, 35), (32, 4, 36), (32, 5, 37), (32, 6, 38), (32, 8, 39), (22, 6, 32), (0, 2, 22), (0, 3, 32), (40, 0, 22), (40, 1, 32), (0, 4, 40), (41, 3, 42), (41, 4, 43), (41, 5, 44), (41, 6, 45), (41, 0, 22), (41, 1, 32), (41, 2, 40), (0, 5, 41), (46, 2, 47), (48, 0, 49), (48, 1, 50), (48, 2, 51), (48, 3, 52), (48, 4, 53), (48, 5, 54), (46, 3, 48), (46, 0, 22), (46, 1, 40), (0, 6, 46), (56, 0, 57), (56, 1, 58), (56, 2, 59), (56, 3, 60), (56, 4, 61), (56, 5, 62), (56, 6, 63), (56, 7, 64), (56, 8, 65), (56, 9, 66), (56, 10, 67), (56, 11, 68), (55, 2, 56), (55, 3, 69), (55, 0, 22), (55, 1, 32), (0, 7, 55)]) C hin (by decide) (by decide) rfl rfl hin_X10 tyX10 tyX10_ok nmX10 7 (by decide) hF_X10_65 rfl rfl rfl (by decide +kernel) rfl rfl (Nat.le_of_ble_eq_true rfl) rfl rfl dX10_init_117 ?_
  refine k_aload_n C dX10_init_120 rfl 0 rfl ?_
  refine k_new (N := 6) (ci := 3) (fs := [.null, .null, .int 0, .int 0, .int 0, .int 0]) (nc2 := 70) (ns2 := 973) C (Fr.r ad _ (Fr.s _ (hF.mono (Nat.le_of_ble_eq_true rfl)) rfl) rfl) (by decide) hin_X3 tyX3 tyX3_ok hCL_X10_69 hIn_X3 hIni_X3 rfl (fun j hj => by rcases (show j = 0 ∨ j = 1 ∨ j = 2 ∨ j = 3 ∨ j = 4 ∨ j = 5 by omega) with rfl | rfl | rfl | rfl | rfl | rfl <;> rfl) rfl (Nat.le_of_ble_eq_true rfl) (Nat.le_of_ble_eq_true rfl) rfl rfl dX10_init_121 ?_
  refine k_dup C dX10_init_124 rfl ?_
  refine k_aload_n C dX10_init_125 rfl 0 rfl ?_
  refine k_get (kc := 0) (ci := 10) (v := .ref (ad 22)) C (by decide) rfl rfl hin_X10 2 (by decide) hF_X10_28 rfl rfl dX10_init_126 ?_
  refine k_callI (b := ad 70) (As := [.ref (ad 22)]) (rest := [.ref (ad 70), .ref (ad 0)]) (pn := 1) (nc2 := 70) (ns2 := 973) (lS2 := [(4, 0, 3), (4, 1, 3), (22, 0, 3), (22, 1, 3)]) (lR2 := [(1, 0, 2), (0, 0, 1), (4, 3, 5), (4, 4, 6), (7, 0, 8), (7, 1, 9), (7, 2, 10), (7, 3, 11), (7, 4, 12), (7, 5, 13), (4, 5, 7), (14, 1, 15), (14, 2, 16), (14, 3, 17), (14, 4, 18), (14, 5, 19), (14, 6, 20), (14, 8, 21), (4, 6, 14), (3, 1, 4), (3, 0, 1), (0, 1, 3), (22, 3, 23), (22, 4, 24), (25, 0, 26), (25, 1, 27), (25, 2, 28), (25, 3, 29), (25, 4, 30), (25, 5, 31), (22, 5, 25), (32, 1, 33), (32, 2, 34), (32, 3, 35), (32, 4, 36), (32, 5, 37), (32, 6, 38), (32, 8, 39), (22, 6, 32), (0, 2, 22), (0, 3, 32), (40, 0, 22), (40, 1, 32), (0, 4, 40), (41, 3, 42), (41, 4, 43), (41, 5, 44), (41, 6, 45), (41, 0, 22), (41, 1, 32), (41, 2, 40), (0, 5, 41), (46, 2, 47), (48, 0, 49), (48, 1, 50), (48, 2, 51), (48, 3, 52), (48, 4, 53), (48, 5, 54), (46, 3, 48), (46, 0, 22), (46, 1, 40), (0, 6, 46), (56, 0, 57), (56, 1, 58), (56, 2, 59), (56, 3, 60), (56, 4, 61), (56, 5, 62), (56, 6, 63), (56, 7, 64), (56, 8, 65), (56, 9, 66), (56, 10, 67), (56, 11, 68), (55, 2, 56), (55, 3, 69), (55, 0, 22), (55, 1, 32), (0, 7, 55), (70, 0, 22), (70, 1, 32)]) C (Fr.r ad _ (Fr.s _ (hF.mono (Nat.le_of_ble_eq_true rfl)) rfl) rfl) (fun _ => rfl) (ck_X3_70 l dC dI ad cy z C.2.2.2.2.2.2.1) hM_X10_71 hC_X3_init hIni_X3 hI_X3_init (by decide +kernel) ⟨rfl, rfl⟩ ⟨(Nat.le_of_ble_eq_true rfl), (Nat.le_of_ble_eq_true rfl)⟩ ⟨(Nat.le_of_ble_eq_true rfl), (Nat.le_of_ble_eq_true rfl)⟩ rfl rfl rfl rfl rfl rfl (Nat.le_of_ble_eq_true rfl) dX10_init_129 ?_
  refine k_putF (kc := 0) (t := 70) (ci := 10) (ty := .object "ChimeShares$Hearing") (lR2 := [(1, 0, 2), (0, 0, 1), (4, 3, 5), (4, 4, 6), (7, 0, 8), (7, 1, 9), (7, 2, 10), (7, 3, 11), (7, 4, 12), (7, 5, 13), (4, 5, 7), (14, 1, 15), (14, 2, 16), (14, 3, 17), (14, 4, 18), (14, 5, 19), (14, 6, 20), (14, 8, 21), (4, 6, 14), (3, 1, 4), (3, 0, 1), (0, 1, 3), (22, 3, 23), (22, 4, 24), (25, 0, 26), (25, 1, 27), (25, 2, 28), (25, 3, 29), (25, 4, 30), (25, 5, 31), (22, 5, 25), (32, 1, 33), (32, 2, 34), (32, 3, 35), (32, 4, 36), (32, 5, 37), (32, 6, 38), (32, 8, 39), (22, 6, 32), (0, 2, 22), (0, 3, 32), (40, 0, 22), (40, 1, 32), (0, 4, 40), (41, 3, 42), (41, 4, 43), (41, 5, 44), (41, 6, 45), (41, 0, 22), (41, 1, 32), (41, 2, 40), (0, 5, 41), (46, 2, 47), (48, 0, 49), (48, 1, 50), (48, 2, 51), (48, 3, 52), (48, 4, 53), (48, 5, 54), (46, 3, 48), (46, 0, 22), (46, 1, 40), (0, 6, 46), (56, 0, 57), (56, 1, 58), (56, 2, 59), (56, 3, 60), (56, 4, 61), (56, 5, 62), (56, 6, 63), (56, 7, 64), (56, 8, 65), (56, 9, 66), (56, 10, 67), (56, 11, 68), (55, 2, 56), (55, 3, 69), (55, 0, 22), (55, 1, 32), (0, 7, 55), (70, 0, 22), (70, 1, 32), (0, 8, 70)]) C hin (by decide) (by decide) rfl rfl hin_X10 tyX10 tyX10_ok nmX10 8 (by decide) hF_X10_72 rfl rfl rfl (by decide +kernel) rfl rfl (Nat.le_of_ble_eq_true rfl) rfl rfl dX10_init_132 ?_
  refine k_aload_n C dX10_init_135 rfl 0 rfl ?_
  refine k_iconst (v := 2) C dX10_init_136 (by decide) ?_
  refine k_anew (Cn := RX1) (N := 2) (cq := 4) (nc2 := 71) (ns2 := 975) C (Fr.r ad _ (Fr.s _ (hF.mono (Nat.le_of_ble_eq_true rfl)) rfl) rfl) (by decide) hCL_X10_76 C.2.2.2.2.2.2.2.2.1.o1 (arr_name C.2.2.2.2.2.1).2.2.2.2.1 rfl (by decide) (by decide) (by decide) (Nat.le_of_ble_eq_true rfl) (Nat.le_of_ble_eq_true rfl) rfl rfl dX10_init_137 ?_
  refine k_putF (kc := 0) (t := 71) (ci := 10) (ty := .array (.object "ChimeShares$Chimes")) (lR2 := [(1, 0, 2), (0, 0, 1), (4, 3, 5), (4, 4, 6), (7, 0, 8), (7, 1, 9), (7, 2, 10), (7, 3, 11), (7, 4, 12), (7, 5, 13), (4, 5, 7), (14, 1, 15), (14, 2, 16), (14, 3, 17), (14, 4, 18), (14, 5, 19), (14, 6, 20), (14, 8, 21), (4, 6, 14), (3, 1, 4), (3, 0, 1), (0, 1, 3), (22, 3, 23), (22, 4, 24), (25, 0, 26), (25, 1, 27), (25, 2, 28), (25, 3, 29), (25, 4, 30), (25, 5, 31), (22, 5, 25), (32, 1, 33), (32, 2, 34), (32, 3, 35), (32, 4, 36), (32, 5, 37), (32, 6, 38), (32, 8, 39), (22, 6, 32), (0, 2, 22), (0, 3, 32), (40, 0, 22), (40, 1, 32), (0, 4, 40), (41, 3, 42), (41, 4, 43), (41, 5, 44), (41, 6, 45), (41, 0, 22), (41, 1, 32), (41, 2, 40), (0, 5, 41), (46, 2, 47), (48, 0, 49), (48, 1, 50), (48, 2, 51), (48, 3, 52), (48, 4, 53), (48, 5, 54), (46, 3, 48), (46, 0, 22), (46, 1, 40), (0, 6, 46), (56, 0, 57), (56, 1, 58), (56, 2, 59), (56, 3, 60), (56, 4, 61), (56, 5, 62), (56, 6, 63), (56, 7, 64), (56, 8, 65), (56, 9, 66), (56, 10, 67), (56, 11, 68), (55, 2, 56), (55, 3, 69), (55, 0, 22), (55, 1, 32), (0, 7, 55), (70, 0, 22), (70, 1, 32), (0, 8, 70), (0, 9, 71)]) C hin (by decide) (by decide) rfl rfl hin_X10 tyX10 tyX10_ok nmX10 9 (by decide) hF_X10_78 rfl rfl rfl (by decide +kernel) rfl rfl (Nat.le_of_ble_eq_true rfl) rfl rfl dX10_init_140 ?_
  refine k_aload_n C dX10_init_143 rfl 0 rfl ?_
  refine k_iconst (v := 2) C dX10_init_144 (by decide) ?_
  refine k_newa (ty := .boolean) (N := 2) (cq := 2) (nc2 := 72) (ns2 := 977) C (Fr.r ad _ (Fr.s _ (hF.mono (Nat.le_of_ble_eq_true rfl)) rfl) rfl) (by decide) rfl hA_boolean (arr_name C.2.2.2.2.2.1).2.2.1 rfl rfl (by decide) (by decide) (by decide) (Nat.le_of_ble_eq_true rfl) (Nat.le_of_ble_eq_true rfl) rfl rfl dX10_init_145 ?_
  refine k_putF (kc := 0) (t := 72) (ci := 10) (ty := .array .boolean) (lR2 := [(1, 0, 2), (0, 0, 1), (4, 3, 5), (4, 4, 6), (7, 0, 8), (7, 1, 9), (7, 2, 10), (7, 3, 11), (7, 4, 12), (7, 5, 13), (4, 5, 7), (14, 1, 15), (14, 2, 16), (14, 3, 17), (14, 4, 18), (14, 5, 19), (14, 6, 20), (14, 8, 21), (4, 6, 14), (3, 1, 4), (3, 0, 1), (0, 1, 3), (22, 3, 23), (22, 4, 24), (25, 0, 26), (25, 1, 27), (25, 2, 28), (25, 3, 29), (25, 4, 30), (25, 5, 31), (22, 5, 25), (32, 1, 33), (32, 2, 34), (32, 3, 35), (32, 4, 36), (32, 5, 37), (32, 6, 38), (32, 8, 39), (22, 6, 32), (0, 2, 22), (0, 3, 32), (40, 0, 22), (40, 1, 32), (0, 4, 40), (41, 3, 42), (41, 4, 43), (41, 5, 44), (41, 6, 45), (41, 0, 22), (41, 1, 32), (41, 2, 40), (0, 5, 41), (46, 2, 47), (48, 0, 49), (48, 1, 50), (48, 2, 51), (48, 3, 52), (48, 4, 53), (48, 5, 54), (46, 3, 48), (46, 0, 22), (46, 1, 40), (0, 6, 46), (56, 0, 57), (56, 1, 58), (56, 2, 59), (56, 3, 60), (56, 4, 61), (56, 5, 62), (56, 6, 63), (56, 7, 64), (56, 8, 65), (56, 9, 66), (56, 10, 67), (56, 11, 68), (55, 2, 56), (55, 3, 69), (55, 0, 22), (55, 1, 32), (0, 7, 55), (70, 0, 22), (70, 1, 32), (0, 8, 70), (0, 9, 71), (0, 10, 72)]) C hin (by decide) (by decide) rfl rfl hin_X10 tyX10 tyX10_ok nmX10 10 (by decide) hF_X10_82 rfl rfl rfl (by decide +kernel) rfl rfl (Nat.le_of_ble_eq_true rfl) rfl rfl dX10_init_147 ?_
  refine k_aload_n C dX10_init_150 rfl 0 rfl ?_
  refine k_iconst (v := 4) C dX10_init_151 (by decide) ?_
  refine k_anew (Cn := RX7) (N := 4) (cq := 5) (nc2 := 73) (ns2 := 981) C (Fr.r ad _ (Fr.s _ (hF.mono (Nat.le_of_ble_eq_true rfl)) rfl) rfl) (by decide) hCL_X10_86 C.2.2.2.2.2.2.2.2.1.o7 (arr_name C.2.2.2.2.2.1).2.2.2.2.2 rfl (by decide) (by decide) (by decide) (Nat.le_of_ble_eq_true rfl) (Nat.le_of_ble_eq_true rfl) rfl rfl dX10_init_152 ?_
  refine k_putF (kc := 0) (t := 73) (ci := 10) (ty := .array (.object "ChimeShares$Sheet")) (lR2 := [(1, 0, 2), (0, 0, 1), (4, 3, 5), (4, 4, 6), (7, 0, 8), (7, 1, 9), (7, 2, 10), (7, 3, 11), (7, 4, 12), (7, 5, 13), (4, 5, 7), (14, 1, 15), (14, 2, 16), (14, 3, 17), (14, 4, 18), (14, 5, 19), (14, 6, 20), (14, 8, 21), (4, 6, 14), (3, 1, 4), (3, 0, 1), (0, 1, 3), (22, 3, 23), (22, 4, 24), (25, 0, 26), (25, 1, 27), (25, 2, 28), (25, 3, 29), (25, 4, 30), (25, 5, 31), (22, 5, 25), (32, 1, 33), (32, 2, 34), (32, 3, 35), (32, 4, 36), (32, 5, 37), (32, 6, 38), (32, 8, 39), (22, 6, 32), (0, 2, 22), (0, 3, 32), (40, 0, 22), (40, 1, 32), (0, 4, 40), (41, 3, 42), (41, 4, 43), (41, 5, 44), (41, 6, 45), (41, 0, 22), (41, 1, 32), (41, 2, 40), (0, 5, 41), (46, 2, 47), (48, 0, 49), (48, 1, 50), (48, 2, 51), (48, 3, 52), (48, 4, 53), (48, 5, 54), (46, 3, 48), (46, 0, 22), (46, 1, 40), (0, 6, 46), (56, 0, 57), (56, 1, 58), (56, 2, 59), (56, 3, 60), (56, 4, 61), (56, 5, 62), (56, 6, 63), (56, 7, 64), (56, 8, 65), (56, 9, 66), (56, 10, 67), (56, 11, 68), (55, 2, 56), (55, 3, 69), (55, 0, 22), (55, 1, 32), (0, 7, 55), (70, 0, 22), (70, 1, 32), (0, 8, 70), (0, 9, 71), (0, 10, 72), (0, 11, 73)]) C hin (by decide) (by decide) rfl rfl hin_X10 tyX10 tyX10_ok nmX10 11 (by decide) hF_X10_88 rfl rfl rfl (by decide +kernel) rfl rfl (Nat.le_of_ble_eq_true rfl) rfl rfl dX10_init_155 ?_
  refine k_iconst (v := 0) C dX10_init_158 (by decide) ?_
  refine k_istore_n (lv2 := [(0, .ref (ad 0)), (1, .int 0)]) C dX10_init_159 rfl (by decide) [1, 0] rfl ?_
  refine k_iload_n C dX10_init_160 rfl 1 rfl ?_
  refine k_iconst (v := 2) C dX10_init_161 (by decide) ?_
  refine k_icmp_ge_f (tgt := 184) C dX10_init_162 (by decide) (by decide) ?_
  refine k_aload_n C dX10_init_165 rfl 0 rfl ?_
  refine k_get (kc := 0) (ci := 10) (v := .ref (ad 71)) C (by decide) rfl rfl hin_X10 9 (by decide) hF_X10_78 rfl rfl dX10_init_166 ?_
  refine k_iload_n C dX10_init_169 rfl 1 rfl ?_
  refine k_new (N := 9) (ci := 1) (fs := [.int 0, .null, .null, .null, .null, .null, .null, .int 0, .null]) (nc2 := 74) (ns2 := 990) C (Fr.r ad _ (Fr.s _ (hF.mono (Nat.le_of_ble_eq_true rfl)) rfl) rfl) (by decide) hin_X1 tyX1 tyX1_ok hCL_X10_76 hIn_X1 hIni_X1 rfl (fun j hj => by rcases (show j = 0 ∨ j = 1 ∨ j = 2 ∨ j = 3 ∨ j = 4 ∨ j = 5 ∨ j = 6 ∨ j = 7 ∨ j = 8 by omega) with rfl | rfl | rfl | rfl | rfl | rfl | rfl | rfl | rfl <;> rfl) rfl (Nat.le_of_ble_eq_true rfl) (Nat.le_of_ble_eq_true rfl) rfl rfl dX10_init_170 ?_
  refine k_dup C dX10_init_173 rfl ?_
  refine k_callIN (b := ad 74) (As := []) (rest := [.ref (ad 74), .int 0, .ref (ad 71)]) (pn := 0) (nc2 := 81) (ns2 := 1068) (lS2 := [(4, 0, 3), (4, 1, 3), (22, 0, 3), (22, 1, 3)]) (lR2 := [(1, 0, 2), (0, 0, 1), (4, 3, 5), (4, 4, 6), (7, 0, 8), (7, 1, 9), (7, 2, 10), (7, 3, 11), (7, 4, 12), (7, 5, 13), (4, 5, 7), (14, 1, 15), (14, 2, 16), (14, 3, 17), (14, 4, 18), (14, 5, 19), (14, 6, 20), (14, 8, 21), (4, 6, 14), (3, 1, 4), (3, 0, 1), (0, 1, 3), (22, 3, 23), (22, 4, 24), (25, 0, 26), (25, 1, 27), (25, 2, 28), (25, 3, 29), (25, 4, 30), (25, 5, 31), (22, 5, 25), (32, 1, 33), (32, 2, 34), (32, 3, 35), (32, 4, 36), (32, 5, 37), (32, 6, 38), (32, 8, 39), (22, 6, 32), (0, 2, 22), (0, 3, 32), (40, 0, 22), (40, 1, 32), (0, 4, 40), (41, 3, 42), (41, 4, 43), (41, 5, 44), (41, 6, 45), (41, 0, 22), (41, 1, 32), (41, 2, 40), (0, 5, 41), (46, 2, 47), (48, 0, 49), (48, 1, 50), (48, 2, 51), (48, 3, 52), (48, 4, 53), (48, 5, 54), (46, 3, 48), (46, 0, 22), (46, 1, 40), (0, 6, 46), (56, 0, 57), (56, 1, 58), (56, 2, 59), (56, 3, 60), (56, 4, 61), (56, 5, 62), (56, 6, 63), (56, 7, 64), (56, 8, 65), (56, 9, 66), (56, 10, 67), (56, 11, 68), (55, 2, 56), (55, 3, 69), (55, 0, 22), (55, 1, 32), (0, 7, 55), (70, 0, 22), (70, 1, 32), (0, 8, 70), (0, 9, 71), (0, 10, 72), (0, 11, 73), (74, 1, 75), (74, 2, 76), (74, 3, 77), (74, 4, 78), (74, 5, 79), (74, 6, 80), (74, 8, 81)]) C (Fr.r ad _ (Fr.s _ (hF.mono (Nat.le_of_ble_eq_true rfl)) rfl) rfl) (fun _ => rfl) (ck_X1_74 l dC dI ad cy z C.2.2.2.2.2.2.1) C.2.2.2.2.2.2.2.2.1.n_X10_92 hC_X1_init hIni_X1 hI_X1_init (by decide +kernel) ⟨rfl, rfl⟩ ⟨(Nat.le_of_ble_eq_true rfl), (Nat.le_of_ble_eq_true rfl)⟩ ⟨(Nat.le_of_ble_eq_true rfl), (Nat.le_of_ble_eq_true rfl)⟩ rfl rfl rfl rfl rfl rfl (Nat.le_of_ble_eq_true rfl) dX10_init_174 ?_
  refine k_aast (kc := 71) (t := 74) (cq := 4) (ci := 1) (N := 2) (lR2 := [(1, 0, 2), (0, 0, 1), (4, 3, 5), (4, 4, 6), (7, 0, 8), (7, 1, 9), (7, 2, 10), (7, 3, 11), (7, 4, 12), (7, 5, 13), (4, 5, 7), (14, 1, 15), (14, 2, 16), (14, 3, 17), (14, 4, 18), (14, 5, 19), (14, 6, 20), (14, 8, 21), (4, 6, 14), (3, 1, 4), (3, 0, 1), (0, 1, 3), (22, 3, 23), (22, 4, 24), (25, 0, 26), (25, 1, 27), (25, 2, 28), (25, 3, 29), (25, 4, 30), (25, 5, 31), (22, 5, 25), (32, 1, 33), (32, 2, 34), (32, 3, 35), (32, 4, 36), (32, 5, 37), (32, 6, 38), (32, 8, 39), (22, 6, 32), (0, 2, 22), (0, 3, 32), (40, 0, 22), (40, 1, 32), (0, 4, 40), (41, 3, 42), (41, 4, 43), (41, 5, 44), (41, 6, 45), (41, 0, 22), (41, 1, 32), (41, 2, 40), (0, 5, 41), (46, 2, 47), (48, 0, 49), (48, 1, 50), (48, 2, 51), (48, 3, 52), (48, 4, 53), (48, 5, 54), (46, 3, 48), (46, 0, 22), (46, 1, 40), (0, 6, 46), (56, 0, 57), (56, 1, 58), (56, 2, 59), (56, 3, 60), (56, 4, 61), (56, 5, 62), (56, 6, 63), (56, 7, 64), (56, 8, 65), (56, 9, 66), (56, 10, 67), (56, 11, 68), (55, 2, 56), (55, 3, 69), (55, 0, 22), (55, 1, 32), (0, 7, 55), (70, 0, 22), (70, 1, 32), (0, 8, 70), (0, 9, 71), (0, 10, 72), (0, 11, 73), (74, 1, 75), (74, 2, 76), (74, 3, 77), (74, 4, 78), (74, 5, 79), (74, 6, 80), (74, 8, 81), (71, 0, 74)]) C (by decide) (by decide) (by decide) rfl rfl rfl rfl (by decide) rfl rfl dX10_init_177 ?_
  refine k_iinc (j := 1) (v := 1) (lv2 := [(0, .ref (ad 0)), (1, .int 1)]) C dX10_init_178 rfl (by decide) (by decide) [1, 0] rfl ?_
  refine k_goto (tgt := 160) C dX10_init_181 (by decide) ?_
  refine k_iload_n C dX10_init_160 rfl 1 rfl ?_
  refine k_iconst (v := 2) C dX10_init_161 (by decide) ?_
  refine k_icmp_ge_f (tgt := 184) C dX10_init_162 (by decide) (by decide) ?_
  refine k_aload_n C dX10_init_165 rfl 0 rfl ?_
  refine k_get (kc := 0) (ci := 10) (v := .ref (ad 71)) C (by decide) rfl rfl hin_X10 9 (by decide) hF_X10_78 rfl rfl dX10_init_166 ?_
  refine k_iload_n C dX10_init_169 rfl 1 rfl ?_
  refine k_new (N := 9) (ci := 1) (fs := [.int 0, .null, .null, .null, .null, .null, .null, .int 0, .null]) (nc2 := 82) (ns2 := 1077) C (Fr.r ad _ (Fr.s _ (hF.mono (Nat.le_of_ble_eq_true rfl)) rfl) rfl) (by decide) hin_X1 tyX1 tyX1_ok hCL_X10_76 hIn_X1 hIni_X1 rfl (fun j hj => by rcases (show j = 0 ∨ j = 1 ∨ j = 2 ∨ j = 3 ∨ j = 4 ∨ j = 5 ∨ j = 6 ∨ j = 7 ∨ j = 8 by omega) with rfl | rfl | rfl | rfl | rfl | rfl | rfl | rfl | rfl <;> rfl) rfl (Nat.le_of_ble_eq_true rfl) (Nat.le_of_ble_eq_true rfl) rfl rfl dX10_init_170 ?_
  refine k_dup C dX10_init_173 rfl ?_
  refine k_callIN (b := ad 82) (As := []) (rest := [.ref (ad 82), .int 1, .ref (ad 71)]) (pn := 0) (nc2 := 89) (ns2 := 1155) (lS2 := [(4, 0, 3), (4, 1, 3), (22, 0, 3), (22, 1, 3)]) (lR2 := [(1, 0, 2), (0, 0, 1), (4, 3, 5), (4, 4, 6), (7, 0, 8), (7, 1, 9), (7, 2, 10), (7, 3, 11), (7, 4, 12), (7, 5, 13), (4, 5, 7), (14, 1, 15), (14, 2, 16), (14, 3, 17), (14, 4, 18), (14, 5, 19), (14, 6, 20), (14, 8, 21), (4, 6, 14), (3, 1, 4), (3, 0, 1), (0, 1, 3), (22, 3, 23), (22, 4, 24), (25, 0, 26), (25, 1, 27), (25, 2, 28), (25, 3, 29), (25, 4, 30), (25, 5, 31), (22, 5, 25), (32, 1, 33), (32, 2, 34), (32, 3, 35), (32, 4, 36), (32, 5, 37), (32, 6, 38), (32, 8, 39), (22, 6, 32), (0, 2, 22), (0, 3, 32), (40, 0, 22), (40, 1, 32), (0, 4, 40), (41, 3, 42), (41, 4, 43), (41, 5, 44), (41, 6, 45), (41, 0, 22), (41, 1, 32), (41, 2, 40), (0, 5, 41), (46, 2, 47), (48, 0, 49), (48, 1, 50), (48, 2, 51), (48, 3, 52), (48, 4, 53), (48, 5, 54), (46, 3, 48), (46, 0, 22), (46, 1, 40), (0, 6, 46), (56, 0, 57), (56, 1, 58), (56, 2, 59), (56, 3, 60), (56, 4, 61), (56, 5, 62), (56, 6, 63), (56, 7, 64), (56, 8, 65), (56, 9, 66), (56, 10, 67), (56, 11, 68), (55, 2, 56), (55, 3, 69), (55, 0, 22), (55, 1, 32), (0, 7, 55), (70, 0, 22), (70, 1, 32), (0, 8, 70), (0, 9, 71), (0, 10, 72), (0, 11, 73), (74, 1, 75), (74, 2, 76), (74, 3, 77), (74, 4, 78), (74, 5, 79), (74, 6, 80), (74, 8, 81), (71, 0, 74), (82, 1, 83), (82, 2, 84), (82, 3, 85), (82, 4, 86), (82, 5, 87), (82, 6, 88), (82, 8, 89)]) C (Fr.r ad _ (Fr.s _ (hF.mono (Nat.le_of_ble_eq_true rfl)) rfl) rfl) (fun _ => rfl) (ck_X1_82 l dC dI ad cy z C.2.2.2.2.2.2.1) C.2.2.2.2.2.2.2.2.1.n_X10_92 hC_X1_init hIni_X1 hI_X1_init (by decide +kernel) ⟨rfl, rfl⟩ ⟨(Nat.le_of_ble_eq_true rfl), (Nat.le_of_ble_eq_true rfl)⟩ ⟨(Nat.le_of_ble_eq_true rfl), (Nat.le_of_ble_eq_true rfl)⟩ rfl rfl rfl rfl rfl rfl (Nat.le_of_ble_eq_true rfl) dX10_init_174 ?_
  refine k_aast (kc := 71) (t := 82) (cq := 4) (ci := 1) (N := 2) (lR2 := [(1, 0, 2), (0, 0, 1), (4, 3, 5), (4, 4, 6), (7, 0, 8), (7, 1, 9), (7, 2, 10), (7, 3, 11), (7, 4, 12), (7, 5, 13), (4, 5, 7), (14, 1, 15), (14, 2, 16), (14, 3, 17), (14, 4, 18), (14, 5, 19), (14, 6, 20), (14, 8, 21), (4, 6, 14), (3, 1, 4), (3, 0, 1), (0, 1, 3), (22, 3, 23), (22, 4, 24), (25, 0, 26), (25, 1, 27), (25, 2, 28), (25, 3, 29), (25, 4, 30), (25, 5, 31), (22, 5, 25), (32, 1, 33), (32, 2, 34), (32, 3, 35), (32, 4, 36), (32, 5, 37), (32, 6, 38), (32, 8, 39), (22, 6, 32), (0, 2, 22), (0, 3, 32), (40, 0, 22), (40, 1, 32), (0, 4, 40), (41, 3, 42), (41, 4, 43), (41, 5, 44), (41, 6, 45), (41, 0, 22), (41, 1, 32), (41, 2, 40), (0, 5, 41), (46, 2, 47), (48, 0, 49), (48, 1, 50), (48, 2, 51), (48, 3, 52), (48, 4, 53), (48, 5, 54), (46, 3, 48), (46, 0, 22), (46, 1, 40), (0, 6, 46), (56, 0, 57), (56, 1, 58), (56, 2, 59), (56, 3, 60), (56, 4, 61), (56, 5, 62), (56, 6, 63), (56, 7, 64), (56, 8, 65), (56, 9, 66), (56, 10, 67), (56, 11, 68), (55, 2, 56), (55, 3, 69), (55, 0, 22), (55, 1, 32), (0, 7, 55), (70, 0, 22), (70, 1, 32), (0, 8, 70), (0, 9, 71), (0, 10, 72), (0, 11, 73), (74, 1, 75), (74, 2, 76), (74, 3, 77), (74, 4, 78), (74, 5, 79), (74, 6, 80), (74, 8, 81), (71, 0, 74), (82, 1, 83), (82, 2, 84), (82, 3, 85), (82, 4, 86), (82, 5, 87), (82, 6, 88), (82, 8, 89), (71, 1, 82)]) C (by decide) (by decide) (by decide) rfl rfl rfl rfl (by decide) rfl rfl dX10_init_177 ?_
  refine k_iinc (j := 1) (v := 2) (lv2 := [(0, .ref (ad 0)), (1, .int 2)]) C dX10_init_178 rfl (by decide) (by decide) [1, 0] rfl ?_
  refine k_goto (tgt := 160) C dX10_init_181 (by decide) ?_
  refine k_iload_n C dX10_init_160 rfl 1 rfl ?_
  refine k_iconst (v := 2) C dX10_init_161 (by decide) ?_
  refine k_icmp_ge_t (tgt := 184) C dX10_init_162 (by decide) (by decide) ?_
  refine k_iconst (v := 0) C dX10_init_184 (by decide) ?_
  refine k_istore_n (lv2 := [(0, .ref (ad 0)), (1, .int 0)]) C dX10_init_185 rfl (by decide) [1, 0] rfl ?_
  refine k_iload_n C dX10_init_186 rfl 1 rfl ?_
  refine k_iconst (v := 4) C dX10_init_187 (by decide) ?_
  refine k_icmp_ge_f (tgt := 210) C dX10_init_188 (by decide) (by decide) ?_
  refine k_aload_n C dX10_init_191 rfl 0 rfl ?_
  refine k_get (kc := 0) (ci := 10) (v := .ref (ad 73)) C (by decide) rfl rfl hin_X10 11 (by decide) hF_X10_88 rfl rfl dX10_init_192 ?_
  refine k_iload_n C dX10_init_195 rfl 1 rfl ?_
  refine k_new (N := 3) (ci := 7) (fs := [.int 0, .int 0, .null]) (nc2 := 90) (ns2 := 1158) C (Fr.r ad _ (Fr.s _ (hF.mono (Nat.le_of_ble_eq_true rfl)) rfl) rfl) (by decide) hin_X7 tyX7 tyX7_ok hCL_X10_86 hIn_X7 hIni_X7 rfl (fun j hj => by rcases (show j = 0 ∨ j = 1 ∨ j = 2 by omega) with rfl | rfl | rfl <;> rfl) rfl (Nat.le_of_ble_eq_true rfl) (Nat.le_of_ble_eq_true rfl) rfl rfl dX10_init_196 ?_
  refine k_dup C dX10_init_199 rfl ?_
  refine k_callIN (b := ad 90) (As := []) (rest := [.ref (ad 90), .int 0, .ref (ad 73)]) (pn := 0) (nc2 := 91) (ns2 := 1198) (lS2 := [(4, 0, 3), (4, 1, 3), (22, 0, 3), (22, 1, 3), (90, 0, (-1))]) (lR2 := [(1, 0, 2), (0, 0, 1), (4, 3, 5), (4, 4, 6), (7, 0, 8), (7, 1, 9), (7, 2, 10), (7, 3, 11), (7, 4, 12), (7, 5, 13), (4, 5, 7), (14, 1, 15), (14, 2, 16), (14, 3, 17), (14, 4, 18), (14, 5, 19), (14, 6, 20), (14, 8, 21), (4, 6, 14), (3, 1, 4), (3, 0, 1), (0, 1, 3), (22, 3, 23), (22, 4, 24), (25, 0, 26), (25, 1, 27), (25, 2, 28), (25, 3, 29), (25, 4, 30), (25, 5, 31), (22, 5, 25), (32, 1, 33), (32, 2, 34), (32, 3, 35), (32, 4, 36), (32, 5, 37), (32, 6, 38), (32, 8, 39), (22, 6, 32), (0, 2, 22), (0, 3, 32), (40, 0, 22), (40, 1, 32), (0, 4, 40), (41, 3, 42), (41, 4, 43), (41, 5, 44), (41, 6, 45), (41, 0, 22), (41, 1, 32), (41, 2, 40), (0, 5, 41), (46, 2, 47), (48, 0, 49), (48, 1, 50), (48, 2, 51), (48, 3, 52), (48, 4, 53), (48, 5, 54), (46, 3, 48), (46, 0, 22), (46, 1, 40), (0, 6, 46), (56, 0, 57), (56, 1, 58), (56, 2, 59), (56, 3, 60), (56, 4, 61), (56, 5, 62), (56, 6, 63), (56, 7, 64), (56, 8, 65), (56, 9, 66), (56, 10, 67), (56, 11, 68), (55, 2, 56), (55, 3, 69), (55, 0, 22), (55, 1, 32), (0, 7, 55), (70, 0, 22), (70, 1, 32), (0, 8, 70), (0, 9, 71), (0, 10, 72), (0, 11, 73), (74, 1, 75), (74, 2, 76), (74, 3, 77), (74, 4, 78), (74, 5, 79), (74, 6, 80), (74, 8, 81), (71, 0, 74), (82, 1, 83), (82, 2, 84), (82, 3, 85), (82, 4, 86), (82, 5, 87), (82, 6, 88), (82, 8, 89), (71, 1, 82), (90, 2, 91)]) C (Fr.r ad _ (Fr.s _ (hF.mono (Nat.le_of_ble_eq_true rfl)) rfl) rfl) (fun _ => rfl) (ck_X7_90 l dC dI ad cy z C.2.2.2.2.2.2.1) C.2.2.2.2.2.2.2.2.1.n_X10_93 hC_X7_init hIni_X7 hI_X7_init (by decide +kernel) ⟨rfl, rfl⟩ ⟨(Nat.le_of_ble_eq_true rfl), (Nat.le_of_ble_eq_true rfl)⟩ ⟨(Nat.le_of_ble_eq_true rfl), (Nat.le_of_ble_eq_true rfl)⟩ rfl rfl rfl rfl rfl rfl (Nat.le_of_ble_eq_true rfl) dX10_init_200 ?_
  refine k_aast (kc := 73) (t := 90) (cq := 5) (ci := 7) (N := 4) (lR2 := [(1, 0, 2), (0, 0, 1), (4, 3, 5), (4, 4, 6), (7, 0, 8), (7, 1, 9), (7, 2, 10), (7, 3, 11), (7, 4, 12), (7, 5, 13), (4, 5, 7), (14, 1, 15), (14, 2, 16), (14, 3, 17), (14, 4, 18), (14, 5, 19), (14, 6, 20), (14, 8, 21), (4, 6, 14), (3, 1, 4), (3, 0, 1), (0, 1, 3), (22, 3, 23), (22, 4, 24), (25, 0, 26), (25, 1, 27), (25, 2, 28), (25, 3, 29), (25, 4, 30), (25, 5, 31), (22, 5, 25), (32, 1, 33), (32, 2, 34), (32, 3, 35), (32, 4, 36), (32, 5, 37), (32, 6, 38), (32, 8, 39), (22, 6, 32), (0, 2, 22), (0, 3, 32), (40, 0, 22), (40, 1, 32), (0, 4, 40), (41, 3, 42), (41, 4, 43), (41, 5, 44), (41, 6, 45), (41, 0, 22), (41, 1, 32), (41, 2, 40), (0, 5, 41), (46, 2, 47), (48, 0, 49), (48, 1, 50), (48, 2, 51), (48, 3, 52), (48, 4, 53), (48, 5, 54), (46, 3, 48), (46, 0, 22), (46, 1, 40), (0, 6, 46), (56, 0, 57), (56, 1, 58), (56, 2, 59), (56, 3, 60), (56, 4, 61), (56, 5, 62), (56, 6, 63), (56, 7, 64), (56, 8, 65), (56, 9, 66), (56, 10, 67), (56, 11, 68), (55, 2, 56), (55, 3, 69), (55, 0, 22), (55, 1, 32), (0, 7, 55), (70, 0, 22), (70, 1, 32), (0, 8, 70), (0, 9, 71), (0, 10, 72), (0, 11, 73), (74, 1, 75), (74, 2, 76), (74, 3, 77), (74, 4, 78), (74, 5, 79), (74, 6, 80), (74, 8, 81), (71, 0, 74), (82, 1, 83), (82, 2, 84), (82, 3, 85), (82, 4, 86), (82, 5, 87), (82, 6, 88), (82, 8, 89), (71, 1, 82), (90, 2, 91), (73, 0, 90)]) C (by decide) (by decide) (by decide) rfl rfl rfl rfl (by decide) rfl rfl dX10_init_203 ?_
  refine k_iinc (j := 1) (v := 1) (lv2 := [(0, .ref (ad 0)), (1, .int 1)]) C dX10_init_204 rfl (by decide) (by decide) [1, 0] rfl ?_
  refine k_goto (tgt := 186) C dX10_init_207 (by decide) ?_
  refine k_iload_n C dX10_init_186 rfl 1 rfl ?_
  refine k_iconst (v := 4) C dX10_init_187 (by decide) ?_
  refine k_icmp_ge_f (tgt := 210) C dX10_init_188 (by decide) (by decide) ?_
  refine k_aload_n C dX10_init_191 rfl 0 rfl ?_
  refine k_get (kc := 0) (ci := 10) (v := .ref (ad 73)) C (by decide) rfl rfl hin_X10 11 (by decide) hF_X10_88 rfl rfl dX10_init_192 ?_
  refine k_iload_n C dX10_init_195 rfl 1 rfl ?_
  refine k_new (N := 3) (ci := 7) (fs := [.int 0, .int 0, .null]) (nc2 := 92) (ns2 := 1201) C (Fr.r ad _ (Fr.s _ (hF.mono (Nat.le_of_ble_eq_true rfl)) rfl) rfl) (by decide) hin_X7 tyX7 tyX7_ok hCL_X10_86 hIn_X7 hIni_X7 rfl (fun j hj => by rcases (show j = 0 ∨ j = 1 ∨ j = 2 by omega) with rfl | rfl | rfl <;> rfl) rfl (Nat.le_of_ble_eq_true rfl) (Nat.le_of_ble_eq_true rfl) rfl rfl dX10_init_196 ?_
  refine k_dup C dX10_init_199 rfl ?_
  refine k_callIN (b := ad 92) (As := []) (rest := [.ref (ad 92), .int 1, .ref (ad 73)]) (pn := 0) (nc2 := 93) (ns2 := 1241) (lS2 := [(4, 0, 3), (4, 1, 3), (22, 0, 3), (22, 1, 3), (90, 0, (-1)), (92, 0, (-1))]) (lR2 := [(1, 0, 2), (0, 0, 1), (4, 3, 5), (4, 4, 6), (7, 0, 8), (7, 1, 9), (7, 2, 10), (7, 3, 11), (7, 4, 12), (7, 5, 13), (4, 5, 7), (14, 1, 15), (14, 2, 16), (14, 3, 17), (14, 4, 18), (14, 5, 19), (14, 6, 20), (14, 8, 21), (4, 6, 14), (3, 1, 4), (3, 0, 1), (0, 1, 3), (22, 3, 23), (22, 4, 24), (25, 0, 26), (25, 1, 27), (25, 2, 28), (25, 3, 29), (25, 4, 30), (25, 5, 31), (22, 5, 25), (32, 1, 33), (32, 2, 34), (32, 3, 35), (32, 4, 36), (32, 5, 37), (32, 6, 38), (32, 8, 39), (22, 6, 32), (0, 2, 22), (0, 3, 32), (40, 0, 22), (40, 1, 32), (0, 4, 40), (41, 3, 42), (41, 4, 43), (41, 5, 44), (41, 6, 45), (41, 0, 22), (41, 1, 32), (41, 2, 40), (0, 5, 41), (46, 2, 47), (48, 0, 49), (48, 1, 50), (48, 2, 51), (48, 3, 52), (48, 4, 53), (48, 5, 54), (46, 3, 48), (46, 0, 22), (46, 1, 40), (0, 6, 46), (56, 0, 57), (56, 1, 58), (56, 2, 59), (56, 3, 60), (56, 4, 61), (56, 5, 62), (56, 6, 63), (56, 7, 64), (56, 8, 65), (56, 9, 66), (56, 10, 67), (56, 11, 68), (55, 2, 56), (55, 3, 69), (55, 0, 22), (55, 1, 32), (0, 7, 55), (70, 0, 22), (70, 1, 32), (0, 8, 70), (0, 9, 71), (0, 10, 72), (0, 11, 73), (74, 1, 75), (74, 2, 76), (74, 3, 77), (74, 4, 78), (74, 5, 79), (74, 6, 80), (74, 8, 81), (71, 0, 74), (82, 1, 83), (82, 2, 84), (82, 3, 85), (82, 4, 86), (82, 5, 87), (82, 6, 88), (82, 8, 89), (71, 1, 82), (90, 2, 91), (73, 0, 90), (92, 2, 93)]) C (Fr.r ad _ (Fr.s _ (hF.mono (Nat.le_of_ble_eq_true rfl)) rfl) rfl) (fun _ => rfl) (ck_X7_92 l dC dI ad cy z C.2.2.2.2.2.2.1) C.2.2.2.2.2.2.2.2.1.n_X10_93 hC_X7_init hIni_X7 hI_X7_init (by decide +kernel) ⟨rfl, rfl⟩ ⟨(Nat.le_of_ble_eq_true rfl), (Nat.le_of_ble_eq_true rfl)⟩ ⟨(Nat.le_of_ble_eq_true rfl), (Nat.le_of_ble_eq_true rfl)⟩ rfl rfl rfl rfl rfl rfl (Nat.le_of_ble_eq_true rfl) dX10_init_200 ?_
  refine k_aast (kc := 73) (t := 92) (cq := 5) (ci := 7) (N := 4) (lR2 := [(1, 0, 2), (0, 0, 1), (4, 3, 5), (4, 4, 6), (7, 0, 8), (7, 1, 9), (7, 2, 10), (7, 3, 11), (7, 4, 12), (7, 5, 13), (4, 5, 7), (14, 1, 15), (14, 2, 16), (14, 3, 17), (14, 4, 18), (14, 5, 19), (14, 6, 20), (14, 8, 21), (4, 6, 14), (3, 1, 4), (3, 0, 1), (0, 1, 3), (22, 3, 23), (22, 4, 24), (25, 0, 26), (25, 1, 27), (25, 2, 28), (25, 3, 29), (25, 4, 30), (25, 5, 31), (22, 5, 25), (32, 1, 33), (32, 2, 34), (32, 3, 35), (32, 4, 36), (32, 5, 37), (32, 6, 38), (32, 8, 39), (22, 6, 32), (0, 2, 22), (0, 3, 32), (40, 0, 22), (40, 1, 32), (0, 4, 40), (41, 3, 42), (41, 4, 43), (41, 5, 44), (41, 6, 45), (41, 0, 22), (41, 1, 32), (41, 2, 40), (0, 5, 41), (46, 2, 47), (48, 0, 49), (48, 1, 50), (48, 2, 51), (48, 3, 52), (48, 4, 53), (48, 5, 54), (46, 3, 48), (46, 0, 22), (46, 1, 40), (0, 6, 46), (56, 0, 57), (56, 1, 58), (56, 2, 59), (56, 3, 60), (56, 4, 61), (56, 5, 62), (56, 6, 63), (56, 7, 64), (56, 8, 65), (56, 9, 66), (56, 10, 67), (56, 11, 68), (55, 2, 56), (55, 3, 69), (55, 0, 22), (55, 1, 32), (0, 7, 55), (70, 0, 22), (70, 1, 32), (0, 8, 70), (0, 9, 71), (0, 10, 72), (0, 11, 73), (74, 1, 75), (74, 2, 76), (74, 3, 77), (74, 4, 78), (74, 5, 79), (74, 6, 80), (74, 8, 81), (71, 0, 74), (82, 1, 83), (82, 2, 84), (82, 3, 85), (82, 4, 86), (82, 5, 87), (82, 6, 88), (82, 8, 89), (71, 1, 82), (90, 2, 91), (73, 0, 90), (92, 2, 93), (73, 1, 92)]) C (by decide) (by decide) (by decide) rfl rfl rfl rfl (by decide) rfl rfl dX10_init_203 ?_
  refine k_iinc (j := 1) (v := 2) (lv2 := [(0, .ref (ad 0)), (1, .int 2)]) C dX10_init_204 rfl (by decide) (by decide) [1, 0] rfl ?_
  refine k_goto (tgt := 186) C dX10_init_207 (by decide) ?_
  refine k_iload_n C dX10_init_186 rfl 1 rfl ?_
  refine k_iconst (v := 4) C dX10_init_187 (by decide) ?_
  refine k_icmp_ge_f (tgt := 210) C dX10_init_188 (by decide) (by decide) ?_
  refine k_aload_n C dX10_init_191 rfl 0 rfl ?_
  refine k_get (kc := 0) (ci := 10) (v := .ref (ad 73)) C (by decide) rfl rfl hin_X10 11 (by decide) hF_X10_88 rfl rfl dX10_init_192 ?_
  refine k_iload_n C dX10_init_195 rfl 1 rfl ?_
  refine k_new (N := 3) (ci := 7) (fs := [.int 0, .int 0, .null]) (nc2 := 94) (ns2 := 1244) C (Fr.r ad _ (Fr.s _ (hF.mono (Nat.le_of_ble_eq_true rfl)) rfl) rfl) (by decide) hin_X7 tyX7 tyX7_ok hCL_X10_86 hIn_X7 hIni_X7 rfl (fun j hj => by rcases (show j = 0 ∨ j = 1 ∨ j = 2 by omega) with rfl | rfl | rfl <;> rfl) rfl (Nat.le_of_ble_eq_true rfl) (Nat.le_of_ble_eq_true rfl) rfl rfl dX10_init_196 ?_
  refine k_dup C dX10_init_199 rfl ?_
  refine k_callIN (b := ad 94) (As := []) (rest := [.ref (ad 94), .int 2, .ref (ad 73)]) (pn := 0) (nc2 := 95) (ns2 := 1284) (lS2 := [(4, 0, 3), (4, 1, 3), (22, 0, 3), (22, 1, 3), (90, 0, (-1)), (92, 0, (-1)), (94, 0, (-1))]) (lR2 := [(1, 0, 2), (0, 0, 1), (4, 3, 5), (4, 4, 6), (7, 0, 8), (7, 1, 9), (7, 2, 10), (7, 3, 11), (7, 4, 12), (7, 5, 13), (4, 5, 7), (14, 1, 15), (14, 2, 16), (14, 3, 17), (14, 4, 18), (14, 5, 19), (14, 6, 20), (14, 8, 21), (4, 6, 14), (3, 1, 4), (3, 0, 1), (0, 1, 3), (22, 3, 23), (22, 4, 24), (25, 0, 26), (25, 1, 27), (25, 2, 28), (25, 3, 29), (25, 4, 30), (25, 5, 31), (22, 5, 25), (32, 1, 33), (32, 2, 34), (32, 3, 35), (32, 4, 36), (32, 5, 37), (32, 6, 38), (32, 8, 39), (22, 6, 32), (0, 2, 22), (0, 3, 32), (40, 0, 22), (40, 1, 32), (0, 4, 40), (41, 3, 42), (41, 4, 43), (41, 5, 44), (41, 6, 45), (41, 0, 22), (41, 1, 32), (41, 2, 40), (0, 5, 41), (46, 2, 47), (48, 0, 49), (48, 1, 50), (48, 2, 51), (48, 3, 52), (48, 4, 53), (48, 5, 54), (46, 3, 48), (46, 0, 22), (46, 1, 40), (0, 6, 46), (56, 0, 57), (56, 1, 58), (56, 2, 59), (56, 3, 60), (56, 4, 61), (56, 5, 62), (56, 6, 63), (56, 7, 64), (56, 8, 65), (56, 9, 66), (56, 10, 67), (56, 11, 68), (55, 2, 56), (55, 3, 69), (55, 0, 22), (55, 1, 32), (0, 7, 55), (70, 0, 22), (70, 1, 32), (0, 8, 70), (0, 9, 71), (0, 10, 72), (0, 11, 73), (74, 1, 75), (74, 2, 76), (74, 3, 77), (74, 4, 78), (74, 5, 79), (74, 6, 80), (74, 8, 81), (71, 0, 74), (82, 1, 83), (82, 2, 84), (82, 3, 85), (82, 4, 86), (82, 5, 87), (82, 6, 88), (82, 8, 89), (71, 1, 82), (90, 2, 91), (73, 0, 90), (92, 2, 93), (73, 1, 92), (94, 2, 95)]) C (Fr.r ad _ (Fr.s _ (hF.mono (Nat.le_of_ble_eq_true rfl)) rfl) rfl) (fun _ => rfl) (ck_X7_94 l dC dI ad cy z C.2.2.2.2.2.2.1) C.2.2.2.2.2.2.2.2.1.n_X10_93 hC_X7_init hIni_X7 hI_X7_init (by decide +kernel) ⟨rfl, rfl⟩ ⟨(Nat.le_of_ble_eq_true rfl), (Nat.le_of_ble_eq_true rfl)⟩ ⟨(Nat.le_of_ble_eq_true rfl), (Nat.le_of_ble_eq_true rfl)⟩ rfl rfl rfl rfl rfl rfl (Nat.le_of_ble_eq_true rfl) dX10_init_200 ?_
  refine k_aast (kc := 73) (t := 94) (cq := 5) (ci := 7) (N := 4) (lR2 := [(1, 0, 2), (0, 0, 1), (4, 3, 5), (4, 4, 6), (7, 0, 8), (7, 1, 9), (7, 2, 10), (7, 3, 11), (7, 4, 12), (7, 5, 13), (4, 5, 7), (14, 1, 15), (14, 2, 16), (14, 3, 17), (14, 4, 18), (14, 5, 19), (14, 6, 20), (14, 8, 21), (4, 6, 14), (3, 1, 4), (3, 0, 1), (0, 1, 3), (22, 3, 23), (22, 4, 24), (25, 0, 26), (25, 1, 27), (25, 2, 28), (25, 3, 29), (25, 4, 30), (25, 5, 31), (22, 5, 25), (32, 1, 33), (32, 2, 34), (32, 3, 35), (32, 4, 36), (32, 5, 37), (32, 6, 38), (32, 8, 39), (22, 6, 32), (0, 2, 22), (0, 3, 32), (40, 0, 22), (40, 1, 32), (0, 4, 40), (41, 3, 42), (41, 4, 43), (41, 5, 44), (41, 6, 45), (41, 0, 22), (41, 1, 32), (41, 2, 40), (0, 5, 41), (46, 2, 47), (48, 0, 49), (48, 1, 50), (48, 2, 51), (48, 3, 52), (48, 4, 53), (48, 5, 54), (46, 3, 48), (46, 0, 22), (46, 1, 40), (0, 6, 46), (56, 0, 57), (56, 1, 58), (56, 2, 59), (56, 3, 60), (56, 4, 61), (56, 5, 62), (56, 6, 63), (56, 7, 64), (56, 8, 65), (56, 9, 66), (56, 10, 67), (56, 11, 68), (55, 2, 56), (55, 3, 69), (55, 0, 22), (55, 1, 32), (0, 7, 55), (70, 0, 22), (70, 1, 32), (0, 8, 70), (0, 9, 71), (0, 10, 72), (0, 11, 73), (74, 1, 75), (74, 2, 76), (74, 3, 77), (74, 4, 78), (74, 5, 79), (74, 6, 80), (74, 8, 81), (71, 0, 74), (82, 1, 83), (82, 2, 84), (82, 3, 85), (82, 4, 86), (82, 5, 87), (82, 6, 88), (82, 8, 89), (71, 1, 82), (90, 2, 91), (73, 0, 90), (92, 2, 93), (73, 1, 92), (94, 2, 95), (73, 2, 94)]) C (by decide) (by decide) (by decide) rfl rfl rfl rfl (by decide) rfl rfl dX10_init_203 ?_
  refine k_iinc (j := 1) (v := 3) (lv2 := [(0, .ref (ad 0)), (1, .int 3)]) C dX10_init_204 rfl (by decide) (by decide) [1, 0] rfl ?_
  refine k_goto (tgt := 186) C dX10_init_207 (by decide) ?_
  refine k_iload_n C dX10_init_186 rfl 1 rfl ?_
  refine k_iconst (v := 4) C dX10_init_187 (by decide) ?_
  refine k_icmp_ge_f (tgt := 210) C dX10_init_188 (by decide) (by decide) ?_
  refine k_aload_n C dX10_init_191 rfl 0 rfl ?_
  refine k_get (kc := 0) (ci := 10) (v := .ref (ad 73)) C (by decide) rfl rfl hin_X10 11 (by decide) hF_X10_88 rfl rfl dX10_init_192 ?_
  refine k_iload_n C dX10_init_195 rfl 1 rfl ?_
  refine k_new (N := 3) (ci := 7) (fs := [.int 0, .int 0, .null]) (nc2 := 96) (ns2 := 1287) C (Fr.r ad _ (Fr.s _ (hF.mono (Nat.le_of_ble_eq_true rfl)) rfl) rfl) (by decide) hin_X7 tyX7 tyX7_ok hCL_X10_86 hIn_X7 hIni_X7 rfl (fun j hj => by rcases (show j = 0 ∨ j = 1 ∨ j = 2 by omega) with rfl | rfl | rfl <;> rfl) rfl (Nat.le_of_ble_eq_true rfl) (Nat.le_of_ble_eq_true rfl) rfl rfl dX10_init_196 ?_
  refine k_dup C dX10_init_199 rfl ?_
  refine k_callIN (b := ad 96) (As := []) (rest := [.ref (ad 96), .int 3, .ref (ad 73)]) (pn := 0) (nc2 := 97) (ns2 := 1327) (lS2 := [(4, 0, 3), (4, 1, 3), (22, 0, 3), (22, 1, 3), (90, 0, (-1)), (92, 0, (-1)), (94, 0, (-1)), (96, 0, (-1))]) (lR2 := [(1, 0, 2), (0, 0, 1), (4, 3, 5), (4, 4, 6), (7, 0, 8), (7, 1, 9), (7, 2, 10), (7, 3, 11), (7, 4, 12), (7, 5, 13), (4, 5, 7), (14, 1, 15), (14, 2, 16), (14, 3, 17), (14, 4, 18), (14, 5, 19), (14, 6, 20), (14, 8, 21), (4, 6, 14), (3, 1, 4), (3, 0, 1), (0, 1, 3), (22, 3, 23), (22, 4, 24), (25, 0, 26), (25, 1, 27), (25, 2, 28), (25, 3, 29), (25, 4, 30), (25, 5, 31), (22, 5, 25), (32, 1, 33), (32, 2, 34), (32, 3, 35), (32, 4, 36), (32, 5, 37), (32, 6, 38), (32, 8, 39), (22, 6, 32), (0, 2, 22), (0, 3, 32), (40, 0, 22), (40, 1, 32), (0, 4, 40), (41, 3, 42), (41, 4, 43), (41, 5, 44), (41, 6, 45), (41, 0, 22), (41, 1, 32), (41, 2, 40), (0, 5, 41), (46, 2, 47), (48, 0, 49), (48, 1, 50), (48, 2, 51), (48, 3, 52), (48, 4, 53), (48, 5, 54), (46, 3, 48), (46, 0, 22), (46, 1, 40), (0, 6, 46), (56, 0, 57), (56, 1, 58), (56, 2, 59), (56, 3, 60), (56, 4, 61), (56, 5, 62), (56, 6, 63), (56, 7, 64), (56, 8, 65), (56, 9, 66), (56, 10, 67), (56, 11, 68), (55, 2, 56), (55, 3, 69), (55, 0, 22), (55, 1, 32), (0, 7, 55), (70, 0, 22), (70, 1, 32), (0, 8, 70), (0, 9, 71), (0, 10, 72), (0, 11, 73), (74, 1, 75), (74, 2, 76), (74, 3, 77), (74, 4, 78), (74, 5, 79), (74, 6, 80), (74, 8, 81), (71, 0, 74), (82, 1, 83), (82, 2, 84), (82, 3, 85), (82, 4, 86), (82, 5, 87), (82, 6, 88), (82, 8, 89), (71, 1, 82), (90, 2, 91), (73, 0, 90), (92, 2, 93), (73, 1, 92), (94, 2, 95), (73, 2, 94), (96, 2, 97)]) C (Fr.r ad _ (Fr.s _ (hF.mono (Nat.le_of_ble_eq_true rfl)) rfl) rfl) (fun _ => rfl) (ck_X7_96 l dC dI ad cy z C.2.2.2.2.2.2.1) C.2.2.2.2.2.2.2.2.1.n_X10_93 hC_X7_init hIni_X7 hI_X7_init (by decide +kernel) ⟨rfl, rfl⟩ ⟨(Nat.le_of_ble_eq_true rfl), (Nat.le_of_ble_eq_true rfl)⟩ ⟨(Nat.le_of_ble_eq_true rfl), (Nat.le_of_ble_eq_true rfl)⟩ rfl rfl rfl rfl rfl rfl (Nat.le_of_ble_eq_true rfl) dX10_init_200 ?_
  refine k_aast (kc := 73) (t := 96) (cq := 5) (ci := 7) (N := 4) (lR2 := [(1, 0, 2), (0, 0, 1), (4, 3, 5), (4, 4, 6), (7, 0, 8), (7, 1, 9), (7, 2, 10), (7, 3, 11), (7, 4, 12), (7, 5, 13), (4, 5, 7), (14, 1, 15), (14, 2, 16), (14, 3, 17), (14, 4, 18), (14, 5, 19), (14, 6, 20), (14, 8, 21), (4, 6, 14), (3, 1, 4), (3, 0, 1), (0, 1, 3), (22, 3, 23), (22, 4, 24), (25, 0, 26), (25, 1, 27), (25, 2, 28), (25, 3, 29), (25, 4, 30), (25, 5, 31), (22, 5, 25), (32, 1, 33), (32, 2, 34), (32, 3, 35), (32, 4, 36), (32, 5, 37), (32, 6, 38), (32, 8, 39), (22, 6, 32), (0, 2, 22), (0, 3, 32), (40, 0, 22), (40, 1, 32), (0, 4, 40), (41, 3, 42), (41, 4, 43), (41, 5, 44), (41, 6, 45), (41, 0, 22), (41, 1, 32), (41, 2, 40), (0, 5, 41), (46, 2, 47), (48, 0, 49), (48, 1, 50), (48, 2, 51), (48, 3, 52), (48, 4, 53), (48, 5, 54), (46, 3, 48), (46, 0, 22), (46, 1, 40), (0, 6, 46), (56, 0, 57), (56, 1, 58), (56, 2, 59), (56, 3, 60), (56, 4, 61), (56, 5, 62), (56, 6, 63), (56, 7, 64), (56, 8, 65), (56, 9, 66), (56, 10, 67), (56, 11, 68), (55, 2, 56), (55, 3, 69), (55, 0, 22), (55, 1, 32), (0, 7, 55), (70, 0, 22), (70, 1, 32), (0, 8, 70), (0, 9, 71), (0, 10, 72), (0, 11, 73), (74, 1, 75), (74, 2, 76), (74, 3, 77), (74, 4, 78), (74, 5, 79), (74, 6, 80), (74, 8, 81), (71, 0, 74), (82, 1, 83), (82, 2, 84), (82, 3, 85), (82, 4, 86), (82, 5, 87), (82, 6, 88), (82, 8, 89), (71, 1, 82), (90, 2, 91), (73, 0, 90), (92, 2, 93), (73, 1, 92), (94, 2, 95), (73, 2, 94), (96, 2, 97), (73, 3, 96)]) C (by decide) (by decide) (by decide) rfl rfl rfl rfl (by decide) rfl rfl dX10_init_203 ?_
  refine k_iinc (j := 1) (v := 4) (lv2 := [(0, .ref (ad 0)), (1, .int 4)]) C dX10_init_204 rfl (by decide) (by decide) [1, 0] rfl ?_
  refine k_goto (tgt := 186) C dX10_init_207 (by decide) ?_
  refine k_iload_n C dX10_init_186 rfl 1 rfl ?_
  refine k_iconst (v := 4) C dX10_init_187 (by decide) ?_
  refine k_icmp_ge_t (tgt := 210) C dX10_init_188 (by decide) (by decide) ?_
  exact k_vret C hr dX10_init_210
end
