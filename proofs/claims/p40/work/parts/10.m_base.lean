section
/-! THE WORLD: one fixed row of cells, those of the class (0 to 97) and of the reference (98 to 110), in the order in which they are made; cell k holds the ints σ k. -/
abbrev S0 : Type := Nat → Nat → Int32
def rfA (ad : Nat → Nat) (n b d : Nat) : Nat → Option Nat := fun i => if i < n then some (ad (b + d * i)) else none
def wT (ad : Nat → Nat) (cy : Nat → ClassId) : List ((Nat → Int32) → va_E) := [
  fun f => .inr (10, [.ref (ad 1), .ref (ad 3), .ref (ad 22), .ref (ad 32), .ref (ad 40), .ref (ad 41), .ref (ad 46), .ref (ad 55), .ref (ad 70), .ref (ad 71), .ref (ad 72), .ref (ad 73), .int (f 12)]),
  fun f => .inr (8, [.ref (ad 2), .int (f 1), .int (f 2), .int (f 3), .int (f 4), .int (f 5)]),
  fun f => .inl (cy 1, 320, .inl f),
  fun f => .inr (5, [.ref (ad 1), .ref (ad 4), .int (f 2), .int (f 3), .int (f 4), .int (f 5), .int (f 6)]),
  fun f => .inr (9, [.int (f 0), .int (f 1), .int (f 2), .ref (ad 5), .ref (ad 6), .ref (ad 7), .ref (ad 14)]),
  fun f => .inl (cy 0, 6, .inl f),
  fun f => .inl (cy 0, 6, .inl f),
  fun _ => .inl (cy 3, 6, .inr (.inr (.inr (.inr (rfA ad 6 8 1))))),
  fun f => .inl (cy 0, 12, .inl f),
  fun f => .inl (cy 0, 12, .inl f),
  fun f => .inl (cy 0, 12, .inl f),
  fun f => .inl (cy 0, 12, .inl f),
  fun f => .inl (cy 0, 12, .inl f),
  fun f => .inl (cy 0, 12, .inl f),
  fun f => .inr (1, [.int (f 0), .ref (ad 15), .ref (ad 16), .ref (ad 17), .ref (ad 18), .ref (ad 19), .ref (ad 20), .int (f 7), .ref (ad 21)]),
  fun f => .inl (cy 0, 12, .inl f),
  fun f => .inl (cy 0, 12, .inl f),
  fun f => .inl (cy 0, 12, .inl f),
  fun f => .inl (cy 0, 12, .inl f),
  fun f => .inl (cy 0, 12, .inl f),
  fun f => .inl (cy 0, 6, .inl f),
  fun f => .inl (cy 0, 12, .inl f),
  fun f => .inr (9, [.int (f 0), .int (f 1), .int (f 2), .ref (ad 23), .ref (ad 24), .ref (ad 25), .ref (ad 32)]),
  fun f => .inl (cy 0, 6, .inl f),
  fun f => .inl (cy 0, 6, .inl f),
  fun _ => .inl (cy 3, 6, .inr (.inr (.inr (.inr (rfA ad 6 26 1))))),
  fun f => .inl (cy 0, 12, .inl f),
  fun f => .inl (cy 0, 12, .inl f),
  fun f => .inl (cy 0, 12, .inl f),
  fun f => .inl (cy 0, 12, .inl f),
  fun f => .inl (cy 0, 12, .inl f),
  fun f => .inl (cy 0, 12, .inl f),
  fun f => .inr (1, [.int (f 0), .ref (ad 33), .ref (ad 34), .ref (ad 35), .ref (ad 36), .ref (ad 37), .ref (ad 38), .int (f 7), .ref (ad 39)]),
  fun f => .inl (cy 0, 12, .inl f),
  fun f => .inl (cy 0, 12, .inl f),
  fun f => .inl (cy 0, 12, .inl f),
  fun f => .inl (cy 0, 12, .inl f),
  fun f => .inl (cy 0, 12, .inl f),
  fun f => .inl (cy 0, 6, .inl f),
  fun f => .inl (cy 0, 12, .inl f),
  fun f => .inr (6, [.ref (ad 22), .ref (ad 32), .int (f 2), .int (f 3), .int (f 4), .int (f 5)]),
  fun f => .inr (0, [.ref (ad 22), .ref (ad 32), .ref (ad 40), .ref (ad 42), .ref (ad 43), .ref (ad 44), .ref (ad 45), .int (f 7), .int (f 8)]),
  fun f => .inl (cy 0, 6, .inl f),
  fun f => .inl (cy 0, 6, .inl f),
  fun f => .inl (cy 0, 6, .inl f),
  fun f => .inl (cy 0, 6, .inl f),
  fun f => .inr (2, [.ref (ad 22), .ref (ad 40), .ref (ad 47), .ref (ad 48), .int (f 4), .int (f 5)]),
  fun f => .inl (cy 0, 6, .inl f),
  fun _ => .inl (cy 3, 6, .inr (.inr (.inr (.inr (rfA ad 6 49 1))))),
  fun f => .inl (cy 0, 6, .inl f),
  fun f => .inl (cy 0, 6, .inl f),
  fun f => .inl (cy 0, 6, .inl f),
  fun f => .inl (cy 0, 6, .inl f),
  fun f => .inl (cy 0, 6, .inl f),
  fun f => .inl (cy 0, 6, .inl f),
  fun f => .inr (4, [.ref (ad 22), .ref (ad 32), .ref (ad 56), .ref (ad 69), .int (f 4)]),
  fun _ => .inl (cy 3, 12, .inr (.inr (.inr (.inr (rfA ad 12 57 1))))),
  fun f => .inl (cy 0, 12, .inl f),
  fun f => .inl (cy 0, 12, .inl f),
  fun f => .inl (cy 0, 12, .inl f),
  fun f => .inl (cy 0, 12, .inl f),
  fun f => .inl (cy 0, 12, .inl f),
  fun f => .inl (cy 0, 12, .inl f),
  fun f => .inl (cy 0, 12, .inl f),
  fun f => .inl (cy 0, 12, .inl f),
  fun f => .inl (cy 0, 12, .inl f),
  fun f => .inl (cy 0, 12, .inl f),
  fun f => .inl (cy 0, 12, .inl f),
  fun f => .inl (cy 0, 12, .inl f),
  fun f => .inl (cy 0, 12, .inl f),
  fun f => .inr (3, [.ref (ad 22), .ref (ad 32), .int (f 2), .int (f 3), .int (f 4), .int (f 5)]),
  fun _ => .inl (cy 4, 2, .inr (.inr (.inr (.inr (rfA ad 2 74 8))))),
  fun f => .inl (cy 2, 2, .inl f),
  fun _ => .inl (cy 5, 4, .inr (.inr (.inr (.inr (rfA ad 4 90 2))))),
  fun f => .inr (1, [.int (f 0), .ref (ad 75), .ref (ad 76), .ref (ad 77), .ref (ad 78), .ref (ad 79), .ref (ad 80), .int (f 7), .ref (ad 81)]),
  fun f => .inl (cy 0, 12, .inl f),
  fun f => .inl (cy 0, 12, .inl f),
  fun f => .inl (cy 0, 12, .inl f),
  fun f => .inl (cy 0, 12, .inl f),
  fun f => .inl (cy 0, 12, .inl f),
  fun f => .inl (cy 0, 6, .inl f),
  fun f => .inl (cy 0, 12, .inl f),
  fun f => .inr (1, [.int (f 0), .ref (ad 83), .ref (ad 84), .ref (ad 85), .ref (ad 86), .ref (ad 87), .ref (ad 88), .int (f 7), .ref (ad 89)]),
  fun f => .inl (cy 0, 12, .inl f),
  fun f => .inl (cy 0, 12, .inl f),
  fun f => .inl (cy 0, 12, .inl f),
  fun f => .inl (cy 0, 12, .inl f),
  fun f => .inl (cy 0, 12, .inl f),
  fun f => .inl (cy 0, 6, .inl f),
  fun f => .inl (cy 0, 12, .inl f),
  fun f => .inr (7, [.int (f 0), .int (f 1), .ref (ad 91)]),
  fun f => .inl (cy 0, 40, .inl f),
  fun f => .inr (7, [.int (f 0), .int (f 1), .ref (ad 93)]),
  fun f => .inl (cy 0, 40, .inl f),
  fun f => .inr (7, [.int (f 0), .int (f 1), .ref (ad 95)]),
  fun f => .inl (cy 0, 40, .inl f),
  fun f => .inr (7, [.int (f 0), .int (f 1), .ref (ad 97)]),
  fun f => .inl (cy 0, 40, .inl f),
  fun f => .inr (11, [.ref (ad 99), .ref (ad 100), .int (f 2), .int (f 3), .int (f 4), .int (f 5), .ref (ad 101), .ref (ad 102), .ref (ad 103), .int (f 9), .int (f 10), .int (f 11), .int (f 12), .int (f 13), .int (f 14), .int (f 15), .ref (ad 104), .int (f 17), .int (f 18), .int (f 19), .int (f 20), .int (f 21), .int (f 22), .int (f 23), .int (f 24), .int (f 25), .int (f 26), .int (f 27), .ref (ad 105), .ref (ad 106), .int (f 30), .int (f 31), .int (f 32), .int (f 33), .ref (ad 107), .int (f 35), .ref (ad 108), .ref (ad 109), .ref (ad 110), .int (f 39)]),
  fun f => .inl (cy 0, 240, .inl f),
  fun f => .inl (cy 2, 2, .inl f),
  fun f => .inl (cy 0, 84, .inl f),
  fun f => .inl (cy 0, 80, .inl f),
  fun f => .inl (cy 0, 84, .inl f),
  fun f => .inl (cy 0, 320, .inl f),
  fun f => .inl (cy 0, 6, .inl f),
  fun f => .inl (cy 0, 12, .inl f),
  fun f => .inl (cy 0, 156, .inl f),
  fun f => .inl (cy 0, 4, .inl f),
  fun f => .inl (cy 0, 4, .inl f),
  fun f => .inl (cy 0, 160, .inl f)]
def wc (ad : Nat → Nat) (cy : Nat → ClassId) (k : Nat) (f : Nat → Int32) : va_E := ((wT ad cy).getD k (fun _ => .inr (0, []))) f
def wW (ad : Nat → Nat) (cy : Nat → ClassId) (σ : S0) : va_W := (List.range 111).map (fun k => (ad k, wc ad cy k (σ k)))
def wY (cy : Nat → ClassId) : List (ClassId × FieldType) := [(cy 0, .int), (cy 1, .byte), (cy 2, .boolean), (cy 3, .array .int), (cy 4, .object "ChimeShares$Chimes"), (cy 5, .object "ChimeShares$Sheet")]
def su (σ : S0) (k j : Nat) (v : Int32) : S0 := va_up σ k (upd (σ k) j v)
theorem wW_at (ad : Nat → Nat) (cy : Nat → ClassId) (σ : S0) (k : Nat) (h : k < 111) : (wW ad cy σ)[k]? = some (ad k, wc ad cy k (σ k)) := by
  unfold wW
  rw [List.getElem?_map, List.getElem?_range h]
  rfl
theorem wW_len (ad : Nat → Nat) (cy : Nat → ClassId) (σ : S0) : (wW ad cy σ).length = 111 := by simp [wW]
theorem wW_inv {ad : Nat → Nat} {cy : Nat → ClassId} {σ : S0} {k : Nat} {q : Nat × va_E} (h : (wW ad cy σ)[k]? = some q) : k < 111 ∧ q = (ad k, wc ad cy k (σ k)) := by
  have hk : k < 111 := by
    have := (List.getElem?_eq_some_iff.mp h).1
    rwa [wW_len] at this
  rw [wW_at ad cy σ k hk] at h
  exact ⟨hk, (Option.some.inj h).symm⟩
theorem wW_set (ad : Nat → Nat) (cy : Nat → ClassId) (σ : S0) (k : Nat) (f : Nat → Int32) : (wW ad cy σ).set k (ad k, wc ad cy k f) = wW ad cy (va_up σ k f) := by
  apply List.ext_getElem?
  intro j
  by_cases hj : j < 111
  · rw [wW_at ad cy _ j hj, List.getElem?_set]
    by_cases e : k = j
    · subst e
      rw [if_pos rfl, if_pos (by rw [wW_len]; exact hj)]
      simp [va_up]
    · rw [if_neg e, wW_at ad cy _ j hj]
      simp [va_up, Ne.symm e]
  · rw [List.getElem?_eq_none (by rw [List.length_set, wW_len]; omega), List.getElem?_eq_none (by rw [wW_len]; omega)]
def AW (ad : Nat → Nat) (sz : Nat) : Nat → Prop := fun q => (∃ k, k < 111 ∧ q = ad k) ∨ sz ≤ q
def wInj (ad : Nat → Nat) : Prop := ∀ i j, i < 111 → j < 111 → ad i = ad j → i = j
theorem wD {ad : Nat → Nat} (hi : wInj ad) (cy : Nat → ClassId) (σ : S0) (sz : Nat) : va_D (AW ad sz) (wW ad cy σ) := by
  refine ⟨fun i j p q h1 h2 e => ?_, fun k q h => ?_⟩
  · obtain ⟨a1, rfl⟩ := wW_inv h1
    obtain ⟨a2, rfl⟩ := wW_inv h2
    exact hi i j a1 a2 e
  · obtain ⟨a1, rfl⟩ := wW_inv h
    exact Or.inl ⟨k, a1, rfl⟩

/-! functions that may fail, and what it tells that they do not -/
def og {α : Type} (c : Prop) [Decidable c] (k : Option α) : Option α := if c then k else none
def obp {α : Type} (o : Option (Int32 × S0)) (k : Int32 → S0 → Option α) : Option α := match o with
  | none => none
  | some q => k q.1 q.2
def ol {α β : Type} (a : β) (k : β → Option α) : Option α := k a
theorem og_e {α : Type} {c : Prop} [Decidable c] {k : Option α} {x : α} (h : og c k = some x) : c ∧ k = some x := by
  unfold og at h
  by_cases hc : c
  · exact ⟨hc, by rwa [if_pos hc] at h⟩
  · rw [if_neg hc] at h; cases h
theorem oi_e {α : Type} {c : Prop} [Decidable c] {a b : Option α} {x : α} (h : (if c then a else b) = some x) : (c ∧ a = some x) ∨ (¬ c ∧ b = some x) := by
  by_cases hc : c
  · exact Or.inl ⟨hc, by rwa [if_pos hc] at h⟩
  · exact Or.inr ⟨hc, by rwa [if_neg hc] at h⟩
theorem obp_e {α : Type} {o : Option (Int32 × S0)} {k : Int32 → S0 → Option α} {x : α} (h : obp o k = some x) : ∃ (a : Int32) (b : S0), o = some (a, b) ∧ k a b = some x := by
  cases o with
  | none => cases h
  | some q => exact ⟨q.1, q.2, rfl, h⟩
theorem ol_e {α β : Type} {a : β} {k : β → Option α} {x : α} (h : ol a k = some x) : ∃ b : β, b = a ∧ k b = some x := ⟨a, rfl, h⟩
theorem os_e {a c : Int32} {b d : S0} (h : some (a, b) = some (c, d)) : c = a ∧ d = b := by
  have := Option.some.inj h
  exact ⟨(congrArg Prod.fst this).symm, (congrArg Prod.snd this).symm⟩

/-! the text constants of the Reader: their addresses are ad (200 + i), those of their bytes ad (300 + i) -/
def lenS : List Nat := [6, 3, 4, 4, 4, 4, 4]
def bytS : List (List Int32) := [[104, 111, 117, 115, 101, 115], [103, 97, 112], [98, 101, 108, 108], [116, 117, 110, 101], [102, 101, 117, 100], [104, 97, 108, 102], [115, 104, 117, 116]]
def stI (i : Nat) : Nat := ([61, 70, 75, 80, 85, 133, 134] : List Nat).getD i 0
def stT (i : Nat) : String := (["houses", "gap", "bell", "tune", "feud", "half", "shut"] : List String).getD i ""
def SX (ad : Nat → Nat) (A : Nat → Prop) (U : State) (H : Heap) : Prop := vk_S 7 lenS bytS (fun i => ad (200 + i)) (fun i => ad (300 + i)) A U H ∧ (∀ i, i < 7 → vk_R RX5 (stI i) (stT i) (ad (200 + i)) U) ∧ va_Z "java/lang/String" "COMPACT_STRINGS" "Z" (.int 1) A U H ∧ va_Zq "jdk/internal/util/Preconditions" "SIOOBE_FORMATTER" "Ljava/util/function/BiFunction;" A U H
theorem SX.go {ad : Nat → Nat} {A B : Nat → Prop} {s U : State} {H : Heap} (h : SX ad A s s.heap) (hW : s.WarmedH U.vm) (hq : ∀ a : Nat, a < s.heap.size → ¬ A a → H[a]? = s.heap[a]?) (hAB : ∀ q, B q → A q) : SX ad B U H := ⟨((h.1.moved hW.alike).kept hq).narrow hAB, fun i hi => (h.2.1 i hi).warm hW, ((h.2.2.1.moved hW.alike).kept hq).narrow hAB, ((h.2.2.2.moved hW.alike).kept hq).narrow hAB⟩
theorem SX.same {ad : Nat → Nat} {A : Nat → Prop} {u U : State} {H : Heap} (h : SX ad A u H) (hv : U.vm = u.vm) : SX ad A U H := by
  have ha : u.vm.Alike U.vm := by rw [hv]; exact Vm.Alike.refl _
  exact ⟨h.1.moved ha, fun i hi => (h.2.1 i hi).same hv, h.2.2.1.moved ha, h.2.2.2.moved ha⟩
/-! THE JUDGEMENT: from every heap that holds the world σ, at pc with the locals lv and the stack st, the machine comes to Q -/
def Gw (p : Program) (l : Launch) (e : Env) (R : Room) (s : State) (m : MethodId) (args : Array Value) (below : List Frame) (meth : Method) (c : Code) (Q : State → Prop) (dC : Nat → ClassId) (dI : Nat → Nat → Nat) (ad : Nat → Nat) (cy : Nat → ClassId) (nL sz nc ns : Nat) (pc : Nat) (lv : List (Nat × Value)) (st : List Value) (σ : S0) : Prop :=
  ∀ (ls : Array Slot) (H : Heap) (locs : List Loc), lv_has ls nL lv → va_P (dC, dI) vwCl (wW ad cy σ) H → va_S (AW ad sz) s.heap H locs → W p l e R s m args below meth c H locs nc ns Q (F0 m pc ls st)
def Cx (p : Program) (s : State) (m : MethodId) (args : Array Value) (meth : Method) (c : Code) (own : String) (cc : ByteArray) (nL : Nat) (ret : Option FieldType) (dC : Nat → ClassId) (dI : Nat → Nat → Nat) (ad : Nat → Nat) (cy : Nat → ClassId) (sz : Nat) : Prop :=
  p.tables.exec = Jvm.exec ∧ c.code = cc ∧ c.maxLocals = nL ∧ s.vm.findClass own = some m.cls ∧ (∀ w ∈ lw_w, w.before args s = true) ∧ va_K (dC, dI) vwCl (wY cy) s ∧ wInj ad ∧ meth.sig.returnType = ret ∧ meth.locks = false ∧ s.heap.size = sz ∧ SX ad (AW ad sz) s s.heap
def PreW (dC : Nat → ClassId) (dI : Nat → Nat → Nat) (ad : Nat → Nat) (cy : Nat → ClassId) (sz : Nat) (σ : S0) (U : State) : Prop := U.heap.size = sz ∧ va_P (dC, dI) vwCl (wW ad cy σ) U.heap ∧ va_K (dC, dI) vwCl (wY cy) U ∧ wInj ad ∧ SX ad (AW ad sz) U U.heap
def AtW (dC : Nat → ClassId) (dI : Nat → Nat → Nat) (ad : Nat → Nat) (cy : Nat → ClassId) (σ : S0) (t : State) : Prop := va_P (dC, dI) vwCl (wW ad cy σ) t.heap
def QcI (dC : Nat → ClassId) (dI : Nat → Nat → Nat) (ad : Nat → Nat) (cy : Nat → ClassId) (sz : Nat) (r : Int32) (σ : S0) : Array Value → State → Outcome → State → Prop := va_Qi (fun r2 σ2 => r2 = r ∧ σ2 = σ) (AtW dC dI ad cy) (AW ad sz)
def QcV (dC : Nat → ClassId) (dI : Nat → Nat → Nat) (ad : Nat → Nat) (cy : Nat → ClassId) (sz : Nat) (σ : S0) : Array Value → State → Outcome → State → Prop := va_Qv (fun σ2 => σ2 = σ) (AtW dC dI ad cy) (AW ad sz)
/-- a contract: where the function f has an answer, the method returns it, and leaves the world that f tells -/
def ConI (l : Launch) (y : MethodName) (cc : ByteArray) (maxL : Nat) (ret : Option FieldType) (rm : Room) (dC : Nat → ClassId) (dI : Nat → Nat → Nat) (ad : Nat → Nat) (cy : Nat → ClassId) (avs : List Value) (f : S0 → Option (Int32 × S0)) : Prop :=
  ∀ (sz : Nat) (σ : S0) (r : Int32) (σ2 : S0), f σ = some (r, σ2) → Met l y (Cond.code y cc maxL ret :: lw_w) rm (va_Pc avs (PreW dC dI ad cy sz σ)) (QcI dC dI ad cy sz r σ2) 0 0 (AW ad sz)
def ConV (l : Launch) (y : MethodName) (cc : ByteArray) (maxL : Nat) (ret : Option FieldType) (rm : Room) (dC : Nat → ClassId) (dI : Nat → Nat → Nat) (ad : Nat → Nat) (cy : Nat → ClassId) (avs : List Value) (f : S0 → Option (Int32 × S0)) : Prop :=
  ∀ (sz : Nat) (σ : S0) (r : Int32) (σ2 : S0), f σ = some (r, σ2) → Met l y (Cond.code y cc maxL ret :: lw_w) rm (va_Pc avs (PreW dC dI ad cy sz σ)) (QcV dC dI ad cy sz σ2) 0 0 (AW ad sz)
theorem PreW_blind {dC : Nat → ClassId} {dI : Nat → Nat → Nat} {ad : Nat → Nat} {cy : Nat → ClassId} {sz : Nat} {σ : S0} {avs : List Value} : FrameBlind (va_Pc avs (PreW dC dI ad cy sz σ)) := fun a U g mk q => by
  obtain ⟨q0, q1, qP, qK, qD, qX⟩ := q
  exact ⟨q0, q1, qP, va_K.moved (u := U) (U := U.calling g mk a) (Vm.Alike.refl U.vm) qK, qD, qX.same rfl⟩

theorem con_i {l : Launch} {y : MethodName} {rm : Room} {dC : Nat → ClassId} {dI : Nat → Nat → Nat} {ad : Nat → Nat} {cy : Nat → ClassId} {avs : List Value} {f : S0 → Option (Int32 × S0)} {cc : ByteArray} {maxL : Nat} {ret : Option FieldType} {own : String}
    (hy : plainName y.cls = true) (ho : y.cls = own) (hlen : (lg_sl avs).length ≤ maxL)
    (body : ∀ (p : Program) (e : Env) (s : State) (m : MethodId) (below : List Frame) (meth : Method) (c : Code) (sz : Nat) (σ : S0) (r : Int32) (σ2 : S0), Cx p s m avs.toArray meth c own cc maxL ret dC dI ad cy sz → f σ = some (r, σ2) →
      Gw p l e rm s m avs.toArray below meth c (MQ below (QcI dC dI ad cy sz r σ2) avs.toArray s 0 0 (AW ad sz)) dC dI ad cy maxL sz 0 0 0 (lv_args 0 avs) [] σ) : ConI l y cc maxL ret rm dC dI ad cy avs f := by
  intro sz σ r σ2 hf
  refine Met.ofW (cc := cc) (maxL := maxL) (ret := ret) hy rfl ?_
  intro p e s m args below meth c s₁ B hml hv
  obtain ⟨rfl, hsz, hP, hK, hinj, hSX⟩ := hv
  have hown : s.vm.findClass own = some m.cls := ho ▸ findClass_of_methodNamed B.named
  have C : Cx p s m avs.toArray meth c own cc maxL ret dC dI ad cy sz := ⟨B.exec, B.bytes, hml, hown, fun w hw => atoms_spec (ws := Cond.code y cc maxL ret :: lw_w) B.pre w (List.mem_cons_of_mem _ hw), hK, hinj, B.returns, B.notSynchronized, hsz, hSX⟩
  have hl := lv_entry avs (n := maxL) hlen
  rw [lg_entry_eq]
  exact body p e s m below meth c sz σ r σ2 C hf _ _ _ hl hP va_S.rf
theorem con_v {l : Launch} {y : MethodName} {rm : Room} {dC : Nat → ClassId} {dI : Nat → Nat → Nat} {ad : Nat → Nat} {cy : Nat → ClassId} {avs : List Value} {f : S0 → Option (Int32 × S0)} {cc : ByteArray} {maxL : Nat} {ret : Option FieldType} {own : String}
    (hy : plainName y.cls = true) (ho : y.cls = own) (hlen : (lg_sl avs).length ≤ maxL)
    (body : ∀ (p : Program) (e : Env) (s : State) (m : MethodId) (below : List Frame) (meth : Method) (c : Code) (sz : Nat) (σ : S0) (r : Int32) (σ2 : S0), Cx p s m avs.toArray meth c own cc maxL ret dC dI ad cy sz → f σ = some (r, σ2) →
      Gw p l e rm s m avs.toArray below meth c (MQ below (QcV dC dI ad cy sz σ2) avs.toArray s 0 0 (AW ad sz)) dC dI ad cy maxL sz 0 0 0 (lv_args 0 avs) [] σ) : ConV l y cc maxL ret rm dC dI ad cy avs f := by
  intro sz σ r σ2 hf
  refine Met.ofW (cc := cc) (maxL := maxL) (ret := ret) hy rfl ?_
  intro p e s m args below meth c s₁ B hml hv
  obtain ⟨rfl, hsz, hP, hK, hinj, hSX⟩ := hv
  have hown : s.vm.findClass own = some m.cls := ho ▸ findClass_of_methodNamed B.named
  have C : Cx p s m avs.toArray meth c own cc maxL ret dC dI ad cy sz := ⟨B.exec, B.bytes, hml, hown, fun w hw => atoms_spec (ws := Cond.code y cc maxL ret :: lw_w) B.pre w (List.mem_cons_of_mem _ hw), hK, hinj, B.returns, B.notSynchronized, hsz, hSX⟩
  have hl := lv_entry avs (n := maxL) hlen
  rw [lg_entry_eq]
  exact body p e s m below meth c sz σ r σ2 C hf _ _ _ hl hP va_S.rf
def CalV (y : MethodName) (Cn : String) (bytes : ByteArray) (maxL : Nat) (rt : Option FieldType) (n : Nat) : Prop := Cond.instanceMethod y ∈ lw_w ∧ Cond.selects Cn y y ∈ lw_w ∧ Cond.initialized Cn ∈ lw_w ∧ Cond.code y bytes maxL rt ∈ lw_w ∧ (y.cls = Cn ∧ y.cls ≠ "java/lang/invoke/MethodHandle" ∧ y.cls ≠ "java/lang/invoke/VarHandle" ∧ (parseMethodDescriptor y.desc).map (fun d => d.parameters.length) = some n)
def CalS (y : MethodName) (bytes : ByteArray) (maxL : Nat) (rt : Option FieldType) (n : Nat) : Prop := Cond.static y ∈ lw_w ∧ Cond.initialized y.cls ∈ lw_w ∧ Cond.code y bytes maxL rt ∈ lw_w ∧ (y.cls ≠ "java/lang/invoke/MethodHandle" ∧ y.cls ≠ "java/lang/invoke/VarHandle" ∧ (parseMethodDescriptor y.desc).map (fun d => d.parameters.length) = some n)
theorem calV_in {own Cn : String} {index : Nat} {y : MethodName} {bytes : ByteArray} {maxL : Nat} {rt : Option FieldType} {n : Nat} (hlk : Cond.methodLink own index y ∈ lw_w) (h : CalV y Cn bytes maxL rt n) : GoodIn lw_w (wsV own index Cn y (Cond.code y bytes maxL rt :: lw_w)) := by
  intro w hw
  have hm : w ∈ lw_w := by
    unfold wsV at hw
    simp only [List.mem_append, List.mem_cons, List.not_mem_nil, or_false] at hw
    rcases hw with (rfl | rfl | rfl | rfl) | rfl | hw
    · exact hlk
    · exact h.1
    · exact h.2.1
    · exact h.2.2.1
    · exact h.2.2.2.1
    · exact hw
  exact ⟨hm, lw_good w hm⟩
theorem calS_in {own : String} {index : Nat} {y : MethodName} {bytes : ByteArray} {maxL : Nat} {rt : Option FieldType} {n : Nat} (hlk : Cond.methodLink own index y ∈ lw_w) (h : CalS y bytes maxL rt n) : GoodIn lw_w (va_wsS own index y (Cond.code y bytes maxL rt :: lw_w)) := by
  intro w hw
  have hm : w ∈ lw_w := by
    unfold va_wsS at hw
    simp only [List.mem_append, List.mem_cons, List.not_mem_nil, or_false] at hw
    rcases hw with (rfl | rfl | rfl) | rfl | hw
    · exact hlk
    · exact h.1
    · exact h.2.1
    · exact h.2.2.1
    · exact hw
  exact ⟨hm, lw_good w hm⟩
theorem a_0 (ad : Nat → Nat) (cy : Nat → ClassId) (σ : S0) : (wW ad cy σ)[0]? = some (ad 0, .inr (10, [.ref (ad 1), .ref (ad 3), .ref (ad 22), .ref (ad 32), .ref (ad 40), .ref (ad 41), .ref (ad 46), .ref (ad 55), .ref (ad 70), .ref (ad 71), .ref (ad 72), .ref (ad 73), .int (σ 0 12)])) := wW_at ad cy σ 0 (by decide)
theorem p_0_12 (ad : Nat → Nat) (cy : Nat → ClassId) (σ : S0) (v : Int32) : (.inr (10, ([.ref (ad 1), .ref (ad 3), .ref (ad 22), .ref (ad 32), .ref (ad 40), .ref (ad 41), .ref (ad 46), .ref (ad 55), .ref (ad 70), .ref (ad 71), .ref (ad 72), .ref (ad 73), .int (σ 0 12)] : List Value).set 12 (.int v)) : va_E) = wc ad cy 0 (upd (σ 0) 12 v) := rfl
theorem a_1 (ad : Nat → Nat) (cy : Nat → ClassId) (σ : S0) : (wW ad cy σ)[1]? = some (ad 1, .inr (8, [.ref (ad 2), .int (σ 1 1), .int (σ 1 2), .int (σ 1 3), .int (σ 1 4), .int (σ 1 5)])) := wW_at ad cy σ 1 (by decide)
theorem p_1_1 (ad : Nat → Nat) (cy : Nat → ClassId) (σ : S0) (v : Int32) : (.inr (8, ([.ref (ad 2), .int (σ 1 1), .int (σ 1 2), .int (σ 1 3), .int (σ 1 4), .int (σ 1 5)] : List Value).set 1 (.int v)) : va_E) = wc ad cy 1 (upd (σ 1) 1 v) := rfl
theorem p_1_2 (ad : Nat → Nat) (cy : Nat → ClassId) (σ : S0) (v : Int32) : (.inr (8, ([.ref (ad 2), .int (σ 1 1), .int (σ 1 2), .int (σ 1 3), .int (σ 1 4), .int (σ 1 5)] : List Value).set 2 (.int v)) : va_E) = wc ad cy 1 (upd (σ 1) 2 v) := rfl
theorem p_1_3 (ad : Nat → Nat) (cy : Nat → ClassId) (σ : S0) (v : Int32) : (.inr (8, ([.ref (ad 2), .int (σ 1 1), .int (σ 1 2), .int (σ 1 3), .int (σ 1 4), .int (σ 1 5)] : List Value).set 3 (.int v)) : va_E) = wc ad cy 1 (upd (σ 1) 3 v) := rfl
theorem p_1_4 (ad : Nat → Nat) (cy : Nat → ClassId) (σ : S0) (v : Int32) : (.inr (8, ([.ref (ad 2), .int (σ 1 1), .int (σ 1 2), .int (σ 1 3), .int (σ 1 4), .int (σ 1 5)] : List Value).set 4 (.int v)) : va_E) = wc ad cy 1 (upd (σ 1) 4 v) := rfl
theorem p_1_5 (ad : Nat → Nat) (cy : Nat → ClassId) (σ : S0) (v : Int32) : (.inr (8, ([.ref (ad 2), .int (σ 1 1), .int (σ 1 2), .int (σ 1 3), .int (σ 1 4), .int (σ 1 5)] : List Value).set 5 (.int v)) : va_E) = wc ad cy 1 (upd (σ 1) 5 v) := rfl
theorem a_2 (ad : Nat → Nat) (cy : Nat → ClassId) (σ : S0) : (wW ad cy σ)[2]? = some (ad 2, .inl (cy 1, 320, .inl (σ 2))) := wW_at ad cy σ 2 (by decide)
theorem w_2 (ad : Nat → Nat) (cy : Nat → ClassId) (f : Nat → Int32) : (.inl (cy 1, 320, .inl f) : va_E) = wc ad cy 2 f := rfl
theorem a_3 (ad : Nat → Nat) (cy : Nat → ClassId) (σ : S0) : (wW ad cy σ)[3]? = some (ad 3, .inr (5, [.ref (ad 1), .ref (ad 4), .int (σ 3 2), .int (σ 3 3), .int (σ 3 4), .int (σ 3 5), .int (σ 3 6)])) := wW_at ad cy σ 3 (by decide)
theorem p_3_2 (ad : Nat → Nat) (cy : Nat → ClassId) (σ : S0) (v : Int32) : (.inr (5, ([.ref (ad 1), .ref (ad 4), .int (σ 3 2), .int (σ 3 3), .int (σ 3 4), .int (σ 3 5), .int (σ 3 6)] : List Value).set 2 (.int v)) : va_E) = wc ad cy 3 (upd (σ 3) 2 v) := rfl
theorem p_3_3 (ad : Nat → Nat) (cy : Nat → ClassId) (σ : S0) (v : Int32) : (.inr (5, ([.ref (ad 1), .ref (ad 4), .int (σ 3 2), .int (σ 3 3), .int (σ 3 4), .int (σ 3 5), .int (σ 3 6)] : List Value).set 3 (.int v)) : va_E) = wc ad cy 3 (upd (σ 3) 3 v) := rfl
theorem p_3_4 (ad : Nat → Nat) (cy : Nat → ClassId) (σ : S0) (v : Int32) : (.inr (5, ([.ref (ad 1), .ref (ad 4), .int (σ 3 2), .int (σ 3 3), .int (σ 3 4), .int (σ 3 5), .int (σ 3 6)] : List Value).set 4 (.int v)) : va_E) = wc ad cy 3 (upd (σ 3) 4 v) := rfl
theorem p_3_5 (ad : Nat → Nat) (cy : Nat → ClassId) (σ : S0) (v : Int32) : (.inr (5, ([.ref (ad 1), .ref (ad 4), .int (σ 3 2), .int (σ 3 3), .int (σ 3 4), .int (σ 3 5), .int (σ 3 6)] : List Value).set 5 (.int v)) : va_E) = wc ad cy 3 (upd (σ 3) 5 v) := rfl
theorem p_3_6 (ad : Nat → Nat) (cy : Nat → ClassId) (σ : S0) (v : Int32) : (.inr (5, ([.ref (ad 1), .ref (ad 4), .int (σ 3 2), .int (σ 3 3), .int (σ 3 4), .int (σ 3 5), .int (σ 3 6)] : List Value).set 6 (.int v)) : va_E) = wc ad cy 3 (upd (σ 3) 6 v) := rfl
theorem a_4 (ad : Nat → Nat) (cy : Nat → ClassId) (σ : S0) : (wW ad cy σ)[4]? = some (ad 4, .inr (9, [.int (σ 4 0), .int (σ 4 1), .int (σ 4 2), .ref (ad 5), .ref (ad 6), .ref (ad 7), .ref (ad 14)])) := wW_at ad cy σ 4 (by decide)
theorem p_4_0 (ad : Nat → Nat) (cy : Nat → ClassId) (σ : S0) (v : Int32) : (.inr (9, ([.int (σ 4 0), .int (σ 4 1), .int (σ 4 2), .ref (ad 5), .ref (ad 6), .ref (ad 7), .ref (ad 14)] : List Value).set 0 (.int v)) : va_E) = wc ad cy 4 (upd (σ 4) 0 v) := rfl
theorem p_4_1 (ad : Nat → Nat) (cy : Nat → ClassId) (σ : S0) (v : Int32) : (.inr (9, ([.int (σ 4 0), .int (σ 4 1), .int (σ 4 2), .ref (ad 5), .ref (ad 6), .ref (ad 7), .ref (ad 14)] : List Value).set 1 (.int v)) : va_E) = wc ad cy 4 (upd (σ 4) 1 v) := rfl
theorem p_4_2 (ad : Nat → Nat) (cy : Nat → ClassId) (σ : S0) (v : Int32) : (.inr (9, ([.int (σ 4 0), .int (σ 4 1), .int (σ 4 2), .ref (ad 5), .ref (ad 6), .ref (ad 7), .ref (ad 14)] : List Value).set 2 (.int v)) : va_E) = wc ad cy 4 (upd (σ 4) 2 v) := rfl
theorem a_5 (ad : Nat → Nat) (cy : Nat → ClassId) (σ : S0) : (wW ad cy σ)[5]? = some (ad 5, .inl (cy 0, 6, .inl (σ 5))) := wW_at ad cy σ 5 (by decide)
theorem w_5 (ad : Nat → Nat) (cy : Nat → ClassId) (f : Nat → Int32) : (.inl (cy 0, 6, .inl f) : va_E) = wc ad cy 5 f := rfl
theorem a_6 (ad : Nat → Nat) (cy : Nat → ClassId) (σ : S0) : (wW ad cy σ)[6]? = some (ad 6, .inl (cy 0, 6, .inl (σ 6))) := wW_at ad cy σ 6 (by decide)
theorem w_6 (ad : Nat → Nat) (cy : Nat → ClassId) (f : Nat → Int32) : (.inl (cy 0, 6, .inl f) : va_E) = wc ad cy 6 f := rfl
theorem a_7 (ad : Nat → Nat) (cy : Nat → ClassId) (σ : S0) : (wW ad cy σ)[7]? = some (ad 7, .inl (cy 3, 6, .inr (.inr (.inr (.inr (rfA ad 6 8 1)))))) := wW_at ad cy σ 7 (by decide)
theorem a_8 (ad : Nat → Nat) (cy : Nat → ClassId) (σ : S0) : (wW ad cy σ)[8]? = some (ad 8, .inl (cy 0, 12, .inl (σ 8))) := wW_at ad cy σ 8 (by decide)
theorem w_8 (ad : Nat → Nat) (cy : Nat → ClassId) (f : Nat → Int32) : (.inl (cy 0, 12, .inl f) : va_E) = wc ad cy 8 f := rfl
theorem a_9 (ad : Nat → Nat) (cy : Nat → ClassId) (σ : S0) : (wW ad cy σ)[9]? = some (ad 9, .inl (cy 0, 12, .inl (σ 9))) := wW_at ad cy σ 9 (by decide)
theorem w_9 (ad : Nat → Nat) (cy : Nat → ClassId) (f : Nat → Int32) : (.inl (cy 0, 12, .inl f) : va_E) = wc ad cy 9 f := rfl
theorem a_10 (ad : Nat → Nat) (cy : Nat → ClassId) (σ : S0) : (wW ad cy σ)[10]? = some (ad 10, .inl (cy 0, 12, .inl (σ 10))) := wW_at ad cy σ 10 (by decide)
theorem w_10 (ad : Nat → Nat) (cy : Nat → ClassId) (f : Nat → Int32) : (.inl (cy 0, 12, .inl f) : va_E) = wc ad cy 10 f := rfl
theorem a_11 (ad : Nat → Nat) (cy : Nat → ClassId) (σ : S0) : (wW ad cy σ)[11]? = some (ad 11, .inl (cy 0, 12, .inl (σ 11))) := wW_at ad cy σ 11 (by decide)
theorem w_11 (ad : Nat → Nat) (cy : Nat → ClassId) (f : Nat → Int32) : (.inl (cy 0, 12, .inl f) : va_E) = wc ad cy 11 f := rfl
theorem a_12 (ad : Nat → Nat) (cy : Nat → ClassId) (σ : S0) : (wW ad cy σ)[12]? = some (ad 12, .inl (cy 0, 12, .inl (σ 12))) := wW_at ad cy σ 12 (by decide)
theorem w_12 (ad : Nat → Nat) (cy : Nat → ClassId) (f : Nat → Int32) : (.inl (cy 0, 12, .inl f) : va_E) = wc ad cy 12 f := rfl
theorem a_13 (ad : Nat → Nat) (cy : Nat → ClassId) (σ : S0) : (wW ad cy σ)[13]? = some (ad 13, .inl (cy 0, 12, .inl (σ 13))) := wW_at ad cy σ 13 (by decide)
theorem w_13 (ad : Nat → Nat) (cy : Nat → ClassId) (f : Nat → Int32) : (.inl (cy 0, 12, .inl f) : va_E) = wc ad cy 13 f := rfl
theorem a_14 (ad : Nat → Nat) (cy : Nat → ClassId) (σ : S0) : (wW ad cy σ)[14]? = some (ad 14, .inr (1, [.int (σ 14 0), .ref (ad 15), .ref (ad 16), .ref (ad 17), .ref (ad 18), .ref (ad 19), .ref (ad 20), .int (σ 14 7), .ref (ad 21)])) := wW_at ad cy σ 14 (by decide)
theorem p_14_0 (ad : Nat → Nat) (cy : Nat → ClassId) (σ : S0) (v : Int32) : (.inr (1, ([.int (σ 14 0), .ref (ad 15), .ref (ad 16), .ref (ad 17), .ref (ad 18), .ref (ad 19), .ref (ad 20), .int (σ 14 7), .ref (ad 21)] : List Value).set 0 (.int v)) : va_E) = wc ad cy 14 (upd (σ 14) 0 v) := rfl
theorem p_14_7 (ad : Nat → Nat) (cy : Nat → ClassId) (σ : S0) (v : Int32) : (.inr (1, ([.int (σ 14 0), .ref (ad 15), .ref (ad 16), .ref (ad 17), .ref (ad 18), .ref (ad 19), .ref (ad 20), .int (σ 14 7), .ref (ad 21)] : List Value).set 7 (.int v)) : va_E) = wc ad cy 14 (upd (σ 14) 7 v) := rfl
theorem a_15 (ad : Nat → Nat) (cy : Nat → ClassId) (σ : S0) : (wW ad cy σ)[15]? = some (ad 15, .inl (cy 0, 12, .inl (σ 15))) := wW_at ad cy σ 15 (by decide)
theorem w_15 (ad : Nat → Nat) (cy : Nat → ClassId) (f : Nat → Int32) : (.inl (cy 0, 12, .inl f) : va_E) = wc ad cy 15 f := rfl
theorem a_16 (ad : Nat → Nat) (cy : Nat → ClassId) (σ : S0) : (wW ad cy σ)[16]? = some (ad 16, .inl (cy 0, 12, .inl (σ 16))) := wW_at ad cy σ 16 (by decide)
theorem w_16 (ad : Nat → Nat) (cy : Nat → ClassId) (f : Nat → Int32) : (.inl (cy 0, 12, .inl f) : va_E) = wc ad cy 16 f := rfl
theorem a_17 (ad : Nat → Nat) (cy : Nat → ClassId) (σ : S0) : (wW ad cy σ)[17]? = some (ad 17, .inl (cy 0, 12, .inl (σ 17))) := wW_at ad cy σ 17 (by decide)
theorem w_17 (ad : Nat → Nat) (cy : Nat → ClassId) (f : Nat → Int32) : (.inl (cy 0, 12, .inl f) : va_E) = wc ad cy 17 f := rfl
theorem a_18 (ad : Nat → Nat) (cy : Nat → ClassId) (σ : S0) : (wW ad cy σ)[18]? = some (ad 18, .inl (cy 0, 12, .inl (σ 18))) := wW_at ad cy σ 18 (by decide)
theorem w_18 (ad : Nat → Nat) (cy : Nat → ClassId) (f : Nat → Int32) : (.inl (cy 0, 12, .inl f) : va_E) = wc ad cy 18 f := rfl
theorem a_19 (ad : Nat → Nat) (cy : Nat → ClassId) (σ : S0) : (wW ad cy σ)[19]? = some (ad 19, .inl (cy 0, 12, .inl (σ 19))) := wW_at ad cy σ 19 (by decide)
theorem w_19 (ad : Nat → Nat) (cy : Nat → ClassId) (f : Nat → Int32) : (.inl (cy 0, 12, .inl f) : va_E) = wc ad cy 19 f := rfl
theorem a_20 (ad : Nat → Nat) (cy : Nat → ClassId) (σ : S0) : (wW ad cy σ)[20]? = some (ad 20, .inl (cy 0, 6, .inl (σ 20))) := wW_at ad cy σ 20 (by decide)
theorem w_20 (ad : Nat → Nat) (cy : Nat → ClassId) (f : Nat → Int32) : (.inl (cy 0, 6, .inl f) : va_E) = wc ad cy 20 f := rfl
theorem a_21 (ad : Nat → Nat) (cy : Nat → ClassId) (σ : S0) : (wW ad cy σ)[21]? = some (ad 21, .inl (cy 0, 12, .inl (σ 21))) := wW_at ad cy σ 21 (by decide)
theorem w_21 (ad : Nat → Nat) (cy : Nat → ClassId) (f : Nat → Int32) : (.inl (cy 0, 12, .inl f) : va_E) = wc ad cy 21 f := rfl
theorem a_22 (ad : Nat → Nat) (cy : Nat → ClassId) (σ : S0) : (wW ad cy σ)[22]? = some (ad 22, .inr (9, [.int (σ 22 0), .int (σ 22 1), .int (σ 22 2), .ref (ad 23), .ref (ad 24), .ref (ad 25), .ref (ad 32)])) := wW_at ad cy σ 22 (by decide)
theorem p_22_0 (ad : Nat → Nat) (cy : Nat → ClassId) (σ : S0) (v : Int32) : (.inr (9, ([.int (σ 22 0), .int (σ 22 1), .int (σ 22 2), .ref (ad 23), .ref (ad 24), .ref (ad 25), .ref (ad 32)] : List Value).set 0 (.int v)) : va_E) = wc ad cy 22 (upd (σ 22) 0 v) := rfl
theorem p_22_1 (ad : Nat → Nat) (cy : Nat → ClassId) (σ : S0) (v : Int32) : (.inr (9, ([.int (σ 22 0), .int (σ 22 1), .int (σ 22 2), .ref (ad 23), .ref (ad 24), .ref (ad 25), .ref (ad 32)] : List Value).set 1 (.int v)) : va_E) = wc ad cy 22 (upd (σ 22) 1 v) := rfl
theorem p_22_2 (ad : Nat → Nat) (cy : Nat → ClassId) (σ : S0) (v : Int32) : (.inr (9, ([.int (σ 22 0), .int (σ 22 1), .int (σ 22 2), .ref (ad 23), .ref (ad 24), .ref (ad 25), .ref (ad 32)] : List Value).set 2 (.int v)) : va_E) = wc ad cy 22 (upd (σ 22) 2 v) := rfl
theorem a_23 (ad : Nat → Nat) (cy : Nat → ClassId) (σ : S0) : (wW ad cy σ)[23]? = some (ad 23, .inl (cy 0, 6, .inl (σ 23))) := wW_at ad cy σ 23 (by decide)
theorem w_23 (ad : Nat → Nat) (cy : Nat → ClassId) (f : Nat → Int32) : (.inl (cy 0, 6, .inl f) : va_E) = wc ad cy 23 f := rfl
theorem a_24 (ad : Nat → Nat) (cy : Nat → ClassId) (σ : S0) : (wW ad cy σ)[24]? = some (ad 24, .inl (cy 0, 6, .inl (σ 24))) := wW_at ad cy σ 24 (by decide)
theorem w_24 (ad : Nat → Nat) (cy : Nat → ClassId) (f : Nat → Int32) : (.inl (cy 0, 6, .inl f) : va_E) = wc ad cy 24 f := rfl
theorem a_25 (ad : Nat → Nat) (cy : Nat → ClassId) (σ : S0) : (wW ad cy σ)[25]? = some (ad 25, .inl (cy 3, 6, .inr (.inr (.inr (.inr (rfA ad 6 26 1)))))) := wW_at ad cy σ 25 (by decide)
theorem a_26 (ad : Nat → Nat) (cy : Nat → ClassId) (σ : S0) : (wW ad cy σ)[26]? = some (ad 26, .inl (cy 0, 12, .inl (σ 26))) := wW_at ad cy σ 26 (by decide)
theorem w_26 (ad : Nat → Nat) (cy : Nat → ClassId) (f : Nat → Int32) : (.inl (cy 0, 12, .inl f) : va_E) = wc ad cy 26 f := rfl
theorem a_27 (ad : Nat → Nat) (cy : Nat → ClassId) (σ : S0) : (wW ad cy σ)[27]? = some (ad 27, .inl (cy 0, 12, .inl (σ 27))) := wW_at ad cy σ 27 (by decide)
theorem w_27 (ad : Nat → Nat) (cy : Nat → ClassId) (f : Nat → Int32) : (.inl (cy 0, 12, .inl f) : va_E) = wc ad cy 27 f := rfl
theorem a_28 (ad : Nat → Nat) (cy : Nat → ClassId) (σ : S0) : (wW ad cy σ)[28]? = some (ad 28, .inl (cy 0, 12, .inl (σ 28))) := wW_at ad cy σ 28 (by decide)
theorem w_28 (ad : Nat → Nat) (cy : Nat → ClassId) (f : Nat → Int32) : (.inl (cy 0, 12, .inl f) : va_E) = wc ad cy 28 f := rfl
theorem a_29 (ad : Nat → Nat) (cy : Nat → ClassId) (σ : S0) : (wW ad cy σ)[29]? = some (ad 29, .inl (cy 0, 12, .inl (σ 29))) := wW_at ad cy σ 29 (by decide)
theorem w_29 (ad : Nat → Nat) (cy : Nat → ClassId) (f : Nat → Int32) : (.inl (cy 0, 12, .inl f) : va_E) = wc ad cy 29 f := rfl
theorem a_30 (ad : Nat → Nat) (cy : Nat → ClassId) (σ : S0) : (wW ad cy σ)[30]? = some (ad 30, .inl (cy 0, 12, .inl (σ 30))) := wW_at ad cy σ 30 (by decide)
theorem w_30 (ad : Nat → Nat) (cy : Nat → ClassId) (f : Nat → Int32) : (.inl (cy 0, 12, .inl f) : va_E) = wc ad cy 30 f := rfl
theorem a_31 (ad : Nat → Nat) (cy : Nat → ClassId) (σ : S0) : (wW ad cy σ)[31]? = some (ad 31, .inl (cy 0, 12, .inl (σ 31))) := wW_at ad cy σ 31 (by decide)
theorem w_31 (ad : Nat → Nat) (cy : Nat → ClassId) (f : Nat → Int32) : (.inl (cy 0, 12, .inl f) : va_E) = wc ad cy 31 f := rfl
theorem a_32 (ad : Nat → Nat) (cy : Nat → ClassId) (σ : S0) : (wW ad cy σ)[32]? = some (ad 32, .inr (1, [.int (σ 32 0), .ref (ad 33), .ref (ad 34), .ref (ad 35), .ref (ad 36), .ref (ad 37), .ref (ad 38), .int (σ 32 7), .ref (ad 39)])) := wW_at ad cy σ 32 (by decide)
theorem p_32_0 (ad : Nat → Nat) (cy : Nat → ClassId) (σ : S0) (v : Int32) : (.inr (1, ([.int (σ 32 0), .ref (ad 33), .ref (ad 34), .ref (ad 35), .ref (ad 36), .ref (ad 37), .ref (ad 38), .int (σ 32 7), .ref (ad 39)] : List Value).set 0 (.int v)) : va_E) = wc ad cy 32 (upd (σ 32) 0 v) := rfl
theorem p_32_7 (ad : Nat → Nat) (cy : Nat → ClassId) (σ : S0) (v : Int32) : (.inr (1, ([.int (σ 32 0), .ref (ad 33), .ref (ad 34), .ref (ad 35), .ref (ad 36), .ref (ad 37), .ref (ad 38), .int (σ 32 7), .ref (ad 39)] : List Value).set 7 (.int v)) : va_E) = wc ad cy 32 (upd (σ 32) 7 v) := rfl
theorem a_33 (ad : Nat → Nat) (cy : Nat → ClassId) (σ : S0) : (wW ad cy σ)[33]? = some (ad 33, .inl (cy 0, 12, .inl (σ 33))) := wW_at ad cy σ 33 (by decide)
theorem w_33 (ad : Nat → Nat) (cy : Nat → ClassId) (f : Nat → Int32) : (.inl (cy 0, 12, .inl f) : va_E) = wc ad cy 33 f := rfl
theorem a_34 (ad : Nat → Nat) (cy : Nat → ClassId) (σ : S0) : (wW ad cy σ)[34]? = some (ad 34, .inl (cy 0, 12, .inl (σ 34))) := wW_at ad cy σ 34 (by decide)
theorem w_34 (ad : Nat → Nat) (cy : Nat → ClassId) (f : Nat → Int32) : (.inl (cy 0, 12, .inl f) : va_E) = wc ad cy 34 f := rfl
theorem a_35 (ad : Nat → Nat) (cy : Nat → ClassId) (σ : S0) : (wW ad cy σ)[35]? = some (ad 35, .inl (cy 0, 12, .inl (σ 35))) := wW_at ad cy σ 35 (by decide)
theorem w_35 (ad : Nat → Nat) (cy : Nat → ClassId) (f : Nat → Int32) : (.inl (cy 0, 12, .inl f) : va_E) = wc ad cy 35 f := rfl
theorem a_36 (ad : Nat → Nat) (cy : Nat → ClassId) (σ : S0) : (wW ad cy σ)[36]? = some (ad 36, .inl (cy 0, 12, .inl (σ 36))) := wW_at ad cy σ 36 (by decide)
theorem w_36 (ad : Nat → Nat) (cy : Nat → ClassId) (f : Nat → Int32) : (.inl (cy 0, 12, .inl f) : va_E) = wc ad cy 36 f := rfl
theorem a_37 (ad : Nat → Nat) (cy : Nat → ClassId) (σ : S0) : (wW ad cy σ)[37]? = some (ad 37, .inl (cy 0, 12, .inl (σ 37))) := wW_at ad cy σ 37 (by decide)
theorem w_37 (ad : Nat → Nat) (cy : Nat → ClassId) (f : Nat → Int32) : (.inl (cy 0, 12, .inl f) : va_E) = wc ad cy 37 f := rfl
theorem a_38 (ad : Nat → Nat) (cy : Nat → ClassId) (σ : S0) : (wW ad cy σ)[38]? = some (ad 38, .inl (cy 0, 6, .inl (σ 38))) := wW_at ad cy σ 38 (by decide)
theorem w_38 (ad : Nat → Nat) (cy : Nat → ClassId) (f : Nat → Int32) : (.inl (cy 0, 6, .inl f) : va_E) = wc ad cy 38 f := rfl
theorem a_39 (ad : Nat → Nat) (cy : Nat → ClassId) (σ : S0) : (wW ad cy σ)[39]? = some (ad 39, .inl (cy 0, 12, .inl (σ 39))) := wW_at ad cy σ 39 (by decide)
theorem w_39 (ad : Nat → Nat) (cy : Nat → ClassId) (f : Nat → Int32) : (.inl (cy 0, 12, .inl f) : va_E) = wc ad cy 39 f := rfl
theorem a_40 (ad : Nat → Nat) (cy : Nat → ClassId) (σ : S0) : (wW ad cy σ)[40]? = some (ad 40, .inr (6, [.ref (ad 22), .ref (ad 32), .int (σ 40 2), .int (σ 40 3), .int (σ 40 4), .int (σ 40 5)])) := wW_at ad cy σ 40 (by decide)
theorem p_40_2 (ad : Nat → Nat) (cy : Nat → ClassId) (σ : S0) (v : Int32) : (.inr (6, ([.ref (ad 22), .ref (ad 32), .int (σ 40 2), .int (σ 40 3), .int (σ 40 4), .int (σ 40 5)] : List Value).set 2 (.int v)) : va_E) = wc ad cy 40 (upd (σ 40) 2 v) := rfl
theorem p_40_3 (ad : Nat → Nat) (cy : Nat → ClassId) (σ : S0) (v : Int32) : (.inr (6, ([.ref (ad 22), .ref (ad 32), .int (σ 40 2), .int (σ 40 3), .int (σ 40 4), .int (σ 40 5)] : List Value).set 3 (.int v)) : va_E) = wc ad cy 40 (upd (σ 40) 3 v) := rfl
theorem p_40_4 (ad : Nat → Nat) (cy : Nat → ClassId) (σ : S0) (v : Int32) : (.inr (6, ([.ref (ad 22), .ref (ad 32), .int (σ 40 2), .int (σ 40 3), .int (σ 40 4), .int (σ 40 5)] : List Value).set 4 (.int v)) : va_E) = wc ad cy 40 (upd (σ 40) 4 v) := rfl
theorem p_40_5 (ad : Nat → Nat) (cy : Nat → ClassId) (σ : S0) (v : Int32) : (.inr (6, ([.ref (ad 22), .ref (ad 32), .int (σ 40 2), .int (σ 40 3), .int (σ 40 4), .int (σ 40 5)] : List Value).set 5 (.int v)) : va_E) = wc ad cy 40 (upd (σ 40) 5 v) := rfl
theorem a_41 (ad : Nat → Nat) (cy : Nat → ClassId) (σ : S0) : (wW ad cy σ)[41]? = some (ad 41, .inr (0, [.ref (ad 22), .ref (ad 32), .ref (ad 40), .ref (ad 42), .ref (ad 43), .ref (ad 44), .ref (ad 45), .int (σ 41 7), .int (σ 41 8)])) := wW_at ad cy σ 41 (by decide)
theorem p_41_7 (ad : Nat → Nat) (cy : Nat → ClassId) (σ : S0) (v : Int32) : (.inr (0, ([.ref (ad 22), .ref (ad 32), .ref (ad 40), .ref (ad 42), .ref (ad 43), .ref (ad 44), .ref (ad 45), .int (σ 41 7), .int (σ 41 8)] : List Value).set 7 (.int v)) : va_E) = wc ad cy 41 (upd (σ 41) 7 v) := rfl
theorem p_41_8 (ad : Nat → Nat) (cy : Nat → ClassId) (σ : S0) (v : Int32) : (.inr (0, ([.ref (ad 22), .ref (ad 32), .ref (ad 40), .ref (ad 42), .ref (ad 43), .ref (ad 44), .ref (ad 45), .int (σ 41 7), .int (σ 41 8)] : List Value).set 8 (.int v)) : va_E) = wc ad cy 41 (upd (σ 41) 8 v) := rfl
theorem a_42 (ad : Nat → Nat) (cy : Nat → ClassId) (σ : S0) : (wW ad cy σ)[42]? = some (ad 42, .inl (cy 0, 6, .inl (σ 42))) := wW_at ad cy σ 42 (by decide)
theorem w_42 (ad : Nat → Nat) (cy : Nat → ClassId) (f : Nat → Int32) : (.inl (cy 0, 6, .inl f) : va_E) = wc ad cy 42 f := rfl
theorem a_43 (ad : Nat → Nat) (cy : Nat → ClassId) (σ : S0) : (wW ad cy σ)[43]? = some (ad 43, .inl (cy 0, 6, .inl (σ 43))) := wW_at ad cy σ 43 (by decide)
theorem w_43 (ad : Nat → Nat) (cy : Nat → ClassId) (f : Nat → Int32) : (.inl (cy 0, 6, .inl f) : va_E) = wc ad cy 43 f := rfl
theorem a_44 (ad : Nat → Nat) (cy : Nat → ClassId) (σ : S0) : (wW ad cy σ)[44]? = some (ad 44, .inl (cy 0, 6, .inl (σ 44))) := wW_at ad cy σ 44 (by decide)
theorem w_44 (ad : Nat → Nat) (cy : Nat → ClassId) (f : Nat → Int32) : (.inl (cy 0, 6, .inl f) : va_E) = wc ad cy 44 f := rfl
theorem a_45 (ad : Nat → Nat) (cy : Nat → ClassId) (σ : S0) : (wW ad cy σ)[45]? = some (ad 45, .inl (cy 0, 6, .inl (σ 45))) := wW_at ad cy σ 45 (by decide)
theorem w_45 (ad : Nat → Nat) (cy : Nat → ClassId) (f : Nat → Int32) : (.inl (cy 0, 6, .inl f) : va_E) = wc ad cy 45 f := rfl
theorem a_46 (ad : Nat → Nat) (cy : Nat → ClassId) (σ : S0) : (wW ad cy σ)[46]? = some (ad 46, .inr (2, [.ref (ad 22), .ref (ad 40), .ref (ad 47), .ref (ad 48), .int (σ 46 4), .int (σ 46 5)])) := wW_at ad cy σ 46 (by decide)
theorem p_46_4 (ad : Nat → Nat) (cy : Nat → ClassId) (σ : S0) (v : Int32) : (.inr (2, ([.ref (ad 22), .ref (ad 40), .ref (ad 47), .ref (ad 48), .int (σ 46 4), .int (σ 46 5)] : List Value).set 4 (.int v)) : va_E) = wc ad cy 46 (upd (σ 46) 4 v) := rfl
theorem p_46_5 (ad : Nat → Nat) (cy : Nat → ClassId) (σ : S0) (v : Int32) : (.inr (2, ([.ref (ad 22), .ref (ad 40), .ref (ad 47), .ref (ad 48), .int (σ 46 4), .int (σ 46 5)] : List Value).set 5 (.int v)) : va_E) = wc ad cy 46 (upd (σ 46) 5 v) := rfl
theorem a_47 (ad : Nat → Nat) (cy : Nat → ClassId) (σ : S0) : (wW ad cy σ)[47]? = some (ad 47, .inl (cy 0, 6, .inl (σ 47))) := wW_at ad cy σ 47 (by decide)
theorem w_47 (ad : Nat → Nat) (cy : Nat → ClassId) (f : Nat → Int32) : (.inl (cy 0, 6, .inl f) : va_E) = wc ad cy 47 f := rfl
theorem a_48 (ad : Nat → Nat) (cy : Nat → ClassId) (σ : S0) : (wW ad cy σ)[48]? = some (ad 48, .inl (cy 3, 6, .inr (.inr (.inr (.inr (rfA ad 6 49 1)))))) := wW_at ad cy σ 48 (by decide)
theorem a_49 (ad : Nat → Nat) (cy : Nat → ClassId) (σ : S0) : (wW ad cy σ)[49]? = some (ad 49, .inl (cy 0, 6, .inl (σ 49))) := wW_at ad cy σ 49 (by decide)
theorem w_49 (ad : Nat → Nat) (cy : Nat → ClassId) (f : Nat → Int32) : (.inl (cy 0, 6, .inl f) : va_E) = wc ad cy 49 f := rfl
theorem a_50 (ad : Nat → Nat) (cy : Nat → ClassId) (σ : S0) : (wW ad cy σ)[50]? = some (ad 50, .inl (cy 0, 6, .inl (σ 50))) := wW_at ad cy σ 50 (by decide)
theorem w_50 (ad : Nat → Nat) (cy : Nat → ClassId) (f : Nat → Int32) : (.inl (cy 0, 6, .inl f) : va_E) = wc ad cy 50 f := rfl
theorem a_51 (ad : Nat → Nat) (cy : Nat → ClassId) (σ : S0) : (wW ad cy σ)[51]? = some (ad 51, .inl (cy 0, 6, .inl (σ 51))) := wW_at ad cy σ 51 (by decide)
theorem w_51 (ad : Nat → Nat) (cy : Nat → ClassId) (f : Nat → Int32) : (.inl (cy 0, 6, .inl f) : va_E) = wc ad cy 51 f := rfl
theorem a_52 (ad : Nat → Nat) (cy : Nat → ClassId) (σ : S0) : (wW ad cy σ)[52]? = some (ad 52, .inl (cy 0, 6, .inl (σ 52))) := wW_at ad cy σ 52 (by decide)
theorem w_52 (ad : Nat → Nat) (cy : Nat → ClassId) (f : Nat → Int32) : (.inl (cy 0, 6, .inl f) : va_E) = wc ad cy 52 f := rfl
theorem a_53 (ad : Nat → Nat) (cy : Nat → ClassId) (σ : S0) : (wW ad cy σ)[53]? = some (ad 53, .inl (cy 0, 6, .inl (σ 53))) := wW_at ad cy σ 53 (by decide)
theorem w_53 (ad : Nat → Nat) (cy : Nat → ClassId) (f : Nat → Int32) : (.inl (cy 0, 6, .inl f) : va_E) = wc ad cy 53 f := rfl
theorem a_54 (ad : Nat → Nat) (cy : Nat → ClassId) (σ : S0) : (wW ad cy σ)[54]? = some (ad 54, .inl (cy 0, 6, .inl (σ 54))) := wW_at ad cy σ 54 (by decide)
theorem w_54 (ad : Nat → Nat) (cy : Nat → ClassId) (f : Nat → Int32) : (.inl (cy 0, 6, .inl f) : va_E) = wc ad cy 54 f := rfl
theorem a_55 (ad : Nat → Nat) (cy : Nat → ClassId) (σ : S0) : (wW ad cy σ)[55]? = some (ad 55, .inr (4, [.ref (ad 22), .ref (ad 32), .ref (ad 56), .ref (ad 69), .int (σ 55 4)])) := wW_at ad cy σ 55 (by decide)
theorem p_55_4 (ad : Nat → Nat) (cy : Nat → ClassId) (σ : S0) (v : Int32) : (.inr (4, ([.ref (ad 22), .ref (ad 32), .ref (ad 56), .ref (ad 69), .int (σ 55 4)] : List Value).set 4 (.int v)) : va_E) = wc ad cy 55 (upd (σ 55) 4 v) := rfl
theorem a_56 (ad : Nat → Nat) (cy : Nat → ClassId) (σ : S0) : (wW ad cy σ)[56]? = some (ad 56, .inl (cy 3, 12, .inr (.inr (.inr (.inr (rfA ad 12 57 1)))))) := wW_at ad cy σ 56 (by decide)
theorem a_57 (ad : Nat → Nat) (cy : Nat → ClassId) (σ : S0) : (wW ad cy σ)[57]? = some (ad 57, .inl (cy 0, 12, .inl (σ 57))) := wW_at ad cy σ 57 (by decide)
theorem w_57 (ad : Nat → Nat) (cy : Nat → ClassId) (f : Nat → Int32) : (.inl (cy 0, 12, .inl f) : va_E) = wc ad cy 57 f := rfl
theorem a_58 (ad : Nat → Nat) (cy : Nat → ClassId) (σ : S0) : (wW ad cy σ)[58]? = some (ad 58, .inl (cy 0, 12, .inl (σ 58))) := wW_at ad cy σ 58 (by decide)
theorem w_58 (ad : Nat → Nat) (cy : Nat → ClassId) (f : Nat → Int32) : (.inl (cy 0, 12, .inl f) : va_E) = wc ad cy 58 f := rfl
theorem a_59 (ad : Nat → Nat) (cy : Nat → ClassId) (σ : S0) : (wW ad cy σ)[59]? = some (ad 59, .inl (cy 0, 12, .inl (σ 59))) := wW_at ad cy σ 59 (by decide)
theorem w_59 (ad : Nat → Nat) (cy : Nat → ClassId) (f : Nat → Int32) : (.inl (cy 0, 12, .inl f) : va_E) = wc ad cy 59 f := rfl
theorem a_60 (ad : Nat → Nat) (cy : Nat → ClassId) (σ : S0) : (wW ad cy σ)[60]? = some (ad 60, .inl (cy 0, 12, .inl (σ 60))) := wW_at ad cy σ 60 (by decide)
theorem w_60 (ad : Nat → Nat) (cy : Nat → ClassId) (f : Nat → Int32) : (.inl (cy 0, 12, .inl f) : va_E) = wc ad cy 60 f := rfl
theorem a_61 (ad : Nat → Nat) (cy : Nat → ClassId) (σ : S0) : (wW ad cy σ)[61]? = some (ad 61, .inl (cy 0, 12, .inl (σ 61))) := wW_at ad cy σ 61 (by decide)
theorem w_61 (ad : Nat → Nat) (cy : Nat → ClassId) (f : Nat → Int32) : (.inl (cy 0, 12, .inl f) : va_E) = wc ad cy 61 f := rfl
theorem a_62 (ad : Nat → Nat) (cy : Nat → ClassId) (σ : S0) : (wW ad cy σ)[62]? = some (ad 62, .inl (cy 0, 12, .inl (σ 62))) := wW_at ad cy σ 62 (by decide)
theorem w_62 (ad : Nat → Nat) (cy : Nat → ClassId) (f : Nat → Int32) : (.inl (cy 0, 12, .inl f) : va_E) = wc ad cy 62 f := rfl
theorem a_63 (ad : Nat → Nat) (cy : Nat → ClassId) (σ : S0) : (wW ad cy σ)[63]? = some (ad 63, .inl (cy 0, 12, .inl (σ 63))) := wW_at ad cy σ 63 (by decide)
theorem w_63 (ad : Nat → Nat) (cy : Nat → ClassId) (f : Nat → Int32) : (.inl (cy 0, 12, .inl f) : va_E) = wc ad cy 63 f := rfl
theorem a_64 (ad : Nat → Nat) (cy : Nat → ClassId) (σ : S0) : (wW ad cy σ)[64]? = some (ad 64, .inl (cy 0, 12, .inl (σ 64))) := wW_at ad cy σ 64 (by decide)
theorem w_64 (ad : Nat → Nat) (cy : Nat → ClassId) (f : Nat → Int32) : (.inl (cy 0, 12, .inl f) : va_E) = wc ad cy 64 f := rfl
theorem a_65 (ad : Nat → Nat) (cy : Nat → ClassId) (σ : S0) : (wW ad cy σ)[65]? = some (ad 65, .inl (cy 0, 12, .inl (σ 65))) := wW_at ad cy σ 65 (by decide)
theorem w_65 (ad : Nat → Nat) (cy : Nat → ClassId) (f : Nat → Int32) : (.inl (cy 0, 12, .inl f) : va_E) = wc ad cy 65 f := rfl
theorem a_66 (ad : Nat → Nat) (cy : Nat → ClassId) (σ : S0) : (wW ad cy σ)[66]? = some (ad 66, .inl (cy 0, 12, .inl (σ 66))) := wW_at ad cy σ 66 (by decide)
theorem w_66 (ad : Nat → Nat) (cy : Nat → ClassId) (f : Nat → Int32) : (.inl (cy 0, 12, .inl f) : va_E) = wc ad cy 66 f := rfl
theorem a_67 (ad : Nat → Nat) (cy : Nat → ClassId) (σ : S0) : (wW ad cy σ)[67]? = some (ad 67, .inl (cy 0, 12, .inl (σ 67))) := wW_at ad cy σ 67 (by decide)
theorem w_67 (ad : Nat → Nat) (cy : Nat → ClassId) (f : Nat → Int32) : (.inl (cy 0, 12, .inl f) : va_E) = wc ad cy 67 f := rfl
theorem a_68 (ad : Nat → Nat) (cy : Nat → ClassId) (σ : S0) : (wW ad cy σ)[68]? = some (ad 68, .inl (cy 0, 12, .inl (σ 68))) := wW_at ad cy σ 68 (by decide)
theorem w_68 (ad : Nat → Nat) (cy : Nat → ClassId) (f : Nat → Int32) : (.inl (cy 0, 12, .inl f) : va_E) = wc ad cy 68 f := rfl
theorem a_69 (ad : Nat → Nat) (cy : Nat → ClassId) (σ : S0) : (wW ad cy σ)[69]? = some (ad 69, .inl (cy 0, 12, .inl (σ 69))) := wW_at ad cy σ 69 (by decide)
theorem w_69 (ad : Nat → Nat) (cy : Nat → ClassId) (f : Nat → Int32) : (.inl (cy 0, 12, .inl f) : va_E) = wc ad cy 69 f := rfl
theorem a_70 (ad : Nat → Nat) (cy : Nat → ClassId) (σ : S0) : (wW ad cy σ)[70]? = some (ad 70, .inr (3, [.ref (ad 22), .ref (ad 32), .int (σ 70 2), .int (σ 70 3), .int (σ 70 4), .int (σ 70 5)])) := wW_at ad cy σ 70 (by decide)
theorem p_70_2 (ad : Nat → Nat) (cy : Nat → ClassId) (σ : S0) (v : Int32) : (.inr (3, ([.ref (ad 22), .ref (ad 32), .int (σ 70 2), .int (σ 70 3), .int (σ 70 4), .int (σ 70 5)] : List Value).set 2 (.int v)) : va_E) = wc ad cy 70 (upd (σ 70) 2 v) := rfl
theorem p_70_3 (ad : Nat → Nat) (cy : Nat → ClassId) (σ : S0) (v : Int32) : (.inr (3, ([.ref (ad 22), .ref (ad 32), .int (σ 70 2), .int (σ 70 3), .int (σ 70 4), .int (σ 70 5)] : List Value).set 3 (.int v)) : va_E) = wc ad cy 70 (upd (σ 70) 3 v) := rfl
theorem p_70_4 (ad : Nat → Nat) (cy : Nat → ClassId) (σ : S0) (v : Int32) : (.inr (3, ([.ref (ad 22), .ref (ad 32), .int (σ 70 2), .int (σ 70 3), .int (σ 70 4), .int (σ 70 5)] : List Value).set 4 (.int v)) : va_E) = wc ad cy 70 (upd (σ 70) 4 v) := rfl
theorem p_70_5 (ad : Nat → Nat) (cy : Nat → ClassId) (σ : S0) (v : Int32) : (.inr (3, ([.ref (ad 22), .ref (ad 32), .int (σ 70 2), .int (σ 70 3), .int (σ 70 4), .int (σ 70 5)] : List Value).set 5 (.int v)) : va_E) = wc ad cy 70 (upd (σ 70) 5 v) := rfl
theorem a_71 (ad : Nat → Nat) (cy : Nat → ClassId) (σ : S0) : (wW ad cy σ)[71]? = some (ad 71, .inl (cy 4, 2, .inr (.inr (.inr (.inr (rfA ad 2 74 8)))))) := wW_at ad cy σ 71 (by decide)
theorem a_72 (ad : Nat → Nat) (cy : Nat → ClassId) (σ : S0) : (wW ad cy σ)[72]? = some (ad 72, .inl (cy 2, 2, .inl (σ 72))) := wW_at ad cy σ 72 (by decide)
theorem w_72 (ad : Nat → Nat) (cy : Nat → ClassId) (f : Nat → Int32) : (.inl (cy 2, 2, .inl f) : va_E) = wc ad cy 72 f := rfl
theorem a_73 (ad : Nat → Nat) (cy : Nat → ClassId) (σ : S0) : (wW ad cy σ)[73]? = some (ad 73, .inl (cy 5, 4, .inr (.inr (.inr (.inr (rfA ad 4 90 2)))))) := wW_at ad cy σ 73 (by decide)
theorem a_74 (ad : Nat → Nat) (cy : Nat → ClassId) (σ : S0) : (wW ad cy σ)[74]? = some (ad 74, .inr (1, [.int (σ 74 0), .ref (ad 75), .ref (ad 76), .ref (ad 77), .ref (ad 78), .ref (ad 79), .ref (ad 80), .int (σ 74 7), .ref (ad 81)])) := wW_at ad cy σ 74 (by decide)
theorem p_74_0 (ad : Nat → Nat) (cy : Nat → ClassId) (σ : S0) (v : Int32) : (.inr (1, ([.int (σ 74 0), .ref (ad 75), .ref (ad 76), .ref (ad 77), .ref (ad 78), .ref (ad 79), .ref (ad 80), .int (σ 74 7), .ref (ad 81)] : List Value).set 0 (.int v)) : va_E) = wc ad cy 74 (upd (σ 74) 0 v) := rfl
theorem p_74_7 (ad : Nat → Nat) (cy : Nat → ClassId) (σ : S0) (v : Int32) : (.inr (1, ([.int (σ 74 0), .ref (ad 75), .ref (ad 76), .ref (ad 77), .ref (ad 78), .ref (ad 79), .ref (ad 80), .int (σ 74 7), .ref (ad 81)] : List Value).set 7 (.int v)) : va_E) = wc ad cy 74 (upd (σ 74) 7 v) := rfl
theorem a_75 (ad : Nat → Nat) (cy : Nat → ClassId) (σ : S0) : (wW ad cy σ)[75]? = some (ad 75, .inl (cy 0, 12, .inl (σ 75))) := wW_at ad cy σ 75 (by decide)
theorem w_75 (ad : Nat → Nat) (cy : Nat → ClassId) (f : Nat → Int32) : (.inl (cy 0, 12, .inl f) : va_E) = wc ad cy 75 f := rfl
theorem a_76 (ad : Nat → Nat) (cy : Nat → ClassId) (σ : S0) : (wW ad cy σ)[76]? = some (ad 76, .inl (cy 0, 12, .inl (σ 76))) := wW_at ad cy σ 76 (by decide)
theorem w_76 (ad : Nat → Nat) (cy : Nat → ClassId) (f : Nat → Int32) : (.inl (cy 0, 12, .inl f) : va_E) = wc ad cy 76 f := rfl
theorem a_77 (ad : Nat → Nat) (cy : Nat → ClassId) (σ : S0) : (wW ad cy σ)[77]? = some (ad 77, .inl (cy 0, 12, .inl (σ 77))) := wW_at ad cy σ 77 (by decide)
theorem w_77 (ad : Nat → Nat) (cy : Nat → ClassId) (f : Nat → Int32) : (.inl (cy 0, 12, .inl f) : va_E) = wc ad cy 77 f := rfl
theorem a_78 (ad : Nat → Nat) (cy : Nat → ClassId) (σ : S0) : (wW ad cy σ)[78]? = some (ad 78, .inl (cy 0, 12, .inl (σ 78))) := wW_at ad cy σ 78 (by decide)
theorem w_78 (ad : Nat → Nat) (cy : Nat → ClassId) (f : Nat → Int32) : (.inl (cy 0, 12, .inl f) : va_E) = wc ad cy 78 f := rfl
theorem a_79 (ad : Nat → Nat) (cy : Nat → ClassId) (σ : S0) : (wW ad cy σ)[79]? = some (ad 79, .inl (cy 0, 12, .inl (σ 79))) := wW_at ad cy σ 79 (by decide)
theorem w_79 (ad : Nat → Nat) (cy : Nat → ClassId) (f : Nat → Int32) : (.inl (cy 0, 12, .inl f) : va_E) = wc ad cy 79 f := rfl
theorem a_80 (ad : Nat → Nat) (cy : Nat → ClassId) (σ : S0) : (wW ad cy σ)[80]? = some (ad 80, .inl (cy 0, 6, .inl (σ 80))) := wW_at ad cy σ 80 (by decide)
theorem w_80 (ad : Nat → Nat) (cy : Nat → ClassId) (f : Nat → Int32) : (.inl (cy 0, 6, .inl f) : va_E) = wc ad cy 80 f := rfl
theorem a_81 (ad : Nat → Nat) (cy : Nat → ClassId) (σ : S0) : (wW ad cy σ)[81]? = some (ad 81, .inl (cy 0, 12, .inl (σ 81))) := wW_at ad cy σ 81 (by decide)
theorem w_81 (ad : Nat → Nat) (cy : Nat → ClassId) (f : Nat → Int32) : (.inl (cy 0, 12, .inl f) : va_E) = wc ad cy 81 f := rfl
theorem a_82 (ad : Nat → Nat) (cy : Nat → ClassId) (σ : S0) : (wW ad cy σ)[82]? = some (ad 82, .inr (1, [.int (σ 82 0), .ref (ad 83), .ref (ad 84), .ref (ad 85), .ref (ad 86), .ref (ad 87), .ref (ad 88), .int (σ 82 7), .ref (ad 89)])) := wW_at ad cy σ 82 (by decide)
theorem p_82_0 (ad : Nat → Nat) (cy : Nat → ClassId) (σ : S0) (v : Int32) : (.inr (1, ([.int (σ 82 0), .ref (ad 83), .ref (ad 84), .ref (ad 85), .ref (ad 86), .ref (ad 87), .ref (ad 88), .int (σ 82 7), .ref (ad 89)] : List Value).set 0 (.int v)) : va_E) = wc ad cy 82 (upd (σ 82) 0 v) := rfl
theorem p_82_7 (ad : Nat → Nat) (cy : Nat → ClassId) (σ : S0) (v : Int32) : (.inr (1, ([.int (σ 82 0), .ref (ad 83), .ref (ad 84), .ref (ad 85), .ref (ad 86), .ref (ad 87), .ref (ad 88), .int (σ 82 7), .ref (ad 89)] : List Value).set 7 (.int v)) : va_E) = wc ad cy 82 (upd (σ 82) 7 v) := rfl
theorem a_83 (ad : Nat → Nat) (cy : Nat → ClassId) (σ : S0) : (wW ad cy σ)[83]? = some (ad 83, .inl (cy 0, 12, .inl (σ 83))) := wW_at ad cy σ 83 (by decide)
theorem w_83 (ad : Nat → Nat) (cy : Nat → ClassId) (f : Nat → Int32) : (.inl (cy 0, 12, .inl f) : va_E) = wc ad cy 83 f := rfl
theorem a_84 (ad : Nat → Nat) (cy : Nat → ClassId) (σ : S0) : (wW ad cy σ)[84]? = some (ad 84, .inl (cy 0, 12, .inl (σ 84))) := wW_at ad cy σ 84 (by decide)
theorem w_84 (ad : Nat → Nat) (cy : Nat → ClassId) (f : Nat → Int32) : (.inl (cy 0, 12, .inl f) : va_E) = wc ad cy 84 f := rfl
theorem a_85 (ad : Nat → Nat) (cy : Nat → ClassId) (σ : S0) : (wW ad cy σ)[85]? = some (ad 85, .inl (cy 0, 12, .inl (σ 85))) := wW_at ad cy σ 85 (by decide)
theorem w_85 (ad : Nat → Nat) (cy : Nat → ClassId) (f : Nat → Int32) : (.inl (cy 0, 12, .inl f) : va_E) = wc ad cy 85 f := rfl
theorem a_86 (ad : Nat → Nat) (cy : Nat → ClassId) (σ : S0) : (wW ad cy σ)[86]? = some (ad 86, .inl (cy 0, 12, .inl (σ 86))) := wW_at ad cy σ 86 (by decide)
theorem w_86 (ad : Nat → Nat) (cy : Nat → ClassId) (f : Nat → Int32) : (.inl (cy 0, 12, .inl f) : va_E) = wc ad cy 86 f := rfl
theorem a_87 (ad : Nat → Nat) (cy : Nat → ClassId) (σ : S0) : (wW ad cy σ)[87]? = some (ad 87, .inl (cy 0, 12, .inl (σ 87))) := wW_at ad cy σ 87 (by decide)
theorem w_87 (ad : Nat → Nat) (cy : Nat → ClassId) (f : Nat → Int32) : (.inl (cy 0, 12, .inl f) : va_E) = wc ad cy 87 f := rfl
theorem a_88 (ad : Nat → Nat) (cy : Nat → ClassId) (σ : S0) : (wW ad cy σ)[88]? = some (ad 88, .inl (cy 0, 6, .inl (σ 88))) := wW_at ad cy σ 88 (by decide)
theorem w_88 (ad : Nat → Nat) (cy : Nat → ClassId) (f : Nat → Int32) : (.inl (cy 0, 6, .inl f) : va_E) = wc ad cy 88 f := rfl
theorem a_89 (ad : Nat → Nat) (cy : Nat → ClassId) (σ : S0) : (wW ad cy σ)[89]? = some (ad 89, .inl (cy 0, 12, .inl (σ 89))) := wW_at ad cy σ 89 (by decide)
theorem w_89 (ad : Nat → Nat) (cy : Nat → ClassId) (f : Nat → Int32) : (.inl (cy 0, 12, .inl f) : va_E) = wc ad cy 89 f := rfl
theorem a_90 (ad : Nat → Nat) (cy : Nat → ClassId) (σ : S0) : (wW ad cy σ)[90]? = some (ad 90, .inr (7, [.int (σ 90 0), .int (σ 90 1), .ref (ad 91)])) := wW_at ad cy σ 90 (by decide)
theorem p_90_0 (ad : Nat → Nat) (cy : Nat → ClassId) (σ : S0) (v : Int32) : (.inr (7, ([.int (σ 90 0), .int (σ 90 1), .ref (ad 91)] : List Value).set 0 (.int v)) : va_E) = wc ad cy 90 (upd (σ 90) 0 v) := rfl
theorem p_90_1 (ad : Nat → Nat) (cy : Nat → ClassId) (σ : S0) (v : Int32) : (.inr (7, ([.int (σ 90 0), .int (σ 90 1), .ref (ad 91)] : List Value).set 1 (.int v)) : va_E) = wc ad cy 90 (upd (σ 90) 1 v) := rfl
theorem a_91 (ad : Nat → Nat) (cy : Nat → ClassId) (σ : S0) : (wW ad cy σ)[91]? = some (ad 91, .inl (cy 0, 40, .inl (σ 91))) := wW_at ad cy σ 91 (by decide)
theorem w_91 (ad : Nat → Nat) (cy : Nat → ClassId) (f : Nat → Int32) : (.inl (cy 0, 40, .inl f) : va_E) = wc ad cy 91 f := rfl
theorem a_92 (ad : Nat → Nat) (cy : Nat → ClassId) (σ : S0) : (wW ad cy σ)[92]? = some (ad 92, .inr (7, [.int (σ 92 0), .int (σ 92 1), .ref (ad 93)])) := wW_at ad cy σ 92 (by decide)
theorem p_92_0 (ad : Nat → Nat) (cy : Nat → ClassId) (σ : S0) (v : Int32) : (.inr (7, ([.int (σ 92 0), .int (σ 92 1), .ref (ad 93)] : List Value).set 0 (.int v)) : va_E) = wc ad cy 92 (upd (σ 92) 0 v) := rfl
theorem p_92_1 (ad : Nat → Nat) (cy : Nat → ClassId) (σ : S0) (v : Int32) : (.inr (7, ([.int (σ 92 0), .int (σ 92 1), .ref (ad 93)] : List Value).set 1 (.int v)) : va_E) = wc ad cy 92 (upd (σ 92) 1 v) := rfl
theorem a_93 (ad : Nat → Nat) (cy : Nat → ClassId) (σ : S0) : (wW ad cy σ)[93]? = some (ad 93, .inl (cy 0, 40, .inl (σ 93))) := wW_at ad cy σ 93 (by decide)
theorem w_93 (ad : Nat → Nat) (cy : Nat → ClassId) (f : Nat → Int32) : (.inl (cy 0, 40, .inl f) : va_E) = wc ad cy 93 f := rfl
theorem a_94 (ad : Nat → Nat) (cy : Nat → ClassId) (σ : S0) : (wW ad cy σ)[94]? = some (ad 94, .inr (7, [.int (σ 94 0), .int (σ 94 1), .ref (ad 95)])) := wW_at ad cy σ 94 (by decide)
theorem p_94_0 (ad : Nat → Nat) (cy : Nat → ClassId) (σ : S0) (v : Int32) : (.inr (7, ([.int (σ 94 0), .int (σ 94 1), .ref (ad 95)] : List Value).set 0 (.int v)) : va_E) = wc ad cy 94 (upd (σ 94) 0 v) := rfl
theorem p_94_1 (ad : Nat → Nat) (cy : Nat → ClassId) (σ : S0) (v : Int32) : (.inr (7, ([.int (σ 94 0), .int (σ 94 1), .ref (ad 95)] : List Value).set 1 (.int v)) : va_E) = wc ad cy 94 (upd (σ 94) 1 v) := rfl
theorem a_95 (ad : Nat → Nat) (cy : Nat → ClassId) (σ : S0) : (wW ad cy σ)[95]? = some (ad 95, .inl (cy 0, 40, .inl (σ 95))) := wW_at ad cy σ 95 (by decide)
theorem w_95 (ad : Nat → Nat) (cy : Nat → ClassId) (f : Nat → Int32) : (.inl (cy 0, 40, .inl f) : va_E) = wc ad cy 95 f := rfl
theorem a_96 (ad : Nat → Nat) (cy : Nat → ClassId) (σ : S0) : (wW ad cy σ)[96]? = some (ad 96, .inr (7, [.int (σ 96 0), .int (σ 96 1), .ref (ad 97)])) := wW_at ad cy σ 96 (by decide)
theorem p_96_0 (ad : Nat → Nat) (cy : Nat → ClassId) (σ : S0) (v : Int32) : (.inr (7, ([.int (σ 96 0), .int (σ 96 1), .ref (ad 97)] : List Value).set 0 (.int v)) : va_E) = wc ad cy 96 (upd (σ 96) 0 v) := rfl
theorem p_96_1 (ad : Nat → Nat) (cy : Nat → ClassId) (σ : S0) (v : Int32) : (.inr (7, ([.int (σ 96 0), .int (σ 96 1), .ref (ad 97)] : List Value).set 1 (.int v)) : va_E) = wc ad cy 96 (upd (σ 96) 1 v) := rfl
theorem a_97 (ad : Nat → Nat) (cy : Nat → ClassId) (σ : S0) : (wW ad cy σ)[97]? = some (ad 97, .inl (cy 0, 40, .inl (σ 97))) := wW_at ad cy σ 97 (by decide)
theorem w_97 (ad : Nat → Nat) (cy : Nat → ClassId) (f : Nat → Int32) : (.inl (cy 0, 40, .inl f) : va_E) = wc ad cy 97 f := rfl
theorem a_98 (ad : Nat → Nat) (cy : Nat → ClassId) (σ : S0) : (wW ad cy σ)[98]? = some (ad 98, .inr (11, [.ref (ad 99), .ref (ad 100), .int (σ 98 2), .int (σ 98 3), .int (σ 98 4), .int (σ 98 5), .ref (ad 101), .ref (ad 102), .ref (ad 103), .int (σ 98 9), .int (σ 98 10), .int (σ 98 11), .int (σ 98 12), .int (σ 98 13), .int (σ 98 14), .int (σ 98 15), .ref (ad 104), .int (σ 98 17), .int (σ 98 18), .int (σ 98 19), .int (σ 98 20), .int (σ 98 21), .int (σ 98 22), .int (σ 98 23), .int (σ 98 24), .int (σ 98 25), .int (σ 98 26), .int (σ 98 27), .ref (ad 105), .ref (ad 106), .int (σ 98 30), .int (σ 98 31), .int (σ 98 32), .int (σ 98 33), .ref (ad 107), .int (σ 98 35), .ref (ad 108), .ref (ad 109), .ref (ad 110), .int (σ 98 39)])) := wW_at ad cy σ 98 (by decide)
theorem p_98_2 (ad : Nat → Nat) (cy : Nat → ClassId) (σ : S0) (v : Int32) : (.inr (11, ([.ref (ad 99), .ref (ad 100), .int (σ 98 2), .int (σ 98 3), .int (σ 98 4), .int (σ 98 5), .ref (ad 101), .ref (ad 102), .ref (ad 103), .int (σ 98 9), .int (σ 98 10), .int (σ 98 11), .int (σ 98 12), .int (σ 98 13), .int (σ 98 14), .int (σ 98 15), .ref (ad 104), .int (σ 98 17), .int (σ 98 18), .int (σ 98 19), .int (σ 98 20), .int (σ 98 21), .int (σ 98 22), .int (σ 98 23), .int (σ 98 24), .int (σ 98 25), .int (σ 98 26), .int (σ 98 27), .ref (ad 105), .ref (ad 106), .int (σ 98 30), .int (σ 98 31), .int (σ 98 32), .int (σ 98 33), .ref (ad 107), .int (σ 98 35), .ref (ad 108), .ref (ad 109), .ref (ad 110), .int (σ 98 39)] : List Value).set 2 (.int v)) : va_E) = wc ad cy 98 (upd (σ 98) 2 v) := rfl
theorem p_98_3 (ad : Nat → Nat) (cy : Nat → ClassId) (σ : S0) (v : Int32) : (.inr (11, ([.ref (ad 99), .ref (ad 100), .int (σ 98 2), .int (σ 98 3), .int (σ 98 4), .int (σ 98 5), .ref (ad 101), .ref (ad 102), .ref (ad 103), .int (σ 98 9), .int (σ 98 10), .int (σ 98 11), .int (σ 98 12), .int (σ 98 13), .int (σ 98 14), .int (σ 98 15), .ref (ad 104), .int (σ 98 17), .int (σ 98 18), .int (σ 98 19), .int (σ 98 20), .int (σ 98 21), .int (σ 98 22), .int (σ 98 23), .int (σ 98 24), .int (σ 98 25), .int (σ 98 26), .int (σ 98 27), .ref (ad 105), .ref (ad 106), .int (σ 98 30), .int (σ 98 31), .int (σ 98 32), .int (σ 98 33), .ref (ad 107), .int (σ 98 35), .ref (ad 108), .ref (ad 109), .ref (ad 110), .int (σ 98 39)] : List Value).set 3 (.int v)) : va_E) = wc ad cy 98 (upd (σ 98) 3 v) := rfl
theorem p_98_4 (ad : Nat → Nat) (cy : Nat → ClassId) (σ : S0) (v : Int32) : (.inr (11, ([.ref (ad 99), .ref (ad 100), .int (σ 98 2), .int (σ 98 3), .int (σ 98 4), .int (σ 98 5), .ref (ad 101), .ref (ad 102), .ref (ad 103), .int (σ 98 9), .int (σ 98 10), .int (σ 98 11), .int (σ 98 12), .int (σ 98 13), .int (σ 98 14), .int (σ 98 15), .ref (ad 104), .int (σ 98 17), .int (σ 98 18), .int (σ 98 19), .int (σ 98 20), .int (σ 98 21), .int (σ 98 22), .int (σ 98 23), .int (σ 98 24), .int (σ 98 25), .int (σ 98 26), .int (σ 98 27), .ref (ad 105), .ref (ad 106), .int (σ 98 30), .int (σ 98 31), .int (σ 98 32), .int (σ 98 33), .ref (ad 107), .int (σ 98 35), .ref (ad 108), .ref (ad 109), .ref (ad 110), .int (σ 98 39)] : List Value).set 4 (.int v)) : va_E) = wc ad cy 98 (upd (σ 98) 4 v) := rfl
theorem p_98_5 (ad : Nat → Nat) (cy : Nat → ClassId) (σ : S0) (v : Int32) : (.inr (11, ([.ref (ad 99), .ref (ad 100), .int (σ 98 2), .int (σ 98 3), .int (σ 98 4), .int (σ 98 5), .ref (ad 101), .ref (ad 102), .ref (ad 103), .int (σ 98 9), .int (σ 98 10), .int (σ 98 11), .int (σ 98 12), .int (σ 98 13), .int (σ 98 14), .int (σ 98 15), .ref (ad 104), .int (σ 98 17), .int (σ 98 18), .int (σ 98 19), .int (σ 98 20), .int (σ 98 21), .int (σ 98 22), .int (σ 98 23), .int (σ 98 24), .int (σ 98 25), .int (σ 98 26), .int (σ 98 27), .ref (ad 105), .ref (ad 106), .int (σ 98 30), .int (σ 98 31), .int (σ 98 32), .int (σ 98 33), .ref (ad 107), .int (σ 98 35), .ref (ad 108), .ref (ad 109), .ref (ad 110), .int (σ 98 39)] : List Value).set 5 (.int v)) : va_E) = wc ad cy 98 (upd (σ 98) 5 v) := rfl
theorem p_98_9 (ad : Nat → Nat) (cy : Nat → ClassId) (σ : S0) (v : Int32) : (.inr (11, ([.ref (ad 99), .ref (ad 100), .int (σ 98 2), .int (σ 98 3), .int (σ 98 4), .int (σ 98 5), .ref (ad 101), .ref (ad 102), .ref (ad 103), .int (σ 98 9), .int (σ 98 10), .int (σ 98 11), .int (σ 98 12), .int (σ 98 13), .int (σ 98 14), .int (σ 98 15), .ref (ad 104), .int (σ 98 17), .int (σ 98 18), .int (σ 98 19), .int (σ 98 20), .int (σ 98 21), .int (σ 98 22), .int (σ 98 23), .int (σ 98 24), .int (σ 98 25), .int (σ 98 26), .int (σ 98 27), .ref (ad 105), .ref (ad 106), .int (σ 98 30), .int (σ 98 31), .int (σ 98 32), .int (σ 98 33), .ref (ad 107), .int (σ 98 35), .ref (ad 108), .ref (ad 109), .ref (ad 110), .int (σ 98 39)] : List Value).set 9 (.int v)) : va_E) = wc ad cy 98 (upd (σ 98) 9 v) := rfl
theorem p_98_10 (ad : Nat → Nat) (cy : Nat → ClassId) (σ : S0) (v : Int32) : (.inr (11, ([.ref (ad 99), .ref (ad 100), .int (σ 98 2), .int (σ 98 3), .int (σ 98 4), .int (σ 98 5), .ref (ad 101), .ref (ad 102), .ref (ad 103), .int (σ 98 9), .int (σ 98 10), .int (σ 98 11), .int (σ 98 12), .int (σ 98 13), .int (σ 98 14), .int (σ 98 15), .ref (ad 104), .int (σ 98 17), .int (σ 98 18), .int (σ 98 19), .int (σ 98 20), .int (σ 98 21), .int (σ 98 22), .int (σ 98 23), .int (σ 98 24), .int (σ 98 25), .int (σ 98 26), .int (σ 98 27), .ref (ad 105), .ref (ad 106), .int (σ 98 30), .int (σ 98 31), .int (σ 98 32), .int (σ 98 33), .ref (ad 107), .int (σ 98 35), .ref (ad 108), .ref (ad 109), .ref (ad 110), .int (σ 98 39)] : List Value).set 10 (.int v)) : va_E) = wc ad cy 98 (upd (σ 98) 10 v) := rfl
theorem p_98_11 (ad : Nat → Nat) (cy : Nat → ClassId) (σ : S0) (v : Int32) : (.inr (11, ([.ref (ad 99), .ref (ad 100), .int (σ 98 2), .int (σ 98 3), .int (σ 98 4), .int (σ 98 5), .ref (ad 101), .ref (ad 102), .ref (ad 103), .int (σ 98 9), .int (σ 98 10), .int (σ 98 11), .int (σ 98 12), .int (σ 98 13), .int (σ 98 14), .int (σ 98 15), .ref (ad 104), .int (σ 98 17), .int (σ 98 18), .int (σ 98 19), .int (σ 98 20), .int (σ 98 21), .int (σ 98 22), .int (σ 98 23), .int (σ 98 24), .int (σ 98 25), .int (σ 98 26), .int (σ 98 27), .ref (ad 105), .ref (ad 106), .int (σ 98 30), .int (σ 98 31), .int (σ 98 32), .int (σ 98 33), .ref (ad 107), .int (σ 98 35), .ref (ad 108), .ref (ad 109), .ref (ad 110), .int (σ 98 39)] : List Value).set 11 (.int v)) : va_E) = wc ad cy 98 (upd (σ 98) 11 v) := rfl
theorem p_98_12 (ad : Nat → Nat) (cy : Nat → ClassId) (σ : S0) (v : Int32) : (.inr (11, ([.ref (ad 99), .ref (ad 100), .int (σ 98 2), .int (σ 98 3), .int (σ 98 4), .int (σ 98 5), .ref (ad 101), .ref (ad 102), .ref (ad 103), .int (σ 98 9), .int (σ 98 10), .int (σ 98 11), .int (σ 98 12), .int (σ 98 13), .int (σ 98 14), .int (σ 98 15), .ref (ad 104), .int (σ 98 17), .int (σ 98 18), .int (σ 98 19), .int (σ 98 20), .int (σ 98 21), .int (σ 98 22), .int (σ 98 23), .int (σ 98 24), .int (σ 98 25), .int (σ 98 26), .int (σ 98 27), .ref (ad 105), .ref (ad 106), .int (σ 98 30), .int (σ 98 31), .int (σ 98 32), .int (σ 98 33), .ref (ad 107), .int (σ 98 35), .ref (ad 108), .ref (ad 109), .ref (ad 110), .int (σ 98 39)] : List Value).set 12 (.int v)) : va_E) = wc ad cy 98 (upd (σ 98) 12 v) := rfl
theorem p_98_13 (ad : Nat → Nat) (cy : Nat → ClassId) (σ : S0) (v : Int32) : (.inr (11, ([.ref (ad 99), .ref (ad 100), .int (σ 98 2), .int (σ 98 3), .int (σ 98 4), .int (σ 98 5), .ref (ad 101), .ref (ad 102), .ref (ad 103), .int (σ 98 9), .int (σ 98 10), .int (σ 98 11), .int (σ 98 12), .int (σ 98 13), .int (σ 98 14), .int (σ 98 15), .ref (ad 104), .int (σ 98 17), .int (σ 98 18), .int (σ 98 19), .int (σ 98 20), .int (σ 98 21), .int (σ 98 22), .int (σ 98 23), .int (σ 98 24), .int (σ 98 25), .int (σ 98 26), .int (σ 98 27), .ref (ad 105), .ref (ad 106), .int (σ 98 30), .int (σ 98 31), .int (σ 98 32), .int (σ 98 33), .ref (ad 107), .int (σ 98 35), .ref (ad 108), .ref (ad 109), .ref (ad 110), .int (σ 98 39)] : List Value).set 13 (.int v)) : va_E) = wc ad cy 98 (upd (σ 98) 13 v) := rfl
theorem p_98_14 (ad : Nat → Nat) (cy : Nat → ClassId) (σ : S0) (v : Int32) : (.inr (11, ([.ref (ad 99), .ref (ad 100), .int (σ 98 2), .int (σ 98 3), .int (σ 98 4), .int (σ 98 5), .ref (ad 101), .ref (ad 102), .ref (ad 103), .int (σ 98 9), .int (σ 98 10), .int (σ 98 11), .int (σ 98 12), .int (σ 98 13), .int (σ 98 14), .int (σ 98 15), .ref (ad 104), .int (σ 98 17), .int (σ 98 18), .int (σ 98 19), .int (σ 98 20), .int (σ 98 21), .int (σ 98 22), .int (σ 98 23), .int (σ 98 24), .int (σ 98 25), .int (σ 98 26), .int (σ 98 27), .ref (ad 105), .ref (ad 106), .int (σ 98 30), .int (σ 98 31), .int (σ 98 32), .int (σ 98 33), .ref (ad 107), .int (σ 98 35), .ref (ad 108), .ref (ad 109), .ref (ad 110), .int (σ 98 39)] : List Value).set 14 (.int v)) : va_E) = wc ad cy 98 (upd (σ 98) 14 v) := rfl
theorem p_98_15 (ad : Nat → Nat) (cy : Nat → ClassId) (σ : S0) (v : Int32) : (.inr (11, ([.ref (ad 99), .ref (ad 100), .int (σ 98 2), .int (σ 98 3), .int (σ 98 4), .int (σ 98 5), .ref (ad 101), .ref (ad 102), .ref (ad 103), .int (σ 98 9), .int (σ 98 10), .int (σ 98 11), .int (σ 98 12), .int (σ 98 13), .int (σ 98 14), .int (σ 98 15), .ref (ad 104), .int (σ 98 17), .int (σ 98 18), .int (σ 98 19), .int (σ 98 20), .int (σ 98 21), .int (σ 98 22), .int (σ 98 23), .int (σ 98 24), .int (σ 98 25), .int (σ 98 26), .int (σ 98 27), .ref (ad 105), .ref (ad 106), .int (σ 98 30), .int (σ 98 31), .int (σ 98 32), .int (σ 98 33), .ref (ad 107), .int (σ 98 35), .ref (ad 108), .ref (ad 109), .ref (ad 110), .int (σ 98 39)] : List Value).set 15 (.int v)) : va_E) = wc ad cy 98 (upd (σ 98) 15 v) := rfl
theorem p_98_17 (ad : Nat → Nat) (cy : Nat → ClassId) (σ : S0) (v : Int32) : (.inr (11, ([.ref (ad 99), .ref (ad 100), .int (σ 98 2), .int (σ 98 3), .int (σ 98 4), .int (σ 98 5), .ref (ad 101), .ref (ad 102), .ref (ad 103), .int (σ 98 9), .int (σ 98 10), .int (σ 98 11), .int (σ 98 12), .int (σ 98 13), .int (σ 98 14), .int (σ 98 15), .ref (ad 104), .int (σ 98 17), .int (σ 98 18), .int (σ 98 19), .int (σ 98 20), .int (σ 98 21), .int (σ 98 22), .int (σ 98 23), .int (σ 98 24), .int (σ 98 25), .int (σ 98 26), .int (σ 98 27), .ref (ad 105), .ref (ad 106), .int (σ 98 30), .int (σ 98 31), .int (σ 98 32), .int (σ 98 33), .ref (ad 107), .int (σ 98 35), .ref (ad 108), .ref (ad 109), .ref (ad 110), .int (σ 98 39)] : List Value).set 17 (.int v)) : va_E) = wc ad cy 98 (upd (σ 98) 17 v) := rfl
theorem p_98_18 (ad : Nat → Nat) (cy : Nat → ClassId) (σ : S0) (v : Int32) : (.inr (11, ([.ref (ad 99), .ref (ad 100), .int (σ 98 2), .int (σ 98 3), .int (σ 98 4), .int (σ 98 5), .ref (ad 101), .ref (ad 102), .ref (ad 103), .int (σ 98 9), .int (σ 98 10), .int (σ 98 11), .int (σ 98 12), .int (σ 98 13), .int (σ 98 14), .int (σ 98 15), .ref (ad 104), .int (σ 98 17), .int (σ 98 18), .int (σ 98 19), .int (σ 98 20), .int (σ 98 21), .int (σ 98 22), .int (σ 98 23), .int (σ 98 24), .int (σ 98 25), .int (σ 98 26), .int (σ 98 27), .ref (ad 105), .ref (ad 106), .int (σ 98 30), .int (σ 98 31), .int (σ 98 32), .int (σ 98 33), .ref (ad 107), .int (σ 98 35), .ref (ad 108), .ref (ad 109), .ref (ad 110), .int (σ 98 39)] : List Value).set 18 (.int v)) : va_E) = wc ad cy 98 (upd (σ 98) 18 v) := rfl
theorem p_98_19 (ad : Nat → Nat) (cy : Nat → ClassId) (σ : S0) (v : Int32) : (.inr (11, ([.ref (ad 99), .ref (ad 100), .int (σ 98 2), .int (σ 98 3), .int (σ 98 4), .int (σ 98 5), .ref (ad 101), .ref (ad 102), .ref (ad 103), .int (σ 98 9), .int (σ 98 10), .int (σ 98 11), .int (σ 98 12), .int (σ 98 13), .int (σ 98 14), .int (σ 98 15), .ref (ad 104), .int (σ 98 17), .int (σ 98 18), .int (σ 98 19), .int (σ 98 20), .int (σ 98 21), .int (σ 98 22), .int (σ 98 23), .int (σ 98 24), .int (σ 98 25), .int (σ 98 26), .int (σ 98 27), .ref (ad 105), .ref (ad 106), .int (σ 98 30), .int (σ 98 31), .int (σ 98 32), .int (σ 98 33), .ref (ad 107), .int (σ 98 35), .ref (ad 108), .ref (ad 109), .ref (ad 110), .int (σ 98 39)] : List Value).set 19 (.int v)) : va_E) = wc ad cy 98 (upd (σ 98) 19 v) := rfl
theorem p_98_20 (ad : Nat → Nat) (cy : Nat → ClassId) (σ : S0) (v : Int32) : (.inr (11, ([.ref (ad 99), .ref (ad 100), .int (σ 98 2), .int (σ 98 3), .int (σ 98 4), .int (σ 98 5), .ref (ad 101), .ref (ad 102), .ref (ad 103), .int (σ 98 9), .int (σ 98 10), .int (σ 98 11), .int (σ 98 12), .int (σ 98 13), .int (σ 98 14), .int (σ 98 15), .ref (ad 104), .int (σ 98 17), .int (σ 98 18), .int (σ 98 19), .int (σ 98 20), .int (σ 98 21), .int (σ 98 22), .int (σ 98 23), .int (σ 98 24), .int (σ 98 25), .int (σ 98 26), .int (σ 98 27), .ref (ad 105), .ref (ad 106), .int (σ 98 30), .int (σ 98 31), .int (σ 98 32), .int (σ 98 33), .ref (ad 107), .int (σ 98 35), .ref (ad 108), .ref (ad 109), .ref (ad 110), .int (σ 98 39)] : List Value).set 20 (.int v)) : va_E) = wc ad cy 98 (upd (σ 98) 20 v) := rfl
theorem p_98_21 (ad : Nat → Nat) (cy : Nat → ClassId) (σ : S0) (v : Int32) : (.inr (11, ([.ref (ad 99), .ref (ad 100), .int (σ 98 2), .int (σ 98 3), .int (σ 98 4), .int (σ 98 5), .ref (ad 101), .ref (ad 102), .ref (ad 103), .int (σ 98 9), .int (σ 98 10), .int (σ 98 11), .int (σ 98 12), .int (σ 98 13), .int (σ 98 14), .int (σ 98 15), .ref (ad 104), .int (σ 98 17), .int (σ 98 18), .int (σ 98 19), .int (σ 98 20), .int (σ 98 21), .int (σ 98 22), .int (σ 98 23), .int (σ 98 24), .int (σ 98 25), .int (σ 98 26), .int (σ 98 27), .ref (ad 105), .ref (ad 106), .int (σ 98 30), .int (σ 98 31), .int (σ 98 32), .int (σ 98 33), .ref (ad 107), .int (σ 98 35), .ref (ad 108), .ref (ad 109), .ref (ad 110), .int (σ 98 39)] : List Value).set 21 (.int v)) : va_E) = wc ad cy 98 (upd (σ 98) 21 v) := rfl
theorem p_98_22 (ad : Nat → Nat) (cy : Nat → ClassId) (σ : S0) (v : Int32) : (.inr (11, ([.ref (ad 99), .ref (ad 100), .int (σ 98 2), .int (σ 98 3), .int (σ 98 4), .int (σ 98 5), .ref (ad 101), .ref (ad 102), .ref (ad 103), .int (σ 98 9), .int (σ 98 10), .int (σ 98 11), .int (σ 98 12), .int (σ 98 13), .int (σ 98 14), .int (σ 98 15), .ref (ad 104), .int (σ 98 17), .int (σ 98 18), .int (σ 98 19), .int (σ 98 20), .int (σ 98 21), .int (σ 98 22), .int (σ 98 23), .int (σ 98 24), .int (σ 98 25), .int (σ 98 26), .int (σ 98 27), .ref (ad 105), .ref (ad 106), .int (σ 98 30), .int (σ 98 31), .int (σ 98 32), .int (σ 98 33), .ref (ad 107), .int (σ 98 35), .ref (ad 108), .ref (ad 109), .ref (ad 110), .int (σ 98 39)] : List Value).set 22 (.int v)) : va_E) = wc ad cy 98 (upd (σ 98) 22 v) := rfl
theorem p_98_23 (ad : Nat → Nat) (cy : Nat → ClassId) (σ : S0) (v : Int32) : (.inr (11, ([.ref (ad 99), .ref (ad 100), .int (σ 98 2), .int (σ 98 3), .int (σ 98 4), .int (σ 98 5), .ref (ad 101), .ref (ad 102), .ref (ad 103), .int (σ 98 9), .int (σ 98 10), .int (σ 98 11), .int (σ 98 12), .int (σ 98 13), .int (σ 98 14), .int (σ 98 15), .ref (ad 104), .int (σ 98 17), .int (σ 98 18), .int (σ 98 19), .int (σ 98 20), .int (σ 98 21), .int (σ 98 22), .int (σ 98 23), .int (σ 98 24), .int (σ 98 25), .int (σ 98 26), .int (σ 98 27), .ref (ad 105), .ref (ad 106), .int (σ 98 30), .int (σ 98 31), .int (σ 98 32), .int (σ 98 33), .ref (ad 107), .int (σ 98 35), .ref (ad 108), .ref (ad 109), .ref (ad 110), .int (σ 98 39)] : List Value).set 23 (.int v)) : va_E) = wc ad cy 98 (upd (σ 98) 23 v) := rfl
theorem p_98_24 (ad : Nat → Nat) (cy : Nat → ClassId) (σ : S0) (v : Int32) : (.inr (11, ([.ref (ad 99), .ref (ad 100), .int (σ 98 2), .int (σ 98 3), .int (σ 98 4), .int (σ 98 5), .ref (ad 101), .ref (ad 102), .ref (ad 103), .int (σ 98 9), .int (σ 98 10), .int (σ 98 11), .int (σ 98 12), .int (σ 98 13), .int (σ 98 14), .int (σ 98 15), .ref (ad 104), .int (σ 98 17), .int (σ 98 18), .int (σ 98 19), .int (σ 98 20), .int (σ 98 21), .int (σ 98 22), .int (σ 98 23), .int (σ 98 24), .int (σ 98 25), .int (σ 98 26), .int (σ 98 27), .ref (ad 105), .ref (ad 106), .int (σ 98 30), .int (σ 98 31), .int (σ 98 32), .int (σ 98 33), .ref (ad 107), .int (σ 98 35), .ref (ad 108), .ref (ad 109), .ref (ad 110), .int (σ 98 39)] : List Value).set 24 (.int v)) : va_E) = wc ad cy 98 (upd (σ 98) 24 v) := rfl
theorem p_98_25 (ad : Nat → Nat) (cy : Nat → ClassId) (σ : S0) (v : Int32) : (.inr (11, ([.ref (ad 99), .ref (ad 100), .int (σ 98 2), .int (σ 98 3), .int (σ 98 4), .int (σ 98 5), .ref (ad 101), .ref (ad 102), .ref (ad 103), .int (σ 98 9), .int (σ 98 10), .int (σ 98 11), .int (σ 98 12), .int (σ 98 13), .int (σ 98 14), .int (σ 98 15), .ref (ad 104), .int (σ 98 17), .int (σ 98 18), .int (σ 98 19), .int (σ 98 20), .int (σ 98 21), .int (σ 98 22), .int (σ 98 23), .int (σ 98 24), .int (σ 98 25), .int (σ 98 26), .int (σ 98 27), .ref (ad 105), .ref (ad 106), .int (σ 98 30), .int (σ 98 31), .int (σ 98 32), .int (σ 98 33), .ref (ad 107), .int (σ 98 35), .ref (ad 108), .ref (ad 109), .ref (ad 110), .int (σ 98 39)] : List Value).set 25 (.int v)) : va_E) = wc ad cy 98 (upd (σ 98) 25 v) := rfl
theorem p_98_26 (ad : Nat → Nat) (cy : Nat → ClassId) (σ : S0) (v : Int32) : (.inr (11, ([.ref (ad 99), .ref (ad 100), .int (σ 98 2), .int (σ 98 3), .int (σ 98 4), .int (σ 98 5), .ref (ad 101), .ref (ad 102), .ref (ad 103), .int (σ 98 9), .int (σ 98 10), .int (σ 98 11), .int (σ 98 12), .int (σ 98 13), .int (σ 98 14), .int (σ 98 15), .ref (ad 104), .int (σ 98 17), .int (σ 98 18), .int (σ 98 19), .int (σ 98 20), .int (σ 98 21), .int (σ 98 22), .int (σ 98 23), .int (σ 98 24), .int (σ 98 25), .int (σ 98 26), .int (σ 98 27), .ref (ad 105), .ref (ad 106), .int (σ 98 30), .int (σ 98 31), .int (σ 98 32), .int (σ 98 33), .ref (ad 107), .int (σ 98 35), .ref (ad 108), .ref (ad 109), .ref (ad 110), .int (σ 98 39)] : List Value).set 26 (.int v)) : va_E) = wc ad cy 98 (upd (σ 98) 26 v) := rfl
theorem p_98_27 (ad : Nat → Nat) (cy : Nat → ClassId) (σ : S0) (v : Int32) : (.inr (11, ([.ref (ad 99), .ref (ad 100), .int (σ 98 2), .int (σ 98 3), .int (σ 98 4), .int (σ 98 5), .ref (ad 101), .ref (ad 102), .ref (ad 103), .int (σ 98 9), .int (σ 98 10), .int (σ 98 11), .int (σ 98 12), .int (σ 98 13), .int (σ 98 14), .int (σ 98 15), .ref (ad 104), .int (σ 98 17), .int (σ 98 18), .int (σ 98 19), .int (σ 98 20), .int (σ 98 21), .int (σ 98 22), .int (σ 98 23), .int (σ 98 24), .int (σ 98 25), .int (σ 98 26), .int (σ 98 27), .ref (ad 105), .ref (ad 106), .int (σ 98 30), .int (σ 98 31), .int (σ 98 32), .int (σ 98 33), .ref (ad 107), .int (σ 98 35), .ref (ad 108), .ref (ad 109), .ref (ad 110), .int (σ 98 39)] : List Value).set 27 (.int v)) : va_E) = wc ad cy 98 (upd (σ 98) 27 v) := rfl
theorem p_98_30 (ad : Nat → Nat) (cy : Nat → ClassId) (σ : S0) (v : Int32) : (.inr (11, ([.ref (ad 99), .ref (ad 100), .int (σ 98 2), .int (σ 98 3), .int (σ 98 4), .int (σ 98 5), .ref (ad 101), .ref (ad 102), .ref (ad 103), .int (σ 98 9), .int (σ 98 10), .int (σ 98 11), .int (σ 98 12), .int (σ 98 13), .int (σ 98 14), .int (σ 98 15), .ref (ad 104), .int (σ 98 17), .int (σ 98 18), .int (σ 98 19), .int (σ 98 20), .int (σ 98 21), .int (σ 98 22), .int (σ 98 23), .int (σ 98 24), .int (σ 98 25), .int (σ 98 26), .int (σ 98 27), .ref (ad 105), .ref (ad 106), .int (σ 98 30), .int (σ 98 31), .int (σ 98 32), .int (σ 98 33), .ref (ad 107), .int (σ 98 35), .ref (ad 108), .ref (ad 109), .ref (ad 110), .int (σ 98 39)] : List Value).set 30 (.int v)) : va_E) = wc ad cy 98 (upd (σ 98) 30 v) := rfl
theorem p_98_31 (ad : Nat → Nat) (cy : Nat → ClassId) (σ : S0) (v : Int32) : (.inr (11, ([.ref (ad 99), .ref (ad 100), .int (σ 98 2), .int (σ 98 3), .int (σ 98 4), .int (σ 98 5), .ref (ad 101), .ref (ad 102), .ref (ad 103), .int (σ 98 9), .int (σ 98 10), .int (σ 98 11), .int (σ 98 12), .int (σ 98 13), .int (σ 98 14), .int (σ 98 15), .ref (ad 104), .int (σ 98 17), .int (σ 98 18), .int (σ 98 19), .int (σ 98 20), .int (σ 98 21), .int (σ 98 22), .int (σ 98 23), .int (σ 98 24), .int (σ 98 25), .int (σ 98 26), .int (σ 98 27), .ref (ad 105), .ref (ad 106), .int (σ 98 30), .int (σ 98 31), .int (σ 98 32), .int (σ 98 33), .ref (ad 107), .int (σ 98 35), .ref (ad 108), .ref (ad 109), .ref (ad 110), .int (σ 98 39)] : List Value).set 31 (.int v)) : va_E) = wc ad cy 98 (upd (σ 98) 31 v) := rfl
theorem p_98_32 (ad : Nat → Nat) (cy : Nat → ClassId) (σ : S0) (v : Int32) : (.inr (11, ([.ref (ad 99), .ref (ad 100), .int (σ 98 2), .int (σ 98 3), .int (σ 98 4), .int (σ 98 5), .ref (ad 101), .ref (ad 102), .ref (ad 103), .int (σ 98 9), .int (σ 98 10), .int (σ 98 11), .int (σ 98 12), .int (σ 98 13), .int (σ 98 14), .int (σ 98 15), .ref (ad 104), .int (σ 98 17), .int (σ 98 18), .int (σ 98 19), .int (σ 98 20), .int (σ 98 21), .int (σ 98 22), .int (σ 98 23), .int (σ 98 24), .int (σ 98 25), .int (σ 98 26), .int (σ 98 27), .ref (ad 105), .ref (ad 106), .int (σ 98 30), .int (σ 98 31), .int (σ 98 32), .int (σ 98 33), .ref (ad 107), .int (σ 98 35), .ref (ad 108), .ref (ad 109), .ref (ad 110), .int (σ 98 39)] : List Value).set 32 (.int v)) : va_E) = wc ad cy 98 (upd (σ 98) 32 v) := rfl
theorem p_98_33 (ad : Nat → Nat) (cy : Nat → ClassId) (σ : S0) (v : Int32) : (.inr (11, ([.ref (ad 99), .ref (ad 100), .int (σ 98 2), .int (σ 98 3), .int (σ 98 4), .int (σ 98 5), .ref (ad 101), .ref (ad 102), .ref (ad 103), .int (σ 98 9), .int (σ 98 10), .int (σ 98 11), .int (σ 98 12), .int (σ 98 13), .int (σ 98 14), .int (σ 98 15), .ref (ad 104), .int (σ 98 17), .int (σ 98 18), .int (σ 98 19), .int (σ 98 20), .int (σ 98 21), .int (σ 98 22), .int (σ 98 23), .int (σ 98 24), .int (σ 98 25), .int (σ 98 26), .int (σ 98 27), .ref (ad 105), .ref (ad 106), .int (σ 98 30), .int (σ 98 31), .int (σ 98 32), .int (σ 98 33), .ref (ad 107), .int (σ 98 35), .ref (ad 108), .ref (ad 109), .ref (ad 110), .int (σ 98 39)] : List Value).set 33 (.int v)) : va_E) = wc ad cy 98 (upd (σ 98) 33 v) := rfl
theorem p_98_35 (ad : Nat → Nat) (cy : Nat → ClassId) (σ : S0) (v : Int32) : (.inr (11, ([.ref (ad 99), .ref (ad 100), .int (σ 98 2), .int (σ 98 3), .int (σ 98 4), .int (σ 98 5), .ref (ad 101), .ref (ad 102), .ref (ad 103), .int (σ 98 9), .int (σ 98 10), .int (σ 98 11), .int (σ 98 12), .int (σ 98 13), .int (σ 98 14), .int (σ 98 15), .ref (ad 104), .int (σ 98 17), .int (σ 98 18), .int (σ 98 19), .int (σ 98 20), .int (σ 98 21), .int (σ 98 22), .int (σ 98 23), .int (σ 98 24), .int (σ 98 25), .int (σ 98 26), .int (σ 98 27), .ref (ad 105), .ref (ad 106), .int (σ 98 30), .int (σ 98 31), .int (σ 98 32), .int (σ 98 33), .ref (ad 107), .int (σ 98 35), .ref (ad 108), .ref (ad 109), .ref (ad 110), .int (σ 98 39)] : List Value).set 35 (.int v)) : va_E) = wc ad cy 98 (upd (σ 98) 35 v) := rfl
theorem p_98_39 (ad : Nat → Nat) (cy : Nat → ClassId) (σ : S0) (v : Int32) : (.inr (11, ([.ref (ad 99), .ref (ad 100), .int (σ 98 2), .int (σ 98 3), .int (σ 98 4), .int (σ 98 5), .ref (ad 101), .ref (ad 102), .ref (ad 103), .int (σ 98 9), .int (σ 98 10), .int (σ 98 11), .int (σ 98 12), .int (σ 98 13), .int (σ 98 14), .int (σ 98 15), .ref (ad 104), .int (σ 98 17), .int (σ 98 18), .int (σ 98 19), .int (σ 98 20), .int (σ 98 21), .int (σ 98 22), .int (σ 98 23), .int (σ 98 24), .int (σ 98 25), .int (σ 98 26), .int (σ 98 27), .ref (ad 105), .ref (ad 106), .int (σ 98 30), .int (σ 98 31), .int (σ 98 32), .int (σ 98 33), .ref (ad 107), .int (σ 98 35), .ref (ad 108), .ref (ad 109), .ref (ad 110), .int (σ 98 39)] : List Value).set 39 (.int v)) : va_E) = wc ad cy 98 (upd (σ 98) 39 v) := rfl
theorem a_99 (ad : Nat → Nat) (cy : Nat → ClassId) (σ : S0) : (wW ad cy σ)[99]? = some (ad 99, .inl (cy 0, 240, .inl (σ 99))) := wW_at ad cy σ 99 (by decide)
theorem w_99 (ad : Nat → Nat) (cy : Nat → ClassId) (f : Nat → Int32) : (.inl (cy 0, 240, .inl f) : va_E) = wc ad cy 99 f := rfl
theorem a_100 (ad : Nat → Nat) (cy : Nat → ClassId) (σ : S0) : (wW ad cy σ)[100]? = some (ad 100, .inl (cy 2, 2, .inl (σ 100))) := wW_at ad cy σ 100 (by decide)
theorem w_100 (ad : Nat → Nat) (cy : Nat → ClassId) (f : Nat → Int32) : (.inl (cy 2, 2, .inl f) : va_E) = wc ad cy 100 f := rfl
theorem a_101 (ad : Nat → Nat) (cy : Nat → ClassId) (σ : S0) : (wW ad cy σ)[101]? = some (ad 101, .inl (cy 0, 84, .inl (σ 101))) := wW_at ad cy σ 101 (by decide)
theorem w_101 (ad : Nat → Nat) (cy : Nat → ClassId) (f : Nat → Int32) : (.inl (cy 0, 84, .inl f) : va_E) = wc ad cy 101 f := rfl
theorem a_102 (ad : Nat → Nat) (cy : Nat → ClassId) (σ : S0) : (wW ad cy σ)[102]? = some (ad 102, .inl (cy 0, 80, .inl (σ 102))) := wW_at ad cy σ 102 (by decide)
theorem w_102 (ad : Nat → Nat) (cy : Nat → ClassId) (f : Nat → Int32) : (.inl (cy 0, 80, .inl f) : va_E) = wc ad cy 102 f := rfl
theorem a_103 (ad : Nat → Nat) (cy : Nat → ClassId) (σ : S0) : (wW ad cy σ)[103]? = some (ad 103, .inl (cy 0, 84, .inl (σ 103))) := wW_at ad cy σ 103 (by decide)
theorem w_103 (ad : Nat → Nat) (cy : Nat → ClassId) (f : Nat → Int32) : (.inl (cy 0, 84, .inl f) : va_E) = wc ad cy 103 f := rfl
theorem a_104 (ad : Nat → Nat) (cy : Nat → ClassId) (σ : S0) : (wW ad cy σ)[104]? = some (ad 104, .inl (cy 0, 320, .inl (σ 104))) := wW_at ad cy σ 104 (by decide)
theorem w_104 (ad : Nat → Nat) (cy : Nat → ClassId) (f : Nat → Int32) : (.inl (cy 0, 320, .inl f) : va_E) = wc ad cy 104 f := rfl
theorem a_105 (ad : Nat → Nat) (cy : Nat → ClassId) (σ : S0) : (wW ad cy σ)[105]? = some (ad 105, .inl (cy 0, 6, .inl (σ 105))) := wW_at ad cy σ 105 (by decide)
theorem w_105 (ad : Nat → Nat) (cy : Nat → ClassId) (f : Nat → Int32) : (.inl (cy 0, 6, .inl f) : va_E) = wc ad cy 105 f := rfl
theorem a_106 (ad : Nat → Nat) (cy : Nat → ClassId) (σ : S0) : (wW ad cy σ)[106]? = some (ad 106, .inl (cy 0, 12, .inl (σ 106))) := wW_at ad cy σ 106 (by decide)
theorem w_106 (ad : Nat → Nat) (cy : Nat → ClassId) (f : Nat → Int32) : (.inl (cy 0, 12, .inl f) : va_E) = wc ad cy 106 f := rfl
theorem a_107 (ad : Nat → Nat) (cy : Nat → ClassId) (σ : S0) : (wW ad cy σ)[107]? = some (ad 107, .inl (cy 0, 156, .inl (σ 107))) := wW_at ad cy σ 107 (by decide)
theorem w_107 (ad : Nat → Nat) (cy : Nat → ClassId) (f : Nat → Int32) : (.inl (cy 0, 156, .inl f) : va_E) = wc ad cy 107 f := rfl
theorem a_108 (ad : Nat → Nat) (cy : Nat → ClassId) (σ : S0) : (wW ad cy σ)[108]? = some (ad 108, .inl (cy 0, 4, .inl (σ 108))) := wW_at ad cy σ 108 (by decide)
theorem w_108 (ad : Nat → Nat) (cy : Nat → ClassId) (f : Nat → Int32) : (.inl (cy 0, 4, .inl f) : va_E) = wc ad cy 108 f := rfl
theorem a_109 (ad : Nat → Nat) (cy : Nat → ClassId) (σ : S0) : (wW ad cy σ)[109]? = some (ad 109, .inl (cy 0, 4, .inl (σ 109))) := wW_at ad cy σ 109 (by decide)
theorem w_109 (ad : Nat → Nat) (cy : Nat → ClassId) (f : Nat → Int32) : (.inl (cy 0, 4, .inl f) : va_E) = wc ad cy 109 f := rfl
theorem a_110 (ad : Nat → Nat) (cy : Nat → ClassId) (σ : S0) : (wW ad cy σ)[110]? = some (ad 110, .inl (cy 0, 160, .inl (σ 110))) := wW_at ad cy σ 110 (by decide)
theorem w_110 (ad : Nat → Nat) (cy : Nat → ClassId) (f : Nat → Int32) : (.inl (cy 0, 160, .inl f) : va_E) = wc ad cy 110 f := rfl
section GW
variable {p : Program} {l : Launch} {e : Env} {R : Room} {s : State} {m : MethodId} {args : Array Value} {below : List Frame} {meth : Method} {c : Code} {Q : State → Prop} {dC : Nat → ClassId} {dI : Nat → Nat → Nat} {ad : Nat → Nat} {cy : Nat → ClassId} {nL sz nc ns : Nat} {own : String} {cc : ByteArray} {ret : Option FieldType} {pc : Nat} {lv : List (Nat × Value)} {rest : List Value} {σ : S0}
theorem g_iconst (C : Cx p s m args meth c own cc nL ret dC dI ad cy sz) {n : Int} {v : Int32} (hdg : decode cc pc = .ok (.iconst n, 1)) (hv : Int32.ofInt n = v) (k : Gw p l e R s m args below meth c Q dC dI ad cy nL sz nc ns (pc + 1) lv (.int v :: rest) σ) : Gw p l e R s m args below meth c Q dC dI ad cy nL sz nc ns pc lv rest σ := fun ls H locs hl hP hS => lv_iconst C.1 C.2.1 hdg hv (k ls H locs hl hP hS)
theorem g_bipush (C : Cx p s m args meth c own cc nL ret dC dI ad cy sz) {n : Int} {v : Int32} (hdg : decode cc pc = .ok (.bipush n, 2)) (hv : (Int8.ofInt n).toInt32 = v) (k : Gw p l e R s m args below meth c Q dC dI ad cy nL sz nc ns (pc + 2) lv (.int v :: rest) σ) : Gw p l e R s m args below meth c Q dC dI ad cy nL sz nc ns pc lv rest σ := fun ls H locs hl hP hS => lv_bipush C.1 C.2.1 hdg hv (k ls H locs hl hP hS)
theorem g_sipush (C : Cx p s m args meth c own cc nL ret dC dI ad cy sz) {n : Int} {v : Int32} (hdg : decode cc pc = .ok (.sipush n, 3)) (hv : (Int16.ofInt n).toInt32 = v) (k : Gw p l e R s m args below meth c Q dC dI ad cy nL sz nc ns (pc + 3) lv (.int v :: rest) σ) : Gw p l e R s m args below meth c Q dC dI ad cy nL sz nc ns pc lv rest σ := fun ls H locs hl hP hS => lv_sipush C.1 C.2.1 hdg hv (k ls H locs hl hP hS)
theorem g_lconst (C : Cx p s m args meth c own cc nL ret dC dI ad cy sz) {n : Fin 2} {v : Int64} (hdg : decode cc pc = .ok (.lconst n, 1)) (hv : Int64.ofNat (n : Nat) = v) (k : Gw p l e R s m args below meth c Q dC dI ad cy nL sz nc ns (pc + 1) lv (.long v :: rest) σ) : Gw p l e R s m args below meth c Q dC dI ad cy nL sz nc ns pc lv rest σ := fun ls H locs hl hP hS => lv_lconst C.1 C.2.1 hdg hv (k ls H locs hl hP hS)
theorem g_ldc (C : Cx p s m args meth c own cc nL ret dC dI ad cy sz) {index : Nat} {v : Int32} (hdg : decode cc pc = .ok (.ldc index, 2)) (hc : Jvm.Cond.constant own index v ∈ lw_w) (k : Gw p l e R s m args below meth c Q dC dI ad cy nL sz nc ns (pc + 2) lv (.int v :: rest) σ) : Gw p l e R s m args below meth c Q dC dI ad cy nL sz nc ns pc lv rest σ := fun ls H locs hl hP hS => lv_ldc C.1 C.2.1 C.2.2.2.1 (C.2.2.2.2.1 _ hc) hdg (k ls H locs hl hP hS)
theorem g_ldcw (C : Cx p s m args meth c own cc nL ret dC dI ad cy sz) {index : Nat} {v : Int32} (hdg : decode cc pc = .ok (.ldc_w index, 3)) (hc : Jvm.Cond.constant own index v ∈ lw_w) (k : Gw p l e R s m args below meth c Q dC dI ad cy nL sz nc ns (pc + 3) lv (.int v :: rest) σ) : Gw p l e R s m args below meth c Q dC dI ad cy nL sz nc ns pc lv rest σ := fun ls H locs hl hP hS => lv_ldcw C.1 C.2.1 C.2.2.2.1 (C.2.2.2.2.1 _ hc) hdg (k ls H locs hl hP hS)
theorem g_ldc2 (C : Cx p s m args meth c own cc nL ret dC dI ad cy sz) {index : Nat} {v : Int64} (hdg : decode cc pc = .ok (.ldc2_w index, 3)) (hc : Jvm.Cond.constantLong own index v ∈ lw_w) (k : Gw p l e R s m args below meth c Q dC dI ad cy nL sz nc ns (pc + 3) lv (.long v :: rest) σ) : Gw p l e R s m args below meth c Q dC dI ad cy nL sz nc ns pc lv rest σ := fun ls H locs hl hP hS => lv_ldc2 C.1 C.2.1 C.2.2.2.1 (C.2.2.2.2.1 _ hc) hdg (k ls H locs hl hP hS)
theorem g_iload_n (C : Cx p s m args meth c own cc nL ret dC dI ad cy sz) {q : Fin 4} {i : Nat} {x : Int32} (hdg : decode cc pc = .ok (.iload_n q, 1)) (hi : (q : Nat) = i) (j : Nat) (hj : lv[j]? = some (i, .int x)) (k : Gw p l e R s m args below meth c Q dC dI ad cy nL sz nc ns (pc + 1) lv (.int x :: rest) σ) : Gw p l e R s m args below meth c Q dC dI ad cy nL sz nc ns pc lv rest σ := fun ls H locs hl hP hS => lv_iload_n C.1 C.2.1 hdg hi (lv_at hl j hj) (k ls H locs hl hP hS)
theorem g_iload (C : Cx p s m args meth c own cc nL ret dC dI ad cy sz) {i : Nat} {x : Int32} (hdg : decode cc pc = .ok (.iload i, 2)) (j : Nat) (hj : lv[j]? = some (i, .int x)) (k : Gw p l e R s m args below meth c Q dC dI ad cy nL sz nc ns (pc + 2) lv (.int x :: rest) σ) : Gw p l e R s m args below meth c Q dC dI ad cy nL sz nc ns pc lv rest σ := fun ls H locs hl hP hS => lv_iload C.1 C.2.1 hdg (lv_at hl j hj) (k ls H locs hl hP hS)
theorem g_lload_n (C : Cx p s m args meth c own cc nL ret dC dI ad cy sz) {q : Fin 4} {i : Nat} {x : Int64} (hdg : decode cc pc = .ok (.lload_n q, 1)) (hi : (q : Nat) = i) (j : Nat) (hj : lv[j]? = some (i, .long x)) (k : Gw p l e R s m args below meth c Q dC dI ad cy nL sz nc ns (pc + 1) lv (.long x :: rest) σ) : Gw p l e R s m args below meth c Q dC dI ad cy nL sz nc ns pc lv rest σ := fun ls H locs hl hP hS => lv_lload_n C.1 C.2.1 hdg hi (lv_at hl j hj) (k ls H locs hl hP hS)
theorem g_lload (C : Cx p s m args meth c own cc nL ret dC dI ad cy sz) {i : Nat} {x : Int64} (hdg : decode cc pc = .ok (.lload i, 2)) (j : Nat) (hj : lv[j]? = some (i, .long x)) (k : Gw p l e R s m args below meth c Q dC dI ad cy nL sz nc ns (pc + 2) lv (.long x :: rest) σ) : Gw p l e R s m args below meth c Q dC dI ad cy nL sz nc ns pc lv rest σ := fun ls H locs hl hP hS => lv_lload C.1 C.2.1 hdg (lv_at hl j hj) (k ls H locs hl hP hS)
theorem g_aload_n (C : Cx p s m args meth c own cc nL ret dC dI ad cy sz) {q : Fin 4} {i : Nat} {x : Nat} (hdg : decode cc pc = .ok (.aload_n q, 1)) (hi : (q : Nat) = i) (j : Nat) (hj : lv[j]? = some (i, .ref x)) (k : Gw p l e R s m args below meth c Q dC dI ad cy nL sz nc ns (pc + 1) lv (.ref x :: rest) σ) : Gw p l e R s m args below meth c Q dC dI ad cy nL sz nc ns pc lv rest σ := fun ls H locs hl hP hS => lv_aload_n C.1 C.2.1 hdg hi (lv_at hl j hj) (k ls H locs hl hP hS)
theorem g_aload (C : Cx p s m args meth c own cc nL ret dC dI ad cy sz) {i : Nat} {x : Nat} (hdg : decode cc pc = .ok (.aload i, 2)) (j : Nat) (hj : lv[j]? = some (i, .ref x)) (k : Gw p l e R s m args below meth c Q dC dI ad cy nL sz nc ns (pc + 2) lv (.ref x :: rest) σ) : Gw p l e R s m args below meth c Q dC dI ad cy nL sz nc ns pc lv rest σ := fun ls H locs hl hP hS => lv_aload C.1 C.2.1 hdg (lv_at hl j hj) (k ls H locs hl hP hS)
theorem g_istore_n (C : Cx p s m args meth c own cc nL ret dC dI ad cy sz) {q : Fin 4} {i : Nat} {x : Int32} {lv2 : List (Nat × Value)} (hdg : decode cc pc = .ok (.istore_n q, 1)) (hi : (q : Nat) = i) (hn : i < nL) (ps : List Nat) (hp : lv_pick ((i, Value.int x) :: lv.filter (fun q => !(q.1 == i) && !(q.1 + 1 == i && q.2.category == 2))) ps = lv2) (k : Gw p l e R s m args below meth c Q dC dI ad cy nL sz nc ns (pc + 1) lv2 rest σ) : Gw p l e R s m args below meth c Q dC dI ad cy nL sz nc ns pc lv (.int x :: rest) σ := fun ls H locs hl hP hS => lv_istore_n C.1 C.2.1 hdg hi hl hn rfl (fun ls hl => k ls H locs (lv_sub hl ps hp) hP hS)
theorem g_istore (C : Cx p s m args meth c own cc nL ret dC dI ad cy sz) {i : Nat} {x : Int32} {lv2 : List (Nat × Value)} (hdg : decode cc pc = .ok (.istore i, 2)) (hn : i < nL) (ps : List Nat) (hp : lv_pick ((i, Value.int x) :: lv.filter (fun q => !(q.1 == i) && !(q.1 + 1 == i && q.2.category == 2))) ps = lv2) (k : Gw p l e R s m args below meth c Q dC dI ad cy nL sz nc ns (pc + 2) lv2 rest σ) : Gw p l e R s m args below meth c Q dC dI ad cy nL sz nc ns pc lv (.int x :: rest) σ := fun ls H locs hl hP hS => lv_istore C.1 C.2.1 hdg hl hn rfl (fun ls hl => k ls H locs (lv_sub hl ps hp) hP hS)
theorem g_astore_n (C : Cx p s m args meth c own cc nL ret dC dI ad cy sz) {q : Fin 4} {i : Nat} {x : Nat} {lv2 : List (Nat × Value)} (hdg : decode cc pc = .ok (.astore_n q, 1)) (hi : (q : Nat) = i) (hn : i < nL) (ps : List Nat) (hp : lv_pick ((i, Value.ref x) :: lv.filter (fun q => !(q.1 == i) && !(q.1 + 1 == i && q.2.category == 2))) ps = lv2) (k : Gw p l e R s m args below meth c Q dC dI ad cy nL sz nc ns (pc + 1) lv2 rest σ) : Gw p l e R s m args below meth c Q dC dI ad cy nL sz nc ns pc lv (.ref x :: rest) σ := fun ls H locs hl hP hS => lv_astore_n C.1 C.2.1 hdg hi hl hn rfl (fun ls hl => k ls H locs (lv_sub hl ps hp) hP hS)
theorem g_astore (C : Cx p s m args meth c own cc nL ret dC dI ad cy sz) {i : Nat} {x : Nat} {lv2 : List (Nat × Value)} (hdg : decode cc pc = .ok (.astore i, 2)) (hn : i < nL) (ps : List Nat) (hp : lv_pick ((i, Value.ref x) :: lv.filter (fun q => !(q.1 == i) && !(q.1 + 1 == i && q.2.category == 2))) ps = lv2) (k : Gw p l e R s m args below meth c Q dC dI ad cy nL sz nc ns (pc + 2) lv2 rest σ) : Gw p l e R s m args below meth c Q dC dI ad cy nL sz nc ns pc lv (.ref x :: rest) σ := fun ls H locs hl hP hS => lv_astore C.1 C.2.1 hdg hl hn rfl (fun ls hl => k ls H locs (lv_sub hl ps hp) hP hS)
theorem g_lstore (C : Cx p s m args meth c own cc nL ret dC dI ad cy sz) {i : Nat} {x : Int64} {lv2 : List (Nat × Value)} (hdg : decode cc pc = .ok (.lstore i, 2)) (hn : i + 1 < nL) (ps : List Nat) (hp : lv_pick ((i, Value.long x) :: lv.filter (fun q => !(q.1 == i) && (!(q.1 == i + 1) && !(q.1 + 1 == i && q.2.category == 2)))) ps = lv2) (k : Gw p l e R s m args below meth c Q dC dI ad cy nL sz nc ns (pc + 2) lv2 rest σ) : Gw p l e R s m args below meth c Q dC dI ad cy nL sz nc ns pc lv (.long x :: rest) σ := fun ls H locs hl hP hS => lv_lstore C.1 C.2.1 hdg hl hn rfl (fun ls hl => k ls H locs (lv_sub hl ps hp) hP hS)
theorem g_iinc (C : Cx p s m args meth c own cc nL ret dC dI ad cy sz) {i j : Nat} {n : Int} {x v w : Int32} {lv2 : List (Nat × Value)} (hdg : decode cc pc = .ok (.iinc i n, 3)) (hj : lv[j]? = some (i, .int x)) (hw : Int32.ofInt n = w) (hv : v = x + w) (hn : i < nL) (ps : List Nat) (hp : lv_pick ((i, Value.int v) :: lv.filter (fun q => !(q.1 == i) && !(q.1 + 1 == i && q.2.category == 2))) ps = lv2) (k : Gw p l e R s m args below meth c Q dC dI ad cy nL sz nc ns (pc + 3) lv2 rest σ) : Gw p l e R s m args below meth c Q dC dI ad cy nL sz nc ns pc lv rest σ := fun ls H locs hl hP hS => lv_iinc C.1 C.2.1 hdg hl hj (by rw [hw, hv]) hn rfl (fun ls hl => k ls H locs (lv_sub hl ps hp) hP hS)
theorem g_iadd (C : Cx p s m args meth c own cc nL ret dC dI ad cy sz) {x y : Int32} (hdg : decode cc pc = .ok (.iadd, 1)) (k : Gw p l e R s m args below meth c Q dC dI ad cy nL sz nc ns (pc + 1) lv (.int (x + y) :: rest) σ) : Gw p l e R s m args below meth c Q dC dI ad cy nL sz nc ns pc lv (.int y :: .int x :: rest) σ := fun ls H locs hl hP hS => lv_iadd C.1 C.2.1 hdg (k ls H locs hl hP hS)
theorem g_isub (C : Cx p s m args meth c own cc nL ret dC dI ad cy sz) {x y : Int32} (hdg : decode cc pc = .ok (.isub, 1)) (k : Gw p l e R s m args below meth c Q dC dI ad cy nL sz nc ns (pc + 1) lv (.int (x - y) :: rest) σ) : Gw p l e R s m args below meth c Q dC dI ad cy nL sz nc ns pc lv (.int y :: .int x :: rest) σ := fun ls H locs hl hP hS => lv_isub C.1 C.2.1 hdg (k ls H locs hl hP hS)
theorem g_imul (C : Cx p s m args meth c own cc nL ret dC dI ad cy sz) {x y : Int32} (hdg : decode cc pc = .ok (.imul, 1)) (k : Gw p l e R s m args below meth c Q dC dI ad cy nL sz nc ns (pc + 1) lv (.int (x * y) :: rest) σ) : Gw p l e R s m args below meth c Q dC dI ad cy nL sz nc ns pc lv (.int y :: .int x :: rest) σ := fun ls H locs hl hP hS => lv_imul C.1 C.2.1 hdg (k ls H locs hl hP hS)
theorem g_iand (C : Cx p s m args meth c own cc nL ret dC dI ad cy sz) {x y : Int32} (hdg : decode cc pc = .ok (.iand, 1)) (k : Gw p l e R s m args below meth c Q dC dI ad cy nL sz nc ns (pc + 1) lv (.int (x &&& y) :: rest) σ) : Gw p l e R s m args below meth c Q dC dI ad cy nL sz nc ns pc lv (.int y :: .int x :: rest) σ := fun ls H locs hl hP hS => lv_iand C.1 C.2.1 hdg (k ls H locs hl hP hS)
theorem g_ior (C : Cx p s m args meth c own cc nL ret dC dI ad cy sz) {x y : Int32} (hdg : decode cc pc = .ok (.ior, 1)) (k : Gw p l e R s m args below meth c Q dC dI ad cy nL sz nc ns (pc + 1) lv (.int (x ||| y) :: rest) σ) : Gw p l e R s m args below meth c Q dC dI ad cy nL sz nc ns pc lv (.int y :: .int x :: rest) σ := fun ls H locs hl hP hS => lv_ior C.1 C.2.1 hdg (k ls H locs hl hP hS)
theorem g_ixor (C : Cx p s m args meth c own cc nL ret dC dI ad cy sz) {x y : Int32} (hdg : decode cc pc = .ok (.ixor, 1)) (k : Gw p l e R s m args below meth c Q dC dI ad cy nL sz nc ns (pc + 1) lv (.int (x ^^^ y) :: rest) σ) : Gw p l e R s m args below meth c Q dC dI ad cy nL sz nc ns pc lv (.int y :: .int x :: rest) σ := fun ls H locs hl hP hS => lv_ixor C.1 C.2.1 hdg (k ls H locs hl hP hS)
theorem g_ishl (C : Cx p s m args meth c own cc nL ret dC dI ad cy sz) {x y : Int32} (hdg : decode cc pc = .ok (.ishl, 1)) (k : Gw p l e R s m args below meth c Q dC dI ad cy nL sz nc ns (pc + 1) lv (.int (x <<< (y &&& 31)) :: rest) σ) : Gw p l e R s m args below meth c Q dC dI ad cy nL sz nc ns pc lv (.int y :: .int x :: rest) σ := fun ls H locs hl hP hS => lv_ishl C.1 C.2.1 hdg (k ls H locs hl hP hS)
theorem g_ishr (C : Cx p s m args meth c own cc nL ret dC dI ad cy sz) {x y : Int32} (hdg : decode cc pc = .ok (.ishr, 1)) (k : Gw p l e R s m args below meth c Q dC dI ad cy nL sz nc ns (pc + 1) lv (.int (x >>> (y &&& 31)) :: rest) σ) : Gw p l e R s m args below meth c Q dC dI ad cy nL sz nc ns pc lv (.int y :: .int x :: rest) σ := fun ls H locs hl hP hS => lv_ishr C.1 C.2.1 hdg (k ls H locs hl hP hS)
theorem g_idiv (C : Cx p s m args meth c own cc nL ret dC dI ad cy sz) {x y : Int32} (hdg : decode cc pc = .ok (.idiv, 1)) (hne : ¬ y = 0) (k : Gw p l e R s m args below meth c Q dC dI ad cy nL sz nc ns (pc + 1) lv (.int (x / y) :: rest) σ) : Gw p l e R s m args below meth c Q dC dI ad cy nL sz nc ns pc lv (.int y :: .int x :: rest) σ := fun ls H locs hl hP hS => lv_idiv C.1 C.2.1 hdg hne (k ls H locs hl hP hS)
theorem g_irem (C : Cx p s m args meth c own cc nL ret dC dI ad cy sz) {x y : Int32} (hdg : decode cc pc = .ok (.irem, 1)) (hne : ¬ y = 0) (k : Gw p l e R s m args below meth c Q dC dI ad cy nL sz nc ns (pc + 1) lv (.int (x - x / y * y) :: rest) σ) : Gw p l e R s m args below meth c Q dC dI ad cy nL sz nc ns pc lv (.int y :: .int x :: rest) σ := fun ls H locs hl hP hS => lv_irem C.1 C.2.1 hdg hne (k ls H locs hl hP hS)
theorem g_iushr (C : Cx p s m args meth c own cc nL ret dC dI ad cy sz) {x y : Int32} (hdg : decode cc pc = .ok (.iushr, 1)) (k : Gw p l e R s m args below meth c Q dC dI ad cy nL sz nc ns (pc + 1) lv (.int (x.toUInt32 >>> (y.toUInt32 &&& Int32.toUInt32 31)).toInt32 :: rest) σ) : Gw p l e R s m args below meth c Q dC dI ad cy nL sz nc ns pc lv (.int y :: .int x :: rest) σ := fun ls H locs hl hP hS => lv_iushr C.1 C.2.1 hdg rfl (k ls H locs hl hP hS)
theorem g_ineg (C : Cx p s m args meth c own cc nL ret dC dI ad cy sz) {x : Int32} (hdg : decode cc pc = .ok (.ineg, 1)) (k : Gw p l e R s m args below meth c Q dC dI ad cy nL sz nc ns (pc + 1) lv (.int (-x) :: rest) σ) : Gw p l e R s m args below meth c Q dC dI ad cy nL sz nc ns pc lv (.int x :: rest) σ := fun ls H locs hl hP hS => lv_ineg C.1 C.2.1 hdg (k ls H locs hl hP hS)
theorem g_i2b (C : Cx p s m args meth c own cc nL ret dC dI ad cy sz) {x : Int32} (hdg : decode cc pc = .ok (.i2b, 1)) (k : Gw p l e R s m args below meth c Q dC dI ad cy nL sz nc ns (pc + 1) lv (.int x.toInt8.toInt32 :: rest) σ) : Gw p l e R s m args below meth c Q dC dI ad cy nL sz nc ns pc lv (.int x :: rest) σ := fun ls H locs hl hP hS => lv_i2b C.1 C.2.1 hdg rfl (k ls H locs hl hP hS)
theorem g_i2s (C : Cx p s m args meth c own cc nL ret dC dI ad cy sz) {x : Int32} (hdg : decode cc pc = .ok (.i2s, 1)) (k : Gw p l e R s m args below meth c Q dC dI ad cy nL sz nc ns (pc + 1) lv (.int x.toInt16.toInt32 :: rest) σ) : Gw p l e R s m args below meth c Q dC dI ad cy nL sz nc ns pc lv (.int x :: rest) σ := fun ls H locs hl hP hS => lv_i2s C.1 C.2.1 hdg rfl (k ls H locs hl hP hS)
theorem g_i2l (C : Cx p s m args meth c own cc nL ret dC dI ad cy sz) {x : Int32} (hdg : decode cc pc = .ok (.i2l, 1)) (k : Gw p l e R s m args below meth c Q dC dI ad cy nL sz nc ns (pc + 1) lv (.long x.toInt64 :: rest) σ) : Gw p l e R s m args below meth c Q dC dI ad cy nL sz nc ns pc lv (.int x :: rest) σ := fun ls H locs hl hP hS => lv_i2l C.1 C.2.1 hdg rfl (k ls H locs hl hP hS)
theorem g_l2i (C : Cx p s m args meth c own cc nL ret dC dI ad cy sz) {x : Int64} (hdg : decode cc pc = .ok (.l2i, 1)) (k : Gw p l e R s m args below meth c Q dC dI ad cy nL sz nc ns (pc + 1) lv (.int x.toInt32 :: rest) σ) : Gw p l e R s m args below meth c Q dC dI ad cy nL sz nc ns pc lv (.long x :: rest) σ := fun ls H locs hl hP hS => lv_l2i C.1 C.2.1 hdg rfl (k ls H locs hl hP hS)
theorem g_ladd (C : Cx p s m args meth c own cc nL ret dC dI ad cy sz) {x y : Int64} (hdg : decode cc pc = .ok (.ladd, 1)) (k : Gw p l e R s m args below meth c Q dC dI ad cy nL sz nc ns (pc + 1) lv (.long (x + y) :: rest) σ) : Gw p l e R s m args below meth c Q dC dI ad cy nL sz nc ns pc lv (.long y :: .long x :: rest) σ := fun ls H locs hl hP hS => lv_ladd C.1 C.2.1 hdg (k ls H locs hl hP hS)
theorem g_land (C : Cx p s m args meth c own cc nL ret dC dI ad cy sz) {x y : Int64} (hdg : decode cc pc = .ok (.land, 1)) (k : Gw p l e R s m args below meth c Q dC dI ad cy nL sz nc ns (pc + 1) lv (.long (x &&& y) :: rest) σ) : Gw p l e R s m args below meth c Q dC dI ad cy nL sz nc ns pc lv (.long y :: .long x :: rest) σ := fun ls H locs hl hP hS => lv_land C.1 C.2.1 hdg (k ls H locs hl hP hS)
theorem g_lor (C : Cx p s m args meth c own cc nL ret dC dI ad cy sz) {x y : Int64} (hdg : decode cc pc = .ok (.lor, 1)) (k : Gw p l e R s m args below meth c Q dC dI ad cy nL sz nc ns (pc + 1) lv (.long (x ||| y) :: rest) σ) : Gw p l e R s m args below meth c Q dC dI ad cy nL sz nc ns pc lv (.long y :: .long x :: rest) σ := fun ls H locs hl hP hS => lv_lor C.1 C.2.1 hdg (k ls H locs hl hP hS)
theorem g_lshl (C : Cx p s m args meth c own cc nL ret dC dI ad cy sz) {x : Int64} {y : Int32} (hdg : decode cc pc = .ok (.lshl, 1)) (k : Gw p l e R s m args below meth c Q dC dI ad cy nL sz nc ns (pc + 1) lv (.long (x <<< (y.toInt64 &&& 63)) :: rest) σ) : Gw p l e R s m args below meth c Q dC dI ad cy nL sz nc ns pc lv (.int y :: .long x :: rest) σ := fun ls H locs hl hP hS => lv_lshl C.1 C.2.1 hdg rfl (k ls H locs hl hP hS)
theorem g_lshr (C : Cx p s m args meth c own cc nL ret dC dI ad cy sz) {x : Int64} {y : Int32} (hdg : decode cc pc = .ok (.lshr, 1)) (k : Gw p l e R s m args below meth c Q dC dI ad cy nL sz nc ns (pc + 1) lv (.long (x >>> (y.toInt64 &&& 63)) :: rest) σ) : Gw p l e R s m args below meth c Q dC dI ad cy nL sz nc ns pc lv (.int y :: .long x :: rest) σ := fun ls H locs hl hP hS => lv_lshr C.1 C.2.1 hdg rfl (k ls H locs hl hP hS)
theorem g_lcmp (C : Cx p s m args meth c own cc nL ret dC dI ad cy sz) {x y : Int64} (hdg : decode cc pc = .ok (.lcmp, 1)) (k : Gw p l e R s m args below meth c Q dC dI ad cy nL sz nc ns (pc + 1) lv (.int (lg_cmp x y) :: rest) σ) : Gw p l e R s m args below meth c Q dC dI ad cy nL sz nc ns pc lv (.long y :: .long x :: rest) σ := fun ls H locs hl hP hS => W.lcmp C.1 C.2.1 hdg (k ls H locs hl hP hS)
theorem g_dup (C : Cx p s m args meth c own cc nL ret dC dI ad cy sz) {va : Value} (hdg : decode cc pc = .ok (.dup, 1)) (hva : va.category = 1) (k : Gw p l e R s m args below meth c Q dC dI ad cy nL sz nc ns (pc + 1) lv (va :: va :: rest) σ) : Gw p l e R s m args below meth c Q dC dI ad cy nL sz nc ns pc lv (va :: rest) σ := fun ls H locs hl hP hS => lv_dup C.1 C.2.1 hdg hva (k ls H locs hl hP hS)
theorem g_dup2 (C : Cx p s m args meth c own cc nL ret dC dI ad cy sz) {va vb : Value} (hdg : decode cc pc = .ok (.dup2, 1)) (hva : va.category = 1) (hvb : vb.category = 1) (k : Gw p l e R s m args below meth c Q dC dI ad cy nL sz nc ns (pc + 1) lv (va :: vb :: va :: vb :: rest) σ) : Gw p l e R s m args below meth c Q dC dI ad cy nL sz nc ns pc lv (va :: vb :: rest) σ := fun ls H locs hl hP hS => lv_dup2_11 C.1 C.2.1 hdg hva hvb (k ls H locs hl hP hS)
theorem g_dup_x1 (C : Cx p s m args meth c own cc nL ret dC dI ad cy sz) {va vb : Value} (hdg : decode cc pc = .ok (.dup_x1, 1)) (hva : va.category = 1) (hvb : vb.category = 1) (k : Gw p l e R s m args below meth c Q dC dI ad cy nL sz nc ns (pc + 1) lv (va :: vb :: va :: rest) σ) : Gw p l e R s m args below meth c Q dC dI ad cy nL sz nc ns pc lv (va :: vb :: rest) σ := fun ls H locs hl hP hS => lv_dup_x1 C.1 C.2.1 hdg hva hvb (k ls H locs hl hP hS)
theorem g_pop (C : Cx p s m args meth c own cc nL ret dC dI ad cy sz) {va : Value} (hdg : decode cc pc = .ok (.pop, 1)) (hva : va.category = 1) (k : Gw p l e R s m args below meth c Q dC dI ad cy nL sz nc ns (pc + 1) lv rest σ) : Gw p l e R s m args below meth c Q dC dI ad cy nL sz nc ns pc lv (va :: rest) σ := fun ls H locs hl hP hS => lv_pop C.1 C.2.1 hdg hva (k ls H locs hl hP hS)
theorem g_if_eq_t (C : Cx p s m args meth c own cc nL ret dC dI ad cy sz) {x : Int32} {off : Int} {tgt : Nat} (hdg : decode cc pc = .ok (.ifCond .eq off, 3)) (ht : (pc : Int) + off = (tgt : Int)) (h : x = 0) (k : Gw p l e R s m args below meth c Q dC dI ad cy nL sz nc ns tgt lv rest σ) : Gw p l e R s m args below meth c Q dC dI ad cy nL sz nc ns pc lv (.int x :: rest) σ := fun ls H locs hl hP hS => lv_if_eq C.1 C.2.1 hdg ht (fun _ => (k ls H locs hl hP hS)) (fun h2 => absurd h h2)
theorem g_if_eq_f (C : Cx p s m args meth c own cc nL ret dC dI ad cy sz) {x : Int32} {off : Int} {tgt : Nat} (hdg : decode cc pc = .ok (.ifCond .eq off, 3)) (ht : (pc : Int) + off = (tgt : Int)) (h : ¬ x = 0) (k : Gw p l e R s m args below meth c Q dC dI ad cy nL sz nc ns (pc + 3) lv rest σ) : Gw p l e R s m args below meth c Q dC dI ad cy nL sz nc ns pc lv (.int x :: rest) σ := fun ls H locs hl hP hS => lv_if_eq C.1 C.2.1 hdg ht (fun h2 => absurd h2 h) (fun _ => (k ls H locs hl hP hS))
theorem g_icmp_eq_t (C : Cx p s m args meth c own cc nL ret dC dI ad cy sz) {x y : Int32} {off : Int} {tgt : Nat} (hdg : decode cc pc = .ok (.if_icmp .eq off, 3)) (ht : (pc : Int) + off = (tgt : Int)) (h : x = y) (k : Gw p l e R s m args below meth c Q dC dI ad cy nL sz nc ns tgt lv rest σ) : Gw p l e R s m args below meth c Q dC dI ad cy nL sz nc ns pc lv (.int y :: .int x :: rest) σ := fun ls H locs hl hP hS => lv_icmp_eq C.1 C.2.1 hdg ht (fun _ => (k ls H locs hl hP hS)) (fun h2 => absurd h h2)
theorem g_icmp_eq_f (C : Cx p s m args meth c own cc nL ret dC dI ad cy sz) {x y : Int32} {off : Int} {tgt : Nat} (hdg : decode cc pc = .ok (.if_icmp .eq off, 3)) (ht : (pc : Int) + off = (tgt : Int)) (h : ¬ x = y) (k : Gw p l e R s m args below meth c Q dC dI ad cy nL sz nc ns (pc + 3) lv rest σ) : Gw p l e R s m args below meth c Q dC dI ad cy nL sz nc ns pc lv (.int y :: .int x :: rest) σ := fun ls H locs hl hP hS => lv_icmp_eq C.1 C.2.1 hdg ht (fun h2 => absurd h2 h) (fun _ => (k ls H locs hl hP hS))
theorem g_if_ne_t (C : Cx p s m args meth c own cc nL ret dC dI ad cy sz) {x : Int32} {off : Int} {tgt : Nat} (hdg : decode cc pc = .ok (.ifCond .ne off, 3)) (ht : (pc : Int) + off = (tgt : Int)) (h : ¬ x = 0) (k : Gw p l e R s m args below meth c Q dC dI ad cy nL sz nc ns tgt lv rest σ) : Gw p l e R s m args below meth c Q dC dI ad cy nL sz nc ns pc lv (.int x :: rest) σ := fun ls H locs hl hP hS => lv_if_ne C.1 C.2.1 hdg ht (fun _ => (k ls H locs hl hP hS)) (fun h2 => absurd h2 h)
theorem g_if_ne_f (C : Cx p s m args meth c own cc nL ret dC dI ad cy sz) {x : Int32} {off : Int} {tgt : Nat} (hdg : decode cc pc = .ok (.ifCond .ne off, 3)) (ht : (pc : Int) + off = (tgt : Int)) (h : x = 0) (k : Gw p l e R s m args below meth c Q dC dI ad cy nL sz nc ns (pc + 3) lv rest σ) : Gw p l e R s m args below meth c Q dC dI ad cy nL sz nc ns pc lv (.int x :: rest) σ := fun ls H locs hl hP hS => lv_if_ne C.1 C.2.1 hdg ht (fun h2 => absurd h h2) (fun _ => (k ls H locs hl hP hS))
theorem g_icmp_ne_t (C : Cx p s m args meth c own cc nL ret dC dI ad cy sz) {x y : Int32} {off : Int} {tgt : Nat} (hdg : decode cc pc = .ok (.if_icmp .ne off, 3)) (ht : (pc : Int) + off = (tgt : Int)) (h : ¬ x = y) (k : Gw p l e R s m args below meth c Q dC dI ad cy nL sz nc ns tgt lv rest σ) : Gw p l e R s m args below meth c Q dC dI ad cy nL sz nc ns pc lv (.int y :: .int x :: rest) σ := fun ls H locs hl hP hS => lv_icmp_ne C.1 C.2.1 hdg ht (fun _ => (k ls H locs hl hP hS)) (fun h2 => absurd h2 h)
theorem g_icmp_ne_f (C : Cx p s m args meth c own cc nL ret dC dI ad cy sz) {x y : Int32} {off : Int} {tgt : Nat} (hdg : decode cc pc = .ok (.if_icmp .ne off, 3)) (ht : (pc : Int) + off = (tgt : Int)) (h : x = y) (k : Gw p l e R s m args below meth c Q dC dI ad cy nL sz nc ns (pc + 3) lv rest σ) : Gw p l e R s m args below meth c Q dC dI ad cy nL sz nc ns pc lv (.int y :: .int x :: rest) σ := fun ls H locs hl hP hS => lv_icmp_ne C.1 C.2.1 hdg ht (fun h2 => absurd h h2) (fun _ => (k ls H locs hl hP hS))
theorem g_if_lt_t (C : Cx p s m args meth c own cc nL ret dC dI ad cy sz) {x : Int32} {off : Int} {tgt : Nat} (hdg : decode cc pc = .ok (.ifCond .lt off, 3)) (ht : (pc : Int) + off = (tgt : Int)) (h : x < 0) (k : Gw p l e R s m args below meth c Q dC dI ad cy nL sz nc ns tgt lv rest σ) : Gw p l e R s m args below meth c Q dC dI ad cy nL sz nc ns pc lv (.int x :: rest) σ := fun ls H locs hl hP hS => lv_if_lt C.1 C.2.1 hdg ht (fun _ => (k ls H locs hl hP hS)) (fun h2 => absurd h h2)
theorem g_if_lt_f (C : Cx p s m args meth c own cc nL ret dC dI ad cy sz) {x : Int32} {off : Int} {tgt : Nat} (hdg : decode cc pc = .ok (.ifCond .lt off, 3)) (ht : (pc : Int) + off = (tgt : Int)) (h : ¬ x < 0) (k : Gw p l e R s m args below meth c Q dC dI ad cy nL sz nc ns (pc + 3) lv rest σ) : Gw p l e R s m args below meth c Q dC dI ad cy nL sz nc ns pc lv (.int x :: rest) σ := fun ls H locs hl hP hS => lv_if_lt C.1 C.2.1 hdg ht (fun h2 => absurd h2 h) (fun _ => (k ls H locs hl hP hS))
theorem g_icmp_lt_t (C : Cx p s m args meth c own cc nL ret dC dI ad cy sz) {x y : Int32} {off : Int} {tgt : Nat} (hdg : decode cc pc = .ok (.if_icmp .lt off, 3)) (ht : (pc : Int) + off = (tgt : Int)) (h : x < y) (k : Gw p l e R s m args below meth c Q dC dI ad cy nL sz nc ns tgt lv rest σ) : Gw p l e R s m args below meth c Q dC dI ad cy nL sz nc ns pc lv (.int y :: .int x :: rest) σ := fun ls H locs hl hP hS => lv_icmp_lt C.1 C.2.1 hdg ht (fun _ => (k ls H locs hl hP hS)) (fun h2 => absurd h h2)
theorem g_icmp_lt_f (C : Cx p s m args meth c own cc nL ret dC dI ad cy sz) {x y : Int32} {off : Int} {tgt : Nat} (hdg : decode cc pc = .ok (.if_icmp .lt off, 3)) (ht : (pc : Int) + off = (tgt : Int)) (h : ¬ x < y) (k : Gw p l e R s m args below meth c Q dC dI ad cy nL sz nc ns (pc + 3) lv rest σ) : Gw p l e R s m args below meth c Q dC dI ad cy nL sz nc ns pc lv (.int y :: .int x :: rest) σ := fun ls H locs hl hP hS => lv_icmp_lt C.1 C.2.1 hdg ht (fun h2 => absurd h2 h) (fun _ => (k ls H locs hl hP hS))
theorem g_if_ge_t (C : Cx p s m args meth c own cc nL ret dC dI ad cy sz) {x : Int32} {off : Int} {tgt : Nat} (hdg : decode cc pc = .ok (.ifCond .ge off, 3)) (ht : (pc : Int) + off = (tgt : Int)) (h : 0 ≤ x) (k : Gw p l e R s m args below meth c Q dC dI ad cy nL sz nc ns tgt lv rest σ) : Gw p l e R s m args below meth c Q dC dI ad cy nL sz nc ns pc lv (.int x :: rest) σ := fun ls H locs hl hP hS => lv_if_ge C.1 C.2.1 hdg ht (fun _ => (k ls H locs hl hP hS)) (fun h2 => absurd h h2)
theorem g_if_ge_f (C : Cx p s m args meth c own cc nL ret dC dI ad cy sz) {x : Int32} {off : Int} {tgt : Nat} (hdg : decode cc pc = .ok (.ifCond .ge off, 3)) (ht : (pc : Int) + off = (tgt : Int)) (h : ¬ 0 ≤ x) (k : Gw p l e R s m args below meth c Q dC dI ad cy nL sz nc ns (pc + 3) lv rest σ) : Gw p l e R s m args below meth c Q dC dI ad cy nL sz nc ns pc lv (.int x :: rest) σ := fun ls H locs hl hP hS => lv_if_ge C.1 C.2.1 hdg ht (fun h2 => absurd h2 h) (fun _ => (k ls H locs hl hP hS))
theorem g_icmp_ge_t (C : Cx p s m args meth c own cc nL ret dC dI ad cy sz) {x y : Int32} {off : Int} {tgt : Nat} (hdg : decode cc pc = .ok (.if_icmp .ge off, 3)) (ht : (pc : Int) + off = (tgt : Int)) (h : y ≤ x) (k : Gw p l e R s m args below meth c Q dC dI ad cy nL sz nc ns tgt lv rest σ) : Gw p l e R s m args below meth c Q dC dI ad cy nL sz nc ns pc lv (.int y :: .int x :: rest) σ := fun ls H locs hl hP hS => lv_icmp_ge C.1 C.2.1 hdg ht (fun _ => (k ls H locs hl hP hS)) (fun h2 => absurd h h2)
theorem g_icmp_ge_f (C : Cx p s m args meth c own cc nL ret dC dI ad cy sz) {x y : Int32} {off : Int} {tgt : Nat} (hdg : decode cc pc = .ok (.if_icmp .ge off, 3)) (ht : (pc : Int) + off = (tgt : Int)) (h : ¬ y ≤ x) (k : Gw p l e R s m args below meth c Q dC dI ad cy nL sz nc ns (pc + 3) lv rest σ) : Gw p l e R s m args below meth c Q dC dI ad cy nL sz nc ns pc lv (.int y :: .int x :: rest) σ := fun ls H locs hl hP hS => lv_icmp_ge C.1 C.2.1 hdg ht (fun h2 => absurd h2 h) (fun _ => (k ls H locs hl hP hS))
theorem g_if_gt_t (C : Cx p s m args meth c own cc nL ret dC dI ad cy sz) {x : Int32} {off : Int} {tgt : Nat} (hdg : decode cc pc = .ok (.ifCond .gt off, 3)) (ht : (pc : Int) + off = (tgt : Int)) (h : 0 < x) (k : Gw p l e R s m args below meth c Q dC dI ad cy nL sz nc ns tgt lv rest σ) : Gw p l e R s m args below meth c Q dC dI ad cy nL sz nc ns pc lv (.int x :: rest) σ := fun ls H locs hl hP hS => lv_if_gt C.1 C.2.1 hdg ht (fun _ => (k ls H locs hl hP hS)) (fun h2 => absurd h h2)
theorem g_if_gt_f (C : Cx p s m args meth c own cc nL ret dC dI ad cy sz) {x : Int32} {off : Int} {tgt : Nat} (hdg : decode cc pc = .ok (.ifCond .gt off, 3)) (ht : (pc : Int) + off = (tgt : Int)) (h : ¬ 0 < x) (k : Gw p l e R s m args below meth c Q dC dI ad cy nL sz nc ns (pc + 3) lv rest σ) : Gw p l e R s m args below meth c Q dC dI ad cy nL sz nc ns pc lv (.int x :: rest) σ := fun ls H locs hl hP hS => lv_if_gt C.1 C.2.1 hdg ht (fun h2 => absurd h2 h) (fun _ => (k ls H locs hl hP hS))
theorem g_icmp_gt_t (C : Cx p s m args meth c own cc nL ret dC dI ad cy sz) {x y : Int32} {off : Int} {tgt : Nat} (hdg : decode cc pc = .ok (.if_icmp .gt off, 3)) (ht : (pc : Int) + off = (tgt : Int)) (h : y < x) (k : Gw p l e R s m args below meth c Q dC dI ad cy nL sz nc ns tgt lv rest σ) : Gw p l e R s m args below meth c Q dC dI ad cy nL sz nc ns pc lv (.int y :: .int x :: rest) σ := fun ls H locs hl hP hS => lv_icmp_gt C.1 C.2.1 hdg ht (fun _ => (k ls H locs hl hP hS)) (fun h2 => absurd h h2)
theorem g_icmp_gt_f (C : Cx p s m args meth c own cc nL ret dC dI ad cy sz) {x y : Int32} {off : Int} {tgt : Nat} (hdg : decode cc pc = .ok (.if_icmp .gt off, 3)) (ht : (pc : Int) + off = (tgt : Int)) (h : ¬ y < x) (k : Gw p l e R s m args below meth c Q dC dI ad cy nL sz nc ns (pc + 3) lv rest σ) : Gw p l e R s m args below meth c Q dC dI ad cy nL sz nc ns pc lv (.int y :: .int x :: rest) σ := fun ls H locs hl hP hS => lv_icmp_gt C.1 C.2.1 hdg ht (fun h2 => absurd h2 h) (fun _ => (k ls H locs hl hP hS))
theorem g_if_le_t (C : Cx p s m args meth c own cc nL ret dC dI ad cy sz) {x : Int32} {off : Int} {tgt : Nat} (hdg : decode cc pc = .ok (.ifCond .le off, 3)) (ht : (pc : Int) + off = (tgt : Int)) (h : x ≤ 0) (k : Gw p l e R s m args below meth c Q dC dI ad cy nL sz nc ns tgt lv rest σ) : Gw p l e R s m args below meth c Q dC dI ad cy nL sz nc ns pc lv (.int x :: rest) σ := fun ls H locs hl hP hS => lv_if_le C.1 C.2.1 hdg ht (fun _ => (k ls H locs hl hP hS)) (fun h2 => absurd h h2)
theorem g_if_le_f (C : Cx p s m args meth c own cc nL ret dC dI ad cy sz) {x : Int32} {off : Int} {tgt : Nat} (hdg : decode cc pc = .ok (.ifCond .le off, 3)) (ht : (pc : Int) + off = (tgt : Int)) (h : ¬ x ≤ 0) (k : Gw p l e R s m args below meth c Q dC dI ad cy nL sz nc ns (pc + 3) lv rest σ) : Gw p l e R s m args below meth c Q dC dI ad cy nL sz nc ns pc lv (.int x :: rest) σ := fun ls H locs hl hP hS => lv_if_le C.1 C.2.1 hdg ht (fun h2 => absurd h2 h) (fun _ => (k ls H locs hl hP hS))
theorem g_icmp_le_t (C : Cx p s m args meth c own cc nL ret dC dI ad cy sz) {x y : Int32} {off : Int} {tgt : Nat} (hdg : decode cc pc = .ok (.if_icmp .le off, 3)) (ht : (pc : Int) + off = (tgt : Int)) (h : x ≤ y) (k : Gw p l e R s m args below meth c Q dC dI ad cy nL sz nc ns tgt lv rest σ) : Gw p l e R s m args below meth c Q dC dI ad cy nL sz nc ns pc lv (.int y :: .int x :: rest) σ := fun ls H locs hl hP hS => lv_icmp_le C.1 C.2.1 hdg ht (fun _ => (k ls H locs hl hP hS)) (fun h2 => absurd h h2)
theorem g_icmp_le_f (C : Cx p s m args meth c own cc nL ret dC dI ad cy sz) {x y : Int32} {off : Int} {tgt : Nat} (hdg : decode cc pc = .ok (.if_icmp .le off, 3)) (ht : (pc : Int) + off = (tgt : Int)) (h : ¬ x ≤ y) (k : Gw p l e R s m args below meth c Q dC dI ad cy nL sz nc ns (pc + 3) lv rest σ) : Gw p l e R s m args below meth c Q dC dI ad cy nL sz nc ns pc lv (.int y :: .int x :: rest) σ := fun ls H locs hl hP hS => lv_icmp_le C.1 C.2.1 hdg ht (fun h2 => absurd h2 h) (fun _ => (k ls H locs hl hP hS))
theorem g_goto (C : Cx p s m args meth c own cc nL ret dC dI ad cy sz) {off : Int} {tgt : Nat} (hdg : decode cc pc = .ok (.goto off, 3)) (ht : (pc : Int) + off = (tgt : Int)) (k : Gw p l e R s m args below meth c Q dC dI ad cy nL sz nc ns tgt lv rest σ) : Gw p l e R s m args below meth c Q dC dI ad cy nL sz nc ns pc lv rest σ := fun ls H locs hl hP hS => lv_goto C.1 C.2.1 hdg ht (k ls H locs hl hP hS)
theorem g_tin (C : Cx p s m args meth c own cc nL ret dC dI ad cy sz) {dflt lo hi : Int} {offs : Array Int} {len : Nat} {x : Int32} {off : Int} {tgt : Nat} (hdg : decode cc pc = .ok (.tableswitch dflt lo hi offs, len)) (h1 : ¬ x.toInt < lo) (h2 : ¬ hi < x.toInt) (ho : offs[(x.toInt - lo).toNat]? = some off) (ht : (pc : Int) + off = (tgt : Int)) (k : Gw p l e R s m args below meth c Q dC dI ad cy nL sz nc ns tgt lv rest σ) : Gw p l e R s m args below meth c Q dC dI ad cy nL sz nc ns pc lv (.int x :: rest) σ := fun ls H locs hl hP hS => lv_tableIn C.1 C.2.1 hdg h1 h2 ho ht (k ls H locs hl hP hS)
theorem g_tout (C : Cx p s m args meth c own cc nL ret dC dI ad cy sz) {dflt lo hi : Int} {offs : Array Int} {len : Nat} {x : Int32} {tgt : Nat} (hdg : decode cc pc = .ok (.tableswitch dflt lo hi offs, len)) (h : x.toInt < lo ∨ hi < x.toInt) (ht : (pc : Int) + dflt = (tgt : Int)) (k : Gw p l e R s m args below meth c Q dC dI ad cy nL sz nc ns tgt lv rest σ) : Gw p l e R s m args below meth c Q dC dI ad cy nL sz nc ns pc lv (.int x :: rest) σ := fun ls H locs hl hP hS => lv_tableOut C.1 C.2.1 hdg h ht (k ls H locs hl hP hS)
theorem g_sub {lv2 : List (Nat × Value)} {st : List Value} (ps : List Nat) (hp : lv_pick lv ps = lv2) (k : Gw p l e R s m args below meth c Q dC dI ad cy nL sz nc ns pc lv2 st σ) : Gw p l e R s m args below meth c Q dC dI ad cy nL sz nc ns pc lv st σ := fun ls H locs hl hP hS => k ls H locs (lv_sub hl ps hp) hP hS
theorem g_nm2 {v0 : Value} {x e0 : Int32} (h : x = e0) (k : Gw p l e R s m args below meth c Q dC dI ad cy nL sz nc ns pc lv (v0 :: .int x :: rest) σ) : Gw p l e R s m args below meth c Q dC dI ad cy nL sz nc ns pc lv (v0 :: .int e0 :: rest) σ := h ▸ k
theorem g_nml {x e0 : Int64} (h : x = e0) (k : Gw p l e R s m args below meth c Q dC dI ad cy nL sz nc ns pc lv (.long x :: rest) σ) : Gw p l e R s m args below meth c Q dC dI ad cy nL sz nc ns pc lv (.long e0 :: rest) σ := h ▸ k
theorem g_nmr {x e0 : Nat} (h : x = e0) (k : Gw p l e R s m args below meth c Q dC dI ad cy nL sz nc ns pc lv (.ref (ad x) :: rest) σ) : Gw p l e R s m args below meth c Q dC dI ad cy nL sz nc ns pc lv (.ref (ad e0) :: rest) σ := h ▸ k
theorem g_nm {x e0 : Int32} (h : x = e0) (k : Gw p l e R s m args below meth c Q dC dI ad cy nL sz nc ns pc lv (.int x :: rest) σ) : Gw p l e R s m args below meth c Q dC dI ad cy nL sz nc ns pc lv (.int e0 :: rest) σ := h ▸ k
theorem g_get (C : Cx p s m args meth c own cc nL ret dC dI ad cy sz) {ref Cn : String} {T : u_T} {N ci index kc : Nat} {fs : List Value} {v : Value} (he : (wW ad cy σ)[kc]? = some (ad kc, .inr (ci, fs))) (hc : vwCl[ci]? = some (Cn, T, N)) (hin : ∀ w ∈ u_ws Cn T N, w ∈ lw_w) (j : Nat) (hj : j < N) (hlink : Cond.fieldLink own index ref (T j).2.1 (T j).2.2.1 ∈ lw_w) (hsame : (T j).1 = ref) (hv : fs[j]? = some v) (hdg : decode cc pc = .ok (.getfield index, 3)) (k : Gw p l e R s m args below meth c Q dC dI ad cy nL sz nc ns (pc + 3) lv (v :: rest) σ) : Gw p l e R s m args below meth c Q dC dI ad cy nL sz nc ns pc lv (.ref (ad kc) :: rest) σ := fun ls H locs hl hP hS => va_get C.1 C.2.1 C.2.2.2.2.1 hin C.2.2.2.1 C.2.2.2.2.2.1 hP kc he hc j hj (C.2.2.2.2.1 _ hlink) (fun _ h9 => hsame ▸ h9) hv hdg (k ls H locs hl hP hS)
theorem g_put (C : Cx p s m args meth c own cc nL ret dC dI ad cy sz) {ref Cn : String} {T : u_T} {N ci index kc : Nat} {fs : List Value} {v : Int32} {σ2 : S0} (he : (wW ad cy σ)[kc]? = some (ad kc, .inr (ci, fs))) (hc : vwCl[ci]? = some (Cn, T, N)) (hin : ∀ w ∈ u_ws Cn T N, w ∈ lw_w) (ty0 : Nat → FieldType) (hty : ∀ k, k < N → parseFieldDescriptor (T k).2.2.1 = some (ty0 k)) (hnm : ∀ a, a < N → ∀ b, b < N → a ≠ b → (T a).2.1 ≠ (T b).2.1) (j : Nat) (hj : j < N) (hlink : Cond.fieldLink own index ref (T j).2.1 (T j).2.2.1 ∈ lw_w) (hsame : (T j).1 = ref) (hfin : (T j).2.2.2 = false) {ty : FieldType} (hd : parseFieldDescriptor (T j).2.2.1 = some ty) (hn : narrow ty (.int v) = .int v) (hfit : fits ty (.int v) = true) (hl : j < fs.length) (hw : (.inr (ci, fs.set j (.int v)) : va_E) = wc ad cy kc (upd (σ kc) j v)) (hσ : σ2 = su σ kc j v) (hdg : decode cc pc = .ok (.putfield index, 3)) (k : Gw p l e R s m args below meth c Q dC dI ad cy nL sz nc ns (pc + 3) lv rest σ2) : Gw p l e R s m args below meth c Q dC dI ad cy nL sz nc ns pc lv (.int v :: .ref (ad kc) :: rest) σ := by
  intro ls H locs hl0 hP hS
  refine va_put C.1 C.2.1 C.2.2.2.2.1 hin ty0 hty hnm C.2.2.2.1 C.2.2.2.2.2.1 hP (wD C.2.2.2.2.2.2.1 cy σ sz) hS kc he hc j hj (C.2.2.2.2.1 _ hlink) (fun _ h9 => hsame ▸ h9) hfin hd hn hfit hl hdg (fun H1 locs1 hP1 _ hS1 => k ls H1 locs1 hl0 ?_ hS1)
  rw [hw, wW_set] at hP1
  rw [hσ]
  exact hP1
theorem g_iald (C : Cx p s m args meth c own cc nL ret dC dI ad cy sz) {kc n : Nat} {f : Nat → Int32} {i : Int32} (he : (wW ad cy σ)[kc]? = some (ad kc, .inl (cy 0, n, .inl f))) (hin : ¬ (i < 0 ∨ n ≤ i.toNatClampNeg)) (hdg : decode cc pc = .ok (.iaload, 1)) (k : Gw p l e R s m args below meth c Q dC dI ad cy nL sz nc ns (pc + 1) lv (.int (f i.toNatClampNeg) :: rest) σ) : Gw p l e R s m args below meth c Q dC dI ad cy nL sz nc ns pc lv (.int i :: .ref (ad kc) :: rest) σ := fun ls H locs hl hP hS => va_iald C.1 C.2.1 C.2.2.2.2.2.1 hP kc 0 he rfl hin hdg (k ls H locs hl hP hS)
theorem g_bald (C : Cx p s m args meth c own cc nL ret dC dI ad cy sz) {kc n : Nat} {f : Nat → Int32} {i : Int32} (he : (wW ad cy σ)[kc]? = some (ad kc, .inl (cy 1, n, .inl f))) (hin : ¬ (i < 0 ∨ n ≤ i.toNatClampNeg)) (hdg : decode cc pc = .ok (.baload, 1)) (k : Gw p l e R s m args below meth c Q dC dI ad cy nL sz nc ns (pc + 1) lv (.int (f i.toNatClampNeg) :: rest) σ) : Gw p l e R s m args below meth c Q dC dI ad cy nL sz nc ns pc lv (.int i :: .ref (ad kc) :: rest) σ := fun ls H locs hl hP hS => va_bald C.1 C.2.1 C.2.2.2.2.2.1 hP kc 1 he rfl hin hdg (k ls H locs hl hP hS)
theorem g_zald (C : Cx p s m args meth c own cc nL ret dC dI ad cy sz) {kc n : Nat} {f : Nat → Int32} {i : Int32} (he : (wW ad cy σ)[kc]? = some (ad kc, .inl (cy 2, n, .inl f))) (hin : ¬ (i < 0 ∨ n ≤ i.toNatClampNeg)) (hdg : decode cc pc = .ok (.baload, 1)) (k : Gw p l e R s m args below meth c Q dC dI ad cy nL sz nc ns (pc + 1) lv (.int (f i.toNatClampNeg) :: rest) σ) : Gw p l e R s m args below meth c Q dC dI ad cy nL sz nc ns pc lv (.int i :: .ref (ad kc) :: rest) σ := fun ls H locs hl hP hS => va_zald C.1 C.2.1 C.2.2.2.2.2.1 hP kc 2 he rfl hin hdg (k ls H locs hl hP hS)
theorem g_iast (C : Cx p s m args meth c own cc nL ret dC dI ad cy sz) {kc n : Nat} {f : Nat → Int32} {i x : Int32} {σ2 : S0} (he : (wW ad cy σ)[kc]? = some (ad kc, .inl (cy 0, n, .inl f))) (hin : ¬ (i < 0 ∨ n ≤ i.toNatClampNeg)) (hw : (.inl (cy 0, n, .inl (upd f i.toNatClampNeg x)) : va_E) = wc ad cy kc (upd (σ kc) i.toNatClampNeg x)) (hσ : σ2 = su σ kc i.toNatClampNeg x) (hdg : decode cc pc = .ok (.iastore, 1)) (k : Gw p l e R s m args below meth c Q dC dI ad cy nL sz nc ns (pc + 1) lv rest σ2) : Gw p l e R s m args below meth c Q dC dI ad cy nL sz nc ns pc lv (.int x :: .int i :: .ref (ad kc) :: rest) σ := by
  intro ls H locs hl0 hP hS
  refine va_iast C.1 C.2.1 C.2.2.2.2.2.1 hP (wD C.2.2.2.2.2.2.1 cy σ sz) hS kc 0 he rfl hin hdg (fun H1 locs1 hP1 _ hS1 => k ls H1 locs1 hl0 ?_ hS1)
  rw [hw, wW_set] at hP1
  rw [hσ]
  exact hP1
theorem g_bast (C : Cx p s m args meth c own cc nL ret dC dI ad cy sz) {kc n : Nat} {f : Nat → Int32} {i x : Int32} {σ2 : S0} (he : (wW ad cy σ)[kc]? = some (ad kc, .inl (cy 1, n, .inl f))) (hin : ¬ (i < 0 ∨ n ≤ i.toNatClampNeg)) (hw : (.inl (cy 1, n, .inl (upd f i.toNatClampNeg (vp_nar .byte x))) : va_E) = wc ad cy kc (upd (σ kc) i.toNatClampNeg (vp_nar .byte x))) (hσ : σ2 = su σ kc i.toNatClampNeg (vp_nar .byte x)) (hdg : decode cc pc = .ok (.bastore, 1)) (k : Gw p l e R s m args below meth c Q dC dI ad cy nL sz nc ns (pc + 1) lv rest σ2) : Gw p l e R s m args below meth c Q dC dI ad cy nL sz nc ns pc lv (.int x :: .int i :: .ref (ad kc) :: rest) σ := by
  intro ls H locs hl0 hP hS
  refine va_bast C.1 C.2.1 C.2.2.2.2.2.1 hP (wD C.2.2.2.2.2.2.1 cy σ sz) hS kc 1 he rfl hin hdg (fun H1 locs1 hP1 _ hS1 => k ls H1 locs1 hl0 ?_ hS1)
  rw [hw, wW_set] at hP1
  rw [hσ]
  exact hP1
theorem g_zast (C : Cx p s m args meth c own cc nL ret dC dI ad cy sz) {kc n : Nat} {f : Nat → Int32} {i x : Int32} {σ2 : S0} (he : (wW ad cy σ)[kc]? = some (ad kc, .inl (cy 2, n, .inl f))) (hin : ¬ (i < 0 ∨ n ≤ i.toNatClampNeg)) (hw : (.inl (cy 2, n, .inl (upd f i.toNatClampNeg (vp_nar .boolean x))) : va_E) = wc ad cy kc (upd (σ kc) i.toNatClampNeg (vp_nar .boolean x))) (hσ : σ2 = su σ kc i.toNatClampNeg (vp_nar .boolean x)) (hdg : decode cc pc = .ok (.bastore, 1)) (k : Gw p l e R s m args below meth c Q dC dI ad cy nL sz nc ns (pc + 1) lv rest σ2) : Gw p l e R s m args below meth c Q dC dI ad cy nL sz nc ns pc lv (.int x :: .int i :: .ref (ad kc) :: rest) σ := by
  intro ls H locs hl0 hP hS
  refine va_zast C.1 C.2.1 C.2.2.2.2.2.1 hP (wD C.2.2.2.2.2.2.1 cy σ sz) hS kc 2 he rfl hin hdg (fun H1 locs1 hP1 _ hS1 => k ls H1 locs1 hl0 ?_ hS1)
  rw [hw, wW_set] at hP1
  rw [hσ]
  exact hP1
theorem g_aald (C : Cx p s m args meth c own cc nL ret dC dI ad cy sz) {kc n b d cq : Nat} {tyA : FieldType} {i : Int32} (he : (wW ad cy σ)[kc]? = some (ad kc, .inl (cy cq, n, .inr (.inr (.inr (.inr (rfA ad n b d))))))) (hq : (wY cy)[cq]? = some (cy cq, tyA)) (href : tyA.isReference = true) (hin : ¬ (i < 0 ∨ n ≤ i.toNatClampNeg)) (hdg : decode cc pc = .ok (.aaload, 1)) (k : Gw p l e R s m args below meth c Q dC dI ad cy nL sz nc ns (pc + 1) lv (.ref (ad (b + d * i.toNatClampNeg)) :: rest) σ) : Gw p l e R s m args below meth c Q dC dI ad cy nL sz nc ns pc lv (.int i :: .ref (ad kc) :: rest) σ := by
  intro ls H locs hl0 hP hS
  have hlt : i.toNatClampNeg < n := Nat.not_le.mp fun q => hin (Or.inr q)
  have hv : va_rf (rfA ad n b d i.toNatClampNeg) = .ref (ad (b + d * i.toNatClampNeg)) := by simp [rfA, hlt, va_rf]
  refine W.aald (v := va_rf (rfA ad n b d i.toNatClampNeg)) (ty := tyA) C.1 C.2.1 (hP kc _ he) ((C.2.2.2.2.2.1.2 cq _ hq).1 n (fun j => va_rf (rfA ad n b d j))) href (fun q => by cases q) (by show ¬ (i < 0 ∨ (arrV _ _ _).slots.size ≤ _); rw [arrV_size]; exact hin) (by show (arrV _ _ _).slots[_]? = _; rw [arrV_read _ _ hlt]) rfl rfl hdg ?_
  rw [hv]
  exact k ls H locs hl0 hP hS
theorem g_callVi (C : Cx p s m args meth c own cc nL ret dC dI ad cy sz) {y : MethodName} {bytes : ByteArray} {maxL n index : Nat} {rt : Option FieldType} {rm : Room} {As : List Value} {f : S0 → Option (Int32 × S0)} {r1 : Int32} {σ1 : S0} {ci kc : Nat} {fs : List Value} {T : u_T} {N : Nat} {Cn : String} (he : (wW ad cy σ)[kc]? = some (ad kc, .inr (ci, fs))) (hc : vwCl[ci]? = some (Cn, T, N)) (hM : ConI l y bytes maxL rt rm dC dI ad cy (.ref (ad kc) :: As) f) (hf : f σ = some (r1, σ1)) (hlk : Cond.methodLink own index y ∈ lw_w) (cal : CalV y Cn bytes maxL rt n) (hcs : nc ≤ R.cells ∧ ns ≤ R.slots) (hrm : rm.cells = 0 ∧ rm.slots = 0) (hR : rm.frames + 1 ≤ R.frames ∧ 8 + (maxL + 11) + rm.locals ≤ R.locals) {st : List Value} (hst : st = As.reverse ++ .ref (ad kc) :: rest) (hn : As.length = n) (hW : (rest.map fun v => v.category).sum ≤ 8) (hdg : decode cc pc = .ok (.invokevirtual index, 3)) (k : Gw p l e R s m args below meth c Q dC dI ad cy nL sz nc ns (pc + 3) lv (.int r1 :: rest) σ1) : Gw p l e R s m args below meth c Q dC dI ad cy nL sz nc ns pc lv st σ := by
  intro ls H locs hl hP hS
  have hA : ∀ q : Nat, q < H.size → AW ad H.size q → AW ad sz q := fun q h1 h2 => h2.elim Or.inl (fun h => absurd h1 (Nat.not_lt.mpr h))
  have hfr : ∀ q : Nat, AW ad H.size q → AW ad sz q := fun q h2 => h2.elim Or.inl (fun h => Or.inr (by have := hS.1; have := C.2.2.2.2.2.2.2.2.2.1; omega))
  refine va_calli (va_runV (As := As) (rest := rest) ⟨C.1, C.2.1, C.2.2.1, C.2.2.2.1, C.2.2.2.2.1⟩ (hM H.size σ r1 σ1 hf) (cwV n C.2.2.2.2.1 (calV_in hlk cal) rfl hrm.1 hrm.2 cal.2.2.2.2 hR) ⟨PreW_blind, va_recv C.2.2.2.2.2.1 hP hc he, fun U hU hW => ⟨rfl, by rw [hU], by rw [hU]; exact hP, va_K.moved hW.alike C.2.2.2.2.2.1, C.2.2.2.2.2.2.1, by rw [hU]; exact C.2.2.2.2.2.2.2.2.2.2.go hW hS.2.1 hfr⟩⟩ rfl hn hl.1 hst (lv_room hW) hdg hcs) hS hA hfr (fun r2 u t H1 locs1 ht hvm hw hB hz1 hk1 hS1 => ?_)
  obtain ⟨rfl, rfl⟩ := hw
  have hP1 : va_P (dC, dI) vwCl (wW ad cy _) t.heap := hB
  rw [ht] at hP1
  exact k ls H1 locs1 hl hP1 hS1
theorem g_callVv (C : Cx p s m args meth c own cc nL ret dC dI ad cy sz) {y : MethodName} {bytes : ByteArray} {maxL n index : Nat} {rt : Option FieldType} {rm : Room} {As : List Value} {f : S0 → Option (Int32 × S0)} {r1 : Int32} {σ1 : S0} {ci kc : Nat} {fs : List Value} {T : u_T} {N : Nat} {Cn : String} (he : (wW ad cy σ)[kc]? = some (ad kc, .inr (ci, fs))) (hc : vwCl[ci]? = some (Cn, T, N)) (hM : ConV l y bytes maxL rt rm dC dI ad cy (.ref (ad kc) :: As) f) (hf : f σ = some (r1, σ1)) (hlk : Cond.methodLink own index y ∈ lw_w) (cal : CalV y Cn bytes maxL rt n) (hcs : nc ≤ R.cells ∧ ns ≤ R.slots) (hrm : rm.cells = 0 ∧ rm.slots = 0) (hR : rm.frames + 1 ≤ R.frames ∧ 8 + (maxL + 11) + rm.locals ≤ R.locals) {st : List Value} (hst : st = As.reverse ++ .ref (ad kc) :: rest) (hn : As.length = n) (hW : (rest.map fun v => v.category).sum ≤ 8) (hdg : decode cc pc = .ok (.invokevirtual index, 3)) (k : Gw p l e R s m args below meth c Q dC dI ad cy nL sz nc ns (pc + 3) lv rest σ1) : Gw p l e R s m args below meth c Q dC dI ad cy nL sz nc ns pc lv st σ := by
  intro ls H locs hl hP hS
  have hA : ∀ q : Nat, q < H.size → AW ad H.size q → AW ad sz q := fun q h1 h2 => h2.elim Or.inl (fun h => absurd h1 (Nat.not_lt.mpr h))
  have hfr : ∀ q : Nat, AW ad H.size q → AW ad sz q := fun q h2 => h2.elim Or.inl (fun h => Or.inr (by have := hS.1; have := C.2.2.2.2.2.2.2.2.2.1; omega))
  refine va_callv (va_runV (As := As) (rest := rest) ⟨C.1, C.2.1, C.2.2.1, C.2.2.2.1, C.2.2.2.2.1⟩ (hM H.size σ r1 σ1 hf) (cwV n C.2.2.2.2.1 (calV_in hlk cal) rfl hrm.1 hrm.2 cal.2.2.2.2 hR) ⟨PreW_blind, va_recv C.2.2.2.2.2.1 hP hc he, fun U hU hW => ⟨rfl, by rw [hU], by rw [hU]; exact hP, va_K.moved hW.alike C.2.2.2.2.2.1, C.2.2.2.2.2.2.1, by rw [hU]; exact C.2.2.2.2.2.2.2.2.2.2.go hW hS.2.1 hfr⟩⟩ rfl hn hl.1 hst (lv_room hW) hdg hcs) hS hA hfr (fun u t H1 locs1 ht hvm hw hB hz1 hk1 hS1 => ?_)
  subst hw
  have hP1 : va_P (dC, dI) vwCl (wW ad cy _) t.heap := hB
  rw [ht] at hP1
  exact k ls H1 locs1 hl hP1 hS1
theorem g_callSi (C : Cx p s m args meth c own cc nL ret dC dI ad cy sz) {y : MethodName} {bytes : ByteArray} {maxL n index : Nat} {rt : Option FieldType} {rm : Room} {As : List Value} {f : S0 → Option (Int32 × S0)} {r1 : Int32} {σ1 : S0} (hM : ConI l y bytes maxL rt rm dC dI ad cy As f) (hf : f σ = some (r1, σ1)) (hlk : Cond.methodLink own index y ∈ lw_w) (cal : CalS y bytes maxL rt n) (hcs : nc ≤ R.cells ∧ ns ≤ R.slots) (hrm : rm.cells = 0 ∧ rm.slots = 0) (hR : rm.frames + 1 ≤ R.frames ∧ 8 + (maxL + 11) + rm.locals ≤ R.locals) {st : List Value} (hst : st = As.reverse ++ rest) (hn : As.length = n) (hW : (rest.map fun v => v.category).sum ≤ 8) (hdg : decode cc pc = .ok (.invokestatic index, 3)) (k : Gw p l e R s m args below meth c Q dC dI ad cy nL sz nc ns (pc + 3) lv (.int r1 :: rest) σ1) : Gw p l e R s m args below meth c Q dC dI ad cy nL sz nc ns pc lv st σ := by
  intro ls H locs hl hP hS
  have hA : ∀ q : Nat, q < H.size → AW ad H.size q → AW ad sz q := fun q h1 h2 => h2.elim Or.inl (fun h => absurd h1 (Nat.not_lt.mpr h))
  have hfr : ∀ q : Nat, AW ad H.size q → AW ad sz q := fun q h2 => h2.elim Or.inl (fun h => Or.inr (by have := hS.1; have := C.2.2.2.2.2.2.2.2.2.1; omega))
  refine va_calli (va_runS (As := As) (rest := rest) ⟨C.1, C.2.1, C.2.2.1, C.2.2.2.1, C.2.2.2.2.1⟩ (hM H.size σ r1 σ1 hf) (va_cwS n C.2.2.2.2.1 (calS_in hlk cal) rfl hrm.1 hrm.2 cal.2.2.2 hR) ⟨PreW_blind, fun U hU hW => ⟨rfl, by rw [hU], by rw [hU]; exact hP, va_K.moved hW.alike C.2.2.2.2.2.1, C.2.2.2.2.2.2.1, by rw [hU]; exact C.2.2.2.2.2.2.2.2.2.2.go hW hS.2.1 hfr⟩⟩ rfl hn hl.1 hst (lv_room hW) hdg hcs) hS hA hfr (fun r2 u t H1 locs1 ht hvm hw hB hz1 hk1 hS1 => ?_)
  obtain ⟨rfl, rfl⟩ := hw
  have hP1 : va_P (dC, dI) vwCl (wW ad cy _) t.heap := hB
  rw [ht] at hP1
  exact k ls H1 locs1 hl hP1 hS1
theorem g_callSv (C : Cx p s m args meth c own cc nL ret dC dI ad cy sz) {y : MethodName} {bytes : ByteArray} {maxL n index : Nat} {rt : Option FieldType} {rm : Room} {As : List Value} {f : S0 → Option (Int32 × S0)} {r1 : Int32} {σ1 : S0} (hM : ConV l y bytes maxL rt rm dC dI ad cy As f) (hf : f σ = some (r1, σ1)) (hlk : Cond.methodLink own index y ∈ lw_w) (cal : CalS y bytes maxL rt n) (hcs : nc ≤ R.cells ∧ ns ≤ R.slots) (hrm : rm.cells = 0 ∧ rm.slots = 0) (hR : rm.frames + 1 ≤ R.frames ∧ 8 + (maxL + 11) + rm.locals ≤ R.locals) {st : List Value} (hst : st = As.reverse ++ rest) (hn : As.length = n) (hW : (rest.map fun v => v.category).sum ≤ 8) (hdg : decode cc pc = .ok (.invokestatic index, 3)) (k : Gw p l e R s m args below meth c Q dC dI ad cy nL sz nc ns (pc + 3) lv rest σ1) : Gw p l e R s m args below meth c Q dC dI ad cy nL sz nc ns pc lv st σ := by
  intro ls H locs hl hP hS
  have hA : ∀ q : Nat, q < H.size → AW ad H.size q → AW ad sz q := fun q h1 h2 => h2.elim Or.inl (fun h => absurd h1 (Nat.not_lt.mpr h))
  have hfr : ∀ q : Nat, AW ad H.size q → AW ad sz q := fun q h2 => h2.elim Or.inl (fun h => Or.inr (by have := hS.1; have := C.2.2.2.2.2.2.2.2.2.1; omega))
  refine va_callv (va_runS (As := As) (rest := rest) ⟨C.1, C.2.1, C.2.2.1, C.2.2.2.1, C.2.2.2.2.1⟩ (hM H.size σ r1 σ1 hf) (va_cwS n C.2.2.2.2.1 (calS_in hlk cal) rfl hrm.1 hrm.2 cal.2.2.2 hR) ⟨PreW_blind, fun U hU hW => ⟨rfl, by rw [hU], by rw [hU]; exact hP, va_K.moved hW.alike C.2.2.2.2.2.1, C.2.2.2.2.2.2.1, by rw [hU]; exact C.2.2.2.2.2.2.2.2.2.2.go hW hS.2.1 hfr⟩⟩ rfl hn hl.1 hst (lv_room hW) hdg hcs) hS hA hfr (fun u t H1 locs1 ht hvm hw hB hz1 hk1 hS1 => ?_)
  subst hw
  have hP1 : va_P (dC, dI) vwCl (wW ad cy _) t.heap := hB
  rw [ht] at hP1
  exact k ls H1 locs1 hl hP1 hS1
theorem g_iret {x : Int32} (C : Cx p s m args meth c own cc nL ret dC dI ad cy sz) (hr : ret = some .int) (hdg : decode cc pc = .ok (.ireturn, 1)) : Gw p l e R s m args below meth c (MQ below (QcI dC dI ad cy sz x σ) args s nc ns (AW ad sz)) dC dI ad cy nL sz nc ns pc lv [.int x] σ := fun ls H locs hl hP hS => W.iret C.1 C.2.1 (C.2.2.2.2.2.2.2.1.trans hr) (fun t ht hW => ⟨⟨x, σ, rfl, ⟨rfl, rfl⟩, by show va_P _ _ _ t.heap; rw [ht]; exact hP⟩, hS.F ht⟩) hS.2.2 hdg C.2.2.2.2.2.2.2.2.1
theorem g_zret {x : Int32} (C : Cx p s m args meth c own cc nL ret dC dI ad cy sz) (hr : ret = some .boolean) (hn : narrow .boolean (.int x) = .int x) (hdg : decode cc pc = .ok (.ireturn, 1)) : Gw p l e R s m args below meth c (MQ below (QcI dC dI ad cy sz x σ) args s nc ns (AW ad sz)) dC dI ad cy nL sz nc ns pc lv [.int x] σ := fun ls H locs hl hP hS => W.zret C.1 C.2.1 (C.2.2.2.2.2.2.2.1.trans hr) hn (fun t ht hW => ⟨⟨x, σ, rfl, ⟨rfl, rfl⟩, by show va_P _ _ _ t.heap; rw [ht]; exact hP⟩, hS.F ht⟩) hS.2.2 hdg C.2.2.2.2.2.2.2.2.1
theorem g_vret (C : Cx p s m args meth c own cc nL ret dC dI ad cy sz) (hr : ret = none) (hdg : decode cc pc = .ok (.return_, 1)) : Gw p l e R s m args below meth c (MQ below (QcV dC dI ad cy sz σ) args s nc ns (AW ad sz)) dC dI ad cy nL sz nc ns pc lv [] σ := fun ls H locs hl hP hS => W.vret C.1 C.2.1 (C.2.2.2.2.2.2.2.1.trans hr) (fun t ht hW => ⟨⟨σ, rfl, rfl, by show va_P _ _ _ t.heap; rw [ht]; exact hP⟩, hS.F ht⟩) hS.2.2 hdg C.2.2.2.2.2.2.2.2.1
end GW
end
section
def isRow (n k : Nat) : Prop := k < 111 ∧ ∀ (ad : Nat → Nat) (cy : Nat → ClassId) (f : Nat → Int32), wc ad cy k f = .inl (cy 0, n, .inl f)
theorem s_row {n k : Nat} (h : isRow n k) (ad : Nat → Nat) (cy : Nat → ClassId) (σ : S0) : (wW ad cy σ)[k]? = some (ad k, .inl (cy 0, n, .inl (σ k))) := by rw [wW_at ad cy σ k h.1, h.2]
theorem ws_row {n k : Nat} (h : isRow n k) (ad : Nat → Nat) (cy : Nat → ClassId) (f : Nat → Int32) : (.inl (cy 0, n, .inl f) : va_E) = wc ad cy k f := (h.2 ad cy f).symm
def isOut (cq n b d k : Nat) : Prop := k < 111 ∧ ∀ (ad : Nat → Nat) (cy : Nat → ClassId) (f : Nat → Int32), wc ad cy k f = .inl (cy cq, n, .inr (.inr (.inr (.inr (rfA ad n b d)))))
theorem s_out {cq n b d k : Nat} (h : isOut cq n b d k) (ad : Nat → Nat) (cy : Nat → ClassId) (σ : S0) : (wW ad cy σ)[k]? = some (ad k, .inl (cy cq, n, .inr (.inr (.inr (.inr (rfA ad n b d)))))) := by rw [wW_at ad cy σ k h.1, h.2]
theorem ix_lt {x : Int32} {n : Nat} (h : ¬ (x < 0 ∨ n ≤ x.toNatClampNeg)) : x.toNatClampNeg < n := Nat.not_le.mp (fun q => h (Or.inr q))
theorem r_5 : isRow 6 5 := ⟨by decide, fun _ _ _ => rfl⟩
theorem r_6 : isRow 6 6 := ⟨by decide, fun _ _ _ => rfl⟩
theorem r_8 : isRow 12 8 := ⟨by decide, fun _ _ _ => rfl⟩
theorem r_9 : isRow 12 9 := ⟨by decide, fun _ _ _ => rfl⟩
theorem r_10 : isRow 12 10 := ⟨by decide, fun _ _ _ => rfl⟩
theorem r_11 : isRow 12 11 := ⟨by decide, fun _ _ _ => rfl⟩
theorem r_12 : isRow 12 12 := ⟨by decide, fun _ _ _ => rfl⟩
theorem r_13 : isRow 12 13 := ⟨by decide, fun _ _ _ => rfl⟩
theorem r_15 : isRow 12 15 := ⟨by decide, fun _ _ _ => rfl⟩
theorem r_16 : isRow 12 16 := ⟨by decide, fun _ _ _ => rfl⟩
theorem r_17 : isRow 12 17 := ⟨by decide, fun _ _ _ => rfl⟩
theorem r_18 : isRow 12 18 := ⟨by decide, fun _ _ _ => rfl⟩
theorem r_19 : isRow 12 19 := ⟨by decide, fun _ _ _ => rfl⟩
theorem r_20 : isRow 6 20 := ⟨by decide, fun _ _ _ => rfl⟩
theorem r_21 : isRow 12 21 := ⟨by decide, fun _ _ _ => rfl⟩
theorem r_23 : isRow 6 23 := ⟨by decide, fun _ _ _ => rfl⟩
theorem r_24 : isRow 6 24 := ⟨by decide, fun _ _ _ => rfl⟩
theorem r_26 : isRow 12 26 := ⟨by decide, fun _ _ _ => rfl⟩
theorem r_27 : isRow 12 27 := ⟨by decide, fun _ _ _ => rfl⟩
theorem r_28 : isRow 12 28 := ⟨by decide, fun _ _ _ => rfl⟩
theorem r_29 : isRow 12 29 := ⟨by decide, fun _ _ _ => rfl⟩
theorem r_30 : isRow 12 30 := ⟨by decide, fun _ _ _ => rfl⟩
theorem r_31 : isRow 12 31 := ⟨by decide, fun _ _ _ => rfl⟩
theorem r_33 : isRow 12 33 := ⟨by decide, fun _ _ _ => rfl⟩
theorem r_34 : isRow 12 34 := ⟨by decide, fun _ _ _ => rfl⟩
theorem r_35 : isRow 12 35 := ⟨by decide, fun _ _ _ => rfl⟩
theorem r_36 : isRow 12 36 := ⟨by decide, fun _ _ _ => rfl⟩
theorem r_37 : isRow 12 37 := ⟨by decide, fun _ _ _ => rfl⟩
theorem r_38 : isRow 6 38 := ⟨by decide, fun _ _ _ => rfl⟩
theorem r_39 : isRow 12 39 := ⟨by decide, fun _ _ _ => rfl⟩
theorem r_42 : isRow 6 42 := ⟨by decide, fun _ _ _ => rfl⟩
theorem r_43 : isRow 6 43 := ⟨by decide, fun _ _ _ => rfl⟩
theorem r_44 : isRow 6 44 := ⟨by decide, fun _ _ _ => rfl⟩
theorem r_45 : isRow 6 45 := ⟨by decide, fun _ _ _ => rfl⟩
theorem r_47 : isRow 6 47 := ⟨by decide, fun _ _ _ => rfl⟩
theorem r_49 : isRow 6 49 := ⟨by decide, fun _ _ _ => rfl⟩
theorem r_50 : isRow 6 50 := ⟨by decide, fun _ _ _ => rfl⟩
theorem r_51 : isRow 6 51 := ⟨by decide, fun _ _ _ => rfl⟩
theorem r_52 : isRow 6 52 := ⟨by decide, fun _ _ _ => rfl⟩
theorem r_53 : isRow 6 53 := ⟨by decide, fun _ _ _ => rfl⟩
theorem r_54 : isRow 6 54 := ⟨by decide, fun _ _ _ => rfl⟩
theorem r_57 : isRow 12 57 := ⟨by decide, fun _ _ _ => rfl⟩
theorem r_58 : isRow 12 58 := ⟨by decide, fun _ _ _ => rfl⟩
theorem r_59 : isRow 12 59 := ⟨by decide, fun _ _ _ => rfl⟩
theorem r_60 : isRow 12 60 := ⟨by decide, fun _ _ _ => rfl⟩
theorem r_61 : isRow 12 61 := ⟨by decide, fun _ _ _ => rfl⟩
theorem r_62 : isRow 12 62 := ⟨by decide, fun _ _ _ => rfl⟩
theorem r_63 : isRow 12 63 := ⟨by decide, fun _ _ _ => rfl⟩
theorem r_64 : isRow 12 64 := ⟨by decide, fun _ _ _ => rfl⟩
theorem r_65 : isRow 12 65 := ⟨by decide, fun _ _ _ => rfl⟩
theorem r_66 : isRow 12 66 := ⟨by decide, fun _ _ _ => rfl⟩
theorem r_67 : isRow 12 67 := ⟨by decide, fun _ _ _ => rfl⟩
theorem r_68 : isRow 12 68 := ⟨by decide, fun _ _ _ => rfl⟩
theorem r_69 : isRow 12 69 := ⟨by decide, fun _ _ _ => rfl⟩
theorem r_75 : isRow 12 75 := ⟨by decide, fun _ _ _ => rfl⟩
theorem r_76 : isRow 12 76 := ⟨by decide, fun _ _ _ => rfl⟩
theorem r_77 : isRow 12 77 := ⟨by decide, fun _ _ _ => rfl⟩
theorem r_78 : isRow 12 78 := ⟨by decide, fun _ _ _ => rfl⟩
theorem r_79 : isRow 12 79 := ⟨by decide, fun _ _ _ => rfl⟩
theorem r_80 : isRow 6 80 := ⟨by decide, fun _ _ _ => rfl⟩
theorem r_81 : isRow 12 81 := ⟨by decide, fun _ _ _ => rfl⟩
theorem r_83 : isRow 12 83 := ⟨by decide, fun _ _ _ => rfl⟩
theorem r_84 : isRow 12 84 := ⟨by decide, fun _ _ _ => rfl⟩
theorem r_85 : isRow 12 85 := ⟨by decide, fun _ _ _ => rfl⟩
theorem r_86 : isRow 12 86 := ⟨by decide, fun _ _ _ => rfl⟩
theorem r_87 : isRow 12 87 := ⟨by decide, fun _ _ _ => rfl⟩
theorem r_88 : isRow 6 88 := ⟨by decide, fun _ _ _ => rfl⟩
theorem r_89 : isRow 12 89 := ⟨by decide, fun _ _ _ => rfl⟩
theorem r_91 : isRow 40 91 := ⟨by decide, fun _ _ _ => rfl⟩
theorem r_93 : isRow 40 93 := ⟨by decide, fun _ _ _ => rfl⟩
theorem r_95 : isRow 40 95 := ⟨by decide, fun _ _ _ => rfl⟩
theorem r_97 : isRow 40 97 := ⟨by decide, fun _ _ _ => rfl⟩
theorem r_99 : isRow 240 99 := ⟨by decide, fun _ _ _ => rfl⟩
theorem r_101 : isRow 84 101 := ⟨by decide, fun _ _ _ => rfl⟩
theorem r_102 : isRow 80 102 := ⟨by decide, fun _ _ _ => rfl⟩
theorem r_103 : isRow 84 103 := ⟨by decide, fun _ _ _ => rfl⟩
theorem r_104 : isRow 320 104 := ⟨by decide, fun _ _ _ => rfl⟩
theorem r_105 : isRow 6 105 := ⟨by decide, fun _ _ _ => rfl⟩
theorem r_106 : isRow 12 106 := ⟨by decide, fun _ _ _ => rfl⟩
theorem r_107 : isRow 156 107 := ⟨by decide, fun _ _ _ => rfl⟩
theorem r_108 : isRow 4 108 := ⟨by decide, fun _ _ _ => rfl⟩
theorem r_109 : isRow 4 109 := ⟨by decide, fun _ _ _ => rfl⟩
theorem r_110 : isRow 160 110 := ⟨by decide, fun _ _ _ => rfl⟩
def isChimes (k : Nat) : Prop := (k < 111 ∧ ∀ (ad : Nat → Nat) (cy : Nat → ClassId) (f : Nat → Int32), wc ad cy k f = .inr (1, [.int (f 0), .ref (ad (k + 1)), .ref (ad (k + 2)), .ref (ad (k + 3)), .ref (ad (k + 4)), .ref (ad (k + 5)), .ref (ad (k + 6)), .int (f 7), .ref (ad (k + 7))])) ∧ isRow 12 (k + 1) ∧ isRow 12 (k + 2) ∧ isRow 12 (k + 3) ∧ isRow 12 (k + 4) ∧ isRow 12 (k + 5) ∧ isRow 6 (k + 6) ∧ isRow 12 (k + 7)
theorem isChimes.r1 {k : Nat} (h : isChimes k) : isRow 12 (k + 1) := h.2.1
theorem isChimes.r2 {k : Nat} (h : isChimes k) : isRow 12 (k + 2) := h.2.2.1
theorem isChimes.r3 {k : Nat} (h : isChimes k) : isRow 12 (k + 3) := h.2.2.2.1
theorem isChimes.r4 {k : Nat} (h : isChimes k) : isRow 12 (k + 4) := h.2.2.2.2.1
theorem isChimes.r5 {k : Nat} (h : isChimes k) : isRow 12 (k + 5) := h.2.2.2.2.2.1
theorem isChimes.r6 {k : Nat} (h : isChimes k) : isRow 6 (k + 6) := h.2.2.2.2.2.2.1
theorem isChimes.r7 {k : Nat} (h : isChimes k) : isRow 12 (k + 7) := h.2.2.2.2.2.2.2
theorem s_isChimes {k : Nat} (h : isChimes k) (ad : Nat → Nat) (cy : Nat → ClassId) (σ : S0) : (wW ad cy σ)[k]? = some (ad k, .inr (1, [.int (σ k 0), .ref (ad (k + 1)), .ref (ad (k + 2)), .ref (ad (k + 3)), .ref (ad (k + 4)), .ref (ad (k + 5)), .ref (ad (k + 6)), .int (σ k 7), .ref (ad (k + 7))])) := by rw [wW_at ad cy σ k h.1.1, h.1.2]
theorem ps_isChimes_0 {k : Nat} (h : isChimes k) (ad : Nat → Nat) (cy : Nat → ClassId) (σ : S0) (v : Int32) : (.inr (1, ([.int (σ k 0), .ref (ad (k + 1)), .ref (ad (k + 2)), .ref (ad (k + 3)), .ref (ad (k + 4)), .ref (ad (k + 5)), .ref (ad (k + 6)), .int (σ k 7), .ref (ad (k + 7))] : List Value).set 0 (.int v)) : va_E) = wc ad cy k (upd (σ k) 0 v) := by rw [h.1.2]; rfl
theorem ps_isChimes_7 {k : Nat} (h : isChimes k) (ad : Nat → Nat) (cy : Nat → ClassId) (σ : S0) (v : Int32) : (.inr (1, ([.int (σ k 0), .ref (ad (k + 1)), .ref (ad (k + 2)), .ref (ad (k + 3)), .ref (ad (k + 4)), .ref (ad (k + 5)), .ref (ad (k + 6)), .int (σ k 7), .ref (ad (k + 7))] : List Value).set 7 (.int v)) : va_E) = wc ad cy k (upd (σ k) 7 v) := by rw [h.1.2]; rfl
theorem k_isChimes_14 : isChimes 14 := ⟨⟨by decide, fun _ _ _ => rfl⟩, r_15, r_16, r_17, r_18, r_19, r_20, r_21⟩
theorem k_isChimes_32 : isChimes 32 := ⟨⟨by decide, fun _ _ _ => rfl⟩, r_33, r_34, r_35, r_36, r_37, r_38, r_39⟩
theorem k_isChimes_74 : isChimes 74 := ⟨⟨by decide, fun _ _ _ => rfl⟩, r_75, r_76, r_77, r_78, r_79, r_80, r_81⟩
theorem k_isChimes_82 : isChimes 82 := ⟨⟨by decide, fun _ _ _ => rfl⟩, r_83, r_84, r_85, r_86, r_87, r_88, r_89⟩
def isTown (k : Nat) : Prop := (k < 111 ∧ ∀ (ad : Nat → Nat) (cy : Nat → ClassId) (f : Nat → Int32), wc ad cy k f = .inr (9, [.int (f 0), .int (f 1), .int (f 2), .ref (ad (k + 1)), .ref (ad (k + 2)), .ref (ad (k + 3)), .ref (ad (k + 10))])) ∧ isRow 6 (k + 1) ∧ isRow 6 (k + 2) ∧ isOut 3 6 (k + 4) 1 (k + 3) ∧ (∀ i, i < 6 → isRow 12 (k + 4 + 1 * i)) ∧ isChimes (k + 10)
theorem isTown.r1 {k : Nat} (h : isTown k) : isRow 6 (k + 1) := h.2.1
theorem isTown.r2 {k : Nat} (h : isTown k) : isRow 6 (k + 2) := h.2.2.1
theorem isTown.r3 {k : Nat} (h : isTown k) : isOut 3 6 (k + 4) 1 (k + 3) := h.2.2.2.1
theorem isTown.ri {k : Nat} (h : isTown k) : (∀ i, i < 6 → isRow 12 (k + 4 + 1 * i)) := h.2.2.2.2.1
theorem isTown.ch {k : Nat} (h : isTown k) : isChimes (k + 10) := h.2.2.2.2.2
theorem s_isTown {k : Nat} (h : isTown k) (ad : Nat → Nat) (cy : Nat → ClassId) (σ : S0) : (wW ad cy σ)[k]? = some (ad k, .inr (9, [.int (σ k 0), .int (σ k 1), .int (σ k 2), .ref (ad (k + 1)), .ref (ad (k + 2)), .ref (ad (k + 3)), .ref (ad (k + 10))])) := by rw [wW_at ad cy σ k h.1.1, h.1.2]
theorem ps_isTown_0 {k : Nat} (h : isTown k) (ad : Nat → Nat) (cy : Nat → ClassId) (σ : S0) (v : Int32) : (.inr (9, ([.int (σ k 0), .int (σ k 1), .int (σ k 2), .ref (ad (k + 1)), .ref (ad (k + 2)), .ref (ad (k + 3)), .ref (ad (k + 10))] : List Value).set 0 (.int v)) : va_E) = wc ad cy k (upd (σ k) 0 v) := by rw [h.1.2]; rfl
theorem ps_isTown_1 {k : Nat} (h : isTown k) (ad : Nat → Nat) (cy : Nat → ClassId) (σ : S0) (v : Int32) : (.inr (9, ([.int (σ k 0), .int (σ k 1), .int (σ k 2), .ref (ad (k + 1)), .ref (ad (k + 2)), .ref (ad (k + 3)), .ref (ad (k + 10))] : List Value).set 1 (.int v)) : va_E) = wc ad cy k (upd (σ k) 1 v) := by rw [h.1.2]; rfl
theorem ps_isTown_2 {k : Nat} (h : isTown k) (ad : Nat → Nat) (cy : Nat → ClassId) (σ : S0) (v : Int32) : (.inr (9, ([.int (σ k 0), .int (σ k 1), .int (σ k 2), .ref (ad (k + 1)), .ref (ad (k + 2)), .ref (ad (k + 3)), .ref (ad (k + 10))] : List Value).set 2 (.int v)) : va_E) = wc ad cy k (upd (σ k) 2 v) := by rw [h.1.2]; rfl
theorem k_isTown_4 : isTown 4 := ⟨⟨by decide, fun _ _ _ => rfl⟩, r_5, r_6, ⟨by decide, fun _ _ _ => rfl⟩, (fun i hi => by rcases (show i = 0 ∨ i = 1 ∨ i = 2 ∨ i = 3 ∨ i = 4 ∨ i = 5 by omega) with rfl | rfl | rfl | rfl | rfl | rfl <;> exact ⟨by decide, fun _ _ _ => rfl⟩), k_isChimes_14⟩
theorem k_isTown_22 : isTown 22 := ⟨⟨by decide, fun _ _ _ => rfl⟩, r_23, r_24, ⟨by decide, fun _ _ _ => rfl⟩, (fun i hi => by rcases (show i = 0 ∨ i = 1 ∨ i = 2 ∨ i = 3 ∨ i = 4 ∨ i = 5 by omega) with rfl | rfl | rfl | rfl | rfl | rfl <;> exact ⟨by decide, fun _ _ _ => rfl⟩), k_isChimes_32⟩
def isSheet (k : Nat) : Prop := (k < 111 ∧ ∀ (ad : Nat → Nat) (cy : Nat → ClassId) (f : Nat → Int32), wc ad cy k f = .inr (7, [.int (f 0), .int (f 1), .ref (ad (k + 1))])) ∧ isRow 40 (k + 1)
theorem isSheet.r1 {k : Nat} (h : isSheet k) : isRow 40 (k + 1) := h.2
theorem s_isSheet {k : Nat} (h : isSheet k) (ad : Nat → Nat) (cy : Nat → ClassId) (σ : S0) : (wW ad cy σ)[k]? = some (ad k, .inr (7, [.int (σ k 0), .int (σ k 1), .ref (ad (k + 1))])) := by rw [wW_at ad cy σ k h.1.1, h.1.2]
theorem ps_isSheet_0 {k : Nat} (h : isSheet k) (ad : Nat → Nat) (cy : Nat → ClassId) (σ : S0) (v : Int32) : (.inr (7, ([.int (σ k 0), .int (σ k 1), .ref (ad (k + 1))] : List Value).set 0 (.int v)) : va_E) = wc ad cy k (upd (σ k) 0 v) := by rw [h.1.2]; rfl
theorem ps_isSheet_1 {k : Nat} (h : isSheet k) (ad : Nat → Nat) (cy : Nat → ClassId) (σ : S0) (v : Int32) : (.inr (7, ([.int (σ k 0), .int (σ k 1), .ref (ad (k + 1))] : List Value).set 1 (.int v)) : va_E) = wc ad cy k (upd (σ k) 1 v) := by rw [h.1.2]; rfl
theorem k_isSheet_90 : isSheet 90 := ⟨⟨by decide, fun _ _ _ => rfl⟩, r_91⟩
theorem k_isSheet_92 : isSheet 92 := ⟨⟨by decide, fun _ _ _ => rfl⟩, r_93⟩
theorem k_isSheet_94 : isSheet 94 := ⟨⟨by decide, fun _ _ _ => rfl⟩, r_95⟩
theorem k_isSheet_96 : isSheet 96 := ⟨⟨by decide, fun _ _ _ => rfl⟩, r_97⟩
theorem isTown.ro {k q : Nat} {x : Int32} (h : isTown k) (hx : ¬ (x < 0 ∨ 6 ≤ x.toNatClampNeg)) (e : q = k + 4 + 1 * x.toNatClampNeg) : isRow 12 q := e ▸ h.ri _ (ix_lt hx)
theorem o_7 {q : Nat} {x : Int32} (hx : ¬ (x < 0 ∨ 6 ≤ x.toNatClampNeg)) (e : q = 8 + 1 * x.toNatClampNeg) : isRow 12 q := by
  have hi := ix_lt hx
  generalize x.toNatClampNeg = i at hi e
  subst e
  rcases (show i = 0 ∨ i = 1 ∨ i = 2 ∨ i = 3 ∨ i = 4 ∨ i = 5 by omega) with rfl | rfl | rfl | rfl | rfl | rfl
  · exact r_8
  · exact r_9
  · exact r_10
  · exact r_11
  · exact r_12
  · exact r_13
theorem o_25 {q : Nat} {x : Int32} (hx : ¬ (x < 0 ∨ 6 ≤ x.toNatClampNeg)) (e : q = 26 + 1 * x.toNatClampNeg) : isRow 12 q := by
  have hi := ix_lt hx
  generalize x.toNatClampNeg = i at hi e
  subst e
  rcases (show i = 0 ∨ i = 1 ∨ i = 2 ∨ i = 3 ∨ i = 4 ∨ i = 5 by omega) with rfl | rfl | rfl | rfl | rfl | rfl
  · exact r_26
  · exact r_27
  · exact r_28
  · exact r_29
  · exact r_30
  · exact r_31
theorem o_48 {q : Nat} {x : Int32} (hx : ¬ (x < 0 ∨ 6 ≤ x.toNatClampNeg)) (e : q = 49 + 1 * x.toNatClampNeg) : isRow 6 q := by
  have hi := ix_lt hx
  generalize x.toNatClampNeg = i at hi e
  subst e
  rcases (show i = 0 ∨ i = 1 ∨ i = 2 ∨ i = 3 ∨ i = 4 ∨ i = 5 by omega) with rfl | rfl | rfl | rfl | rfl | rfl
  · exact r_49
  · exact r_50
  · exact r_51
  · exact r_52
  · exact r_53
  · exact r_54
theorem o_56 {q : Nat} {x : Int32} (hx : ¬ (x < 0 ∨ 12 ≤ x.toNatClampNeg)) (e : q = 57 + 1 * x.toNatClampNeg) : isRow 12 q := by
  have hi := ix_lt hx
  generalize x.toNatClampNeg = i at hi e
  subst e
  rcases (show i = 0 ∨ i = 1 ∨ i = 2 ∨ i = 3 ∨ i = 4 ∨ i = 5 ∨ i = 6 ∨ i = 7 ∨ i = 8 ∨ i = 9 ∨ i = 10 ∨ i = 11 by omega) with rfl | rfl | rfl | rfl | rfl | rfl | rfl | rfl | rfl | rfl | rfl | rfl
  · exact r_57
  · exact r_58
  · exact r_59
  · exact r_60
  · exact r_61
  · exact r_62
  · exact r_63
  · exact r_64
  · exact r_65
  · exact r_66
  · exact r_67
  · exact r_68
theorem o_71 {q : Nat} {x : Int32} (hx : ¬ (x < 0 ∨ 2 ≤ x.toNatClampNeg)) (e : q = 74 + 8 * x.toNatClampNeg) : isChimes q := by
  have hi := ix_lt hx
  generalize x.toNatClampNeg = i at hi e
  subst e
  rcases (show i = 0 ∨ i = 1 by omega) with rfl | rfl
  · exact k_isChimes_74
  · exact k_isChimes_82
theorem o_73 {q : Nat} {x : Int32} (hx : ¬ (x < 0 ∨ 4 ≤ x.toNatClampNeg)) (e : q = 90 + 2 * x.toNatClampNeg) : isSheet q := by
  have hi := ix_lt hx
  generalize x.toNatClampNeg = i at hi e
  subst e
  rcases (show i = 0 ∨ i = 1 ∨ i = 2 ∨ i = 3 by omega) with rfl | rfl | rfl | rfl
  · exact k_isSheet_90
  · exact k_isSheet_92
  · exact k_isSheet_94
  · exact k_isSheet_96
section GW2
variable {p : Program} {l : Launch} {e : Env} {R : Room} {s : State} {m : MethodId} {args : Array Value} {below : List Frame} {meth : Method} {c : Code} {Q : State → Prop} {dC : Nat → ClassId} {dI : Nat → Nat → Nat} {ad : Nat → Nat} {cy : Nat → ClassId} {nL sz nc ns : Nat} {own : String} {cc : ByteArray} {ret : Option FieldType} {pc : Nat} {lv : List (Nat × Value)} {rest : List Value} {σ : S0}
theorem g_alen (C : Cx p s m args meth c own cc nL ret dC dI ad cy sz) {kc n : Nat} {f : Nat → Int32} {v : Int32} (he : (wW ad cy σ)[kc]? = some (ad kc, .inl (cy 0, n, .inl f))) (hv : Int32.ofNat n = v) (hdg : decode cc pc = .ok (.arraylength, 1)) (k : Gw p l e R s m args below meth c Q dC dI ad cy nL sz nc ns (pc + 1) lv (.int v :: rest) σ) : Gw p l e R s m args below meth c Q dC dI ad cy nL sz nc ns pc lv (.ref (ad kc) :: rest) σ := fun ls H locs hl hP hS => va_alen C.1 C.2.1 C.2.2.2.2.2.1 hP kc 0 he (ty := .int) rfl hv hdg (k ls H locs hl hP hS)
theorem g_copy (C : Cx p s m args meth c own cc nL ret dC dI ad cy sz) {index ks kd n0 n1 : Nat} {f g : Nat → Int32} {n : Int32} {σ2 : S0} (hlk : Cond.methodLink own index arraycopyName ∈ lw_w) (hs : (wW ad cy σ)[ks]? = some (ad ks, .inl (cy 0, n0, .inl f))) (hd : (wW ad cy σ)[kd]? = some (ad kd, .inl (cy 0, n1, .inl g))) (h3 : ¬ n < 0) (h4 : n.toNatClampNeg ≤ n0) (h5 : n.toNatClampNeg ≤ n1) (hR : 1 ≤ R.frames ∧ (rest.map fun v => v.category).sum + (nativeFrameWords "java/lang/System" "arraycopy" 5 + 11) ≤ R.locals) (hw : ∀ f : Nat → Int32, (.inl (cy 0, n1, .inl f) : va_E) = wc ad cy kd f) (hσ : σ2 = va_up σ kd (va_cpy f g 0 0 n.toNatClampNeg)) (hdg : decode cc pc = .ok (.invokestatic index, 3)) (k : Gw p l e R s m args below meth c Q dC dI ad cy nL sz nc ns (pc + 3) lv rest σ2) : Gw p l e R s m args below meth c Q dC dI ad cy nL sz nc ns pc lv (.int n :: .int 0 :: .ref (ad kd) :: .int 0 :: .ref (ad ks) :: rest) σ := by
  intro ls H locs hl hP hS
  have hnat : (Cond.native arraycopyName).before args s = true := C.2.2.2.2.1 _ hNa_copy
  refine va_copyi C.1 C.2.1 (C.2.2.1.trans hl.1.symm) C.2.2.2.1 (C.2.2.2.2.1 _ hlk) hnat (C.2.2.2.2.1 _ hSt_copy) (C.2.2.2.2.1 _ hIni_J10) C.2.2.2.2.2.1 hP (wD C.2.2.2.2.2.2.1 cy σ sz) hS ks kd 0 0 hs hd (ty := .int) rfl rfl rfl (by decide) (by decide) h3 (by simpa using h4) (by simpa using h5) (fun _ _ => rfl) hR.1 hR.2 hdg (fun H1 locs1 hP1 _ hS1 => k ls H1 locs1 hl ?_ hS1)
  rw [hw, wW_set] at hP1
  rw [hσ]
  exact hP1
theorem g_lookup (C : Cx p s m args meth c own cc nL ret dC dI ad cy sz) {dflt : Int} {ps : Array (Int × Int)} {len : Nat} {x : Int32} {off : Int} {tgt : Nat} (hdg : decode cc pc = .ok (.lookupswitch dflt ps, len)) (hp : (ps.toList.zip (ps.toList.drop 1)).all (fun (a, next) => a.1 < next.1) = true) (ho : Op.lookupswitch.offset ps.toList dflt x.toInt = off) (ht : (pc : Int) + off = (tgt : Int)) (k : Gw p l e R s m args below meth c Q dC dI ad cy nL sz nc ns tgt lv rest σ) : Gw p l e R s m args below meth c Q dC dI ad cy nL sz nc ns pc lv (.int x :: rest) σ := fun ls H locs hl hP hS => lv_lookup C.1 C.2.1 hdg hp ho ht (k ls H locs hl hP hS)
theorem lk_ne {x a : Int32} {z : Int} (hz : a.toInt = z) (h : ¬ x = a) : ¬ z = x.toInt := fun e => h (Int32.toInt_inj.mp (by rw [hz, e]))
theorem g_abs (C : Cx p s m args meth c own cc nL ret dC dI ad cy sz) {index : Nat} {x : Int32} (hlk : Cond.methodLink own index Lib.Math.abs.name ∈ lw_w) (hst : Cond.static Lib.Math.abs.name ∈ lw_w) (hcd : Cond.code Lib.Math.abs.name Lib.Math.abs.code 1 (some .int) ∈ lw_w) (hcs : nc ≤ R.cells ∧ ns ≤ R.slots) (hR : 1 ≤ R.frames ∧ (rest.map fun v => v.category).sum + 13 ≤ R.locals) (hdg : decode cc pc = .ok (.invokestatic index, 3)) (k : Gw p l e R s m args below meth c Q dC dI ad cy nL sz nc ns (pc + 3) lv (.int (if 0 ≤ x then x else 0 - x) :: rest) σ) : Gw p l e R s m args below meth c Q dC dI ad cy nL sz nc ns pc lv (.int x :: rest) σ := fun ls H locs hl hP hS => va_mabs C.1 C.2.1 (C.2.2.1.trans hl.1.symm) C.2.2.2.1 (C.2.2.2.2.1 _ hlk) (C.2.2.2.2.1 _ hst) (C.2.2.2.2.1 _ hIni_J9) (C.2.2.2.2.1 _ hcd) hR.1 hR.2 hcs.1 hcs.2 hdg (k ls H locs hl hP hS)
end GW2
end
section
theorem zb_ok {x : Int32} (h : x = 0 ∨ x = 1) : narrow .boolean (.int x) = .int x := by rcases h with rfl | rfl <;> rfl
theorem nc_ok {x : Int32} (h : (x.toUInt32 % 65536).toInt32 = x) : narrow .char (.int x) = .int x := by have h1 := pk_nc x; rw [h] at h1; exact h1
section GW3
variable {p : Program} {l : Launch} {e : Env} {R : Room} {s : State} {m : MethodId} {args : Array Value} {below : List Frame} {meth : Method} {c : Code} {Q : State → Prop} {dC : Nat → ClassId} {dI : Nat → Nat → Nat} {ad : Nat → Nat} {cy : Nat → ClassId} {nL sz nc ns : Nat} {own : String} {cc : ByteArray} {ret : Option FieldType} {pc : Nat} {lv : List (Nat × Value)} {rest : List Value} {σ : S0}
theorem g_ldcs (C : Cx p s m args meth c RX5 cc nL ret dC dI ad cy sz) {i index : Nat} (hi : i < 7) (hq : stI i = index) (hdg : decode cc pc = .ok (.ldc index, 2)) (k : Gw p l e R s m args below meth c Q dC dI ad cy nL sz nc ns (pc + 2) lv (.ref (ad (200 + i)) :: rest) σ) : Gw p l e R s m args below meth c Q dC dI ad cy nL sz nc ns pc lv rest σ := by
  subst hq
  exact fun ls H locs hl hP hS => va_ldcS C.1 C.2.1 C.2.2.2.1 (C.2.2.2.2.2.2.2.2.2.2.2.1 i hi) hdg (k ls H locs hl hP hS)
theorem g_sval (C : Cx p s m args meth c own cc nL ret dC dI ad cy sz) {i index : Nat} (hi : i < 7) (hlk : Cond.fieldLink own index "java/lang/String" "value" "[B" ∈ lw_w) (hdg : decode cc pc = .ok (.getfield index, 3)) (k : Gw p l e R s m args below meth c Q dC dI ad cy nL sz nc ns (pc + 3) lv (.ref (ad (300 + i)) :: rest) σ) : Gw p l e R s m args below meth c Q dC dI ad cy nL sz nc ns pc lv (.ref (ad (200 + i)) :: rest) σ := fun ls H locs hl hP hS => vk_getf C.1 C.2.1 (C.2.2.2.2.2.2.2.2.2.2.1.1 i hi).2.2.1 (C.2.2.2.2.2.2.2.2.2.1 ▸ hS) C.2.2.2.1 (C.2.2.2.2.1 _ hlk) (fun _ h => h) hdg (k ls H locs hl hP hS)
theorem g_scod (C : Cx p s m args meth c own cc nL ret dC dI ad cy sz) {i index : Nat} (hi : i < 7) (hlk : Cond.fieldLink own index "java/lang/String" "coder" "B" ∈ lw_w) (hdg : decode cc pc = .ok (.getfield index, 3)) (k : Gw p l e R s m args below meth c Q dC dI ad cy nL sz nc ns (pc + 3) lv (.int 0 :: rest) σ) : Gw p l e R s m args below meth c Q dC dI ad cy nL sz nc ns pc lv (.ref (ad (200 + i)) :: rest) σ := fun ls H locs hl hP hS => vk_getf C.1 C.2.1 (C.2.2.2.2.2.2.2.2.2.2.1.1 i hi).2.1 hS C.2.2.2.1 (C.2.2.2.2.1 _ hlk) (fun _ h => h) hdg (k ls H locs hl hP hS)
theorem g_slen (C : Cx p s m args meth c own cc nL ret dC dI ad cy sz) {i : Nat} (hi : i < 7) (hdg : decode cc pc = .ok (.arraylength, 1)) (k : Gw p l e R s m args below meth c Q dC dI ad cy nL sz nc ns (pc + 1) lv (.int (Int32.ofNat (lenS.getD i 0)) :: rest) σ) : Gw p l e R s m args below meth c Q dC dI ad cy nL sz nc ns pc lv (.ref (ad (300 + i)) :: rest) σ := fun ls H locs hl hP hS => va_tlen C.1 C.2.1 (C.2.2.2.2.2.2.2.2.2.2.1.1 i hi).2.2.2 hS rfl hdg (k ls H locs hl hP hS)
theorem g_sbald (C : Cx p s m args meth c own cc nL ret dC dI ad cy sz) {i : Nat} {x : Int32} (hi : i < 7) (hin : ¬ (x < 0 ∨ lenS.getD i 0 ≤ x.toNatClampNeg)) (hdg : decode cc pc = .ok (.baload, 1)) (k : Gw p l e R s m args below meth c Q dC dI ad cy nL sz nc ns (pc + 1) lv (.int ((bytS.getD i []).getD x.toNatClampNeg 0) :: rest) σ) : Gw p l e R s m args below meth c Q dC dI ad cy nL sz nc ns pc lv (.int x :: .ref (ad (300 + i)) :: rest) σ := fun ls H locs hl hP hS => va_tb C.1 C.2.1 (C.2.2.2.2.2.2.2.2.2.2.1.1 i hi).2.2.2 hS hin rfl hdg (k ls H locs hl hP hS)
theorem g_cmps (C : Cx p s m args meth c own cc nL ret dC dI ad cy sz) {index : Nat} (hlk : Cond.fieldLink own index "java/lang/String" "COMPACT_STRINGS" "Z" ∈ lw_w) (hdg : decode cc pc = .ok (.getstatic index, 3)) (k : Gw p l e R s m args below meth c Q dC dI ad cy nL sz nc ns (pc + 3) lv (.int 1 :: rest) σ) : Gw p l e R s m args below meth c Q dC dI ad cy nL sz nc ns pc lv rest σ := fun ls H locs hl hP hS => va_gets C.1 C.2.1 C.2.2.2.2.2.2.2.2.2.2.2.2.1 hS C.2.2.2.1 (C.2.2.2.2.1 _ hlk) (fun _ h => h) hdg (k ls H locs hl hP hS)
theorem g_fmt (C : Cx p s m args meth c own cc nL ret dC dI ad cy sz) {index : Nat} (hlk : Cond.fieldLink own index "jdk/internal/util/Preconditions" "SIOOBE_FORMATTER" "Ljava/util/function/BiFunction;" ∈ lw_w) (hdg : decode cc pc = .ok (.getstatic index, 3)) (k : ∀ v : Value, (v = .null ∨ ∃ t, v = .ref t) → Gw p l e R s m args below meth c Q dC dI ad cy nL sz nc ns (pc + 3) lv (v :: rest) σ) : Gw p l e R s m args below meth c Q dC dI ad cy nL sz nc ns pc lv rest σ := by
  intro ls H locs hl hP hS
  rcases C.2.2.2.2.2.2.2.2.2.2.2.2.2 with h | ⟨t, h⟩
  · exact va_gets C.1 C.2.1 h hS C.2.2.2.1 (C.2.2.2.2.1 _ hlk) (fun _ h => h) hdg (k _ (Or.inl rfl) ls H locs hl hP hS)
  · exact va_gets C.1 C.2.1 h hS C.2.2.2.1 (C.2.2.2.2.1 _ hlk) (fun _ h => h) hdg (k _ (Or.inr ⟨t, rfl⟩) ls H locs hl hP hS)
theorem g_i2c (C : Cx p s m args meth c own cc nL ret dC dI ad cy sz) {x : Int32} (hdg : decode cc pc = .ok (.i2c, 1)) (k : Gw p l e R s m args below meth c Q dC dI ad cy nL sz nc ns (pc + 1) lv (.int (x.toUInt32 % 65536).toInt32 :: rest) σ) : Gw p l e R s m args below meth c Q dC dI ad cy nL sz nc ns pc lv (.int x :: rest) σ := fun ls H locs hl hP hS => lv_i2c C.1 C.2.1 hdg rfl (k ls H locs hl hP hS)
theorem g_tret {x : Int32} {ty : FieldType} (C : Cx p s m args meth c own cc nL ret dC dI ad cy sz) (hr : ret = some ty) (hn : narrow ty (.int x) = .int x) (hdg : decode cc pc = .ok (.ireturn, 1)) : Gw p l e R s m args below meth c (MQ below (QcI dC dI ad cy sz x σ) args s nc ns (AW ad sz)) dC dI ad cy nL sz nc ns pc lv [.int x] σ := fun ls H locs hl hP hS => W.zret C.1 C.2.1 (C.2.2.2.2.2.2.2.1.trans hr) hn (fun t ht hW => ⟨⟨x, σ, rfl, ⟨rfl, rfl⟩, by show va_P _ _ _ t.heap; rw [ht]; exact hP⟩, hS.F ht⟩) hS.2.2 hdg C.2.2.2.2.2.2.2.2.1
theorem g_callTi (C : Cx p s m args meth c own cc nL ret dC dI ad cy sz) {y : MethodName} {bytes : ByteArray} {maxL n index i : Nat} {rt : Option FieldType} {rm : Room} {As : List Value} {f : S0 → Option (Int32 × S0)} {r1 : Int32} {σ1 : S0} (hi : i < 7) (hM : ConI l y bytes maxL rt rm dC dI ad cy (.ref (ad (200 + i)) :: As) f) (hf : f σ = some (r1, σ1)) (hlk : Cond.methodLink own index y ∈ lw_w) (cal : CalV y RJ0 bytes maxL rt n) (hcs : nc ≤ R.cells ∧ ns ≤ R.slots) (hrm : rm.cells = 0 ∧ rm.slots = 0) (hR : rm.frames + 1 ≤ R.frames ∧ 8 + (maxL + 11) + rm.locals ≤ R.locals) {st : List Value} (hst : st = As.reverse ++ .ref (ad (200 + i)) :: rest) (hn : As.length = n) (hW : (rest.map fun v => v.category).sum ≤ 8) (hdg : decode cc pc = .ok (.invokevirtual index, 3)) (k : Gw p l e R s m args below meth c Q dC dI ad cy nL sz nc ns (pc + 3) lv (.int r1 :: rest) σ1) : Gw p l e R s m args below meth c Q dC dI ad cy nL sz nc ns pc lv st σ := by
  intro ls H locs hl hP hS
  have hA : ∀ q : Nat, q < H.size → AW ad H.size q → AW ad sz q := fun q h1 h2 => h2.elim Or.inl (fun h => absurd h1 (Nat.not_lt.mpr h))
  have hfr : ∀ q : Nat, AW ad H.size q → AW ad sz q := fun q h2 => h2.elim Or.inl (fun h => Or.inr (by have := hS.1; have := C.2.2.2.2.2.2.2.2.2.1; omega))
  refine va_calli (va_runV (As := As) (rest := rest) ⟨C.1, C.2.1, C.2.2.1, C.2.2.2.1, C.2.2.2.2.1⟩ (hM H.size σ r1 σ1 hf) (cwV n C.2.2.2.2.1 (calV_in hlk cal) rfl hrm.1 hrm.2 cal.2.2.2.2 hR) ⟨PreW_blind, vk_recv C.2.2.2.2.2.2.2.2.2.2.1 hi hS, fun U hU hW => ⟨rfl, by rw [hU], by rw [hU]; exact hP, va_K.moved hW.alike C.2.2.2.2.2.1, C.2.2.2.2.2.2.1, by rw [hU]; exact C.2.2.2.2.2.2.2.2.2.2.go hW hS.2.1 hfr⟩⟩ rfl hn hl.1 hst (lv_room hW) hdg hcs) hS hA hfr (fun r2 u t H1 locs1 ht hvm hw hB hz1 hk1 hS1 => ?_)
  obtain ⟨rfl, rfl⟩ := hw
  have hP1 : va_P (dC, dI) vwCl (wW ad cy _) t.heap := hB
  rw [ht] at hP1
  exact k ls H1 locs1 hl hP1 hS1
end GW3
def fJ3_checkIndex_8e157 (σ : S0) (a b : Int32) : Option (Int32 × S0) := if a < 0 then none else if a < b then some (a, σ) else none
abbrev rm_J3_checkIndex_8e157 : Room := { frames := 0, cells := 0, slots := 0, locals := 0 }
theorem c_J3_checkIndex_8e157 (l : Launch) (dC : Nat → ClassId) (dI : Nat → Nat → Nat) (ad : Nat → Nat) (cy : Nat → ClassId) (a b : Int32) (v : Value) (hv : v = .null ∨ ∃ t, v = .ref t) : ConI l yJ3_checkIndex_8e157 cJ3_checkIndex_8e157 3 (some .int) rm_J3_checkIndex_8e157 dC dI ad cy [.int a, .int b, v] (fun σ => fJ3_checkIndex_8e157 σ a b) := by
  refine con_i (own := RJ3) (by decide) rfl (by rcases hv with rfl | ⟨t, rfl⟩ <;> exact Nat.le_of_ble_eq_true rfl) (fun p e s m below meth c sz σ rr ρ C hf => ?_)
  have hf : fJ3_checkIndex_8e157 σ a b = some (rr, ρ) := hf
  unfold fJ3_checkIndex_8e157 at hf
  show Gw p l e _ s m _ below meth c _ dC dI ad cy 3 sz 0 0 0 [(0, .int a), (1, .int b), (2, v)] [] σ
  refine g_iload_n C dJ3_checkIndex_8e157_0 rfl 0 rfl ?_
  rcases oi_e hf with ⟨c1, hf⟩ | ⟨c1, hf⟩
  · cases hf
  · refine g_if_lt_f (tgt := 9) C dJ3_checkIndex_8e157_1 (by decide) c1 ?_
    refine g_iload_n C dJ3_checkIndex_8e157_4 rfl 0 rfl ?_
    refine g_iload_n C dJ3_checkIndex_8e157_5 rfl 1 rfl ?_
    rcases oi_e hf with ⟨c2, hf⟩ | ⟨c2, hf⟩
    · refine g_icmp_lt_t (tgt := 16) C dJ3_checkIndex_8e157_6 (by decide) c2 ?_
      refine g_iload_n C dJ3_checkIndex_8e157_16 rfl 0 rfl ?_
      obtain ⟨rfl, rfl⟩ := os_e hf
      exact g_iret C rfl dJ3_checkIndex_8e157_17
    · cases hf
theorem cal_J3_checkIndex_8e157 : CalS yJ3_checkIndex_8e157 cJ3_checkIndex_8e157 3 (some .int) 3 := ⟨hSt_J3_checkIndex_8e157, hIni_J3, hC_J3_checkIndex_8e157, by decide +kernel⟩
def fJ0_checkIndex_df160 (σ : S0) (a b : Int32) : Option (Int32 × S0) := obp (fJ3_checkIndex_8e157 σ a b) (fun _ σ1 => some (0, σ1))
abbrev rm_J0_checkIndex_df160 : Room := { frames := 1, cells := 0, slots := 0, locals := 22 }
theorem c_J0_checkIndex_df160 (l : Launch) (dC : Nat → ClassId) (dI : Nat → Nat → Nat) (ad : Nat → Nat) (cy : Nat → ClassId) (a b : Int32) : ConV l yJ0_checkIndex_df160 cJ0_checkIndex_df160 2 none rm_J0_checkIndex_df160 dC dI ad cy [.int a, .int b] (fun σ => fJ0_checkIndex_df160 σ a b) := by
  refine con_v (own := RJ0) (by decide) rfl (Nat.le_of_ble_eq_true rfl) (fun p e s m below meth c sz σ rr ρ C hf => ?_)
  have hf : fJ0_checkIndex_df160 σ a b = some (rr, ρ) := hf
  unfold fJ0_checkIndex_df160 at hf
  obtain ⟨r1, σ1, h1, hf⟩ := obp_e hf
  show Gw p l e _ s m _ below meth c _ dC dI ad cy 2 sz 0 0 0 [(0, .int a), (1, .int b)] [] σ
  refine g_iload_n C dJ0_checkIndex_df160_0 rfl 0 rfl ?_
  refine g_iload_n C dJ0_checkIndex_df160_1 rfl 1 rfl ?_
  refine g_fmt C hF_J0_1053 dJ0_checkIndex_df160_2 (fun v hv => ?_)
  refine g_callSi (As := [.int a, .int b, v]) (rest := []) C (c_J3_checkIndex_8e157 l dC dI ad cy a b v hv) h1 hM_J0_1059 cal_J3_checkIndex_8e157 ⟨Nat.zero_le _, Nat.zero_le _⟩ ⟨rfl, rfl⟩ ⟨Nat.le_of_ble_eq_true rfl, Nat.le_of_ble_eq_true rfl⟩ rfl rfl (Nat.le_of_ble_eq_true rfl) dJ0_checkIndex_df160_5 ?_
  refine g_pop C dJ0_checkIndex_df160_8 rfl ?_
  obtain ⟨rfl, rfl⟩ := os_e hf
  exact g_vret C rfl dJ0_checkIndex_df160_9
theorem cal_J0_checkIndex_df160 : CalS yJ0_checkIndex_df160 cJ0_checkIndex_df160 2 none 2 := ⟨hSt_J0_checkIndex_df160, hIni_J0, hC_J0_checkIndex_df160, by decide +kernel⟩
end
