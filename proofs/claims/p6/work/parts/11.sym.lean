def isRow (n k : Nat) : Prop := k < 111 ∧ ∀ (ad : Nat → Nat) (cy : Nat → ClassId) (f : Nat → Int32), wc ad cy k f = .inl (cy 0, n, .inl f)
theorem s_row {n k : Nat} (h : isRow n k) (ad : Nat → Nat) (cy : Nat → ClassId) (σ : S0) : (wW ad cy σ)[k]? = some (ad k, .inl (cy 0, n, .inl (σ k))) := by rw [wW_at ad cy σ k h.1, h.2]
theorem ws_row {n k : Nat} (h : isRow n k) (ad : Nat → Nat) (cy : Nat → ClassId) (f : Nat → Int32) : (.inl (cy 0, n, .inl f) : va_E) = wc ad cy k f := (h.2 ad cy f).symm
def isOut (cq n b d k : Nat) : Prop := k < 111 ∧ ∀ (ad : Nat → Nat) (cy : Nat → ClassId) (f : Nat → Int32), wc ad cy k f = .inl (cy cq, n, .inr (.inr (.inr (.inr (rfA ad n b d)))))
theorem s_out {cq n b d k : Nat} (h : isOut cq n b d k) (ad : Nat → Nat) (cy : Nat → ClassId) (σ : S0) : (wW ad cy σ)[k]? = some (ad k, .inl (cy cq, n, .inr (.inr (.inr (.inr (rfA ad n b d)))))) := by rw [wW_at ad cy σ k h.1, h.2]
theorem ix_lt {x : Int32} {n : Nat} (h : ¬ (x < 0 ∨ n ≤ x.toNatClampNeg)) : x.toNatClampNeg < n := Nat.not_le.mp (fun q => h (Or.inr q))
theorem r_5 : isRow 6 5 := ⟨by decide, fun _ _ _ => rfl⟩
theorem r_6 : isRow 6 6 := ⟨by decide, fun _ _ _ => rfl⟩
theorem r_8 : isRow 12 8 := ⟨by decide, fun _ _ _ => rfl⟩
theorem r_9 : isRow 12 9 := ⟨by decide, fun _ _ _ => rfl⟩
theorem r_10 : isRow 12 10 := ⟨by decide, fun _ _ _ => rfl⟩
theorem r_11 : isRow 12 11 := ⟨by decide, fun _ _ _ => rfl⟩
theorem r_12 : isRow 12 12 := ⟨by decide, fun _ _ _ => rfl⟩
theorem r_13 : isRow 12 13 := ⟨by decide, fun _ _ _ => rfl⟩
theorem r_15 : isRow 12 15 := ⟨by decide, fun _ _ _ => rfl⟩
theorem r_16 : isRow 12 16 := ⟨by decide, fun _ _ _ => rfl⟩
theorem r_17 : isRow 12 17 := ⟨by decide, fun _ _ _ => rfl⟩
theorem r_18 : isRow 12 18 := ⟨by decide, fun _ _ _ => rfl⟩
theorem r_19 : isRow 12 19 := ⟨by decide, fun _ _ _ => rfl⟩
theorem r_20 : isRow 6 20 := ⟨by decide, fun _ _ _ => rfl⟩
theorem r_21 : isRow 12 21 := ⟨by decide, fun _ _ _ => rfl⟩
theorem r_23 : isRow 6 23 := ⟨by decide, fun _ _ _ => rfl⟩
theorem r_24 : isRow 6 24 := ⟨by decide, fun _ _ _ => rfl⟩
theorem r_26 : isRow 12 26 := ⟨by decide, fun _ _ _ => rfl⟩
theorem r_27 : isRow 12 27 := ⟨by decide, fun _ _ _ => rfl⟩
theorem r_28 : isRow 12 28 := ⟨by decide, fun _ _ _ => rfl⟩
theorem r_29 : isRow 12 29 := ⟨by decide, fun _ _ _ => rfl⟩
theorem r_30 : isRow 12 30 := ⟨by decide, fun _ _ _ => rfl⟩
theorem r_31 : isRow 12 31 := ⟨by decide, fun _ _ _ => rfl⟩
theorem r_33 : isRow 12 33 := ⟨by decide, fun _ _ _ => rfl⟩
theorem r_34 : isRow 12 34 := ⟨by decide, fun _ _ _ => rfl⟩
theorem r_35 : isRow 12 35 := ⟨by decide, fun _ _ _ => rfl⟩
theorem r_36 : isRow 12 36 := ⟨by decide, fun _ _ _ => rfl⟩
theorem r_37 : isRow 12 37 := ⟨by decide, fun _ _ _ => rfl⟩
theorem r_38 : isRow 6 38 := ⟨by decide, fun _ _ _ => rfl⟩
theorem r_39 : isRow 12 39 := ⟨by decide, fun _ _ _ => rfl⟩
theorem r_42 : isRow 6 42 := ⟨by decide, fun _ _ _ => rfl⟩
theorem r_43 : isRow 6 43 := ⟨by decide, fun _ _ _ => rfl⟩
theorem r_44 : isRow 6 44 := ⟨by decide, fun _ _ _ => rfl⟩
theorem r_45 : isRow 6 45 := ⟨by decide, fun _ _ _ => rfl⟩
theorem r_47 : isRow 6 47 := ⟨by decide, fun _ _ _ => rfl⟩
theorem r_49 : isRow 6 49 := ⟨by decide, fun _ _ _ => rfl⟩
theorem r_50 : isRow 6 50 := ⟨by decide, fun _ _ _ => rfl⟩
theorem r_51 : isRow 6 51 := ⟨by decide, fun _ _ _ => rfl⟩
theorem r_52 : isRow 6 52 := ⟨by decide, fun _ _ _ => rfl⟩
theorem r_53 : isRow 6 53 := ⟨by decide, fun _ _ _ => rfl⟩
theorem r_54 : isRow 6 54 := ⟨by decide, fun _ _ _ => rfl⟩
theorem r_57 : isRow 12 57 := ⟨by decide, fun _ _ _ => rfl⟩
theorem r_58 : isRow 12 58 := ⟨by decide, fun _ _ _ => rfl⟩
theorem r_59 : isRow 12 59 := ⟨by decide, fun _ _ _ => rfl⟩
theorem r_60 : isRow 12 60 := ⟨by decide, fun _ _ _ => rfl⟩
theorem r_61 : isRow 12 61 := ⟨by decide, fun _ _ _ => rfl⟩
theorem r_62 : isRow 12 62 := ⟨by decide, fun _ _ _ => rfl⟩
theorem r_63 : isRow 12 63 := ⟨by decide, fun _ _ _ => rfl⟩
theorem r_64 : isRow 12 64 := ⟨by decide, fun _ _ _ => rfl⟩
theorem r_65 : isRow 12 65 := ⟨by decide, fun _ _ _ => rfl⟩
theorem r_66 : isRow 12 66 := ⟨by decide, fun _ _ _ => rfl⟩
theorem r_67 : isRow 12 67 := ⟨by decide, fun _ _ _ => rfl⟩
theorem r_68 : isRow 12 68 := ⟨by decide, fun _ _ _ => rfl⟩
theorem r_69 : isRow 12 69 := ⟨by decide, fun _ _ _ => rfl⟩
theorem r_75 : isRow 12 75 := ⟨by decide, fun _ _ _ => rfl⟩
theorem r_76 : isRow 12 76 := ⟨by decide, fun _ _ _ => rfl⟩
theorem r_77 : isRow 12 77 := ⟨by decide, fun _ _ _ => rfl⟩
theorem r_78 : isRow 12 78 := ⟨by decide, fun _ _ _ => rfl⟩
theorem r_79 : isRow 12 79 := ⟨by decide, fun _ _ _ => rfl⟩
theorem r_80 : isRow 6 80 := ⟨by decide, fun _ _ _ => rfl⟩
theorem r_81 : isRow 12 81 := ⟨by decide, fun _ _ _ => rfl⟩
theorem r_83 : isRow 12 83 := ⟨by decide, fun _ _ _ => rfl⟩
theorem r_84 : isRow 12 84 := ⟨by decide, fun _ _ _ => rfl⟩
theorem r_85 : isRow 12 85 := ⟨by decide, fun _ _ _ => rfl⟩
theorem r_86 : isRow 12 86 := ⟨by decide, fun _ _ _ => rfl⟩
theorem r_87 : isRow 12 87 := ⟨by decide, fun _ _ _ => rfl⟩
theorem r_88 : isRow 6 88 := ⟨by decide, fun _ _ _ => rfl⟩
theorem r_89 : isRow 12 89 := ⟨by decide, fun _ _ _ => rfl⟩
theorem r_91 : isRow 40 91 := ⟨by decide, fun _ _ _ => rfl⟩
theorem r_93 : isRow 40 93 := ⟨by decide, fun _ _ _ => rfl⟩
theorem r_95 : isRow 40 95 := ⟨by decide, fun _ _ _ => rfl⟩
theorem r_97 : isRow 40 97 := ⟨by decide, fun _ _ _ => rfl⟩
theorem r_99 : isRow 240 99 := ⟨by decide, fun _ _ _ => rfl⟩
theorem r_101 : isRow 84 101 := ⟨by decide, fun _ _ _ => rfl⟩
theorem r_102 : isRow 80 102 := ⟨by decide, fun _ _ _ => rfl⟩
theorem r_103 : isRow 84 103 := ⟨by decide, fun _ _ _ => rfl⟩
theorem r_104 : isRow 320 104 := ⟨by decide, fun _ _ _ => rfl⟩
theorem r_105 : isRow 6 105 := ⟨by decide, fun _ _ _ => rfl⟩
theorem r_106 : isRow 12 106 := ⟨by decide, fun _ _ _ => rfl⟩
theorem r_107 : isRow 156 107 := ⟨by decide, fun _ _ _ => rfl⟩
theorem r_108 : isRow 4 108 := ⟨by decide, fun _ _ _ => rfl⟩
theorem r_109 : isRow 4 109 := ⟨by decide, fun _ _ _ => rfl⟩
theorem r_110 : isRow 160 110 := ⟨by decide, fun _ _ _ => rfl⟩
def isChimes (k : Nat) : Prop := (k < 111 ∧ ∀ (ad : Nat → Nat) (cy : Nat → ClassId) (f : Nat → Int32), wc ad cy k f = .inr (1, [.int (f 0), .ref (ad (k + 1)), .ref (ad (k + 2)), .ref (ad (k + 3)), .ref (ad (k + 4)), .ref (ad (k + 5)), .ref (ad (k + 6)), .int (f 7), .ref (ad (k + 7))])) ∧ isRow 12 (k + 1) ∧ isRow 12 (k + 2) ∧ isRow 12 (k + 3) ∧ isRow 12 (k + 4) ∧ isRow 12 (k + 5) ∧ isRow 6 (k + 6) ∧ isRow 12 (k + 7)
theorem isChimes.r1 {k : Nat} (h : isChimes k) : isRow 12 (k + 1) := h.2.1
theorem isChimes.r2 {k : Nat} (h : isChimes k) : isRow 12 (k + 2) := h.2.2.1
theorem isChimes.r3 {k : Nat} (h : isChimes k) : isRow 12 (k + 3) := h.2.2.2.1
theorem isChimes.r4 {k : Nat} (h : isChimes k) : isRow 12 (k + 4) := h.2.2.2.2.1
theorem isChimes.r5 {k : Nat} (h : isChimes k) : isRow 12 (k + 5) := h.2.2.2.2.2.1
theorem isChimes.r6 {k : Nat} (h : isChimes k) : isRow 6 (k + 6) := h.2.2.2.2.2.2.1
theorem isChimes.r7 {k : Nat} (h : isChimes k) : isRow 12 (k + 7) := h.2.2.2.2.2.2.2
theorem s_isChimes {k : Nat} (h : isChimes k) (ad : Nat → Nat) (cy : Nat → ClassId) (σ : S0) : (wW ad cy σ)[k]? = some (ad k, .inr (1, [.int (σ k 0), .ref (ad (k + 1)), .ref (ad (k + 2)), .ref (ad (k + 3)), .ref (ad (k + 4)), .ref (ad (k + 5)), .ref (ad (k + 6)), .int (σ k 7), .ref (ad (k + 7))])) := by rw [wW_at ad cy σ k h.1.1, h.1.2]
theorem ps_isChimes_0 {k : Nat} (h : isChimes k) (ad : Nat → Nat) (cy : Nat → ClassId) (σ : S0) (v : Int32) : (.inr (1, ([.int (σ k 0), .ref (ad (k + 1)), .ref (ad (k + 2)), .ref (ad (k + 3)), .ref (ad (k + 4)), .ref (ad (k + 5)), .ref (ad (k + 6)), .int (σ k 7), .ref (ad (k + 7))] : List Value).set 0 (.int v)) : va_E) = wc ad cy k (upd (σ k) 0 v) := by rw [h.1.2]; rfl
theorem ps_isChimes_7 {k : Nat} (h : isChimes k) (ad : Nat → Nat) (cy : Nat → ClassId) (σ : S0) (v : Int32) : (.inr (1, ([.int (σ k 0), .ref (ad (k + 1)), .ref (ad (k + 2)), .ref (ad (k + 3)), .ref (ad (k + 4)), .ref (ad (k + 5)), .ref (ad (k + 6)), .int (σ k 7), .ref (ad (k + 7))] : List Value).set 7 (.int v)) : va_E) = wc ad cy k (upd (σ k) 7 v) := by rw [h.1.2]; rfl
theorem k_isChimes_14 : isChimes 14 := ⟨⟨by decide, fun _ _ _ => rfl⟩, r_15, r_16, r_17, r_18, r_19, r_20, r_21⟩
theorem k_isChimes_32 : isChimes 32 := ⟨⟨by decide, fun _ _ _ => rfl⟩, r_33, r_34, r_35, r_36, r_37, r_38, r_39⟩
theorem k_isChimes_74 : isChimes 74 := ⟨⟨by decide, fun _ _ _ => rfl⟩, r_75, r_76, r_77, r_78, r_79, r_80, r_81⟩
theorem k_isChimes_82 : isChimes 82 := ⟨⟨by decide, fun _ _ _ => rfl⟩, r_83, r_84, r_85, r_86, r_87, r_88, r_89⟩
def isTown (k : Nat) : Prop := (k < 111 ∧ ∀ (ad : Nat → Nat) (cy : Nat → ClassId) (f : Nat → Int32), wc ad cy k f = .inr (9, [.int (f 0), .int (f 1), .int (f 2), .ref (ad (k + 1)), .ref (ad (k + 2)), .ref (ad (k + 3)), .ref (ad (k + 10))])) ∧ isRow 6 (k + 1) ∧ isRow 6 (k + 2) ∧ isOut 3 6 (k + 4) 1 (k + 3) ∧ (∀ i, i < 6 → isRow 12 (k + 4 + 1 * i)) ∧ isChimes (k + 10)
theorem isTown.r1 {k : Nat} (h : isTown k) : isRow 6 (k + 1) := h.2.1
theorem isTown.r2 {k : Nat} (h : isTown k) : isRow 6 (k + 2) := h.2.2.1
theorem isTown.r3 {k : Nat} (h : isTown k) : isOut 3 6 (k + 4) 1 (k + 3) := h.2.2.2.1
theorem isTown.ri {k : Nat} (h : isTown k) : (∀ i, i < 6 → isRow 12 (k + 4 + 1 * i)) := h.2.2.2.2.1
theorem isTown.ch {k : Nat} (h : isTown k) : isChimes (k + 10) := h.2.2.2.2.2
theorem s_isTown {k : Nat} (h : isTown k) (ad : Nat → Nat) (cy : Nat → ClassId) (σ : S0) : (wW ad cy σ)[k]? = some (ad k, .inr (9, [.int (σ k 0), .int (σ k 1), .int (σ k 2), .ref (ad (k + 1)), .ref (ad (k + 2)), .ref (ad (k + 3)), .ref (ad (k + 10))])) := by rw [wW_at ad cy σ k h.1.1, h.1.2]
theorem ps_isTown_0 {k : Nat} (h : isTown k) (ad : Nat → Nat) (cy : Nat → ClassId) (σ : S0) (v : Int32) : (.inr (9, ([.int (σ k 0), .int (σ k 1), .int (σ k 2), .ref (ad (k + 1)), .ref (ad (k + 2)), .ref (ad (k + 3)), .ref (ad (k + 10))] : List Value).set 0 (.int v)) : va_E) = wc ad cy k (upd (σ k) 0 v) := by rw [h.1.2]; rfl
theorem ps_isTown_1 {k : Nat} (h : isTown k) (ad : Nat → Nat) (cy : Nat → ClassId) (σ : S0) (v : Int32) : (.inr (9, ([.int (σ k 0), .int (σ k 1), .int (σ k 2), .ref (ad (k + 1)), .ref (ad (k + 2)), .ref (ad (k + 3)), .ref (ad (k + 10))] : List Value).set 1 (.int v)) : va_E) = wc ad cy k (upd (σ k) 1 v) := by rw [h.1.2]; rfl
theorem ps_isTown_2 {k : Nat} (h : isTown k) (ad : Nat → Nat) (cy : Nat → ClassId) (σ : S0) (v : Int32) : (.inr (9, ([.int (σ k 0), .int (σ k 1), .int (σ k 2), .ref (ad (k + 1)), .ref (ad (k + 2)), .ref (ad (k + 3)), .ref (ad (k + 10))] : List Value).set 2 (.int v)) : va_E) = wc ad cy k (upd (σ k) 2 v) := by rw [h.1.2]; rfl
theorem k_isTown_4 : isTown 4 := ⟨⟨by decide, fun _ _ _ => rfl⟩, r_5, r_6, ⟨by decide, fun _ _ _ => rfl⟩, (fun i hi => by rcases (show i = 0 ∨ i = 1 ∨ i = 2 ∨ i = 3 ∨ i = 4 ∨ i = 5 by omega) with rfl | rfl | rfl | rfl | rfl | rfl <;> exact ⟨by decide, fun _ _ _ => rfl⟩), k_isChimes_14⟩
theorem k_isTown_22 : isTown 22 := ⟨⟨by decide, fun _ _ _ => rfl⟩, r_23, r_24, ⟨by decide, fun _ _ _ => rfl⟩, (fun i hi => by rcases (show i = 0 ∨ i = 1 ∨ i = 2 ∨ i = 3 ∨ i = 4 ∨ i = 5 by omega) with rfl | rfl | rfl | rfl | rfl | rfl <;> exact ⟨by decide, fun _ _ _ => rfl⟩), k_isChimes_32⟩
def isSheet (k : Nat) : Prop := (k < 111 ∧ ∀ (ad : Nat → Nat) (cy : Nat → ClassId) (f : Nat → Int32), wc ad cy k f = .inr (7, [.int (f 0), .int (f 1), .ref (ad (k + 1))])) ∧ isRow 40 (k + 1)
theorem isSheet.r1 {k : Nat} (h : isSheet k) : isRow 40 (k + 1) := h.2
theorem s_isSheet {k : Nat} (h : isSheet k) (ad : Nat → Nat) (cy : Nat → ClassId) (σ : S0) : (wW ad cy σ)[k]? = some (ad k, .inr (7, [.int (σ k 0), .int (σ k 1), .ref (ad (k + 1))])) := by rw [wW_at ad cy σ k h.1.1, h.1.2]
theorem ps_isSheet_0 {k : Nat} (h : isSheet k) (ad : Nat → Nat) (cy : Nat → ClassId) (σ : S0) (v : Int32) : (.inr (7, ([.int (σ k 0), .int (σ k 1), .ref (ad (k + 1))] : List Value).set 0 (.int v)) : va_E) = wc ad cy k (upd (σ k) 0 v) := by rw [h.1.2]; rfl
theorem ps_isSheet_1 {k : Nat} (h : isSheet k) (ad : Nat → Nat) (cy : Nat → ClassId) (σ : S0) (v : Int32) : (.inr (7, ([.int (σ k 0), .int (σ k 1), .ref (ad (k + 1))] : List Value).set 1 (.int v)) : va_E) = wc ad cy k (upd (σ k) 1 v) := by rw [h.1.2]; rfl
theorem k_isSheet_90 : isSheet 90 := ⟨⟨by decide, fun _ _ _ => rfl⟩, r_91⟩
theorem k_isSheet_92 : isSheet 92 := ⟨⟨by decide, fun _ _ _ => rfl⟩, r_93⟩
theorem k_isSheet_94 : isSheet 94 := ⟨⟨by decide, fun _ _ _ => rfl⟩, r_95⟩
theorem k_isSheet_96 : isSheet 96 := ⟨⟨by decide, fun _ _ _ => rfl⟩, r_97⟩
theorem isTown.ro {k q : Nat} {x : Int32} (h : isTown k) (hx : ¬ (x < 0 ∨ 6 ≤ x.toNatClampNeg)) (e : q = k + 4 + 1 * x.toNatClampNeg) : isRow 12 q := e ▸ h.ri _ (ix_lt hx)
theorem o_7 {q : Nat} {x : Int32} (hx : ¬ (x < 0 ∨ 6 ≤ x.toNatClampNeg)) (e : q = 8 + 1 * x.toNatClampNeg) : isRow 12 q := by
  have hi := ix_lt hx
  generalize x.toNatClampNeg = i at hi e
  subst e
  rcases (show i = 0 ∨ i = 1 ∨ i = 2 ∨ i = 3 ∨ i = 4 ∨ i = 5 by omega) with rfl | rfl | rfl | rfl | rfl | rfl
  · exact r_8
  · exact r_9
  · exact r_10
  · exact r_11
  · exact r_12
  · exact r_13
theorem o_25 {q : Nat} {x : Int32} (hx : ¬ (x < 0 ∨ 6 ≤ x.toNatClampNeg)) (e : q = 26 + 1 * x.toNatClampNeg) : isRow 12 q := by
  have hi := ix_lt hx
  generalize x.toNatClampNeg = i at hi e
  subst e
  rcases (show i = 0 ∨ i = 1 ∨ i = 2 ∨ i = 3 ∨ i = 4 ∨ i = 5 by omega) with rfl | rfl | rfl | rfl | rfl | rfl
  · exact r_26
  · exact r_27
  · exact r_28
  · exact r_29
  · exact r_30
  · exact r_31
theorem o_48 {q : Nat} {x : Int32} (hx : ¬ (x < 0 ∨ 6 ≤ x.toNatClampNeg)) (e : q = 49 + 1 * x.toNatClampNeg) : isRow 6 q := by
  have hi := ix_lt hx
  generalize x.toNatClampNeg = i at hi e
  subst e
  rcases (show i = 0 ∨ i = 1 ∨ i = 2 ∨ i = 3 ∨ i = 4 ∨ i = 5 by omega) with rfl | rfl | rfl | rfl | rfl | rfl
  · exact r_49
  · exact r_50
  · exact r_51
  · exact r_52
  · exact r_53
  · exact r_54
theorem o_56 {q : Nat} {x : Int32} (hx : ¬ (x < 0 ∨ 12 ≤ x.toNatClampNeg)) (e : q = 57 + 1 * x.toNatClampNeg) : isRow 12 q := by
  have hi := ix_lt hx
  generalize x.toNatClampNeg = i at hi e
  subst e
  rcases (show i = 0 ∨ i = 1 ∨ i = 2 ∨ i = 3 ∨ i = 4 ∨ i = 5 ∨ i = 6 ∨ i = 7 ∨ i = 8 ∨ i = 9 ∨ i = 10 ∨ i = 11 by omega) with rfl | rfl | rfl | rfl | rfl | rfl | rfl | rfl | rfl | rfl | rfl | rfl
  · exact r_57
  · exact r_58
  · exact r_59
  · exact r_60
  · exact r_61
  · exact r_62
  · exact r_63
  · exact r_64
  · exact r_65
  · exact r_66
  · exact r_67
  · exact r_68
theorem o_71 {q : Nat} {x : Int32} (hx : ¬ (x < 0 ∨ 2 ≤ x.toNatClampNeg)) (e : q = 74 + 8 * x.toNatClampNeg) : isChimes q := by
  have hi := ix_lt hx
  generalize x.toNatClampNeg = i at hi e
  subst e
  rcases (show i = 0 ∨ i = 1 by omega) with rfl | rfl
  · exact k_isChimes_74
  · exact k_isChimes_82
theorem o_73 {q : Nat} {x : Int32} (hx : ¬ (x < 0 ∨ 4 ≤ x.toNatClampNeg)) (e : q = 90 + 2 * x.toNatClampNeg) : isSheet q := by
  have hi := ix_lt hx
  generalize x.toNatClampNeg = i at hi e
  subst e
  rcases (show i = 0 ∨ i = 1 ∨ i = 2 ∨ i = 3 by omega) with rfl | rfl | rfl | rfl
  · exact k_isSheet_90
  · exact k_isSheet_92
  · exact k_isSheet_94
  · exact k_isSheet_96
section GW2
variable {p : Program} {l : Launch} {e : Env} {R : Room} {s : State} {m : MethodId} {args : Array Value} {below : List Frame} {meth : Method} {c : Code} {Q : State → Prop} {dC : Nat → ClassId} {dI : Nat → Nat → Nat} {ad : Nat → Nat} {cy : Nat → ClassId} {nL sz nc ns : Nat} {own : String} {cc : ByteArray} {ret : Option FieldType} {pc : Nat} {lv : List (Nat × Value)} {rest : List Value} {σ : S0}
theorem g_alen (C : Cx p s m args meth c own cc nL ret dC dI ad cy sz) {kc n : Nat} {f : Nat → Int32} {v : Int32} (he : (wW ad cy σ)[kc]? = some (ad kc, .inl (cy 0, n, .inl f))) (hv : Int32.ofNat n = v) (hdg : decode cc pc = .ok (.arraylength, 1)) (k : Gw p l e R s m args below meth c Q dC dI ad cy nL sz nc ns (pc + 1) lv (.int v :: rest) σ) : Gw p l e R s m args below meth c Q dC dI ad cy nL sz nc ns pc lv (.ref (ad kc) :: rest) σ := fun ls H locs hl hP hS => va_alen C.1 C.2.1 C.2.2.2.2.2.1 hP kc 0 he (ty := .int) rfl hv hdg (k ls H locs hl hP hS)
theorem g_copy (C : Cx p s m args meth c own cc nL ret dC dI ad cy sz) {index ks kd n0 n1 : Nat} {f g : Nat → Int32} {n : Int32} {σ2 : S0} (hlk : Cond.methodLink own index arraycopyName ∈ lw_w) (hs : (wW ad cy σ)[ks]? = some (ad ks, .inl (cy 0, n0, .inl f))) (hd : (wW ad cy σ)[kd]? = some (ad kd, .inl (cy 0, n1, .inl g))) (h3 : ¬ n < 0) (h4 : n.toNatClampNeg ≤ n0) (h5 : n.toNatClampNeg ≤ n1) (hR : 1 ≤ R.frames ∧ (rest.map fun v => v.category).sum + (nativeFrameWords "java/lang/System" "arraycopy" 5 + 11) ≤ R.locals) (hw : ∀ f : Nat → Int32, (.inl (cy 0, n1, .inl f) : va_E) = wc ad cy kd f) (hσ : σ2 = va_up σ kd (va_cpy f g 0 0 n.toNatClampNeg)) (hdg : decode cc pc = .ok (.invokestatic index, 3)) (k : Gw p l e R s m args below meth c Q dC dI ad cy nL sz nc ns (pc + 3) lv rest σ2) : Gw p l e R s m args below meth c Q dC dI ad cy nL sz nc ns pc lv (.int n :: .int 0 :: .ref (ad kd) :: .int 0 :: .ref (ad ks) :: rest) σ := by
  intro ls H locs hl hP hS
  have hnat : (Cond.native arraycopyName).before args s = true := C.2.2.2.2.1 _ hNa_copy
  refine va_copyi C.1 C.2.1 (C.2.2.1.trans hl.1.symm) C.2.2.2.1 (C.2.2.2.2.1 _ hlk) hnat (C.2.2.2.2.1 _ hSt_copy) (C.2.2.2.2.1 _ hIni_J10) C.2.2.2.2.2.1 hP (wD C.2.2.2.2.2.2.1 cy σ sz) hS ks kd 0 0 hs hd (ty := .int) rfl rfl rfl (by decide) (by decide) h3 (by simpa using h4) (by simpa using h5) (fun _ _ => rfl) hR.1 hR.2 hdg (fun H1 locs1 hP1 _ hS1 => k ls H1 locs1 hl ?_ hS1)
  rw [hw, wW_set] at hP1
  rw [hσ]
  exact hP1
theorem g_lookup (C : Cx p s m args meth c own cc nL ret dC dI ad cy sz) {dflt : Int} {ps : Array (Int × Int)} {len : Nat} {x : Int32} {off : Int} {tgt : Nat} (hdg : decode cc pc = .ok (.lookupswitch dflt ps, len)) (hp : (ps.toList.zip (ps.toList.drop 1)).all (fun (a, next) => a.1 < next.1) = true) (ho : Op.lookupswitch.offset ps.toList dflt x.toInt = off) (ht : (pc : Int) + off = (tgt : Int)) (k : Gw p l e R s m args below meth c Q dC dI ad cy nL sz nc ns tgt lv rest σ) : Gw p l e R s m args below meth c Q dC dI ad cy nL sz nc ns pc lv (.int x :: rest) σ := fun ls H locs hl hP hS => lv_lookup C.1 C.2.1 hdg hp ho ht (k ls H locs hl hP hS)
theorem lk_ne {x a : Int32} {z : Int} (hz : a.toInt = z) (h : ¬ x = a) : ¬ z = x.toInt := fun e => h (Int32.toInt_inj.mp (by rw [hz, e]))
theorem g_abs (C : Cx p s m args meth c own cc nL ret dC dI ad cy sz) {index : Nat} {x : Int32} (hlk : Cond.methodLink own index Lib.Math.abs.name ∈ lw_w) (hst : Cond.static Lib.Math.abs.name ∈ lw_w) (hcd : Cond.code Lib.Math.abs.name Lib.Math.abs.code 1 (some .int) ∈ lw_w) (hcs : nc ≤ R.cells ∧ ns ≤ R.slots) (hR : 1 ≤ R.frames ∧ (rest.map fun v => v.category).sum + 13 ≤ R.locals) (hdg : decode cc pc = .ok (.invokestatic index, 3)) (k : Gw p l e R s m args below meth c Q dC dI ad cy nL sz nc ns (pc + 3) lv (.int (if 0 ≤ x then x else 0 - x) :: rest) σ) : Gw p l e R s m args below meth c Q dC dI ad cy nL sz nc ns pc lv (.int x :: rest) σ := fun ls H locs hl hP hS => va_mabs C.1 C.2.1 (C.2.2.1.trans hl.1.symm) C.2.2.2.1 (C.2.2.2.2.1 _ hlk) (C.2.2.2.2.1 _ hst) (C.2.2.2.2.1 _ hIni_J9) (C.2.2.2.2.1 _ hcd) hR.1 hR.2 hcs.1 hcs.2 hdg (k ls H locs hl hP hS)
end GW2
