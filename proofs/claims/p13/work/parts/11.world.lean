/-! a world of either kind: what holds of the heap, what holds of the tables, contracts over it -/
def hW (cnt : Nat → Nat) (g : (Nat → ClassId) → QL → QS → Int64 → Nat → Nat → va_E) (D : va_G) (B : Nat → ClassId) (L : QL) (σ : QS) (τ : Int64) (H : Heap) : Prop := qh D vwCl cnt L (g B L σ τ) H
abbrev tyW (B : Nat → ClassId) : List (ClassId × FieldType) := [(B 0, .int), (B 1, .boolean), (B 2, .object RX0), (B 3, .object RX2)]
def kW (cnt : Nat → Nat) (D : va_G) (B : Nat → ClassId) (L : QL) (A : Nat → Prop) (s : State) : Prop := va_K D vwCl (tyW B) s ∧ qj cnt L A ∧ va_Nw (.methodLinkNest RX0 46 yX4_isIn "CarrierNet") s
def cntC : Nat → Nat := fun k => match k with
  | 0 => 1
  | 1 => 1
  | 2 => 1
  | 3 => 1
  | 4 => 1
  | 5 => 1
  | 6 => 1
  | 7 => 1
  | 8 => 1
  | 9 => 1
  | 10 => 1
  | 11 => 1
  | 12 => 1
  | 13 => 1
  | 14 => 12
  | 15 => 12
  | 16 => 12
  | 17 => 12
  | 18 => 12
  | 19 => 12
  | 20 => 60
  | 21 => 60
  | _ => 0
def gC (B : Nat → ClassId) (L : QL) (σ : QS) (τ : Int64) : Nat → Nat → va_E := fun k i => match k with
  | 0 => .inr (4, [.ref (L 2 i), .ref (L 9 i), .ref (L 1 i), .int (σ 0 i 0), .int (σ 1 i 0), .int (σ 2 i 0)])
  | 1 => .inl (B 3, 60, .inr (.inr (.inr (.inr (fun j => some (L 20 j))))))
  | 2 => .inr (3, [.ref (L 3 i), .int (σ 3 i 0), .int (σ 4 i 0), .ref (L 4 i), .ref (L 5 i), .ref (L 6 i), .ref (L 7 i), .ref (L 8 i), .int (σ 5 i 0)])
  | 3 => .inl (B 2, 12, .inr (.inr (.inr (.inr (fun j => some (L 14 j))))))
  | 4 => .inl (B 0, 72, .inl (σ 6 i))
  | 5 => .inl (B 0, 25, .inl (σ 7 i))
  | 6 => .inl (B 0, 12, .inl (σ 8 i))
  | 7 => .inl (B 0, 12, .inl (σ 9 i))
  | 8 => .inl (B 0, 12, .inl (σ 10 i))
  | 9 => .inr (1, [.ref (L 10 i), .ref (L 11 i), .ref (L 12 i), .ref (L 13 i), .int (σ 15 i 0), .int (σ 16 i 0), .int (σ 17 i 0), .int (σ 18 i 0), .int (σ 19 i 0), .int (σ 20 i 0), .long τ])
  | 10 => .inl (B 0, 81, .inl (σ 11 i))
  | 11 => .inl (B 0, 9, .inl (σ 12 i))
  | 12 => .inl (B 0, 9, .inl (σ 13 i))
  | 13 => .inl (B 0, 2304, .inl (σ 14 i))
  | 14 => .inr (0, [.int (σ 21 i 0), .int (σ 22 i 0), .int (σ 23 i 0), .int (σ 24 i 0), .int (σ 25 i 0), .int (σ 26 i 0), .ref (L 15 i), .ref (L 16 i), .ref (L 17 i), .ref (L 18 i), .ref (L 19 i)])
  | 15 => .inl (B 0, 6, .inl (σ 27 i))
  | 16 => .inl (B 0, 6, .inl (σ 28 i))
  | 17 => .inl (B 0, 10, .inl (σ 29 i))
  | 18 => .inl (B 0, 4, .inl (σ 30 i))
  | 19 => .inl (B 0, 4, .inl (σ 31 i))
  | 20 => .inr (2, [.int (σ 32 i 0), .int (σ 33 i 0), .int (σ 34 i 0), .int (σ 35 i 0), .int (σ 36 i 0), .int (σ 37 i 0), .int (σ 38 i 0), .int (σ 39 i 0), .int (σ 40 i 0), .int (σ 41 i 0), .int (σ 42 i 0), .ref (L 21 i)])
  | 21 => .inl (B 0, 12, .inl (σ 43 i))
  | _ => .inr (0, [])
theorem gC_u0 (B : Nat → ClassId) (L : QL) (σ : QS) (τ : Int64) (i : Nat) (x : Int32) : q2 (gC B L σ τ) 0 i (.inr (4, [.ref (L 2 i), .ref (L 9 i), .ref (L 1 i), .int x, .int (σ 1 i 0), .int (σ 2 i 0)])) = gC B L (rs σ 0 i (fun _ => x)) τ := by
  funext a b
  unfold q2
  by_cases h : a = 0 ∧ b = i
  · obtain ⟨rfl, rfl⟩ := h
    simp [gC, rs]
  · simp only [h, if_false]
    simp only [gC]
    split <;> simp_all [rs]
theorem gC_u1 (B : Nat → ClassId) (L : QL) (σ : QS) (τ : Int64) (i : Nat) (x : Int32) : q2 (gC B L σ τ) 0 i (.inr (4, [.ref (L 2 i), .ref (L 9 i), .ref (L 1 i), .int (σ 0 i 0), .int x, .int (σ 2 i 0)])) = gC B L (rs σ 1 i (fun _ => x)) τ := by
  funext a b
  unfold q2
  by_cases h : a = 0 ∧ b = i
  · obtain ⟨rfl, rfl⟩ := h
    simp [gC, rs]
  · simp only [h, if_false]
    simp only [gC]
    split <;> simp_all [rs]
theorem gC_u2 (B : Nat → ClassId) (L : QL) (σ : QS) (τ : Int64) (i : Nat) (x : Int32) : q2 (gC B L σ τ) 0 i (.inr (4, [.ref (L 2 i), .ref (L 9 i), .ref (L 1 i), .int (σ 0 i 0), .int (σ 1 i 0), .int x])) = gC B L (rs σ 2 i (fun _ => x)) τ := by
  funext a b
  unfold q2
  by_cases h : a = 0 ∧ b = i
  · obtain ⟨rfl, rfl⟩ := h
    simp [gC, rs]
  · simp only [h, if_false]
    simp only [gC]
    split <;> simp_all [rs]
theorem gC_u3 (B : Nat → ClassId) (L : QL) (σ : QS) (τ : Int64) (i : Nat) (x : Int32) : q2 (gC B L σ τ) 2 i (.inr (3, [.ref (L 3 i), .int x, .int (σ 4 i 0), .ref (L 4 i), .ref (L 5 i), .ref (L 6 i), .ref (L 7 i), .ref (L 8 i), .int (σ 5 i 0)])) = gC B L (rs σ 3 i (fun _ => x)) τ := by
  funext a b
  unfold q2
  by_cases h : a = 2 ∧ b = i
  · obtain ⟨rfl, rfl⟩ := h
    simp [gC, rs]
  · simp only [h, if_false]
    simp only [gC]
    split <;> simp_all [rs]
theorem gC_u4 (B : Nat → ClassId) (L : QL) (σ : QS) (τ : Int64) (i : Nat) (x : Int32) : q2 (gC B L σ τ) 2 i (.inr (3, [.ref (L 3 i), .int (σ 3 i 0), .int x, .ref (L 4 i), .ref (L 5 i), .ref (L 6 i), .ref (L 7 i), .ref (L 8 i), .int (σ 5 i 0)])) = gC B L (rs σ 4 i (fun _ => x)) τ := by
  funext a b
  unfold q2
  by_cases h : a = 2 ∧ b = i
  · obtain ⟨rfl, rfl⟩ := h
    simp [gC, rs]
  · simp only [h, if_false]
    simp only [gC]
    split <;> simp_all [rs]
theorem gC_u5 (B : Nat → ClassId) (L : QL) (σ : QS) (τ : Int64) (i : Nat) (x : Int32) : q2 (gC B L σ τ) 2 i (.inr (3, [.ref (L 3 i), .int (σ 3 i 0), .int (σ 4 i 0), .ref (L 4 i), .ref (L 5 i), .ref (L 6 i), .ref (L 7 i), .ref (L 8 i), .int x])) = gC B L (rs σ 5 i (fun _ => x)) τ := by
  funext a b
  unfold q2
  by_cases h : a = 2 ∧ b = i
  · obtain ⟨rfl, rfl⟩ := h
    simp [gC, rs]
  · simp only [h, if_false]
    simp only [gC]
    split <;> simp_all [rs]
theorem gC_u6 (B : Nat → ClassId) (L : QL) (σ : QS) (τ : Int64) (i : Nat) (f : Nat → Int32) : q2 (gC B L σ τ) 4 i (.inl (B 0, 72, .inl f)) = gC B L (rs σ 6 i f) τ := by
  funext a b
  unfold q2
  by_cases h : a = 4 ∧ b = i
  · obtain ⟨rfl, rfl⟩ := h
    simp [gC, rs]
  · simp only [h, if_false]
    simp only [gC]
    split <;> simp_all [rs]
theorem gC_u7 (B : Nat → ClassId) (L : QL) (σ : QS) (τ : Int64) (i : Nat) (f : Nat → Int32) : q2 (gC B L σ τ) 5 i (.inl (B 0, 25, .inl f)) = gC B L (rs σ 7 i f) τ := by
  funext a b
  unfold q2
  by_cases h : a = 5 ∧ b = i
  · obtain ⟨rfl, rfl⟩ := h
    simp [gC, rs]
  · simp only [h, if_false]
    simp only [gC]
    split <;> simp_all [rs]
theorem gC_u8 (B : Nat → ClassId) (L : QL) (σ : QS) (τ : Int64) (i : Nat) (f : Nat → Int32) : q2 (gC B L σ τ) 6 i (.inl (B 0, 12, .inl f)) = gC B L (rs σ 8 i f) τ := by
  funext a b
  unfold q2
  by_cases h : a = 6 ∧ b = i
  · obtain ⟨rfl, rfl⟩ := h
    simp [gC, rs]
  · simp only [h, if_false]
    simp only [gC]
    split <;> simp_all [rs]
theorem gC_u9 (B : Nat → ClassId) (L : QL) (σ : QS) (τ : Int64) (i : Nat) (f : Nat → Int32) : q2 (gC B L σ τ) 7 i (.inl (B 0, 12, .inl f)) = gC B L (rs σ 9 i f) τ := by
  funext a b
  unfold q2
  by_cases h : a = 7 ∧ b = i
  · obtain ⟨rfl, rfl⟩ := h
    simp [gC, rs]
  · simp only [h, if_false]
    simp only [gC]
    split <;> simp_all [rs]
theorem gC_u10 (B : Nat → ClassId) (L : QL) (σ : QS) (τ : Int64) (i : Nat) (f : Nat → Int32) : q2 (gC B L σ τ) 8 i (.inl (B 0, 12, .inl f)) = gC B L (rs σ 10 i f) τ := by
  funext a b
  unfold q2
  by_cases h : a = 8 ∧ b = i
  · obtain ⟨rfl, rfl⟩ := h
    simp [gC, rs]
  · simp only [h, if_false]
    simp only [gC]
    split <;> simp_all [rs]
theorem gC_u15 (B : Nat → ClassId) (L : QL) (σ : QS) (τ : Int64) (i : Nat) (x : Int32) : q2 (gC B L σ τ) 9 i (.inr (1, [.ref (L 10 i), .ref (L 11 i), .ref (L 12 i), .ref (L 13 i), .int x, .int (σ 16 i 0), .int (σ 17 i 0), .int (σ 18 i 0), .int (σ 19 i 0), .int (σ 20 i 0), .long τ])) = gC B L (rs σ 15 i (fun _ => x)) τ := by
  funext a b
  unfold q2
  by_cases h : a = 9 ∧ b = i
  · obtain ⟨rfl, rfl⟩ := h
    simp [gC, rs]
  · simp only [h, if_false]
    simp only [gC]
    split <;> simp_all [rs]
theorem gC_u16 (B : Nat → ClassId) (L : QL) (σ : QS) (τ : Int64) (i : Nat) (x : Int32) : q2 (gC B L σ τ) 9 i (.inr (1, [.ref (L 10 i), .ref (L 11 i), .ref (L 12 i), .ref (L 13 i), .int (σ 15 i 0), .int x, .int (σ 17 i 0), .int (σ 18 i 0), .int (σ 19 i 0), .int (σ 20 i 0), .long τ])) = gC B L (rs σ 16 i (fun _ => x)) τ := by
  funext a b
  unfold q2
  by_cases h : a = 9 ∧ b = i
  · obtain ⟨rfl, rfl⟩ := h
    simp [gC, rs]
  · simp only [h, if_false]
    simp only [gC]
    split <;> simp_all [rs]
theorem gC_u17 (B : Nat → ClassId) (L : QL) (σ : QS) (τ : Int64) (i : Nat) (x : Int32) : q2 (gC B L σ τ) 9 i (.inr (1, [.ref (L 10 i), .ref (L 11 i), .ref (L 12 i), .ref (L 13 i), .int (σ 15 i 0), .int (σ 16 i 0), .int x, .int (σ 18 i 0), .int (σ 19 i 0), .int (σ 20 i 0), .long τ])) = gC B L (rs σ 17 i (fun _ => x)) τ := by
  funext a b
  unfold q2
  by_cases h : a = 9 ∧ b = i
  · obtain ⟨rfl, rfl⟩ := h
    simp [gC, rs]
  · simp only [h, if_false]
    simp only [gC]
    split <;> simp_all [rs]
theorem gC_u18 (B : Nat → ClassId) (L : QL) (σ : QS) (τ : Int64) (i : Nat) (x : Int32) : q2 (gC B L σ τ) 9 i (.inr (1, [.ref (L 10 i), .ref (L 11 i), .ref (L 12 i), .ref (L 13 i), .int (σ 15 i 0), .int (σ 16 i 0), .int (σ 17 i 0), .int x, .int (σ 19 i 0), .int (σ 20 i 0), .long τ])) = gC B L (rs σ 18 i (fun _ => x)) τ := by
  funext a b
  unfold q2
  by_cases h : a = 9 ∧ b = i
  · obtain ⟨rfl, rfl⟩ := h
    simp [gC, rs]
  · simp only [h, if_false]
    simp only [gC]
    split <;> simp_all [rs]
theorem gC_u19 (B : Nat → ClassId) (L : QL) (σ : QS) (τ : Int64) (i : Nat) (x : Int32) : q2 (gC B L σ τ) 9 i (.inr (1, [.ref (L 10 i), .ref (L 11 i), .ref (L 12 i), .ref (L 13 i), .int (σ 15 i 0), .int (σ 16 i 0), .int (σ 17 i 0), .int (σ 18 i 0), .int x, .int (σ 20 i 0), .long τ])) = gC B L (rs σ 19 i (fun _ => x)) τ := by
  funext a b
  unfold q2
  by_cases h : a = 9 ∧ b = i
  · obtain ⟨rfl, rfl⟩ := h
    simp [gC, rs]
  · simp only [h, if_false]
    simp only [gC]
    split <;> simp_all [rs]
theorem gC_u20 (B : Nat → ClassId) (L : QL) (σ : QS) (τ : Int64) (i : Nat) (x : Int32) : q2 (gC B L σ τ) 9 i (.inr (1, [.ref (L 10 i), .ref (L 11 i), .ref (L 12 i), .ref (L 13 i), .int (σ 15 i 0), .int (σ 16 i 0), .int (σ 17 i 0), .int (σ 18 i 0), .int (σ 19 i 0), .int x, .long τ])) = gC B L (rs σ 20 i (fun _ => x)) τ := by
  funext a b
  unfold q2
  by_cases h : a = 9 ∧ b = i
  · obtain ⟨rfl, rfl⟩ := h
    simp [gC, rs]
  · simp only [h, if_false]
    simp only [gC]
    split <;> simp_all [rs]
theorem gC_ul (B : Nat → ClassId) (L : QL) (σ : QS) (τ x : Int64) (i : Nat) (hi : i = 0) : ∀ a b, b < cntC a → q2 (gC B L σ τ) 9 i (.inr (1, [.ref (L 10 i), .ref (L 11 i), .ref (L 12 i), .ref (L 13 i), .int (σ 15 i 0), .int (σ 16 i 0), .int (σ 17 i 0), .int (σ 18 i 0), .int (σ 19 i 0), .int (σ 20 i 0), .long x])) a b = gC B L σ x a b := by
  subst hi
  intro a b hb
  unfold q2
  by_cases h : a = 9 ∧ b = 0
  · obtain ⟨rfl, rfl⟩ := h
    simp [gC]
  · simp only [h, if_false]
    by_cases ha : a = 9
    · subst ha
      exact absurd ⟨rfl, Nat.lt_one_iff.mp hb⟩ h
    · simp only [gC]
      split <;> simp_all
theorem gC_u11 (B : Nat → ClassId) (L : QL) (σ : QS) (τ : Int64) (i : Nat) (f : Nat → Int32) : q2 (gC B L σ τ) 10 i (.inl (B 0, 81, .inl f)) = gC B L (rs σ 11 i f) τ := by
  funext a b
  unfold q2
  by_cases h : a = 10 ∧ b = i
  · obtain ⟨rfl, rfl⟩ := h
    simp [gC, rs]
  · simp only [h, if_false]
    simp only [gC]
    split <;> simp_all [rs]
theorem gC_u12 (B : Nat → ClassId) (L : QL) (σ : QS) (τ : Int64) (i : Nat) (f : Nat → Int32) : q2 (gC B L σ τ) 11 i (.inl (B 0, 9, .inl f)) = gC B L (rs σ 12 i f) τ := by
  funext a b
  unfold q2
  by_cases h : a = 11 ∧ b = i
  · obtain ⟨rfl, rfl⟩ := h
    simp [gC, rs]
  · simp only [h, if_false]
    simp only [gC]
    split <;> simp_all [rs]
theorem gC_u13 (B : Nat → ClassId) (L : QL) (σ : QS) (τ : Int64) (i : Nat) (f : Nat → Int32) : q2 (gC B L σ τ) 12 i (.inl (B 0, 9, .inl f)) = gC B L (rs σ 13 i f) τ := by
  funext a b
  unfold q2
  by_cases h : a = 12 ∧ b = i
  · obtain ⟨rfl, rfl⟩ := h
    simp [gC, rs]
  · simp only [h, if_false]
    simp only [gC]
    split <;> simp_all [rs]
theorem gC_u14 (B : Nat → ClassId) (L : QL) (σ : QS) (τ : Int64) (i : Nat) (f : Nat → Int32) : q2 (gC B L σ τ) 13 i (.inl (B 0, 2304, .inl f)) = gC B L (rs σ 14 i f) τ := by
  funext a b
  unfold q2
  by_cases h : a = 13 ∧ b = i
  · obtain ⟨rfl, rfl⟩ := h
    simp [gC, rs]
  · simp only [h, if_false]
    simp only [gC]
    split <;> simp_all [rs]
theorem gC_u21 (B : Nat → ClassId) (L : QL) (σ : QS) (τ : Int64) (i : Nat) (x : Int32) : q2 (gC B L σ τ) 14 i (.inr (0, [.int x, .int (σ 22 i 0), .int (σ 23 i 0), .int (σ 24 i 0), .int (σ 25 i 0), .int (σ 26 i 0), .ref (L 15 i), .ref (L 16 i), .ref (L 17 i), .ref (L 18 i), .ref (L 19 i)])) = gC B L (rs σ 21 i (fun _ => x)) τ := by
  funext a b
  unfold q2
  by_cases h : a = 14 ∧ b = i
  · obtain ⟨rfl, rfl⟩ := h
    simp [gC, rs]
  · simp only [h, if_false]
    simp only [gC]
    split <;> simp_all [rs]
theorem gC_u22 (B : Nat → ClassId) (L : QL) (σ : QS) (τ : Int64) (i : Nat) (x : Int32) : q2 (gC B L σ τ) 14 i (.inr (0, [.int (σ 21 i 0), .int x, .int (σ 23 i 0), .int (σ 24 i 0), .int (σ 25 i 0), .int (σ 26 i 0), .ref (L 15 i), .ref (L 16 i), .ref (L 17 i), .ref (L 18 i), .ref (L 19 i)])) = gC B L (rs σ 22 i (fun _ => x)) τ := by
  funext a b
  unfold q2
  by_cases h : a = 14 ∧ b = i
  · obtain ⟨rfl, rfl⟩ := h
    simp [gC, rs]
  · simp only [h, if_false]
    simp only [gC]
    split <;> simp_all [rs]
theorem gC_u23 (B : Nat → ClassId) (L : QL) (σ : QS) (τ : Int64) (i : Nat) (x : Int32) : q2 (gC B L σ τ) 14 i (.inr (0, [.int (σ 21 i 0), .int (σ 22 i 0), .int x, .int (σ 24 i 0), .int (σ 25 i 0), .int (σ 26 i 0), .ref (L 15 i), .ref (L 16 i), .ref (L 17 i), .ref (L 18 i), .ref (L 19 i)])) = gC B L (rs σ 23 i (fun _ => x)) τ := by
  funext a b
  unfold q2
  by_cases h : a = 14 ∧ b = i
  · obtain ⟨rfl, rfl⟩ := h
    simp [gC, rs]
  · simp only [h, if_false]
    simp only [gC]
    split <;> simp_all [rs]
theorem gC_u24 (B : Nat → ClassId) (L : QL) (σ : QS) (τ : Int64) (i : Nat) (x : Int32) : q2 (gC B L σ τ) 14 i (.inr (0, [.int (σ 21 i 0), .int (σ 22 i 0), .int (σ 23 i 0), .int x, .int (σ 25 i 0), .int (σ 26 i 0), .ref (L 15 i), .ref (L 16 i), .ref (L 17 i), .ref (L 18 i), .ref (L 19 i)])) = gC B L (rs σ 24 i (fun _ => x)) τ := by
  funext a b
  unfold q2
  by_cases h : a = 14 ∧ b = i
  · obtain ⟨rfl, rfl⟩ := h
    simp [gC, rs]
  · simp only [h, if_false]
    simp only [gC]
    split <;> simp_all [rs]
theorem gC_u25 (B : Nat → ClassId) (L : QL) (σ : QS) (τ : Int64) (i : Nat) (x : Int32) : q2 (gC B L σ τ) 14 i (.inr (0, [.int (σ 21 i 0), .int (σ 22 i 0), .int (σ 23 i 0), .int (σ 24 i 0), .int x, .int (σ 26 i 0), .ref (L 15 i), .ref (L 16 i), .ref (L 17 i), .ref (L 18 i), .ref (L 19 i)])) = gC B L (rs σ 25 i (fun _ => x)) τ := by
  funext a b
  unfold q2
  by_cases h : a = 14 ∧ b = i
  · obtain ⟨rfl, rfl⟩ := h
    simp [gC, rs]
  · simp only [h, if_false]
    simp only [gC]
    split <;> simp_all [rs]
theorem gC_u26 (B : Nat → ClassId) (L : QL) (σ : QS) (τ : Int64) (i : Nat) (x : Int32) : q2 (gC B L σ τ) 14 i (.inr (0, [.int (σ 21 i 0), .int (σ 22 i 0), .int (σ 23 i 0), .int (σ 24 i 0), .int (σ 25 i 0), .int x, .ref (L 15 i), .ref (L 16 i), .ref (L 17 i), .ref (L 18 i), .ref (L 19 i)])) = gC B L (rs σ 26 i (fun _ => x)) τ := by
  funext a b
  unfold q2
  by_cases h : a = 14 ∧ b = i
  · obtain ⟨rfl, rfl⟩ := h
    simp [gC, rs]
  · simp only [h, if_false]
    simp only [gC]
    split <;> simp_all [rs]
theorem gC_u27 (B : Nat → ClassId) (L : QL) (σ : QS) (τ : Int64) (i : Nat) (f : Nat → Int32) : q2 (gC B L σ τ) 15 i (.inl (B 0, 6, .inl f)) = gC B L (rs σ 27 i f) τ := by
  funext a b
  unfold q2
  by_cases h : a = 15 ∧ b = i
  · obtain ⟨rfl, rfl⟩ := h
    simp [gC, rs]
  · simp only [h, if_false]
    simp only [gC]
    split <;> simp_all [rs]
theorem gC_u28 (B : Nat → ClassId) (L : QL) (σ : QS) (τ : Int64) (i : Nat) (f : Nat → Int32) : q2 (gC B L σ τ) 16 i (.inl (B 0, 6, .inl f)) = gC B L (rs σ 28 i f) τ := by
  funext a b
  unfold q2
  by_cases h : a = 16 ∧ b = i
  · obtain ⟨rfl, rfl⟩ := h
    simp [gC, rs]
  · simp only [h, if_false]
    simp only [gC]
    split <;> simp_all [rs]
theorem gC_u29 (B : Nat → ClassId) (L : QL) (σ : QS) (τ : Int64) (i : Nat) (f : Nat → Int32) : q2 (gC B L σ τ) 17 i (.inl (B 0, 10, .inl f)) = gC B L (rs σ 29 i f) τ := by
  funext a b
  unfold q2
  by_cases h : a = 17 ∧ b = i
  · obtain ⟨rfl, rfl⟩ := h
    simp [gC, rs]
  · simp only [h, if_false]
    simp only [gC]
    split <;> simp_all [rs]
theorem gC_u30 (B : Nat → ClassId) (L : QL) (σ : QS) (τ : Int64) (i : Nat) (f : Nat → Int32) : q2 (gC B L σ τ) 18 i (.inl (B 0, 4, .inl f)) = gC B L (rs σ 30 i f) τ := by
  funext a b
  unfold q2
  by_cases h : a = 18 ∧ b = i
  · obtain ⟨rfl, rfl⟩ := h
    simp [gC, rs]
  · simp only [h, if_false]
    simp only [gC]
    split <;> simp_all [rs]
theorem gC_u31 (B : Nat → ClassId) (L : QL) (σ : QS) (τ : Int64) (i : Nat) (f : Nat → Int32) : q2 (gC B L σ τ) 19 i (.inl (B 0, 4, .inl f)) = gC B L (rs σ 31 i f) τ := by
  funext a b
  unfold q2
  by_cases h : a = 19 ∧ b = i
  · obtain ⟨rfl, rfl⟩ := h
    simp [gC, rs]
  · simp only [h, if_false]
    simp only [gC]
    split <;> simp_all [rs]
theorem gC_u32 (B : Nat → ClassId) (L : QL) (σ : QS) (τ : Int64) (i : Nat) (x : Int32) : q2 (gC B L σ τ) 20 i (.inr (2, [.int x, .int (σ 33 i 0), .int (σ 34 i 0), .int (σ 35 i 0), .int (σ 36 i 0), .int (σ 37 i 0), .int (σ 38 i 0), .int (σ 39 i 0), .int (σ 40 i 0), .int (σ 41 i 0), .int (σ 42 i 0), .ref (L 21 i)])) = gC B L (rs σ 32 i (fun _ => x)) τ := by
  funext a b
  unfold q2
  by_cases h : a = 20 ∧ b = i
  · obtain ⟨rfl, rfl⟩ := h
    simp [gC, rs]
  · simp only [h, if_false]
    simp only [gC]
    split <;> simp_all [rs]
theorem gC_u33 (B : Nat → ClassId) (L : QL) (σ : QS) (τ : Int64) (i : Nat) (x : Int32) : q2 (gC B L σ τ) 20 i (.inr (2, [.int (σ 32 i 0), .int x, .int (σ 34 i 0), .int (σ 35 i 0), .int (σ 36 i 0), .int (σ 37 i 0), .int (σ 38 i 0), .int (σ 39 i 0), .int (σ 40 i 0), .int (σ 41 i 0), .int (σ 42 i 0), .ref (L 21 i)])) = gC B L (rs σ 33 i (fun _ => x)) τ := by
  funext a b
  unfold q2
  by_cases h : a = 20 ∧ b = i
  · obtain ⟨rfl, rfl⟩ := h
    simp [gC, rs]
  · simp only [h, if_false]
    simp only [gC]
    split <;> simp_all [rs]
theorem gC_u34 (B : Nat → ClassId) (L : QL) (σ : QS) (τ : Int64) (i : Nat) (x : Int32) : q2 (gC B L σ τ) 20 i (.inr (2, [.int (σ 32 i 0), .int (σ 33 i 0), .int x, .int (σ 35 i 0), .int (σ 36 i 0), .int (σ 37 i 0), .int (σ 38 i 0), .int (σ 39 i 0), .int (σ 40 i 0), .int (σ 41 i 0), .int (σ 42 i 0), .ref (L 21 i)])) = gC B L (rs σ 34 i (fun _ => x)) τ := by
  funext a b
  unfold q2
  by_cases h : a = 20 ∧ b = i
  · obtain ⟨rfl, rfl⟩ := h
    simp [gC, rs]
  · simp only [h, if_false]
    simp only [gC]
    split <;> simp_all [rs]
theorem gC_u35 (B : Nat → ClassId) (L : QL) (σ : QS) (τ : Int64) (i : Nat) (x : Int32) : q2 (gC B L σ τ) 20 i (.inr (2, [.int (σ 32 i 0), .int (σ 33 i 0), .int (σ 34 i 0), .int x, .int (σ 36 i 0), .int (σ 37 i 0), .int (σ 38 i 0), .int (σ 39 i 0), .int (σ 40 i 0), .int (σ 41 i 0), .int (σ 42 i 0), .ref (L 21 i)])) = gC B L (rs σ 35 i (fun _ => x)) τ := by
  funext a b
  unfold q2
  by_cases h : a = 20 ∧ b = i
  · obtain ⟨rfl, rfl⟩ := h
    simp [gC, rs]
  · simp only [h, if_false]
    simp only [gC]
    split <;> simp_all [rs]
theorem gC_u36 (B : Nat → ClassId) (L : QL) (σ : QS) (τ : Int64) (i : Nat) (x : Int32) : q2 (gC B L σ τ) 20 i (.inr (2, [.int (σ 32 i 0), .int (σ 33 i 0), .int (σ 34 i 0), .int (σ 35 i 0), .int x, .int (σ 37 i 0), .int (σ 38 i 0), .int (σ 39 i 0), .int (σ 40 i 0), .int (σ 41 i 0), .int (σ 42 i 0), .ref (L 21 i)])) = gC B L (rs σ 36 i (fun _ => x)) τ := by
  funext a b
  unfold q2
  by_cases h : a = 20 ∧ b = i
  · obtain ⟨rfl, rfl⟩ := h
    simp [gC, rs]
  · simp only [h, if_false]
    simp only [gC]
    split <;> simp_all [rs]
theorem gC_u37 (B : Nat → ClassId) (L : QL) (σ : QS) (τ : Int64) (i : Nat) (x : Int32) : q2 (gC B L σ τ) 20 i (.inr (2, [.int (σ 32 i 0), .int (σ 33 i 0), .int (σ 34 i 0), .int (σ 35 i 0), .int (σ 36 i 0), .int x, .int (σ 38 i 0), .int (σ 39 i 0), .int (σ 40 i 0), .int (σ 41 i 0), .int (σ 42 i 0), .ref (L 21 i)])) = gC B L (rs σ 37 i (fun _ => x)) τ := by
  funext a b
  unfold q2
  by_cases h : a = 20 ∧ b = i
  · obtain ⟨rfl, rfl⟩ := h
    simp [gC, rs]
  · simp only [h, if_false]
    simp only [gC]
    split <;> simp_all [rs]
theorem gC_u38 (B : Nat → ClassId) (L : QL) (σ : QS) (τ : Int64) (i : Nat) (x : Int32) : q2 (gC B L σ τ) 20 i (.inr (2, [.int (σ 32 i 0), .int (σ 33 i 0), .int (σ 34 i 0), .int (σ 35 i 0), .int (σ 36 i 0), .int (σ 37 i 0), .int x, .int (σ 39 i 0), .int (σ 40 i 0), .int (σ 41 i 0), .int (σ 42 i 0), .ref (L 21 i)])) = gC B L (rs σ 38 i (fun _ => x)) τ := by
  funext a b
  unfold q2
  by_cases h : a = 20 ∧ b = i
  · obtain ⟨rfl, rfl⟩ := h
    simp [gC, rs]
  · simp only [h, if_false]
    simp only [gC]
    split <;> simp_all [rs]
theorem gC_u39 (B : Nat → ClassId) (L : QL) (σ : QS) (τ : Int64) (i : Nat) (x : Int32) : q2 (gC B L σ τ) 20 i (.inr (2, [.int (σ 32 i 0), .int (σ 33 i 0), .int (σ 34 i 0), .int (σ 35 i 0), .int (σ 36 i 0), .int (σ 37 i 0), .int (σ 38 i 0), .int x, .int (σ 40 i 0), .int (σ 41 i 0), .int (σ 42 i 0), .ref (L 21 i)])) = gC B L (rs σ 39 i (fun _ => x)) τ := by
  funext a b
  unfold q2
  by_cases h : a = 20 ∧ b = i
  · obtain ⟨rfl, rfl⟩ := h
    simp [gC, rs]
  · simp only [h, if_false]
    simp only [gC]
    split <;> simp_all [rs]
theorem gC_u40 (B : Nat → ClassId) (L : QL) (σ : QS) (τ : Int64) (i : Nat) (x : Int32) : q2 (gC B L σ τ) 20 i (.inr (2, [.int (σ 32 i 0), .int (σ 33 i 0), .int (σ 34 i 0), .int (σ 35 i 0), .int (σ 36 i 0), .int (σ 37 i 0), .int (σ 38 i 0), .int (σ 39 i 0), .int x, .int (σ 41 i 0), .int (σ 42 i 0), .ref (L 21 i)])) = gC B L (rs σ 40 i (fun _ => x)) τ := by
  funext a b
  unfold q2
  by_cases h : a = 20 ∧ b = i
  · obtain ⟨rfl, rfl⟩ := h
    simp [gC, rs]
  · simp only [h, if_false]
    simp only [gC]
    split <;> simp_all [rs]
theorem gC_u41 (B : Nat → ClassId) (L : QL) (σ : QS) (τ : Int64) (i : Nat) (x : Int32) : q2 (gC B L σ τ) 20 i (.inr (2, [.int (σ 32 i 0), .int (σ 33 i 0), .int (σ 34 i 0), .int (σ 35 i 0), .int (σ 36 i 0), .int (σ 37 i 0), .int (σ 38 i 0), .int (σ 39 i 0), .int (σ 40 i 0), .int x, .int (σ 42 i 0), .ref (L 21 i)])) = gC B L (rs σ 41 i (fun _ => x)) τ := by
  funext a b
  unfold q2
  by_cases h : a = 20 ∧ b = i
  · obtain ⟨rfl, rfl⟩ := h
    simp [gC, rs]
  · simp only [h, if_false]
    simp only [gC]
    split <;> simp_all [rs]
theorem gC_u42 (B : Nat → ClassId) (L : QL) (σ : QS) (τ : Int64) (i : Nat) (x : Int32) : q2 (gC B L σ τ) 20 i (.inr (2, [.int (σ 32 i 0), .int (σ 33 i 0), .int (σ 34 i 0), .int (σ 35 i 0), .int (σ 36 i 0), .int (σ 37 i 0), .int (σ 38 i 0), .int (σ 39 i 0), .int (σ 40 i 0), .int (σ 41 i 0), .int x, .ref (L 21 i)])) = gC B L (rs σ 42 i (fun _ => x)) τ := by
  funext a b
  unfold q2
  by_cases h : a = 20 ∧ b = i
  · obtain ⟨rfl, rfl⟩ := h
    simp [gC, rs]
  · simp only [h, if_false]
    simp only [gC]
    split <;> simp_all [rs]
theorem gC_u43 (B : Nat → ClassId) (L : QL) (σ : QS) (τ : Int64) (i : Nat) (f : Nat → Int32) : q2 (gC B L σ τ) 21 i (.inl (B 0, 12, .inl f)) = gC B L (rs σ 43 i f) τ := by
  funext a b
  unfold q2
  by_cases h : a = 21 ∧ b = i
  · obtain ⟨rfl, rfl⟩ := h
    simp [gC, rs]
  · simp only [h, if_false]
    simp only [gC]
    split <;> simp_all [rs]
def cntM : Nat → Nat := fun k => match k with
  | 0 => 1
  | 5 => 1
  | 6 => 1
  | 7 => 1
  | 8 => 1
  | 9 => 1
  | 10 => 1
  | 11 => 1
  | 12 => 1
  | 13 => 1
  | 14 => 1
  | 15 => 1
  | 16 => 1
  | 18 => 1
  | 19 => 1
  | 20 => 1
  | 21 => 1
  | 22 => 1
  | 23 => 1
  | 24 => 1
  | 25 => 1
  | 26 => 1
  | 27 => 1
  | 28 => 1
  | 29 => 1
  | 30 => 1
  | 31 => 1
  | 32 => 1
  | 33 => 1
  | _ => 0
def gM (B : Nat → ClassId) (L : QL) (σ : QS) (τ : Int64) : Nat → Nat → va_E := fun k i => match k with
  | 0 => .inr (5, [.int (σ 0 i 0), .int (σ 1 i 0), .int (σ 2 i 0), .int (σ 3 i 0), .int (σ 4 i 0), .ref (L 5 i), .ref (L 6 i), .ref (L 7 i), .ref (L 8 i), .ref (L 9 i), .ref (L 10 i), .ref (L 11 i), .ref (L 12 i), .ref (L 13 i), .ref (L 14 i), .ref (L 15 i), .ref (L 16 i), .int (σ 17 i 0), .ref (L 18 i), .ref (L 19 i), .ref (L 20 i), .ref (L 21 i), .ref (L 22 i), .ref (L 23 i), .ref (L 24 i), .ref (L 25 i), .ref (L 26 i), .ref (L 27 i), .ref (L 28 i), .ref (L 29 i), .ref (L 30 i), .ref (L 31 i), .ref (L 32 i), .ref (L 33 i), .int (σ 34 i 0), .int (σ 35 i 0), .int (σ 36 i 0), .int (σ 37 i 0)])
  | 5 => .inl (B 0, 12, .inl (σ 5 i))
  | 6 => .inl (B 0, 12, .inl (σ 6 i))
  | 7 => .inl (B 0, 12, .inl (σ 7 i))
  | 8 => .inl (B 0, 12, .inl (σ 8 i))
  | 9 => .inl (B 0, 12, .inl (σ 9 i))
  | 10 => .inl (B 0, 12, .inl (σ 10 i))
  | 11 => .inl (B 0, 72, .inl (σ 11 i))
  | 12 => .inl (B 0, 72, .inl (σ 12 i))
  | 13 => .inl (B 1, 3612, .inl (σ 13 i))
  | 14 => .inl (B 0, 921600, .inl (σ 14 i))
  | 15 => .inl (B 0, 76800, .inl (σ 15 i))
  | 16 => .inl (B 0, 12, .inl (σ 16 i))
  | 18 => .inl (B 0, 60, .inl (σ 18 i))
  | 19 => .inl (B 0, 60, .inl (σ 19 i))
  | 20 => .inl (B 0, 60, .inl (σ 20 i))
  | 21 => .inl (B 0, 60, .inl (σ 21 i))
  | 22 => .inl (B 0, 60, .inl (σ 22 i))
  | 23 => .inl (B 0, 60, .inl (σ 23 i))
  | 24 => .inl (B 0, 60, .inl (σ 24 i))
  | 25 => .inl (B 0, 60, .inl (σ 25 i))
  | 26 => .inl (B 0, 60, .inl (σ 26 i))
  | 27 => .inl (B 0, 81, .inl (σ 27 i))
  | 28 => .inl (B 0, 9, .inl (σ 28 i))
  | 29 => .inl (B 0, 9, .inl (σ 29 i))
  | 30 => .inl (B 0, 9, .inl (σ 30 i))
  | 31 => .inl (B 0, 9, .inl (σ 31 i))
  | 32 => .inl (B 1, 9, .inl (σ 32 i))
  | 33 => .inl (B 1, 9, .inl (σ 33 i))
  | _ => .inr (0, [])
theorem gM_u0 (B : Nat → ClassId) (L : QL) (σ : QS) (τ : Int64) (i : Nat) (x : Int32) : q2 (gM B L σ τ) 0 i (.inr (5, [.int x, .int (σ 1 i 0), .int (σ 2 i 0), .int (σ 3 i 0), .int (σ 4 i 0), .ref (L 5 i), .ref (L 6 i), .ref (L 7 i), .ref (L 8 i), .ref (L 9 i), .ref (L 10 i), .ref (L 11 i), .ref (L 12 i), .ref (L 13 i), .ref (L 14 i), .ref (L 15 i), .ref (L 16 i), .int (σ 17 i 0), .ref (L 18 i), .ref (L 19 i), .ref (L 20 i), .ref (L 21 i), .ref (L 22 i), .ref (L 23 i), .ref (L 24 i), .ref (L 25 i), .ref (L 26 i), .ref (L 27 i), .ref (L 28 i), .ref (L 29 i), .ref (L 30 i), .ref (L 31 i), .ref (L 32 i), .ref (L 33 i), .int (σ 34 i 0), .int (σ 35 i 0), .int (σ 36 i 0), .int (σ 37 i 0)])) = gM B L (rs σ 0 i (fun _ => x)) τ := by
  funext a b
  unfold q2
  by_cases h : a = 0 ∧ b = i
  · obtain ⟨rfl, rfl⟩ := h
    simp [gM, rs]
  · simp only [h, if_false]
    simp only [gM]
    split <;> simp_all [rs]
theorem gM_u1 (B : Nat → ClassId) (L : QL) (σ : QS) (τ : Int64) (i : Nat) (x : Int32) : q2 (gM B L σ τ) 0 i (.inr (5, [.int (σ 0 i 0), .int x, .int (σ 2 i 0), .int (σ 3 i 0), .int (σ 4 i 0), .ref (L 5 i), .ref (L 6 i), .ref (L 7 i), .ref (L 8 i), .ref (L 9 i), .ref (L 10 i), .ref (L 11 i), .ref (L 12 i), .ref (L 13 i), .ref (L 14 i), .ref (L 15 i), .ref (L 16 i), .int (σ 17 i 0), .ref (L 18 i), .ref (L 19 i), .ref (L 20 i), .ref (L 21 i), .ref (L 22 i), .ref (L 23 i), .ref (L 24 i), .ref (L 25 i), .ref (L 26 i), .ref (L 27 i), .ref (L 28 i), .ref (L 29 i), .ref (L 30 i), .ref (L 31 i), .ref (L 32 i), .ref (L 33 i), .int (σ 34 i 0), .int (σ 35 i 0), .int (σ 36 i 0), .int (σ 37 i 0)])) = gM B L (rs σ 1 i (fun _ => x)) τ := by
  funext a b
  unfold q2
  by_cases h : a = 0 ∧ b = i
  · obtain ⟨rfl, rfl⟩ := h
    simp [gM, rs]
  · simp only [h, if_false]
    simp only [gM]
    split <;> simp_all [rs]
theorem gM_u2 (B : Nat → ClassId) (L : QL) (σ : QS) (τ : Int64) (i : Nat) (x : Int32) : q2 (gM B L σ τ) 0 i (.inr (5, [.int (σ 0 i 0), .int (σ 1 i 0), .int x, .int (σ 3 i 0), .int (σ 4 i 0), .ref (L 5 i), .ref (L 6 i), .ref (L 7 i), .ref (L 8 i), .ref (L 9 i), .ref (L 10 i), .ref (L 11 i), .ref (L 12 i), .ref (L 13 i), .ref (L 14 i), .ref (L 15 i), .ref (L 16 i), .int (σ 17 i 0), .ref (L 18 i), .ref (L 19 i), .ref (L 20 i), .ref (L 21 i), .ref (L 22 i), .ref (L 23 i), .ref (L 24 i), .ref (L 25 i), .ref (L 26 i), .ref (L 27 i), .ref (L 28 i), .ref (L 29 i), .ref (L 30 i), .ref (L 31 i), .ref (L 32 i), .ref (L 33 i), .int (σ 34 i 0), .int (σ 35 i 0), .int (σ 36 i 0), .int (σ 37 i 0)])) = gM B L (rs σ 2 i (fun _ => x)) τ := by
  funext a b
  unfold q2
  by_cases h : a = 0 ∧ b = i
  · obtain ⟨rfl, rfl⟩ := h
    simp [gM, rs]
  · simp only [h, if_false]
    simp only [gM]
    split <;> simp_all [rs]
theorem gM_u3 (B : Nat → ClassId) (L : QL) (σ : QS) (τ : Int64) (i : Nat) (x : Int32) : q2 (gM B L σ τ) 0 i (.inr (5, [.int (σ 0 i 0), .int (σ 1 i 0), .int (σ 2 i 0), .int x, .int (σ 4 i 0), .ref (L 5 i), .ref (L 6 i), .ref (L 7 i), .ref (L 8 i), .ref (L 9 i), .ref (L 10 i), .ref (L 11 i), .ref (L 12 i), .ref (L 13 i), .ref (L 14 i), .ref (L 15 i), .ref (L 16 i), .int (σ 17 i 0), .ref (L 18 i), .ref (L 19 i), .ref (L 20 i), .ref (L 21 i), .ref (L 22 i), .ref (L 23 i), .ref (L 24 i), .ref (L 25 i), .ref (L 26 i), .ref (L 27 i), .ref (L 28 i), .ref (L 29 i), .ref (L 30 i), .ref (L 31 i), .ref (L 32 i), .ref (L 33 i), .int (σ 34 i 0), .int (σ 35 i 0), .int (σ 36 i 0), .int (σ 37 i 0)])) = gM B L (rs σ 3 i (fun _ => x)) τ := by
  funext a b
  unfold q2
  by_cases h : a = 0 ∧ b = i
  · obtain ⟨rfl, rfl⟩ := h
    simp [gM, rs]
  · simp only [h, if_false]
    simp only [gM]
    split <;> simp_all [rs]
theorem gM_u4 (B : Nat → ClassId) (L : QL) (σ : QS) (τ : Int64) (i : Nat) (x : Int32) : q2 (gM B L σ τ) 0 i (.inr (5, [.int (σ 0 i 0), .int (σ 1 i 0), .int (σ 2 i 0), .int (σ 3 i 0), .int x, .ref (L 5 i), .ref (L 6 i), .ref (L 7 i), .ref (L 8 i), .ref (L 9 i), .ref (L 10 i), .ref (L 11 i), .ref (L 12 i), .ref (L 13 i), .ref (L 14 i), .ref (L 15 i), .ref (L 16 i), .int (σ 17 i 0), .ref (L 18 i), .ref (L 19 i), .ref (L 20 i), .ref (L 21 i), .ref (L 22 i), .ref (L 23 i), .ref (L 24 i), .ref (L 25 i), .ref (L 26 i), .ref (L 27 i), .ref (L 28 i), .ref (L 29 i), .ref (L 30 i), .ref (L 31 i), .ref (L 32 i), .ref (L 33 i), .int (σ 34 i 0), .int (σ 35 i 0), .int (σ 36 i 0), .int (σ 37 i 0)])) = gM B L (rs σ 4 i (fun _ => x)) τ := by
  funext a b
  unfold q2
  by_cases h : a = 0 ∧ b = i
  · obtain ⟨rfl, rfl⟩ := h
    simp [gM, rs]
  · simp only [h, if_false]
    simp only [gM]
    split <;> simp_all [rs]
theorem gM_u17 (B : Nat → ClassId) (L : QL) (σ : QS) (τ : Int64) (i : Nat) (x : Int32) : q2 (gM B L σ τ) 0 i (.inr (5, [.int (σ 0 i 0), .int (σ 1 i 0), .int (σ 2 i 0), .int (σ 3 i 0), .int (σ 4 i 0), .ref (L 5 i), .ref (L 6 i), .ref (L 7 i), .ref (L 8 i), .ref (L 9 i), .ref (L 10 i), .ref (L 11 i), .ref (L 12 i), .ref (L 13 i), .ref (L 14 i), .ref (L 15 i), .ref (L 16 i), .int x, .ref (L 18 i), .ref (L 19 i), .ref (L 20 i), .ref (L 21 i), .ref (L 22 i), .ref (L 23 i), .ref (L 24 i), .ref (L 25 i), .ref (L 26 i), .ref (L 27 i), .ref (L 28 i), .ref (L 29 i), .ref (L 30 i), .ref (L 31 i), .ref (L 32 i), .ref (L 33 i), .int (σ 34 i 0), .int (σ 35 i 0), .int (σ 36 i 0), .int (σ 37 i 0)])) = gM B L (rs σ 17 i (fun _ => x)) τ := by
  funext a b
  unfold q2
  by_cases h : a = 0 ∧ b = i
  · obtain ⟨rfl, rfl⟩ := h
    simp [gM, rs]
  · simp only [h, if_false]
    simp only [gM]
    split <;> simp_all [rs]
theorem gM_u34 (B : Nat → ClassId) (L : QL) (σ : QS) (τ : Int64) (i : Nat) (x : Int32) : q2 (gM B L σ τ) 0 i (.inr (5, [.int (σ 0 i 0), .int (σ 1 i 0), .int (σ 2 i 0), .int (σ 3 i 0), .int (σ 4 i 0), .ref (L 5 i), .ref (L 6 i), .ref (L 7 i), .ref (L 8 i), .ref (L 9 i), .ref (L 10 i), .ref (L 11 i), .ref (L 12 i), .ref (L 13 i), .ref (L 14 i), .ref (L 15 i), .ref (L 16 i), .int (σ 17 i 0), .ref (L 18 i), .ref (L 19 i), .ref (L 20 i), .ref (L 21 i), .ref (L 22 i), .ref (L 23 i), .ref (L 24 i), .ref (L 25 i), .ref (L 26 i), .ref (L 27 i), .ref (L 28 i), .ref (L 29 i), .ref (L 30 i), .ref (L 31 i), .ref (L 32 i), .ref (L 33 i), .int x, .int (σ 35 i 0), .int (σ 36 i 0), .int (σ 37 i 0)])) = gM B L (rs σ 34 i (fun _ => x)) τ := by
  funext a b
  unfold q2
  by_cases h : a = 0 ∧ b = i
  · obtain ⟨rfl, rfl⟩ := h
    simp [gM, rs]
  · simp only [h, if_false]
    simp only [gM]
    split <;> simp_all [rs]
theorem gM_u35 (B : Nat → ClassId) (L : QL) (σ : QS) (τ : Int64) (i : Nat) (x : Int32) : q2 (gM B L σ τ) 0 i (.inr (5, [.int (σ 0 i 0), .int (σ 1 i 0), .int (σ 2 i 0), .int (σ 3 i 0), .int (σ 4 i 0), .ref (L 5 i), .ref (L 6 i), .ref (L 7 i), .ref (L 8 i), .ref (L 9 i), .ref (L 10 i), .ref (L 11 i), .ref (L 12 i), .ref (L 13 i), .ref (L 14 i), .ref (L 15 i), .ref (L 16 i), .int (σ 17 i 0), .ref (L 18 i), .ref (L 19 i), .ref (L 20 i), .ref (L 21 i), .ref (L 22 i), .ref (L 23 i), .ref (L 24 i), .ref (L 25 i), .ref (L 26 i), .ref (L 27 i), .ref (L 28 i), .ref (L 29 i), .ref (L 30 i), .ref (L 31 i), .ref (L 32 i), .ref (L 33 i), .int (σ 34 i 0), .int x, .int (σ 36 i 0), .int (σ 37 i 0)])) = gM B L (rs σ 35 i (fun _ => x)) τ := by
  funext a b
  unfold q2
  by_cases h : a = 0 ∧ b = i
  · obtain ⟨rfl, rfl⟩ := h
    simp [gM, rs]
  · simp only [h, if_false]
    simp only [gM]
    split <;> simp_all [rs]
theorem gM_u36 (B : Nat → ClassId) (L : QL) (σ : QS) (τ : Int64) (i : Nat) (x : Int32) : q2 (gM B L σ τ) 0 i (.inr (5, [.int (σ 0 i 0), .int (σ 1 i 0), .int (σ 2 i 0), .int (σ 3 i 0), .int (σ 4 i 0), .ref (L 5 i), .ref (L 6 i), .ref (L 7 i), .ref (L 8 i), .ref (L 9 i), .ref (L 10 i), .ref (L 11 i), .ref (L 12 i), .ref (L 13 i), .ref (L 14 i), .ref (L 15 i), .ref (L 16 i), .int (σ 17 i 0), .ref (L 18 i), .ref (L 19 i), .ref (L 20 i), .ref (L 21 i), .ref (L 22 i), .ref (L 23 i), .ref (L 24 i), .ref (L 25 i), .ref (L 26 i), .ref (L 27 i), .ref (L 28 i), .ref (L 29 i), .ref (L 30 i), .ref (L 31 i), .ref (L 32 i), .ref (L 33 i), .int (σ 34 i 0), .int (σ 35 i 0), .int x, .int (σ 37 i 0)])) = gM B L (rs σ 36 i (fun _ => x)) τ := by
  funext a b
  unfold q2
  by_cases h : a = 0 ∧ b = i
  · obtain ⟨rfl, rfl⟩ := h
    simp [gM, rs]
  · simp only [h, if_false]
    simp only [gM]
    split <;> simp_all [rs]
theorem gM_u37 (B : Nat → ClassId) (L : QL) (σ : QS) (τ : Int64) (i : Nat) (x : Int32) : q2 (gM B L σ τ) 0 i (.inr (5, [.int (σ 0 i 0), .int (σ 1 i 0), .int (σ 2 i 0), .int (σ 3 i 0), .int (σ 4 i 0), .ref (L 5 i), .ref (L 6 i), .ref (L 7 i), .ref (L 8 i), .ref (L 9 i), .ref (L 10 i), .ref (L 11 i), .ref (L 12 i), .ref (L 13 i), .ref (L 14 i), .ref (L 15 i), .ref (L 16 i), .int (σ 17 i 0), .ref (L 18 i), .ref (L 19 i), .ref (L 20 i), .ref (L 21 i), .ref (L 22 i), .ref (L 23 i), .ref (L 24 i), .ref (L 25 i), .ref (L 26 i), .ref (L 27 i), .ref (L 28 i), .ref (L 29 i), .ref (L 30 i), .ref (L 31 i), .ref (L 32 i), .ref (L 33 i), .int (σ 34 i 0), .int (σ 35 i 0), .int (σ 36 i 0), .int x])) = gM B L (rs σ 37 i (fun _ => x)) τ := by
  funext a b
  unfold q2
  by_cases h : a = 0 ∧ b = i
  · obtain ⟨rfl, rfl⟩ := h
    simp [gM, rs]
  · simp only [h, if_false]
    simp only [gM]
    split <;> simp_all [rs]
theorem gM_u5 (B : Nat → ClassId) (L : QL) (σ : QS) (τ : Int64) (i : Nat) (f : Nat → Int32) : q2 (gM B L σ τ) 5 i (.inl (B 0, 12, .inl f)) = gM B L (rs σ 5 i f) τ := by
  funext a b
  unfold q2
  by_cases h : a = 5 ∧ b = i
  · obtain ⟨rfl, rfl⟩ := h
    simp [gM, rs]
  · simp only [h, if_false]
    simp only [gM]
    split <;> simp_all [rs]
theorem gM_u6 (B : Nat → ClassId) (L : QL) (σ : QS) (τ : Int64) (i : Nat) (f : Nat → Int32) : q2 (gM B L σ τ) 6 i (.inl (B 0, 12, .inl f)) = gM B L (rs σ 6 i f) τ := by
  funext a b
  unfold q2
  by_cases h : a = 6 ∧ b = i
  · obtain ⟨rfl, rfl⟩ := h
    simp [gM, rs]
  · simp only [h, if_false]
    simp only [gM]
    split <;> simp_all [rs]
theorem gM_u7 (B : Nat → ClassId) (L : QL) (σ : QS) (τ : Int64) (i : Nat) (f : Nat → Int32) : q2 (gM B L σ τ) 7 i (.inl (B 0, 12, .inl f)) = gM B L (rs σ 7 i f) τ := by
  funext a b
  unfold q2
  by_cases h : a = 7 ∧ b = i
  · obtain ⟨rfl, rfl⟩ := h
    simp [gM, rs]
  · simp only [h, if_false]
    simp only [gM]
    split <;> simp_all [rs]
theorem gM_u8 (B : Nat → ClassId) (L : QL) (σ : QS) (τ : Int64) (i : Nat) (f : Nat → Int32) : q2 (gM B L σ τ) 8 i (.inl (B 0, 12, .inl f)) = gM B L (rs σ 8 i f) τ := by
  funext a b
  unfold q2
  by_cases h : a = 8 ∧ b = i
  · obtain ⟨rfl, rfl⟩ := h
    simp [gM, rs]
  · simp only [h, if_false]
    simp only [gM]
    split <;> simp_all [rs]
theorem gM_u9 (B : Nat → ClassId) (L : QL) (σ : QS) (τ : Int64) (i : Nat) (f : Nat → Int32) : q2 (gM B L σ τ) 9 i (.inl (B 0, 12, .inl f)) = gM B L (rs σ 9 i f) τ := by
  funext a b
  unfold q2
  by_cases h : a = 9 ∧ b = i
  · obtain ⟨rfl, rfl⟩ := h
    simp [gM, rs]
  · simp only [h, if_false]
    simp only [gM]
    split <;> simp_all [rs]
theorem gM_u10 (B : Nat → ClassId) (L : QL) (σ : QS) (τ : Int64) (i : Nat) (f : Nat → Int32) : q2 (gM B L σ τ) 10 i (.inl (B 0, 12, .inl f)) = gM B L (rs σ 10 i f) τ := by
  funext a b
  unfold q2
  by_cases h : a = 10 ∧ b = i
  · obtain ⟨rfl, rfl⟩ := h
    simp [gM, rs]
  · simp only [h, if_false]
    simp only [gM]
    split <;> simp_all [rs]
theorem gM_u11 (B : Nat → ClassId) (L : QL) (σ : QS) (τ : Int64) (i : Nat) (f : Nat → Int32) : q2 (gM B L σ τ) 11 i (.inl (B 0, 72, .inl f)) = gM B L (rs σ 11 i f) τ := by
  funext a b
  unfold q2
  by_cases h : a = 11 ∧ b = i
  · obtain ⟨rfl, rfl⟩ := h
    simp [gM, rs]
  · simp only [h, if_false]
    simp only [gM]
    split <;> simp_all [rs]
theorem gM_u12 (B : Nat → ClassId) (L : QL) (σ : QS) (τ : Int64) (i : Nat) (f : Nat → Int32) : q2 (gM B L σ τ) 12 i (.inl (B 0, 72, .inl f)) = gM B L (rs σ 12 i f) τ := by
  funext a b
  unfold q2
  by_cases h : a = 12 ∧ b = i
  · obtain ⟨rfl, rfl⟩ := h
    simp [gM, rs]
  · simp only [h, if_false]
    simp only [gM]
    split <;> simp_all [rs]
theorem gM_u13 (B : Nat → ClassId) (L : QL) (σ : QS) (τ : Int64) (i : Nat) (f : Nat → Int32) : q2 (gM B L σ τ) 13 i (.inl (B 1, 3612, .inl f)) = gM B L (rs σ 13 i f) τ := by
  funext a b
  unfold q2
  by_cases h : a = 13 ∧ b = i
  · obtain ⟨rfl, rfl⟩ := h
    simp [gM, rs]
  · simp only [h, if_false]
    simp only [gM]
    split <;> simp_all [rs]
theorem gM_u14 (B : Nat → ClassId) (L : QL) (σ : QS) (τ : Int64) (i : Nat) (f : Nat → Int32) : q2 (gM B L σ τ) 14 i (.inl (B 0, 921600, .inl f)) = gM B L (rs σ 14 i f) τ := by
  funext a b
  unfold q2
  by_cases h : a = 14 ∧ b = i
  · obtain ⟨rfl, rfl⟩ := h
    simp [gM, rs]
  · simp only [h, if_false]
    simp only [gM]
    split <;> simp_all [rs]
theorem gM_u15 (B : Nat → ClassId) (L : QL) (σ : QS) (τ : Int64) (i : Nat) (f : Nat → Int32) : q2 (gM B L σ τ) 15 i (.inl (B 0, 76800, .inl f)) = gM B L (rs σ 15 i f) τ := by
  funext a b
  unfold q2
  by_cases h : a = 15 ∧ b = i
  · obtain ⟨rfl, rfl⟩ := h
    simp [gM, rs]
  · simp only [h, if_false]
    simp only [gM]
    split <;> simp_all [rs]
theorem gM_u16 (B : Nat → ClassId) (L : QL) (σ : QS) (τ : Int64) (i : Nat) (f : Nat → Int32) : q2 (gM B L σ τ) 16 i (.inl (B 0, 12, .inl f)) = gM B L (rs σ 16 i f) τ := by
  funext a b
  unfold q2
  by_cases h : a = 16 ∧ b = i
  · obtain ⟨rfl, rfl⟩ := h
    simp [gM, rs]
  · simp only [h, if_false]
    simp only [gM]
    split <;> simp_all [rs]
theorem gM_u18 (B : Nat → ClassId) (L : QL) (σ : QS) (τ : Int64) (i : Nat) (f : Nat → Int32) : q2 (gM B L σ τ) 18 i (.inl (B 0, 60, .inl f)) = gM B L (rs σ 18 i f) τ := by
  funext a b
  unfold q2
  by_cases h : a = 18 ∧ b = i
  · obtain ⟨rfl, rfl⟩ := h
    simp [gM, rs]
  · simp only [h, if_false]
    simp only [gM]
    split <;> simp_all [rs]
theorem gM_u19 (B : Nat → ClassId) (L : QL) (σ : QS) (τ : Int64) (i : Nat) (f : Nat → Int32) : q2 (gM B L σ τ) 19 i (.inl (B 0, 60, .inl f)) = gM B L (rs σ 19 i f) τ := by
  funext a b
  unfold q2
  by_cases h : a = 19 ∧ b = i
  · obtain ⟨rfl, rfl⟩ := h
    simp [gM, rs]
  · simp only [h, if_false]
    simp only [gM]
    split <;> simp_all [rs]
theorem gM_u20 (B : Nat → ClassId) (L : QL) (σ : QS) (τ : Int64) (i : Nat) (f : Nat → Int32) : q2 (gM B L σ τ) 20 i (.inl (B 0, 60, .inl f)) = gM B L (rs σ 20 i f) τ := by
  funext a b
  unfold q2
  by_cases h : a = 20 ∧ b = i
  · obtain ⟨rfl, rfl⟩ := h
    simp [gM, rs]
  · simp only [h, if_false]
    simp only [gM]
    split <;> simp_all [rs]
theorem gM_u21 (B : Nat → ClassId) (L : QL) (σ : QS) (τ : Int64) (i : Nat) (f : Nat → Int32) : q2 (gM B L σ τ) 21 i (.inl (B 0, 60, .inl f)) = gM B L (rs σ 21 i f) τ := by
  funext a b
  unfold q2
  by_cases h : a = 21 ∧ b = i
  · obtain ⟨rfl, rfl⟩ := h
    simp [gM, rs]
  · simp only [h, if_false]
    simp only [gM]
    split <;> simp_all [rs]
theorem gM_u22 (B : Nat → ClassId) (L : QL) (σ : QS) (τ : Int64) (i : Nat) (f : Nat → Int32) : q2 (gM B L σ τ) 22 i (.inl (B 0, 60, .inl f)) = gM B L (rs σ 22 i f) τ := by
  funext a b
  unfold q2
  by_cases h : a = 22 ∧ b = i
  · obtain ⟨rfl, rfl⟩ := h
    simp [gM, rs]
  · simp only [h, if_false]
    simp only [gM]
    split <;> simp_all [rs]
theorem gM_u23 (B : Nat → ClassId) (L : QL) (σ : QS) (τ : Int64) (i : Nat) (f : Nat → Int32) : q2 (gM B L σ τ) 23 i (.inl (B 0, 60, .inl f)) = gM B L (rs σ 23 i f) τ := by
  funext a b
  unfold q2
  by_cases h : a = 23 ∧ b = i
  · obtain ⟨rfl, rfl⟩ := h
    simp [gM, rs]
  · simp only [h, if_false]
    simp only [gM]
    split <;> simp_all [rs]
theorem gM_u24 (B : Nat → ClassId) (L : QL) (σ : QS) (τ : Int64) (i : Nat) (f : Nat → Int32) : q2 (gM B L σ τ) 24 i (.inl (B 0, 60, .inl f)) = gM B L (rs σ 24 i f) τ := by
  funext a b
  unfold q2
  by_cases h : a = 24 ∧ b = i
  · obtain ⟨rfl, rfl⟩ := h
    simp [gM, rs]
  · simp only [h, if_false]
    simp only [gM]
    split <;> simp_all [rs]
theorem gM_u25 (B : Nat → ClassId) (L : QL) (σ : QS) (τ : Int64) (i : Nat) (f : Nat → Int32) : q2 (gM B L σ τ) 25 i (.inl (B 0, 60, .inl f)) = gM B L (rs σ 25 i f) τ := by
  funext a b
  unfold q2
  by_cases h : a = 25 ∧ b = i
  · obtain ⟨rfl, rfl⟩ := h
    simp [gM, rs]
  · simp only [h, if_false]
    simp only [gM]
    split <;> simp_all [rs]
theorem gM_u26 (B : Nat → ClassId) (L : QL) (σ : QS) (τ : Int64) (i : Nat) (f : Nat → Int32) : q2 (gM B L σ τ) 26 i (.inl (B 0, 60, .inl f)) = gM B L (rs σ 26 i f) τ := by
  funext a b
  unfold q2
  by_cases h : a = 26 ∧ b = i
  · obtain ⟨rfl, rfl⟩ := h
    simp [gM, rs]
  · simp only [h, if_false]
    simp only [gM]
    split <;> simp_all [rs]
theorem gM_u27 (B : Nat → ClassId) (L : QL) (σ : QS) (τ : Int64) (i : Nat) (f : Nat → Int32) : q2 (gM B L σ τ) 27 i (.inl (B 0, 81, .inl f)) = gM B L (rs σ 27 i f) τ := by
  funext a b
  unfold q2
  by_cases h : a = 27 ∧ b = i
  · obtain ⟨rfl, rfl⟩ := h
    simp [gM, rs]
  · simp only [h, if_false]
    simp only [gM]
    split <;> simp_all [rs]
theorem gM_u28 (B : Nat → ClassId) (L : QL) (σ : QS) (τ : Int64) (i : Nat) (f : Nat → Int32) : q2 (gM B L σ τ) 28 i (.inl (B 0, 9, .inl f)) = gM B L (rs σ 28 i f) τ := by
  funext a b
  unfold q2
  by_cases h : a = 28 ∧ b = i
  · obtain ⟨rfl, rfl⟩ := h
    simp [gM, rs]
  · simp only [h, if_false]
    simp only [gM]
    split <;> simp_all [rs]
theorem gM_u29 (B : Nat → ClassId) (L : QL) (σ : QS) (τ : Int64) (i : Nat) (f : Nat → Int32) : q2 (gM B L σ τ) 29 i (.inl (B 0, 9, .inl f)) = gM B L (rs σ 29 i f) τ := by
  funext a b
  unfold q2
  by_cases h : a = 29 ∧ b = i
  · obtain ⟨rfl, rfl⟩ := h
    simp [gM, rs]
  · simp only [h, if_false]
    simp only [gM]
    split <;> simp_all [rs]
theorem gM_u30 (B : Nat → ClassId) (L : QL) (σ : QS) (τ : Int64) (i : Nat) (f : Nat → Int32) : q2 (gM B L σ τ) 30 i (.inl (B 0, 9, .inl f)) = gM B L (rs σ 30 i f) τ := by
  funext a b
  unfold q2
  by_cases h : a = 30 ∧ b = i
  · obtain ⟨rfl, rfl⟩ := h
    simp [gM, rs]
  · simp only [h, if_false]
    simp only [gM]
    split <;> simp_all [rs]
theorem gM_u31 (B : Nat → ClassId) (L : QL) (σ : QS) (τ : Int64) (i : Nat) (f : Nat → Int32) : q2 (gM B L σ τ) 31 i (.inl (B 0, 9, .inl f)) = gM B L (rs σ 31 i f) τ := by
  funext a b
  unfold q2
  by_cases h : a = 31 ∧ b = i
  · obtain ⟨rfl, rfl⟩ := h
    simp [gM, rs]
  · simp only [h, if_false]
    simp only [gM]
    split <;> simp_all [rs]
theorem gM_u32 (B : Nat → ClassId) (L : QL) (σ : QS) (τ : Int64) (i : Nat) (f : Nat → Int32) : q2 (gM B L σ τ) 32 i (.inl (B 1, 9, .inl f)) = gM B L (rs σ 32 i f) τ := by
  funext a b
  unfold q2
  by_cases h : a = 32 ∧ b = i
  · obtain ⟨rfl, rfl⟩ := h
    simp [gM, rs]
  · simp only [h, if_false]
    simp only [gM]
    split <;> simp_all [rs]
theorem gM_u33 (B : Nat → ClassId) (L : QL) (σ : QS) (τ : Int64) (i : Nat) (f : Nat → Int32) : q2 (gM B L σ τ) 33 i (.inl (B 1, 9, .inl f)) = gM B L (rs σ 33 i f) τ := by
  funext a b
  unfold q2
  by_cases h : a = 33 ∧ b = i
  · obtain ⟨rfl, rfl⟩ := h
    simp [gM, rs]
  · simp only [h, if_false]
    simp only [gM]
    split <;> simp_all [rs]
