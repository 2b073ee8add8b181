/-! one more halt -/
section HI
variable {N M : Net} {h6 h7 g6 g7 : Nat → Int32} {c s : Nat}
/-- M is N with one more stop, s of c -/
def moreS (N M : Net) (c s : Nat) : Prop := ∀ c9 s9, (c9 < nK M ∧ s9 < nS M c9) ↔ ((c9 < nK N ∧ s9 < nS N c9) ∨ (c9 = c ∧ s9 = s))
theorem hal_ins (hM : wfN M) (hH : HalC h6 h7 N) (hm : moreS N M c s) (hv : ∀ c9 s9, c9 < nK N → s9 < nS N c9 → hvN M c9 s9 = hvN N c9 s9) (hn : ¬ (c < nK N ∧ s < nS N c)) {a : Nat} {v : Int32} {q : Int} (ev : v.toInt = hvN M c s) (eq : q = (nH M c + nO M c s) % 24)
    (ha : (a : Int) ≤ (h7 24).toInt) (h1 : ∀ j : Nat, j < a → g6 j = h6 j) (h2 : g6 a = v) (h3 : ∀ j : Nat, a ≤ j → (j : Int) < (h7 24).toInt → g6 (j + 1) = h6 j) (h4 : ∀ j : Nat, a ≤ j → (j : Int) < (h7 24).toInt → v.toInt < (h6 j).toInt) (h5 : ∀ j : Nat, j < a → (h6 j).toInt ≤ v.toInt)
    (h8 : ∀ k : Nat, k ≤ 24 → (g7 k).toInt = (h7 k).toInt + (if q < (k : Int) then 1 else 0)) : HalC g6 g7 M := by
  obtain ⟨b1, b2, b3, b4, b5⟩ := hH
  have hcs : c < nK M ∧ s < nS M c := (hm c s).mpr (Or.inr ⟨rfl, rfl⟩)
  have hb := hv_b hM hcs.1 hcs.2
  have h24 : (g7 24).toInt = (h7 24).toInt + 1 := by
    rw [h8 24 (by omega), if_pos (by omega)]
  have hlow : ∀ j : Nat, j < a → (h6 j).toInt < v.toInt := by
    intro j hj
    rcases Int.lt_or_eq_of_le (h5 j hj) with z | z
    · exact z
    · exfalso
      obtain ⟨c9, s9, d1, d2, d3⟩ := b2 j (by omega)
      have d4 := (hm c9 s9).mpr (Or.inl ⟨d1, d2⟩)
      have d5 := hv_inj hM d4.1 d4.2 hcs.1 hcs.2 (by rw [hv c9 s9 d1 d2, ← d3, ← ev, z])
      rw [d5.1] at d1
      rw [d5.1, d5.2] at d2
      exact hn ⟨d1, d2⟩
  have hall : ∀ i : Nat, (i : Int) < (g7 24).toInt → (i < a ∧ g6 i = h6 i) ∨ (i = a ∧ g6 i = v) ∨ (∃ j : Nat, i = j + 1 ∧ a ≤ j ∧ (j : Int) < (h7 24).toInt ∧ g6 i = h6 j) := by
    intro i hi
    rcases Nat.lt_trichotomy i a with z | z | z
    · exact Or.inl ⟨z, h1 i z⟩
    · exact Or.inr (Or.inl ⟨z, by rw [z]; exact h2⟩)
    · obtain ⟨j, rfl⟩ : ∃ j, i = j + 1 := ⟨i - 1, by omega⟩
      exact Or.inr (Or.inr ⟨j, rfl, by omega, by omega, h3 j (by omega) (by omega)⟩)
  have vv : v.toInt = 128 * q + 8 * (c : Int) + 7 - (s : Int) := by rw [ev]; unfold hvN; rw [eq]
  refine ⟨fun k hk => ?_, fun i hi => ?_, fun c9 s9 d1 d2 => ?_, fun i j hij hj => ?_, fun k i hk hi => ?_⟩
  · have d1 := b1 k hk
    have d2 := h8 k hk
    have d3 : (if q < (k : Int) then (1 : Int) else 0) = 0 ∨ (if q < (k : Int) then (1 : Int) else 0) = 1 := by split <;> omega
    omega
  · rcases hall i hi with ⟨_, z⟩ | ⟨_, z⟩ | ⟨j, _, z2, z3, z⟩
    · obtain ⟨c9, s9, d1, d2, d3⟩ := b2 i (by omega)
      have d4 := (hm c9 s9).mpr (Or.inl ⟨d1, d2⟩)
      exact ⟨c9, s9, d4.1, d4.2, by rw [z, hv c9 s9 d1 d2]; exact d3⟩
    · exact ⟨c, s, hcs.1, hcs.2, by rw [z]; exact ev⟩
    · obtain ⟨c9, s9, d1, d2, d3⟩ := b2 j z3
      have d4 := (hm c9 s9).mpr (Or.inl ⟨d1, d2⟩)
      exact ⟨c9, s9, d4.1, d4.2, by rw [z, hv c9 s9 d1 d2]; exact d3⟩
  · rcases (hm c9 s9).mp ⟨d1, d2⟩ with ⟨e1, e2⟩ | ⟨rfl, rfl⟩
    · obtain ⟨i, e3, e4⟩ := b3 c9 s9 e1 e2
      rcases Nat.lt_or_ge i a with z | z
      · exact ⟨i, by omega, by rw [h1 i z, hv c9 s9 e1 e2]; exact e4⟩
      · exact ⟨i + 1, by omega, by rw [h3 i z e3, hv c9 s9 e1 e2]; exact e4⟩
    · exact ⟨a, by omega, by rw [h2]; exact ev⟩
  · rcases hall i (by omega) with ⟨z1, z⟩ | ⟨z1, z⟩ | ⟨i', z1, z2, z3, z⟩ <;> rcases hall j hj with ⟨y1, y⟩ | ⟨y1, y⟩ | ⟨j', y1, y2, y3, y⟩
    · rw [z, y]; exact b4 i j hij (by omega)
    · rw [z, y]; exact hlow i z1
    · rw [z, y]
      have := hlow i z1
      have := h4 j' y2 y3
      omega
    · omega
    · omega
    · rw [z, y]; exact h4 j' y2 y3
    · omega
    · omega
    · rw [z, y]; exact b4 i' j' (by omega) y3
  · rw [h8 k hk]
    rcases hall i hi with ⟨z1, z⟩ | ⟨z1, z⟩ | ⟨i', z1, z2, z3, z⟩
    · rw [z, ← b5 k i hk (by omega)]
      by_cases w : q < (k : Int)
      · rw [if_pos w]
        refine ⟨fun x => ?_, fun x => by omega⟩
        rw [b5 k i hk (by omega)]
        have := hlow i z1
        omega
      · rw [if_neg w]
        omega
    · rw [z]
      by_cases w : q < (k : Int)
      · rw [if_pos w]
        refine ⟨fun _ => by omega, fun _ => ?_⟩
        have hk1 := b1 k hk
        rcases Nat.lt_or_ge 0 a with y | y
        · have e1 := hlow (a - 1) (by omega)
          have e2 := (b5 k (a - 1) hk (by omega)).mpr (by omega)
          omega
        · omega
      · rw [if_neg w]
        refine ⟨fun x => ?_, fun x => by omega⟩
        exfalso
        rcases Int.lt_or_le (a : Int) (h7 24).toInt with y | y
        · have e1 := (b5 k a hk y).mp (by omega)
          have e2 := h4 a (Nat.le_refl _) y
          omega
        · have := b1 k hk
          omega
    · rw [z, ← b5 k i' hk z3]
      have e2 := h4 i' z2 z3
      by_cases w : q < (k : Int)
      · rw [if_pos w]
        omega
      · rw [if_neg w]
        have e3 : ¬ (i' : Int) < (h7 k).toInt := fun x => by have := (b5 k i' hk z3).mp x; omega
        omega
end HI
