/-! which places one could ever come to, whatever the hour -/
def lnk (N : Net) (p q : Nat) : Prop := ∃ c s s', c < nK N ∧ nW N c ≠ 0 ∧ s < s' ∧ s' < nS N c ∧ nP N c s = p ∧ nP N c s' = q
def lkN (N : Net) : Nat → Nat → Nat → Prop
  | 0, p, q => p = q
  | n + 1, p, q => lkN N n p q ∨ ∃ r, lnk N p r ∧ lkN N n r q
def lkL (N : Net) : Nat → Nat → Nat → Prop
  | 0, p, q => p = q
  | n + 1, p, q => lkL N n p q ∨ ∃ r, lkL N n p r ∧ lnk N r q
section LK
variable {N : Net}
theorem lkL_cons {p r : Nat} (h : lnk N p r) : ∀ (n q : Nat), lkL N n r q → lkL N (n + 1) p q
  | 0, q, a => by
    have a : r = q := a
    subst a
    exact Or.inr ⟨p, rfl, h⟩
  | n + 1, q, a => by
    rcases a with a | ⟨t, a, b⟩
    · exact Or.inl (lkL_cons h n q a)
    · exact Or.inr ⟨t, lkL_cons h n t a, b⟩
theorem lkN_snoc {r q : Nat} (h : lnk N r q) : ∀ (n p : Nat), lkN N n p r → lkN N (n + 1) p q
  | 0, p, a => by
    have a : p = r := a
    subst a
    exact Or.inr ⟨q, h, rfl⟩
  | n + 1, p, a => by
    rcases a with a | ⟨t, a, b⟩
    · exact Or.inl (lkN_snoc h n p a)
    · exact Or.inr ⟨t, a, lkN_snoc h n t b⟩
theorem lkL_of : ∀ (n p q : Nat), lkN N n p q → lkL N n p q
  | 0, _, _, a => a
  | n + 1, p, q, a => by
    rcases a with a | ⟨r, a, b⟩
    · exact Or.inl (lkL_of n p q a)
    · exact lkL_cons a n q (lkL_of n r q b)
theorem lkN_of : ∀ (n p q : Nat), lkL N n p q → lkN N n p q
  | 0, _, _, a => a
  | n + 1, p, q, a => by
    rcases a with a | ⟨r, a, b⟩
    · exact Or.inl (lkN_of n p q a)
    · exact lkN_snoc b n p (lkN_of n p r a)
/-- how many of the first n have P -/
noncomputable def cnP (P : Nat → Prop) : Nat → Nat
  | 0 => 0
  | n + 1 => cnP P n + @ite Nat (P n) (Classical.propDecidable (P n)) 1 0
theorem cnP_le (P : Nat → Prop) : ∀ n, cnP P n ≤ n
  | 0 => Nat.le_refl _
  | n + 1 => by
    have := cnP_le P n
    unfold cnP
    split <;> omega
theorem cnP_mono {P P' : Nat → Prop} (h : ∀ q, P q → P' q) : ∀ n, cnP P n ≤ cnP P' n
  | 0 => Nat.le_refl _
  | n + 1 => by
    have ih := cnP_mono h n
    unfold cnP
    by_cases a : P n
    · rw [if_pos a, if_pos (h n a)]
      omega
    · rw [if_neg a]
      omega
theorem cnP_lt {P P' : Nat → Prop} (h : ∀ q, P q → P' q) {q : Nat} (h1 : P' q) (h2 : ¬ P q) : ∀ n, q < n → cnP P n < cnP P' n
  | 0, hq => absurd hq (Nat.not_lt_zero _)
  | n + 1, hq => by
    unfold cnP
    by_cases e : q = n
    · subst e
      have ih := cnP_mono h q
      rw [if_neg h2, if_pos h1]
      omega
    · have ih := cnP_lt h h1 h2 n (by omega)
      by_cases a : P n
      · rw [if_pos a, if_pos (h n a)]
        omega
      · rw [if_neg a]
        omega
theorem lkL_up {p q n : Nat} (a : lkL N n p q) : ∀ m, lkL N (n + m) p q
  | 0 => a
  | m + 1 => Or.inl (lkL_up a m)
theorem lkL_st {p n : Nat} (h : ∀ q, lkL N (n + 1) p q → lkL N n p q) : ∀ m q, lkL N (n + m) p q → lkL N n p q
  | 0, _, a => a
  | m + 1, q, a => by
    rcases a with a | ⟨r, a, b⟩
    · exact lkL_st h m q a
    · exact h q (Or.inr ⟨r, lkL_st h m r a, b⟩)
theorem lkL_cnt (hN : wfN N) {p : Nat} (hp : p < 12) : ∀ n, (∃ k, k ≤ n ∧ ∀ q, lkL N (k + 1) p q → lkL N k p q) ∨ n + 1 ≤ cnP (lkL N n p) 12
  | 0 => by
    refine Or.inr ?_
    have := cnP_lt (P := fun _ => False) (P' := lkL N 0 p) (fun _ h => h.elim) (q := p) rfl (fun h => h) 12 hp
    omega
  | n + 1 => by
    rcases lkL_cnt hN hp n with ⟨k, h1, h2⟩ | h
    · exact Or.inl ⟨k, by omega, h2⟩
    · by_cases st : ∀ q, lkL N (n + 1) p q → lkL N n p q
      · exact Or.inl ⟨n, by omega, st⟩
      · refine Or.inr ?_
        obtain ⟨q, hq⟩ := Classical.not_forall.mp st
        have hq1 : lkL N (n + 1) p q := Classical.byContradiction fun z => hq (fun y => absurd y z)
        have hq2 : ¬ lkL N n p q := fun z => hq (fun _ => z)
        have hq12 : q < 12 := by
          rcases hq1 with a | ⟨r, a, c, s, s', b1, b2, b3, b4, b5, b6⟩
          · exact absurd a hq2
          · rw [← b6]
            exact (((hN.2 c b1).2.2.2.1) s' b4).1
        have := cnP_lt (P := lkL N n p) (P' := lkL N (n + 1) p) (fun _ z => Or.inl z) hq1 hq2 12 hq12
        omega
/-- twelve passes are enough -/
theorem lk_12 (hN : wfN N) {p q m : Nat} (hp : p < 12) (a : lkN N m p q) : lkN N 12 p q := by
  have h := lkL_cnt hN hp 12
  have h9 := cnP_le (lkL N 12 p) 12
  rcases h with ⟨k, h1, h2⟩ | h
  · have a1 := lkL_up (lkL_of m p q a) k
    rw [Nat.add_comm] at a1
    have a2 := lkL_st h2 m q a1
    have a3 := lkL_up a2 (12 - k)
    rw [show k + (12 - k) = 12 by omega] at a3
    exact lkN_of 12 p q a3
  · omega
theorem lk_bw {w : Int} {g : Nat} {e : Int} : ∀ (n p : Nat) (h : Int), bwN N w g e n p h → lkN N n p g
  | 0, _, _, a => a.1
  | n + 1, p, h, a => by
    rcases a with a | ⟨c, d, s, s', a1, a2, a3, a4⟩
    · exact Or.inl (lk_bw n p h a)
    · refine Or.inr ⟨nP N c s', ⟨c, s, s', a1.1, fun z => ?_, a1.2.2.2.1, a1.2.2.2.2, a2, rfl⟩, lk_bw n _ _ a4⟩
      have h1 := a1.2.2.1.1
      rw [z] at h1
      simp at h1
def lkAt (N : Net) (k : Nat) (f : Nat → Int32) : Prop := ∀ p q, p < 12 → q < 12 → lkN N k p q → hasB (f p) q
def LnkC (f : Nat → Int32) (N : Net) : Prop := ∀ k, lkAt N k f
theorem lnk_12 (hN : wfN N) {p q : Nat} (h : lnk N p q) : p < 12 ∧ q < 12 := by
  obtain ⟨c, s, s', b1, b2, b3, b4, b5, b6⟩ := h
  have h1 := (((hN.2 c b1).2.2.2.1) s (by omega)).1
  have h2 := (((hN.2 c b1).2.2.2.1) s' b4).1
  omega
theorem lk_pass (hN : wfN N) {k : Nat} {f f' : Nat → Int32} (h : lkAt N k f) (h1 : ∀ p q, p < 12 → q < 12 → hasB (f p) q → hasB (f' p) q) (h2 : ∀ p r q, lnk N p r → q < 12 → hasB (f r) q → hasB (f' p) q) : lkAt N (k + 1) f' := by
  intro p q hp hq a
  rcases a with a | ⟨r, a, b⟩
  · exact h1 p q hp hq (h p q hp hq a)
  · exact h2 p r q a hq (h r q (lnk_12 hN a).2 hq b)
theorem lk_closed (hN : wfN N) {f : Nat → Int32} (h : lkAt N 0 f) (h2 : ∀ p r q, lnk N p r → q < 12 → hasB (f r) q → hasB (f p) q) : LnkC f N := by
  intro k
  induction k with
  | zero => exact h
  | succ k ih =>
    intro p q hp hq a
    rcases a with a | ⟨r, a, b⟩
    · exact ih p q hp hq a
    · exact h2 p r q a hq (ih r q (lnk_12 hN a).2 hq b)
theorem lk_full (hN : wfN N) {f : Nat → Int32} (h : lkAt N 12 f) : LnkC f N := fun _ p q hp hq a => h p q hp hq (lk_12 hN hp a)
end LK
