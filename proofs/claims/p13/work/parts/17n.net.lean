/-! a net of carts; where one can be by when -/
abbrev Net : Type := Nat × (Nat → Nat) × (Nat → Int) × (Nat → Nat) × (Nat → Nat → Nat) × (Nat → Nat → Int) × (Nat → Nat → Prop)
def nK (N : Net) : Nat := N.1
def nS (N : Net) (c : Nat) : Nat := N.2.1 c
def nH (N : Net) (c : Nat) : Int := N.2.2.1 c
def nW (N : Net) (c : Nat) : Nat := N.2.2.2.1 c
def nP (N : Net) (c s : Nat) : Nat := N.2.2.2.2.1 c s
def nO (N : Net) (c s : Nat) : Int := N.2.2.2.2.2.1 c s
def nN (N : Net) (c d : Nat) : Prop := N.2.2.2.2.2.2 c d
def wfN (N : Net) : Prop := nK N ≤ 12 ∧ ∀ c, c < nK N → (1 ≤ nS N c ∧ nS N c ≤ 6) ∧ (0 ≤ nH N c ∧ nH N c ≤ 23) ∧ nO N c 0 = 0 ∧ (∀ s, s < nS N c → nP N c s < 12 ∧ 0 ≤ nO N c s ∧ nO N c s ≤ 60) ∧ ∀ s s', s < s' → s' < nS N c → nO N c s < nO N c s'
def runN (N : Net) (c d : Nat) : Prop := (nW N c).testBit (d % 7) = true ∧ (d ≤ 300 → ¬ nN N c d)
def htN (N : Net) (c d s : Nat) : Int := 24 * (d : Int) + nH N c + nO N c s
def rideN (N : Net) (w : Int) (c d s s' : Nat) : Prop := c < nK N ∧ (c : Int) ≠ w ∧ runN N c d ∧ s < s' ∧ s' < nS N c
def fwN (N : Net) (w : Int) (f : Nat) (t : Int) : Nat → Nat → Int → Prop
  | 0, p, h => p = f ∧ t ≤ h
  | n + 1, p, h => fwN N w f t n p h ∨ ∃ c d s s', rideN N w c d s s' ∧ nP N c s' = p ∧ htN N c d s' ≤ h ∧ fwN N w f t n (nP N c s) (htN N c d s)
def bwN (N : Net) (w : Int) (g : Nat) (e : Int) : Nat → Nat → Int → Prop
  | 0, p, h => p = g ∧ h ≤ e
  | n + 1, p, h => bwN N w g e n p h ∨ ∃ c d s s', rideN N w c d s s' ∧ nP N c s = p ∧ h ≤ htN N c d s ∧ bwN N w g e n (nP N c s') (htN N c d s')
/-- one who is at f from t on can be at p from h on; one who is at p from h on can be at g by e -/
def fwR (N : Net) (w : Int) (f : Nat) (t : Int) (p : Nat) (h : Int) : Prop := ∃ n, fwN N w f t n p h
def bwR (N : Net) (w : Int) (g : Nat) (e : Int) (p : Nat) (h : Int) : Prop := ∃ n, bwN N w g e n p h
section NT
variable {N : Net} {w : Int} {f g : Nat} {t e : Int}
theorem ht_lt (hN : wfN N) {c d s s' : Nat} (hr : rideN N w c d s s') : htN N c d s < htN N c d s' := by
  have := ((hN.2 c hr.1).2.2.2.2) s s' hr.2.2.2.1 hr.2.2.2.2
  unfold htN
  omega
theorem fwN_mono : ∀ (n p : Nat) (h h' : Int), fwN N w f t n p h → h ≤ h' → fwN N w f t n p h'
  | 0, _, _, _, a, b => ⟨a.1, by have := a.2; omega⟩
  | n + 1, p, h, h', a, b => by
    rcases a with a | ⟨c, d, s, s', a1, a2, a3, a4⟩
    · exact Or.inl (fwN_mono n p h h' a b)
    · exact Or.inr ⟨c, d, s, s', a1, a2, by omega, a4⟩
theorem bwN_mono : ∀ (n p : Nat) (h h' : Int), bwN N w g e n p h → h' ≤ h → bwN N w g e n p h'
  | 0, _, _, _, a, b => ⟨a.1, by have := a.2; omega⟩
  | n + 1, p, h, h', a, b => by
    rcases a with a | ⟨c, d, s, s', a1, a2, a3, a4⟩
    · exact Or.inl (bwN_mono n p h h' a b)
    · exact Or.inr ⟨c, d, s, s', a1, a2, by omega, a4⟩
theorem fwN_up : ∀ (k n p : Nat) (h : Int), fwN N w f t n p h → fwN N w f t (n + k) p h
  | 0, _, _, _, a => a
  | k + 1, n, p, h, a => Or.inl (fwN_up k n p h a)
theorem bwN_up : ∀ (k n p : Nat) (h : Int), bwN N w g e n p h → bwN N w g e (n + k) p h
  | 0, _, _, _, a => a
  | k + 1, n, p, h, a => Or.inl (bwN_up k n p h a)
theorem fw_mono {p : Nat} {h h' : Int} (a : fwR N w f t p h) (b : h ≤ h') : fwR N w f t p h' := by
  obtain ⟨n, a⟩ := a
  exact ⟨n, fwN_mono n p h h' a b⟩
theorem bw_mono {p : Nat} {h h' : Int} (a : bwR N w g e p h) (b : h' ≤ h) : bwR N w g e p h' := by
  obtain ⟨n, a⟩ := a
  exact ⟨n, bwN_mono n p h h' a b⟩
theorem fw_here {h : Int} (a : t ≤ h) : fwR N w f t f h := ⟨0, rfl, a⟩
theorem bw_here {h : Int} (a : h ≤ e) : bwR N w g e g h := ⟨0, rfl, a⟩
theorem fw_ride {c d s s' : Nat} (r : rideN N w c d s s') (a : fwR N w f t (nP N c s) (htN N c d s)) : fwR N w f t (nP N c s') (htN N c d s') := by
  obtain ⟨n, a⟩ := a
  exact ⟨n + 1, Or.inr ⟨c, d, s, s', r, rfl, Int.le_refl _, a⟩⟩
theorem bw_ride {c d s s' : Nat} (r : rideN N w c d s s') (a : bwR N w g e (nP N c s') (htN N c d s')) : bwR N w g e (nP N c s) (htN N c d s) := by
  obtain ⟨n, a⟩ := a
  exact ⟨n + 1, Or.inr ⟨c, d, s, s', r, rfl, Int.le_refl _, a⟩⟩
theorem fw_ge (hN : wfN N) {p : Nat} {h : Int} (a : fwR N w f t p h) : t ≤ h := by
  obtain ⟨n, a⟩ := a
  induction n generalizing p h with
  | zero => exact a.2
  | succ n ih =>
    rcases a with a | ⟨c, d, s, s', a1, a2, a3, a4⟩
    · exact ih a
    · have h1 := ih a4
      have h2 := ht_lt hN a1
      omega
theorem bw_le (hN : wfN N) {p : Nat} {h : Int} (a : bwR N w g e p h) : h ≤ e := by
  obtain ⟨n, a⟩ := a
  induction n generalizing p h with
  | zero => exact a.2
  | succ n ih =>
    rcases a with a | ⟨c, d, s, s', a1, a2, a3, a4⟩
    · exact ih a
    · have h1 := ih a4
      have h2 := ht_lt hN a1
      omega
theorem fw_iff {p : Nat} {h : Int} : fwR N w f t p h ↔ (p = f ∧ t ≤ h) ∨ ∃ c d s s', rideN N w c d s s' ∧ nP N c s' = p ∧ htN N c d s' ≤ h ∧ fwR N w f t (nP N c s) (htN N c d s) := by
  constructor
  · rintro ⟨n, a⟩
    induction n generalizing p h with
    | zero => exact Or.inl a
    | succ n ih =>
      rcases a with a | ⟨c, d, s, s', a1, a2, a3, a4⟩
      · exact ih a
      · exact Or.inr ⟨c, d, s, s', a1, a2, a3, n, a4⟩
  · rintro (⟨rfl, a⟩ | ⟨c, d, s, s', a1, rfl, a3, a4⟩)
    · exact fw_here a
    · exact fw_mono (fw_ride a1 a4) a3
theorem bw_iff {p : Nat} {h : Int} : bwR N w g e p h ↔ (p = g ∧ h ≤ e) ∨ ∃ c d s s', rideN N w c d s s' ∧ nP N c s = p ∧ h ≤ htN N c d s ∧ bwR N w g e (nP N c s') (htN N c d s') := by
  constructor
  · rintro ⟨n, a⟩
    induction n generalizing p h with
    | zero => exact Or.inl a
    | succ n ih =>
      rcases a with a | ⟨c, d, s, s', a1, a2, a3, a4⟩
      · exact ih a
      · exact Or.inr ⟨c, d, s, s', a1, a2, a3, n, a4⟩
  · rintro (⟨rfl, a⟩ | ⟨c, d, s, s', a1, rfl, a3, a4⟩)
    · exact bw_here a
    · exact bw_mono (bw_ride a1 a4) a3
theorem fw_trans {p q : Nat} {h k : Int} (a : fwR N w f t p h) (b : fwR N w p h q k) : fwR N w f t q k := by
  obtain ⟨n, b⟩ := b
  induction n generalizing q k with
  | zero =>
    obtain ⟨rfl, b2⟩ := b
    exact fw_mono a b2
  | succ n ih =>
    rcases b with b | ⟨c, d, s, s', a1, a2, a3, a4⟩
    · exact ih b
    · rw [← a2]
      exact fw_mono (fw_ride a1 (ih a4)) a3
theorem fw_bw {p : Nat} {h : Int} (a : bwR N w g e p h) : fwR N w p h g e := by
  obtain ⟨n, a⟩ := a
  induction n generalizing p h with
  | zero =>
    obtain ⟨rfl, a2⟩ := a
    exact fw_here a2
  | succ n ih =>
    rcases a with a | ⟨c, d, s, s', a1, a2, a3, a4⟩
    · exact ih a
    · exact fw_trans (h := htN N c d s') (fw_ride a1 (by rw [a2]; exact fw_here a3)) (ih a4)
theorem bw_fw {p : Nat} {h : Int} (a : fwR N w f t p h) (ha : bwR N w g e p h) : bwR N w g e f t := by
  obtain ⟨n, a⟩ := a
  induction n generalizing p h with
  | zero =>
    obtain ⟨rfl, a2⟩ := a
    exact bw_mono ha a2
  | succ n ih =>
    rcases a with a | ⟨c, d, s, s', a1, a2, a3, a4⟩
    · exact ih ha a
    · exact ih (bw_ride a1 (bw_mono (by rw [a2]; exact ha) a3)) a4
/-- both ways of looking say the same -/
theorem fw_eq_bw (N : Net) (w : Int) (f g : Nat) (t e : Int) : fwR N w f t g e ↔ bwR N w g e f t := by
  constructor
  · intro a
    exact bw_fw a (bw_here (Int.le_refl _))
  · exact fun a => fw_bw a
end NT
