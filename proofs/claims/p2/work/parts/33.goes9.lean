theorem k_goes_all (l : Launch) (D : va_G) (B : Nat → ClassId) (L : QL) (A : Nat → Prop) : ∀ (d : Nat) (σ : QS) (τ : Int64) (m9 a t b : Int32), m9.toInt = 8 - (d : Int) → (0 ≤ m9.toInt ∧ m9.toInt ≤ 8) → (0 ≤ a.toInt ∧ a.toInt ≤ 8) → InvM σ → cntB σ = m9.toInt → cW cntM gM l D B L A yX5_goes wsX5_goes (d + 1) (27 * d + 27) [.ref (L 0 0), .int m9, .int a, .int t, .int b] σ τ (pV (fun σ' τ' => InvM σ' ∧ Keep [34, 35, 36, 31, 30, 33] σ σ' ∧ σ' 33 = σ 33)) := by
  intro d
  induction d with
  | zero =>
    intro σ τ m9 a t b h1 h2 h3 h4 h5
    exact k_X5_goes l D B L A σ τ m9 a t b 0 0 (fun σ1 τ1 m1 a1 t1 b1 g1 g2 g3 g4 g5 => absurd g5 (by omega)) h2 h3 h4 h5
  | succ d ih =>
    intro σ τ m9 a t b h1 h2 h3 h4 h5
    have h := k_X5_goes l D B L A σ τ m9 a t b (d + 1) (27 * d + 27) (fun σ1 τ1 m1 a1 t1 b1 g1 g2 g3 g4 g5 => ih σ1 τ1 m1 a1 t1 b1 (by omega) g1 g2 g3 g4) h2 h3 h4 h5
    rw [show 8 + (8 + 11) + (27 * d + 27) = 27 * (d + 1) + 27 by omega] at h
    exact h
theorem k_X5_goes0 (l : Launch) (D : va_G) (B : Nat → ClassId) (L : QL) (A : Nat → Prop) (σ : QS) (τ : Int64) (m9 a t b : Int32) (h1 : 0 ≤ m9.toInt ∧ m9.toInt ≤ 0) (h2 : 0 ≤ a.toInt ∧ a.toInt ≤ 8) (h3 : InvM σ) (h4 : cntB σ = 0) : cW cntM gM l D B L A yX5_goes wsX5_goes 9 243 [.ref (L 0 0), .int m9, .int a, .int t, .int b] σ τ (pV (fun σ' τ' => InvM σ' ∧ Keep [34, 35, 36, 31, 30, 33] σ σ' ∧ σ' 33 = σ 33)) :=
  k_goes_all l D B L A 8 σ τ m9 a t b (by omega) (by omega) h2 h3 (by omega)
