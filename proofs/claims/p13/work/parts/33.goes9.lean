abbrev gPost (σ σ' : QS) (m : Int32) (p : List Nat) : Prop := (σ' 33 = σ 33 ∧ (∀ k : Nat, (k : Int) < m.toInt → σ' 30 0 k = σ 30 0 k) ∧ gR σ' (fun q => ezLt q (p ++ [9])))
theorem k_goes_all (l : Launch) (D : va_G) (B : Nat → ClassId) (L : QL) (A : Nat → Prop) : ∀ (d : Nat) (σ : QS) (τ : Int64) (m9 a t b : Int32) (p : List Nat), m9.toInt = 8 - (d : Int) → (0 ≤ m9.toInt ∧ m9.toInt ≤ 8) → (0 ≤ a.toInt ∧ a.toInt ≤ 8) → (0 ≤ t.toInt ∧ t.toInt ≤ 500) → (0 ≤ b.toInt ∧ b.toInt ≤ 800) → InvM σ → gP σ p m9 a t b → gR σ (fun q => ezLt q p) → b.toInt ≤ 100 * m9.toInt → cW cntM gM l D B L A yX5_goes wsX5_goes (d + 1) (27 * d + 27) [.ref (L 0 0), .int m9, .int a, .int t, .int b] σ τ (pV (fun σ' τ' => InvM σ' ∧ Keep [34, 35, 36, 31, 30, 33] σ σ' ∧ τ' = τ ∧ gPost σ σ' m9 p)) := by
  intro d
  induction d with
  | zero =>
    intro σ τ m9 a t b p h1 h2 h3 h4 h5 h6 h7 h8 h9
    exact k_X5_goes l D B L A σ τ m9 a t b p 0 0 (fun σ1 τ1 m1 a1 t1 b1 p1 g1 g2 g3 g4 g5 g6 g7 g8 g9 => absurd g9 (by omega)) h2 h3 h4 h5 h6 h7 h8 h9
  | succ d ih =>
    intro σ τ m9 a t b p h1 h2 h3 h4 h5 h6 h7 h8 h9
    have h := k_X5_goes l D B L A σ τ m9 a t b p (d + 1) (27 * d + 27) (fun σ1 τ1 m1 a1 t1 b1 p1 g1 g2 g3 g4 g5 g6 g7 g8 g9 => ih σ1 τ1 m1 a1 t1 b1 p1 (by omega) g1 g2 g3 g4 g5 g6 g7 g8) h2 h3 h4 h5 h6 h7 h8 h9
    rw [show 8 + (8 + 11) + (27 * d + 27) = 27 * (d + 1) + 27 by omega] at h
    exact h
theorem gP_nil {σ : QS} {m a t b : Int32} (h1 : m.toInt = 0) (h2 : a.toInt = 0) (h3 : t.toInt = 0) (h4 : b.toInt = 0) (hz : ∀ s : Nat, σ 33 0 s = 0) : gP σ [] m a t b := by
  refine ⟨⟨List.Pairwise.nil, fun s hs => absurd hs List.not_mem_nil⟩, by rw [h1]; rfl, ?_, by rw [h3]; rfl, by rw [h4]; rfl, fun s _ _ => ⟨fun z => absurd (hz s) z, fun z => absurd z List.not_mem_nil⟩, fun k hk => absurd hk (Nat.not_lt_zero _)⟩
  have := cl_eq (j := a) (by omega)
  show a.toNatClampNeg = 0
  omega
theorem k_X5_goes0 (l : Launch) (D : va_G) (B : Nat → ClassId) (L : QL) (A : Nat → Prop) (σ : QS) (τ : Int64) (m9 a t b : Int32) (h1 : 0 ≤ m9.toInt ∧ m9.toInt ≤ 0) (h2 : 0 ≤ a.toInt ∧ a.toInt ≤ 0) (h3 : 0 ≤ t.toInt ∧ t.toInt ≤ 0) (h4 : 0 ≤ b.toInt ∧ b.toInt ≤ 0) (h5 : InvM σ) (hz : ∀ s : Nat, σ 33 0 s = 0) (hb : (σ 34 0 0).toInt = -1) : cW cntM gM l D B L A yX5_goes wsX5_goes 9 243 [.ref (L 0 0), .int m9, .int a, .int t, .int b] σ τ (pV (fun σ' τ' => InvM σ' ∧ Keep [34, 35, 36, 31, 30, 33] σ σ' ∧ τ' = τ ∧ gPost σ σ' m9 [])) :=
  k_goes_all l D B L A 8 σ τ m9 a t b [] (by omega) (by omega) (by omega) (by omega) (by omega) h5 (gP_nil (by omega) (by omega) (by omega) (by omega) hz) (by unfold gR; rw [hb]; exact ezRec_none) (by omega)
theorem gBest {σ σ' : QS} {a : Int32} (hk : ∀ v ∈ [27, 28, 29, 32], σ' v = σ v) (hw : (σ' 37 0 0).toInt = a.toInt) (ha : 0 ≤ a.toInt) (h : gR σ' (fun q => ezLt q ([] ++ [9]))) : fbP σ σ' a := by
  unfold gR at h
  rw [hk 27 (by decide), hk 28 (by decide), hk 29 (by decide), hk 32 (by decide), hw] at h
  exact ezRec_best ha h
