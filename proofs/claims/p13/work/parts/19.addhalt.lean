/-! addHalt: the halts are kept in order, each hour's first one goes on by one -/
theorem ah_b {σ σ1 : QS} {a x : Int32} (hI : InvC σ) (hf : ∀ q : Nat, (σ1 7 0 q).toInt = (σ 7 0 q).toInt + (if a.toInt < (q : Int) ∧ (q : Int) < x.toInt then 1 else 0)) (hx : 0 ≤ x.toInt) : 0 ≤ (σ1 7 0 x.toNatClampNeg).toInt ∧ (σ1 7 0 x.toNatClampNeg).toInt ≤ 72 := by
  have h1 := cl_eq hx
  have h2 := hf x.toNatClampNeg
  rw [if_neg (by omega)] at h2
  have h3 : (0 : Int) ≤ (σ 7 0 x.toNatClampNeg).toInt ∧ (σ 7 0 x.toNatClampNeg).toInt ≤ 72 := hI.1 7 0 _
  omega
theorem ah_n {σ σ1 σ2 : QS} {a x y v : Int32} (hf : ∀ q : Nat, (σ1 7 0 q).toInt = (σ 7 0 q).toInt + (if a.toInt < (q : Int) ∧ (q : Int) < x.toInt then 1 else 0)) (e : σ2 = rs σ1 7 0 (upd (σ1 7 0) x.toNatClampNeg v)) (hv : v.toInt = (σ1 7 0 x.toNatClampNeg).toInt + 1) (hx : 0 ≤ x.toInt) (hax : a.toInt < x.toInt) (hy : y.toInt = x.toInt + 1) : ∀ q : Nat, (σ2 7 0 q).toInt = (σ 7 0 q).toInt + (if a.toInt < (q : Int) ∧ (q : Int) < y.toInt then 1 else 0) := by
  intro q
  have h1 := cl_eq hx
  rw [e, rs_self]
  unfold upd
  by_cases hq : q = x.toNatClampNeg
  · rw [if_pos hq, hv]
    have h2 := hf q
    rw [if_neg (by omega)] at h2
    rw [if_pos (by omega), ← hq]
    omega
  · rw [if_neg hq, hf q]
    by_cases c1 : a.toInt < (q : Int) ∧ (q : Int) < x.toInt
    · rw [if_pos c1, if_pos (by omega)]
    · rw [if_neg c1, if_neg (by omega)]
theorem ah_s {σ1 σ2 : QS} {F : Int} {x y z v : Int32} (ho : ∀ j : Nat, (j : Int) ≤ F → (j : Int) ≠ x.toInt → hok (σ1 6 0 j)) (e : σ2 = rs σ1 6 0 (upd (σ1 6 0) x.toNatClampNeg v)) (hv : v = σ1 6 0 z.toNatClampNeg) (hz : z.toInt = x.toInt - 1) (hy : y.toInt = x.toInt - 1) (hy0 : 0 ≤ y.toInt) (hx : x.toInt ≤ F) : ∀ j : Nat, (j : Int) ≤ F → (j : Int) ≠ y.toInt → hok (σ2 6 0 j) := by
  intro j h1 h2
  have h3 := cl_eq (j := z) (by omega)
  have h4 := cl_eq (j := x) (by omega)
  rw [e, rs_self]
  unfold upd
  by_cases hj : j = x.toNatClampNeg
  · rw [if_pos hj, hv]
    exact ho _ (by omega) (by omega)
  · rw [if_neg hj]
    exact ho j h1 (by omega)
theorem ah_p {σ1 σ2 : QS} {F : Int} {x v : Int32} (ho : ∀ j : Nat, (j : Int) ≤ F → (j : Int) ≠ x.toInt → hok (σ1 6 0 j)) (e : σ2 = rs σ1 6 0 (upd (σ1 6 0) x.toNatClampNeg v)) (hv : hok v) (hx : 0 ≤ x.toInt) : ∀ j : Nat, (j : Int) ≤ F → hok (σ2 6 0 j) := by
  intro j h1
  have h4 := cl_eq hx
  rw [e, rs_self]
  unfold upd
  by_cases hj : j = x.toNatClampNeg
  · rw [if_pos hj]; exact hv
  · rw [if_neg hj]
    exact ho j h1 (by omega)
theorem ah_end {σ σ1 : QS} {a y : Int32} (hI : InvC σ) (hk : Keep [6, 7] σ σ1) (ho : ∀ j : Nat, (j : Int) ≤ (σ 7 0 24).toInt → hok (σ1 6 0 j)) (hf : ∀ q : Nat, (σ1 7 0 q).toInt = (σ 7 0 q).toInt + (if a.toInt < (q : Int) ∧ (q : Int) < y.toInt then 1 else 0)) (h7 : ∀ i : Nat, i ≠ 0 → σ1 7 i = σ 7 i) (ha : 0 ≤ a.toInt ∧ a.toInt ≤ 23) (hy : y.toInt = 25) (hF : (σ 7 0 24).toInt ≤ 71) : InvC σ1 := by
  obtain ⟨h1, h2, h3, h4, h5⟩ := hI
  have hF24 := hf 24
  rw [if_pos (by omega)] at hF24
  refine ⟨fun v i j => ?_, fun h hh => ?_, fun j hj => ho j (by omega), ?_, ?_⟩
  · by_cases q7 : v = 7
    · subst q7
      show (0 : Int) ≤ _ ∧ _ ≤ (72 : Int)
      by_cases hi : i = 0
      · subst hi
        have a1 : (0 : Int) ≤ (σ 7 0 j).toInt ∧ (σ 7 0 j).toInt ≤ 72 := h1 7 0 j
        have a2 := hf j
        by_cases c1 : a.toInt < (j : Int) ∧ (j : Int) < y.toInt
        · rw [if_pos c1] at a2
          have a3 := h2 j (by omega)
          omega
        · rw [if_neg c1] at a2
          omega
      · rw [h7 i hi]; exact h1 7 i j
    · by_cases q6 : v = 6
      · subst q6; exact any32 _
      · rw [hk v (by simp [q6, q7])]; exact h1 v i j
  · have a2 := hf h
    have a3 := h2 h hh
    by_cases c1 : a.toInt < (h : Int) ∧ (h : Int) < y.toInt
    · rw [if_pos c1] at a2; omega
    · rw [if_neg c1] at a2; omega
  · rw [hk 0 (by decide), hk 32 (by decide)]; exact h4
  · rw [hk 35 (by decide), hk 36 (by decide)]; exact h5
