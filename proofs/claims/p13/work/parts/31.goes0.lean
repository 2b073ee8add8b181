/-! goes: how many shops have been gone to; what stands in been comes back as it was -/
def cntN (f : Nat → Int32) : Nat → Int
  | 0 => 0
  | n + 1 => cntN f n + (if n = 0 ∨ f n = 0 then 0 else 1)
def cntB (σ : QS) : Int := cntN (σ 33 0) 9
theorem cntN_out (f : Nat → Int32) (j : Nat) (x : Int32) : ∀ n, n ≤ j → cntN (upd f j x) n = cntN f n
  | 0, _ => rfl
  | n + 1, h => by
    have h1 : upd f j x n = f n := by unfold upd; rw [if_neg (by omega)]
    rw [cntN, cntN, cntN_out f j x n (by omega), h1]
theorem cntN_set (f : Nat → Int32) (j : Nat) (hj : j ≠ 0) (h0 : f j = 0) : ∀ n, j < n → cntN (upd f j 1) n = cntN f n + 1
  | 0, h => absurd h (Nat.not_lt_zero _)
  | n + 1, h => by
    by_cases q : j = n
    · subst q
      have h1 : upd f j 1 j = 1 := by unfold upd; rw [if_pos rfl]
      rw [cntN, cntN, cntN_out f j 1 j (Nat.le_refl _), h1, h0, if_pos (Or.inr rfl), if_neg (by intro z; rcases z with z | z; exact hj z; exact absurd z (by decide))]
      omega
    · have h1 : upd f j 1 n = f n := by unfold upd; rw [if_neg (Ne.symm q)]
      rw [cntN, cntN, cntN_set f j hj h0 n (by omega), h1]
      omega
theorem cntN_le (f : Nat → Int32) : ∀ n, cntN f (n + 1) ≤ n
  | 0 => by simp [cntN]
  | n + 1 => by
    have h1 := cntN_le f n
    rw [cntN]
    split <;> omega
theorem cntB_le (σ : QS) : cntB σ ≤ 8 := cntN_le _ 8
theorem cntB_congr {σ σ' : QS} (h : σ' 33 = σ 33) : cntB σ' = cntB σ := by unfold cntB; rw [h]
theorem cntB_set {σ σ' : QS} {s v : Int32} (e : σ' = rs σ 33 0 (upd (σ 33 0) s.toNatClampNeg (vp_nar .boolean 1))) (h1 : 1 ≤ s.toInt) (h2 : s.toInt ≤ 8) (hv : v = σ 33 0 s.toNatClampNeg) (h0 : v.toInt = 0) : cntB σ' = cntB σ + 1 := by
  have h3 := cl_eq (j := s) (by omega)
  have h4 : v = 0 := Int32.toInt_inj.mp (by rw [h0]; decide)
  unfold cntB
  rw [e, rs_self]
  exact cntN_set _ _ (by omega) (by rw [← hv, h4]) 9 (by omega)
theorem been_back {σh σ1 σ2 σ3 σ4 : QS} {s v : Int32} (e1 : σ1 = rs σh 33 0 (upd (σh 33 0) s.toNatClampNeg (vp_nar .boolean 1))) (e2 : σ2 33 = σ1 33) (e3 : σ3 33 = σ2 33) (e4 : σ4 = rs σ3 33 0 (upd (σ3 33 0) s.toNatClampNeg (vp_nar .boolean 0))) (hv : v = σh 33 0 s.toNatClampNeg) (h0 : v.toInt = 0) : σ4 33 = σh 33 := by
  have h4 : σh 33 0 s.toNatClampNeg = 0 := by rw [← hv]; exact Int32.toInt_inj.mp (by rw [h0]; decide)
  have hz : vp_nar .boolean 0 = 0 := by decide
  funext b c
  rw [e4]
  by_cases hb : b = 0
  · subst hb
    rw [rs_self, e3, e2, e1, rs_self]
    unfold upd
    by_cases hc : c = s.toNatClampNeg
    · rw [if_pos hc, hc, h4, hz]
    · rw [if_neg hc, if_neg hc]
  · rw [rs_i hb, e3, e2, e1, rs_i hb]
