/-! small things for the reference's counts -/
theorem i32_z {x : Int32} : x + 0 = x := Int32.toInt_inj.mp (by have h := any32 x; rw [i_add (x := x) (y := 0) rfl (by show _ ≤ _ + (0 : Int); omega) (by show _ + (0 : Int) ≤ _; omega)]; show x.toInt + (0 : Int) = x.toInt; omega)
theorem InvM4 {σ σ' : QS} (h : InvM σ') (hk : Keep [0] σ σ') : 0 ≤ (σ 4 0 0).toInt ∧ (σ 4 0 0).toInt ≤ 60 := by
  have h1 : 0 ≤ (σ' 4 0 0).toInt ∧ (σ' 4 0 0).toInt ≤ 60 := h.1 4 0 0
  rw [hk 4 (by decide)] at h1
  exact h1
theorem InvM2 {σ σ' : QS} (h : InvM σ') (hk : Keep [0] σ σ') : 0 ≤ (σ 2 0 0).toInt ∧ (σ 2 0 0).toInt ≤ 12 := by
  have h1 : 0 ≤ (σ' 2 0 0).toInt ∧ (σ' 2 0 0).toInt ≤ 12 := h.1 2 0 0
  rw [hk 2 (by decide)] at h1
  exact h1
def tdF (A : PS) (i w : Nat) : Int32 := if w = 6 then A i 7 else if w = 7 then A i 8 else A i w
section TD
variable {σ : QS} {i : Nat}
theorem td_0 (hi : (i : Int) < (σ 4 0 0).toInt) : tdF (pM σ) i 0 = σ 18 0 i := pM_f hi (by decide) (by decide)
theorem td_1 (hi : (i : Int) < (σ 4 0 0).toInt) : tdF (pM σ) i 1 = σ 19 0 i := pM_f hi (by decide) (by decide)
theorem td_2 (hi : (i : Int) < (σ 4 0 0).toInt) : tdF (pM σ) i 2 = σ 20 0 i := pM_f hi (by decide) (by decide)
theorem td_3 (hi : (i : Int) < (σ 4 0 0).toInt) : tdF (pM σ) i 3 = σ 21 0 i := pM_f hi (by decide) (by decide)
theorem td_4 (hi : (i : Int) < (σ 4 0 0).toInt) : tdF (pM σ) i 4 = σ 22 0 i := pM_f hi (by decide) (by decide)
theorem td_5 (hi : (i : Int) < (σ 4 0 0).toInt) : tdF (pM σ) i 5 = σ 23 0 i := pM_f hi (by decide) (by decide)
theorem td_6 (hi : (i : Int) < (σ 4 0 0).toInt) : tdF (pM σ) i 6 = σ 25 0 i := pM_f hi (by decide) (by decide)
theorem td_7 (hi : (i : Int) < (σ 4 0 0).toInt) : tdF (pM σ) i 7 = σ 26 0 i := pM_f hi (by decide) (by decide)
end TD
