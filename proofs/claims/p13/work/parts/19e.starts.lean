/-! startsFor -/
def stI (Q : Nat → Prop) (x : Int32) (k : Int) : Prop := ∀ p : Nat, hasB x p ↔ ((p : Int) < k ∧ Q p)
theorem st_0 {Q : Nat → Prop} : stI Q 0 0 := fun p => ⟨fun y => (hasB_0 _ y).elim, fun y => by have := y.1; omega⟩
theorem st_y {Q : Nat → Prop} {x y k : Int32} (hI : stI Q x k.toInt) (hk : 0 ≤ k.toInt ∧ k.toInt ≤ 11) (hQ : Q k.toNatClampNeg) (e : y = (x ||| pBI k)) : stI Q y (k.toInt + 1) := fun p => by
  have h2 := cl_eq hk.1
  rw [e, bw_or (i := k.toNatClampNeg) (by omega) (pB_at hk.1 hk.2).1, hI p]
  constructor
  · rintro (z | z)
    · exact ⟨by have := z.1; omega, z.2⟩
    · exact ⟨by omega, by rw [z]; exact hQ⟩
  · intro z
    by_cases w : p = k.toNatClampNeg
    · exact Or.inr w
    · exact Or.inl ⟨by have := z.1; omega, z.2⟩
theorem st_n {Q : Nat → Prop} {x k : Int32} (hI : stI Q x k.toInt) (hk : 0 ≤ k.toInt) (hQ : ¬ Q k.toNatClampNeg) : stI Q x (k.toInt + 1) := fun p => by
  have h2 := cl_eq hk
  rw [hI p]
  constructor
  · exact fun z => ⟨by have := z.1; omega, z.2⟩
  · intro z
    by_cases w : p = k.toNatClampNeg
    · rw [w] at z
      exact absurd z.2 hQ
    · exact ⟨by have := z.1; omega, z.2⟩
theorem st_e {Q : Nat → Prop} {x : Int32} {k : Int} (hI : stI Q x k) (hk : k = 12) : rchB x Q ∧ b12 x := ⟨fun p hp => by
  rw [hI p]
  exact ⟨fun z => z.2, fun z => ⟨by omega, z⟩⟩, fun p hp => by have := ((hI p).mp hp).1; omega⟩
theorem cl_n1 {x y : Int32} (h : y.toInt = x.toInt + 1) (hx : 0 ≤ x.toInt) : y.toNatClampNeg = x.toNatClampNeg + 1 := by
  have h2 := cl_eq hx
  have h3 := cl_eq (j := y) (by omega)
  omega
