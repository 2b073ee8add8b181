/-! snow on both sides -/
def TSn (c2 c29 m3 m13 : Nat → Nat → Int32) : Prop := (c2 0 0).toInt = (m3 0 0).toInt ∧ (c2 0 0).toInt ≤ 100 ∧ ∀ c n : Nat, c < 12 → n ≤ 300 → (snB (c29 c) (nI n) ≠ 0 ↔ m13 0 (301 * c + n) ≠ 0)
theorem snow_tie {σ σ1 σM σ2 : QS} {a b x1 x2 : Int32} (hC : (σ 3 0 0).toInt ≤ 12) (hN : 0 ≤ (σ 1 0 0).toInt) (e1 : (σ 1 0 0).toInt = (σM 1 0 0).toInt) (e3 : (σ 3 0 0).toInt = (σM 2 0 0).toInt) (hS : TSn (σ 2) (σ 29) (σM 3) (σM 13))
    (q1 : (x1.toInt = 0 ∧ σ1 29 = σ 29 ∧ σ1 2 = σ 2 ∧ ¬ (0 ≤ a.toInt ∧ a.toInt < (σ 3 0 0).toInt ∧ (σ 1 0 0).toInt / 24 + 1 ≤ b.toInt ∧ b.toInt ≤ 300 ∧ (σ 2 0 0).toInt < 100 ∧ snB (σ 29 a.toNatClampNeg) b = 0)) ∨ (x1.toInt = 1 ∧ (0 ≤ a.toInt ∧ a.toInt < (σ 3 0 0).toInt ∧ (σ 1 0 0).toInt / 24 + 1 ≤ b.toInt ∧ b.toInt ≤ 300 ∧ (σ 2 0 0).toInt < 100 ∧ snB (σ 29 a.toNatClampNeg) b = 0) ∧ (σ1 2 0 0).toInt = (σ 2 0 0).toInt + 1 ∧ σ1 29 = rs σ 29 a.toNatClampNeg (snA (σ 29 a.toNatClampNeg) b) 29))
    (q2 : (x2.toInt = 0 ∧ σ2 13 = σM 13 ∧ σ2 3 = σM 3 ∧ ¬ (0 ≤ a.toInt ∧ a.toInt < (σM 2 0 0).toInt ∧ (σM 1 0 0).toInt / 24 + 1 ≤ b.toInt ∧ b.toInt ≤ 300 ∧ (σM 3 0 0).toInt ≠ 100 ∧ σM 13 0 (301 * a.toNatClampNeg + b.toNatClampNeg) = 0)) ∨ (x2.toInt = 1 ∧ (0 ≤ a.toInt ∧ a.toInt < (σM 2 0 0).toInt ∧ (σM 1 0 0).toInt / 24 + 1 ≤ b.toInt ∧ b.toInt ≤ 300 ∧ (σM 3 0 0).toInt ≠ 100 ∧ σM 13 0 (301 * a.toNatClampNeg + b.toNatClampNeg) = 0) ∧ (σ2 3 0 0).toInt = (σM 3 0 0).toInt + 1 ∧ σ2 13 = rs σM 13 0 (upd (σM 13 0) (301 * a.toNatClampNeg + b.toNatClampNeg) 1) 13)) :
    x1.toInt = x2.toInt ∧ TSn (σ1 2) (σ1 29) (σ2 3) (σ2 13) := by
  obtain ⟨s1, s2, s3⟩ := id hS
  have bit : 0 ≤ a.toInt → a.toInt < (σ 3 0 0).toInt → 0 ≤ b.toInt → b.toInt ≤ 300 → (snB (σ 29 a.toNatClampNeg) b = 0 ↔ σM 13 0 (301 * a.toNatClampNeg + b.toNatClampNeg) = 0) := by
    intro g1 g2 g3 g4
    have h1 := cl_eq g1
    have h2 := cl_eq g3
    have h3 := s3 a.toNatClampNeg b.toNatClampNeg (by omega) (by omega)
    rw [← nI_at g3] at h3
    exact ⟨fun h => Classical.byContradiction fun h9 => (h3.mpr h9) h, fun h => Classical.byContradiction fun h9 => (h3.mp h9) h⟩
  have key : (0 ≤ a.toInt ∧ a.toInt < (σ 3 0 0).toInt ∧ (σ 1 0 0).toInt / 24 + 1 ≤ b.toInt ∧ b.toInt ≤ 300 ∧ (σ 2 0 0).toInt < 100 ∧ snB (σ 29 a.toNatClampNeg) b = 0) ↔ (0 ≤ a.toInt ∧ a.toInt < (σM 2 0 0).toInt ∧ (σM 1 0 0).toInt / 24 + 1 ≤ b.toInt ∧ b.toInt ≤ 300 ∧ (σM 3 0 0).toInt ≠ 100 ∧ σM 13 0 (301 * a.toNatClampNeg + b.toNatClampNeg) = 0) := by
    constructor
    · rintro ⟨g1, g2, g3, g4, g5, g6⟩
      exact ⟨g1, by omega, by omega, g4, by omega, (bit g1 g2 (by omega) g4).mp g6⟩
    · rintro ⟨g1, g2, g3, g4, g5, g6⟩
      exact ⟨g1, by omega, by omega, g4, by omega, (bit g1 (by omega) (by omega) g4).mpr g6⟩
  rcases q1 with ⟨u1, u2, u3, u4⟩ | ⟨u1, u2, u3, u4⟩ <;> rcases q2 with ⟨w1, w2, w3, w4⟩ | ⟨w1, w2, w3, w4⟩
  · exact ⟨by rw [u1, w1], by rw [u2, u3, w2, w3]; exact hS⟩
  · exact absurd (key.mpr w2) u4
  · exact absurd (key.mp u2) w4
  · obtain ⟨g1, g2, g3, g4, g5, g6⟩ := u2
    have h1 := cl_eq g1
    have h2 := cl_eq (j := b) (by omega)
    refine ⟨by rw [u1, w1], by omega, by omega, fun c n hc hn => ?_⟩
    rw [u4, w4, rs_self]
    by_cases hca : c = a.toNatClampNeg
    · subst hca
      have hb : b = nI b.toNatClampNeg := nI_at (by omega)
      rw [rs_self, show snA (σ 29 a.toNatClampNeg) b = snA (σ 29 a.toNatClampNeg) (nI b.toNatClampNeg) by rw [← hb], sn_add hn (by omega)]
      unfold upd
      by_cases hnb : n = b.toNatClampNeg
      · rw [if_pos (by rw [hnb])]
        exact ⟨fun _ => by decide, fun _ => Or.inl hnb⟩
      · rw [if_neg (by omega), ← s3 _ n hc hn]
        exact ⟨fun h => h.resolve_left hnb, fun h => Or.inr h⟩
    · rw [rs_i hca]
      unfold upd
      rw [if_neg (by omega)]
      exact s3 c n hc hn
theorem snow_0 (u : tN) (v : (Nat → Nat) × (Nat → Int32)) : TSn (sN u 2) (sN u 29) (sM v 3) (sM v 13) := by
  refine ⟨rfl, (by show (0 : Int32).toInt ≤ 100; decide), fun c n hc hn => ?_⟩
  have h1 : sN u 29 c = fun _ => 0 := rfl
  have h2 : sM v 13 0 (301 * c + n) = 0 := rfl
  rw [h1, h2, sn_at hn]
  constructor
  · intro h
    exact absurd h (by show ¬ (BitVec.getLsbD (0#32) _ = true); simp)
  · intro h
    exact absurd rfl h
