/-! the halts of a day in the class's row -/
def hvN (N : Net) (c s : Nat) : Int := 128 * ((nH N c + nO N c s) % 24) + 8 * (c : Int) + 7 - (s : Int)
def HalC (h6 h7 : Nat → Int32) (N : Net) : Prop :=
  (∀ k : Nat, k ≤ 24 → 0 ≤ (h7 k).toInt ∧ (h7 k).toInt ≤ (h7 24).toInt) ∧
  (∀ i : Nat, (i : Int) < (h7 24).toInt → ∃ c s, c < nK N ∧ s < nS N c ∧ (h6 i).toInt = hvN N c s) ∧
  (∀ c s, c < nK N → s < nS N c → ∃ i : Nat, (i : Int) < (h7 24).toInt ∧ (h6 i).toInt = hvN N c s) ∧
  (∀ i j : Nat, i < j → (j : Int) < (h7 24).toInt → (h6 i).toInt < (h6 j).toInt) ∧
  (∀ k i : Nat, k ≤ 24 → (i : Int) < (h7 24).toInt → ((i : Int) < (h7 k).toInt ↔ (h6 i).toInt < 128 * (k : Int)))
theorem hv_dec : ∀ k : Fin 24, ∀ c : Fin 12, ∀ s : Fin 6, ((nI (128 * k.val + 8 * c.val + 7 - s.val) >>> ((3 : Int32) &&& 31)) &&& 15) = nI c.val ∧ ((7 : Int32) - (nI (128 * k.val + 8 * c.val + 7 - s.val) &&& 7)) = nI s.val := by decide +kernel
section HA
variable {N : Net} {h6 h7 : Nat → Int32}
theorem hv_b (hN : wfN N) {c s : Nat} (hc : c < nK N) (hs : s < nS N c) : c < 12 ∧ s < 6 ∧ 0 ≤ (nH N c + nO N c s) % 24 ∧ (nH N c + nO N c s) % 24 < 24 := by
  have h1 := hN.1
  have h2 := (hN.2 c hc).1
  omega
theorem hv_of (hN : wfN N) {c s : Nat} {x : Int32} (hc : c < nK N) (hs : s < nS N c) (e : x.toInt = hvN N c s) : ((x >>> ((3 : Int32) &&& 31)) &&& 15) = nI c ∧ ((7 : Int32) - (x &&& 7)) = nI s := by
  obtain ⟨h1, h2, h3, h4⟩ := hv_b hN hc hs
  have h := hv_dec ⟨((nH N c + nO N c s) % 24).toNat, by omega⟩ ⟨c, h1⟩ ⟨s, h2⟩
  simp only at h
  have e2 : x = nI (128 * ((nH N c + nO N c s) % 24).toNat + 8 * c + 7 - s) := by
    apply Int32.toInt_inj.mp
    rw [nI_toInt (by omega), e]
    unfold hvN
    omega
  rw [e2]
  exact h
theorem hv_inj (hN : wfN N) {c s c' s' : Nat} (hc : c < nK N) (hs : s < nS N c) (hc' : c' < nK N) (hs' : s' < nS N c') (e : hvN N c s = hvN N c' s') : c = c' ∧ s = s' := by
  have h1 := hv_b hN hc hs
  have h2 := hv_b hN hc' hs'
  unfold hvN at e
  omega
def PrH (N : Net) (h6 : Nat → Int32) (b i : Int) (c s : Nat) : Prop := c < nK N ∧ s < nS N c ∧ ∃ j : Nat, b ≤ (j : Int) ∧ (j : Int) < i ∧ (h6 j).toInt = hvN N c s
theorem pr_none {b : Int} {c s : Nat} : ¬ PrH N h6 b b c s := by
  rintro ⟨-, -, j, h1, h2, -⟩
  omega
theorem pr_step (hN : wfN N) {b i : Int} {k c0 s0 : Nat} (hi : (k : Int) = i) (hb : b ≤ i) (hc : c0 < nK N) (hs : s0 < nS N c0) (e : (h6 k).toInt = hvN N c0 s0) {c s : Nat} : PrH N h6 b (i + 1) c s ↔ PrH N h6 b i c s ∨ (c = c0 ∧ s = s0) := by
  constructor
  · rintro ⟨a1, a2, j, b1, b2, b3⟩
    by_cases q : j = k
    · subst q
      exact Or.inr (hv_inj hN a1 a2 hc hs (b3.symm.trans e))
    · exact Or.inl ⟨a1, a2, j, b1, by omega, b3⟩
  · rintro (⟨a1, a2, j, b1, b2, b3⟩ | ⟨rfl, rfl⟩)
    · exact ⟨a1, a2, j, b1, by omega, b3⟩
    · exact ⟨hc, hs, k, by omega, by omega, e⟩
theorem pr_new (hH : HalC h6 h7 N) {b i : Int} {k c0 s0 : Nat} (hi : (k : Int) = i) (hk : i < (h7 24).toInt) (e : (h6 k).toInt = hvN N c0 s0) : ¬ PrH N h6 b i c0 s0 := by
  rintro ⟨-, -, j, b1, b2, b3⟩
  have := hH.2.2.2.1 j k (by omega) (by omega)
  omega
theorem pr_all (hN : wfN N) (hH : HalC h6 h7 N) {k : Nat} (hk : k < 24) {c s : Nat} : PrH N h6 (h7 k).toInt (h7 (k + 1)).toInt c s ↔ c < nK N ∧ s < nS N c ∧ (nH N c + nO N c s) % 24 = k := by
  have f1 := hH.1 k (by omega)
  have f2 := hH.1 (k + 1) (by omega)
  constructor
  · rintro ⟨a1, a2, j, b1, b2, b3⟩
    have g1 := hH.2.2.2.2 k j (by omega) (by omega)
    have g2 := hH.2.2.2.2 (k + 1) j (by omega) (by omega)
    have g3 := hv_b hN a1 a2
    refine ⟨a1, a2, ?_⟩
    have g4 := g2.mp b2
    have g5 : ¬ (h6 j).toInt < 128 * (k : Int) := fun z => by have := g1.mpr z; omega
    rw [b3] at g4 g5
    unfold hvN at g4 g5
    omega
  · rintro ⟨a1, a2, a3⟩
    obtain ⟨j, b1, b2⟩ := hH.2.2.1 c s a1 a2
    have g1 := hH.2.2.2.2 k j (by omega) b1
    have g2 := hH.2.2.2.2 (k + 1) j (by omega) b1
    have g3 := hv_b hN a1 a2
    refine ⟨a1, a2, j, ?_, g2.mpr ?_, b2⟩
    · rcases Int.lt_or_le (j : Int) (h7 k).toInt with q | q
      · have := g1.mp q
        rw [b2] at this
        unfold hvN at this
        omega
      · exact q
    · rw [b2]
      unfold hvN
      omega
theorem pr_at (hH : HalC h6 h7 N) {k i : Nat} (hk : k < 24) (h1 : (h7 k).toInt ≤ (i : Int)) (h2 : (i : Int) < (h7 (k + 1)).toInt) : ∃ c s, c < nK N ∧ s < nS N c ∧ (h6 i).toInt = hvN N c s :=
  hH.2.1 i (by have := hH.1 (k + 1) (by omega); omega)
end HA
/-- bits of small numbers -/
def hasB (x : Int32) (r : Nat) : Prop := x.toBitVec.getLsbD r = true
def ridB (N : Net) (f : Nat → Int32) (act : Nat → Nat → Prop) : Prop := ∀ c, c < nK N → ∀ r, r < 4 → (hasB (f c) r ↔ ∃ d, d % 4 = r ∧ act c d)
def rchB (x : Int32) (R : Nat → Prop) : Prop := ∀ p, p < 12 → (hasB x p ↔ R p)
