/-! the search hour by hour -/
def allW (w : Int32) (R : Nat → Prop) : Prop := ∀ p, p < 12 → hasB w p → R p
theorem hasB_12 {w : Int32} (h0 : 0 ≤ w.toInt) (h1 : w.toInt ≤ 4095) {p : Nat} (h : hasB w p) : p < 12 := by
  have h2 := i_nn h0
  rcases Nat.lt_or_ge p 12 with q | q
  · exact q
  · exfalso
    have h3 : w.toBitVec.toNat < 2 ^ p := Nat.lt_of_lt_of_le (show w.toBitVec.toNat < 2 ^ 12 by omega) (Nat.pow_le_pow_right (by decide) q)
    have h4 : w.toBitVec.toNat.testBit p = true := h
    rw [Nat.testBit_lt_two_pow h3] at h4
    exact Bool.noConfusion h4
theorem b_ext {x y : Int32} (h : ∀ p, p < 32 → (hasB x p ↔ hasB y p)) : x = y := by
  apply Int32.toBitVec_inj.mp
  apply BitVec.eq_of_getLsbD_eq
  intro i hi
  have h1 := h i hi
  unfold hasB at h1
  cases h2 : x.toBitVec.getLsbD i <;> cases h3 : y.toBitVec.getLsbD i <;> simp_all
theorem hb_and {x y : Int32} {p : Nat} : hasB (x &&& y) p ↔ hasB x p ∧ hasB y p := by
  unfold hasB
  rw [Int32.toBitVec_and, BitVec.getLsbD_and, Bool.and_eq_true]
theorem hb_not {x : Int32} {p : Nat} (hp : p < 32) : hasB (x ^^^ (-1)) p ↔ ¬ hasB x p := by
  unfold hasB
  rw [Int32.toBitVec_xor, show (-1 : Int32).toBitVec = BitVec.allOnes 32 by decide, BitVec.getLsbD_xor, BitVec.getLsbD_allOnes]
  simp [hp]
theorem all_and {x w : Int32} {R : Nat → Prop} (h0 : 0 ≤ w.toInt) (h1 : w.toInt ≤ 4095) (hx : rchB x R) : (x &&& w = w) ↔ allW w R := by
  constructor
  · intro h p hp hw
    rw [← h] at hw
    exact (hx p hp).mp (hb_and.mp hw).1
  · intro h
    apply b_ext
    intro p _
    rw [hb_and]
    exact ⟨fun y => y.2, fun y => ⟨(hx p (hasB_12 h0 h1 y)).mpr (h p (hasB_12 h0 h1 y) y), y⟩⟩
theorem all_not {w l : Int32} (h0 : 0 ≤ w.toInt) (h1 : w.toInt ≤ 4095) : (w &&& (l ^^^ (-1)) = 0) ↔ allW w (hasB l) := by
  constructor
  · intro h p hp hw
    refine Classical.byContradiction fun z => ?_
    have := hb_and.mpr ⟨hw, (hb_not (x := l) (show p < 32 by omega)).mpr z⟩
    rw [h] at this
    exact hasB_0 _ this
  · intro h
    apply b_ext
    intro p hp
    refine ⟨fun y => ?_, fun y => (hasB_0 _ y).elim⟩
    have y := hb_and.mp y
    exact absurd (h p (hasB_12 h0 h1 y.1) y.1) ((hb_not hp).mp y.2)
section SO
variable {N : Net} {f p : Nat} {t h : Int}
theorem so_link {l : Nat → Int32} (hL : LnkC l N) (hf : f < 12) (hp : p < 12) (a : rchF N f t h p) : hasB (l f) p := by
  rcases a with a | a
  · exact hL 0 f p hf hp a.symm
  · obtain ⟨n, a⟩ := (fw_eq_bw N (-1) f p t h).mp a
    exact hL n f p hf hp (lk_bw n f t a)
theorem so_ok : actOk N h (actF N f t (h - 1)) := fun c d a => ⟨a.1, (by obtain ⟨s, b1, b2, -⟩ := a.2.2.1; exact ⟨s, by omega, by omega⟩), by have := a.2.2.2; omega⟩
theorem so_ok2 {z : Nat → Nat} : actOk N h (fun c d => actF N f t (h - 1) c d ∧ htN N c d (z c) ≠ h) := fun c d a => so_ok c d a.1
theorem so_down (hN : wfN N) (ht : t ≤ h) {x : Int32} (a : rchB x (fun p => rchF N f t (h - 1) p ∨ ∃ c d s, c < nK N ∧ s < nS N c ∧ actF N f t (h - 1) c d ∧ htN N c d s = h ∧ nP N c s = p)) : rchB x (rchF N f t h) := fun p hp => by
  rw [a p hp]
  exact sw_down hN ht
theorem so_on (hN : wfN N) (ht : t ≤ h) {g : Nat → Int32} (a : ridB N g (fun c d => (actF N f t (h - 1) c d ∧ htN N c d (lastS N c) ≠ h) ∨ (c < nK N ∧ runN N c d ∧ ∃ s, s < nS N c ∧ (s + 1 < nS N c ∧ rchF N f t h (nP N c s)) ∧ htN N c d s = h))) : ridB N g (actF N f t h) := by
  refine ridB_iff a (fun c d _ => ?_)
  rw [← sw_on hN ht]
  constructor
  · rintro (y | ⟨y1, y2, s, _, ⟨y4, y5⟩, y6⟩)
    · exact Or.inl y
    · exact Or.inr ⟨y1, y2, s, y4, y6, y5⟩
  · rintro (y | ⟨y1, y2, s, y4, y6, y5⟩)
    · exact Or.inl y
    · exact Or.inr ⟨y1, y2, s, by omega, ⟨y4, y5⟩, y6⟩
theorem so_rid0 (hN : wfN N) {g : Nat → Int32} (hg : ∀ j : Nat, j < 12 → g j = 0) : ridB N g (actF N f t (t - 1)) := fun c hc r _ => by
  rw [hg c (by have := hN.1; omega)]
  exact ⟨fun y => (hasB_0 _ y).elim, fun ⟨_, _, y⟩ => (sw_none hN y).elim⟩
theorem so_rch0 (hN : wfN N) {x u : Int32} (hu : 0 ≤ u.toInt ∧ u.toInt ≤ 11) (hx : x = pBI u) : rchB x (rchF N u.toNatClampNeg t (t - 1)) := fun p hp => by
  have h2 := cl_eq hu.1
  rw [sw_first hN, hx]
  unfold hasB
  rw [(pB_at hu.1 hu.2).1, BitVec.getLsbD_twoPow]
  constructor
  · intro y
    simp at y
    omega
  · intro y
    subst y
    simp
    omega
/-- what the search answers -/
def sooP (N : Net) (f : Nat) (a b : Int) (w x : Int32) : Prop := 0 ≤ w.toInt → w.toInt ≤ 4095 → ((x.toInt = -1 ∧ ∀ k : Int, a ≤ k → k ≤ b → ¬ allW w (rchF N f a k)) ∨ ((a ≤ x.toInt ∧ x.toInt ≤ b) ∧ allW w (rchF N f a x.toInt) ∧ ∀ k : Int, a ≤ k → k < x.toInt → ¬ allW w (rchF N f a k)))
def sooI (N : Net) (f : Nat) (a h : Int) (w : Int32) : Prop := 0 ≤ w.toInt → w.toInt ≤ 4095 → ∀ k : Int, a ≤ k → k < h → ¬ allW w (rchF N f a k)
theorem so_i0 {w : Int32} {a : Int} : sooI N f a a w := fun _ _ k h1 h2 => by omega
theorem so_is {w x : Int32} {a : Int} (hI : sooI N f a h w) (hx : rchB x (rchF N f a h)) (hn : ¬ (x &&& w = w)) : sooI N f a (h + 1) w := fun w0 w1 k h1 h2 => by
  by_cases q : k = h
  · subst q
    exact fun z => hn ((all_and w0 w1 hx).mpr z)
  · exact hI w0 w1 k h1 (by omega)
theorem so_no {w x : Int32} {a b : Int} {l : Nat → Int32} (hL : LnkC l N) (hf : f < 12) (hn : ¬ (w &&& (l f ^^^ (-1)) = 0)) (hx : x.toInt = -1) : sooP N f a b w x := fun w0 w1 => Or.inl ⟨hx, fun k _ _ z => hn ((all_not w0 w1).mpr fun p hp hw => so_link hL hf hp (z p hp hw))⟩
theorem so_end {w x : Int32} {a b : Int} (hI : sooI N f a h w) (hh : b < h) (hx : x.toInt = -1) : sooP N f a b w x := fun w0 w1 => Or.inl ⟨hx, fun k h1 h2 => hI w0 w1 k h1 (by omega)⟩
theorem so_hit {w x y : Int32} {a b : Int} (hI : sooI N f a y.toInt w) (ha : a ≤ y.toInt) (hb : y.toInt ≤ b) (hx : rchB x (rchF N f a y.toInt)) (hn : x &&& w = w) : sooP N f a b w y := fun w0 w1 => Or.inr ⟨⟨ha, hb⟩, (all_and w0 w1 hx).mp hn, fun k h1 h2 => hI w0 w1 k h1 h2⟩
theorem rch_mono {k : Int} (hk : h ≤ k) (a : rchF N f t h p) : rchF N f t k p := a.elim Or.inl (fun a => Or.inr (fw_mono a hk))
end SO
theorem fill_s {σ σ' : QS} {v i : Nat} {z x y : Int32} (e : σ' = rs σ v i (upd (σ v i) x.toNatClampNeg z)) (h : ∀ j : Nat, (j : Int) < x.toInt → σ v i j = z) (hy : y.toInt = x.toInt + 1) (hx : 0 ≤ x.toInt) : ∀ j : Nat, (j : Int) < y.toInt → σ' v i j = z := by
  intro j hj
  have h2 := cl_eq hx
  rw [e, rs_self]
  unfold upd
  by_cases q : j = x.toNatClampNeg
  · rw [if_pos q]
  · rw [if_neg q]
    exact h j (by omega)
/-- which places stand as come to when the search has ended -/
def sooR (N : Net) (f : Nat) (a b : Int) (r x : Int32) : Prop := ∃ h : Int, ((x.toInt = -1 ∧ (h = b ∨ (b < a ∧ h = a - 1))) ∨ (x.toInt ≠ -1 ∧ h = x.toInt)) ∧ rchB r (rchF N f a h)
