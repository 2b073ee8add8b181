/-! growLinks: one pass over the carts -/
def b12 (x : Int32) : Prop := ∀ p, hasB x p → p < 12
theorem b12_0 : b12 0 := fun _ h => (hasB_0 _ h).elim
theorem hb_or {x y : Int32} {p : Nat} : hasB (x ||| y) p ↔ hasB x p ∨ hasB y p := by
  unfold hasB
  rw [Int32.toBitVec_or, BitVec.getLsbD_or, Bool.or_eq_true]
theorem b12_or {x y : Int32} (hx : b12 x) (hy : b12 y) : b12 (x ||| y) := fun p h => (hb_or.mp h).elim (hx p) (hy p)
theorem hb_lt {x : Int32} {p : Nat} (h : hasB x p) : p < 32 := by
  rcases Nat.lt_or_ge p 32 with q | q
  · exact q
  · exact absurd h (by unfold hasB; rw [BitVec.getLsbD_of_ge _ _ q]; exact Bool.noConfusion)
/-- the links of the stops behind `st` are taken into those before -/
def glI (N : Net) (f u : Nat → Int32) (c : Nat) (st : Int) (lat : Int32) : Prop :=
  (∀ p q, p < 12 → hasB (f p) q → hasB (u p) q) ∧
  (∀ c9 s s' q, c9 < nK N → nW N c9 ≠ 0 → s < s' → s' < nS N c9 → (c9 < c ∨ (c9 = c ∧ st < (s : Int))) → hasB (f (nP N c9 s')) q → hasB (u (nP N c9 s)) q) ∧
  (c < nK N → nW N c ≠ 0 → ∀ s' q : Nat, st < (s' : Int) → s' < nS N c → hasB (f (nP N c s')) q → hasB lat q) ∧
  ((∀ p, p < 12 → b12 (f p)) → (∀ p, p < 12 → b12 (u p)) ∧ b12 lat)
section GL
variable {N : Net} {f u v : Nat → Int32} {c : Nat} {st : Int} {lat la2 : Int32}
theorem gl_in (hN : wfN N) (hc : c < nK N) (hI : glI N f u c 6 0) (hs : (nW N c = 0) ∨ st + 1 = nS N c) : glI N f u c st 0 := by
  refine ⟨hI.1, fun c9 s s' q h1 h2 h3 h4 h5 h6 => ?_, fun h1 h2 s' q h3 h4 _ => ?_, fun h => ⟨(hI.2.2.2 h).1, b12_0⟩⟩
  · rcases h5 with h5 | ⟨h5, h7⟩
    · exact hI.2.1 c9 s s' q h1 h2 h3 h4 (Or.inl h5) h6
    · exfalso
      subst h5
      rcases hs with z | z
      · exact h2 z
      · omega
  · exfalso
    rcases hs with z | z
    · exact h2 z
    · omega
theorem gl_out (hN : wfN N) (hI : glI N f u c (-1) lat) : glI N f u (c + 1) 6 0 := by
  refine ⟨hI.1, fun c9 s s' q h1 h2 h3 h4 h5 h6 => ?_, fun h1 h2 s' q h3 h4 _ => ?_, fun h => ⟨(hI.2.2.2 h).1, b12_0⟩⟩
  · refine hI.2.1 c9 s s' q h1 h2 h3 h4 ?_ h6
    rcases h5 with h5 | ⟨h5, h7⟩
    · by_cases z : c9 = c
      · exact Or.inr ⟨z, by omega⟩
      · exact Or.inl (by omega)
    · have := (hN.2 c9 h1).1
      omega
  · have := (hN.2 _ h1).1
    omega
theorem gl_st (hN : wfN N) (hc : c < nK N) {s0 : Nat} (hs : s0 < nS N c) (e0 : (s0 : Int) = st) (hI : glI N f u c st lat) (hv : (v = u ∧ ∀ q, hasB lat q → hasB (u (nP N c s0)) q) ∨ v = upd u (nP N c s0) (u (nP N c s0) ||| lat)) (hl : la2 = (lat ||| v (nP N c s0))) : glI N f v c (st - 1) la2 := by
  have hp := (((hN.2 c hc).2.2.2.1) s0 hs).1
  have hm : ∀ p q, hasB (u p) q → hasB (v p) q := by
    intro p q h
    rcases hv with ⟨e, -⟩ | e
    · rw [e]
      exact h
    · rw [e]
      unfold upd
      by_cases z : p = nP N c s0
      · rw [if_pos z, hb_or]
        rw [z] at h
        exact Or.inl h
      · rw [if_neg z]
        exact h
  have hn : ∀ q, hasB lat q → hasB (v (nP N c s0)) q := by
    intro q h
    rcases hv with ⟨e, e2⟩ | e
    · rw [e]
      exact e2 q h
    · rw [e]
      unfold upd
      rw [if_pos rfl, hb_or]
      exact Or.inr h
  refine ⟨fun p q h1 h2 => hm p q (hI.1 p q h1 h2), fun c9 s s' q h1 h2 h3 h4 h5 h6 => ?_, fun h1 h2 s' q h3 h4 h5 => ?_, fun h => ?_⟩
  · rcases h5 with h5 | ⟨h5, h7⟩
    · exact hm _ _ (hI.2.1 c9 s s' q h1 h2 h3 h4 (Or.inl h5) h6)
    · by_cases z : s = s0
      · subst h5
        subst z
        exact hn q (hI.2.2.1 h1 h2 s' q (by omega) h4 h6)
      · exact hm _ _ (hI.2.1 c9 s s' q h1 h2 h3 h4 (Or.inr ⟨h5, by omega⟩) h6)
  · rw [hl, hb_or]
    by_cases z : s' = s0
    · subst z
      exact Or.inr (hm _ _ (hI.1 _ q hp h5))
    · exact Or.inl (hI.2.2.1 h1 h2 s' q (by omega) h4 h5)
  · have h9 := hI.2.2.2 h
    have h8 : ∀ p, p < 12 → b12 (v p) := by
      intro p hp9
      rcases hv with ⟨e, -⟩ | e
      · rw [e]
        exact h9.1 p hp9
      · rw [e]
        unfold upd
        by_cases z : p = nP N c s0
        · rw [if_pos z]
          exact b12_or (h9.1 _ hp) h9.2
        · rw [if_neg z]
          exact h9.1 p hp9
    exact ⟨h8, by rw [hl]; exact b12_or h9.2 (h8 _ hp)⟩
theorem gl_b (hN : wfN N) : glI N f f 0 6 0 := by
  refine ⟨fun _ _ _ h => h, fun c9 s s' q h1 h2 h3 h4 h5 _ => ?_, fun h1 h2 s' q h3 h4 _ => ?_, fun h => ⟨h, b12_0⟩⟩
  · have := (hN.2 c9 h1).1
    omega
  · have := (hN.2 _ h1).1
    omega
/-- what a pass gives -/
def glP (N : Net) (f u : Nat → Int32) (x : Int32) : Prop := (∀ p q, p < 12 → hasB (f p) q → hasB (u p) q) ∧ (∀ p r q, lnk N p r → hasB (f r) q → hasB (u p) q) ∧ ((∀ p, p < 12 → b12 (f p)) → ∀ p, p < 12 → b12 (u p)) ∧ (x.toInt = 0 → u = f)
theorem gl_end {x : Int32} (hc : c = nK N) (hI : glI N f u c 6 0) (hx : x.toInt = 0 → u = f) : glP N f u x := by
  refine ⟨hI.1, fun p r q h h9 => ?_, fun h => (hI.2.2.2 h).1, hx⟩
  obtain ⟨c9, s, s', b1, b2, b3, b4, rfl, rfl⟩ := h
  exact hI.2.1 c9 s s' q b1 b2 b3 b4 (Or.inl (by omega)) h9
theorem gl_next (hN : wfN N) {x : Int32} {k : Nat} (h : lkAt N k f) (hP : glP N f u x) : lkAt N (k + 1) u := lk_pass hN h (fun p q hp _ => hP.1 p q hp) (fun p r q hl _ => hP.2.1 p r q hl)
theorem gl_stop (hN : wfN N) {x : Int32} {k : Nat} (h : lkAt N k f) (hP : glP N f u x) (hx : x.toInt = 0) : LnkC u N := by
  have e := hP.2.2.2 hx
  subst e
  exact lk_closed hN (fun p q hp hq a => h p q hp hq (by
    have a : p = q := a
    subst a
    clear h hP hx hp hq
    induction k with
    | zero => rfl
    | succ k ih => exact Or.inl ih)) (fun p r q hl _ => hP.2.1 p r q hl)
theorem lk_init {g : Nat → Int32} (h : ∀ j : Nat, j < 12 → g j = pBI (nI j)) : lkAt N 0 g ∧ ∀ p, p < 12 → b12 (g p) := by
  refine ⟨fun p q hp hq a => ?_, fun p hp q h9 => ?_⟩
  · have a : p = q := a
    subst a
    rw [h p hp]
    unfold hasB
    rw [(pB_all ⟨p, hp⟩).1, BitVec.getLsbD_twoPow]
    simp
    omega
  · rw [h p hp] at h9
    unfold hasB at h9
    rw [(pB_all ⟨p, hp⟩).1, BitVec.getLsbD_twoPow] at h9
    simp at h9
    omega
end GL
theorem gl_sub {lat l : Int32} (h : lat &&& (l ^^^ (-1)) = 0) : ∀ q, hasB lat q → hasB l q := by
  intro q hq
  refine Classical.byContradiction fun z => ?_
  have := hb_and.mpr ⟨hq, (hb_not (x := l) (hb_lt hq)).mpr z⟩
  rw [h] at this
  exact hasB_0 _ this
theorem init_s {σ σ' : QS} {r x y : Int32} (e : σ' = rs σ 8 0 (upd (σ 8 0) x.toNatClampNeg r)) (h : ∀ j : Nat, (j : Int) < x.toInt → σ 8 0 j = pBI (nI j)) (hy : y.toInt = x.toInt + 1) (hx : 0 ≤ x.toInt) (hr : r = pBI x) : ∀ j : Nat, (j : Int) < y.toInt → σ' 8 0 j = pBI (nI j) := by
  intro j hj
  have h2 := cl_eq hx
  rw [e, rs_self]
  unfold upd
  by_cases q : j = x.toNatClampNeg
  · rw [if_pos q, q, ← nI_at hx, hr]
  · rw [if_neg q]
    exact h j (by omega)
