/-! addHalt puts one halt in its place -/
def haV (a b t : Int32) : Int32 := (((a <<< ((4 : Int32) &&& 31)) ||| b) <<< ((3 : Int32) &&& 31)) ||| ((7 : Int32) - t)
theorem haV_all : ∀ a : Fin 24, ∀ b : Fin 12, ∀ t : Fin 6, (haV (nI a.val) (nI b.val) (nI t.val)).toInt = 128 * (a.val : Int) + 8 * (b.val : Int) + 7 - (t.val : Int) := by decide +kernel
theorem haV_at {a b t : Int32} (ha : 0 ≤ a.toInt ∧ a.toInt ≤ 23) (hb : 0 ≤ b.toInt ∧ b.toInt ≤ 11) (ht : 0 ≤ t.toInt ∧ t.toInt ≤ 5) : (haV a b t).toInt = 128 * a.toInt + 8 * b.toInt + 7 - t.toInt := by
  have h := haV_all ⟨a.toNatClampNeg, cl_lt ha.1 (by omega)⟩ ⟨b.toNatClampNeg, cl_lt hb.1 (by omega)⟩ ⟨t.toNatClampNeg, cl_lt ht.1 (by omega)⟩
  simp only at h
  rw [← nI_at ha.1, ← nI_at hb.1, ← nI_at ht.1, cl_eq ha.1, cl_eq hb.1, cl_eq ht.1] at h
  exact h
/-- while room is made for it: x is the free place -/
def shI (h6 g6 : Nat → Int32) (F x : Int) (v : Int32) : Prop := (∀ j : Nat, (j : Int) < x → g6 j = h6 j) ∧ ∀ j : Nat, x ≤ (j : Int) → (j : Int) < F → g6 (j + 1) = h6 j ∧ v.toInt < (h6 j).toInt
theorem sh_0 {h6 : Nat → Int32} {F : Int} {v : Int32} : shI h6 h6 F F v := ⟨fun _ _ => rfl, fun _ h1 h2 => by omega⟩
theorem sh_s {σ1 σ2 : QS} {h6 : Nat → Int32} {F : Int} {x y z v r : Int32} (hI : shI h6 (σ1 6 0) F x.toInt v) (e : σ2 = rs σ1 6 0 (upd (σ1 6 0) x.toNatClampNeg r)) (hr : r = σ1 6 0 z.toNatClampNeg) (hz : z.toInt = x.toInt - 1) (hy : y.toInt = x.toInt - 1) (h0 : 0 ≤ y.toInt) (hv : v.toInt < r.toInt) : shI h6 (σ2 6 0) F y.toInt v := by
  have h1 := cl_eq (j := x) (by omega)
  have h2 := cl_eq (j := z) (by omega)
  have h3 : r = h6 z.toNatClampNeg := by rw [hr]; exact hI.1 _ (by omega)
  refine ⟨fun j hj => ?_, fun j hj1 hj2 => ?_⟩
  · rw [e, rs_self]
    unfold upd
    rw [if_neg (by omega)]
    exact hI.1 j (by omega)
  · rw [e, rs_self]
    unfold upd
    by_cases q : j = z.toNatClampNeg
    · rw [if_pos (by omega), q, ← h3]
      exact ⟨rfl, hv⟩
    · rw [if_neg (by omega)]
      exact hI.2 j (by omega) hj2
/-- where it was put -/
def insA (h6 g6 : Nat → Int32) (F : Int) (v : Int32) : Prop := ∃ a : Nat, (a : Int) ≤ F ∧ (∀ j : Nat, j < a → g6 j = h6 j) ∧ g6 a = v ∧ (∀ j : Nat, a ≤ j → (j : Int) < F → g6 (j + 1) = h6 j ∧ v.toInt < (h6 j).toInt) ∧ (a = 0 ∨ (h6 (a - 1)).toInt ≤ v.toInt)
theorem sh_e {σ1 σ2 : QS} {h6 : Nat → Int32} {F : Int} {x v : Int32} (hI : shI h6 (σ1 6 0) F x.toInt v) (e : σ2 = rs σ1 6 0 (upd (σ1 6 0) x.toNatClampNeg v)) (h0 : 0 ≤ x.toInt) (hF : x.toInt ≤ F) (hx : x.toInt = 0 ∨ (σ1 6 0 (x.toNatClampNeg - 1)).toInt ≤ v.toInt) : insA h6 (σ2 6 0) F v := by
  have h1 := cl_eq h0
  refine ⟨x.toNatClampNeg, by omega, fun j hj => ?_, ?_, fun j hj1 hj2 => ?_, ?_⟩
  · rw [e, rs_self]
    unfold upd
    rw [if_neg (by omega)]
    exact hI.1 j (by omega)
  · rw [e, rs_self]
    exact upd_self
  · rw [e, rs_self]
    unfold upd
    rw [if_neg (by omega)]
    exact hI.2 j (by omega) hj2
  · by_cases q : x.toNatClampNeg = 0
    · exact Or.inl q
    · refine Or.inr ?_
      rw [← hI.1 (x.toNatClampNeg - 1) (by omega)]
      rcases hx with z | z
      · omega
      · exact z
def insP (h6 h7 g6 g7 : Nat → Int32) (v : Int32) (q : Int) : Prop := insA h6 g6 (h7 24).toInt v ∧ ∀ k : Nat, k ≤ 24 → (g7 k).toInt = (h7 k).toInt + (if q < (k : Int) then 1 else 0)
theorem ins_7 {σ σ1 : QS} {a y : Int32} (hf : ∀ q : Nat, (σ1 7 0 q).toInt = (σ 7 0 q).toInt + (if a.toInt < (q : Int) ∧ (q : Int) < y.toInt then 1 else 0)) (hy : y.toInt = 25) : ∀ k : Nat, k ≤ 24 → (σ1 7 0 k).toInt = (σ 7 0 k).toInt + (if a.toInt < (k : Int) then 1 else 0) := by
  intro k hk
  rw [hf k]
  by_cases c1 : a.toInt < (k : Int)
  · rw [if_pos c1, if_pos (by omega)]
  · rw [if_neg c1, if_neg (by omega)]
theorem ins_hal {N M : Net} {h6 h7 g6 g7 : Nat → Int32} {c s : Nat} {v : Int32} {q : Int} (hM : wfN M) (hH : HalC h6 h7 N) (hm : moreS N M c s) (hv : ∀ c9 s9, c9 < nK N → s9 < nS N c9 → hvN M c9 s9 = hvN N c9 s9) (hn : ¬ (c < nK N ∧ s < nS N c)) (ev : v.toInt = hvN M c s) (eq : q = (nH M c + nO M c s) % 24) (hP : insP h6 h7 g6 g7 v q) : HalC g6 g7 M := by
  obtain ⟨⟨a, h1, h2, h3, h4, h5⟩, h8⟩ := hP
  refine hal_ins hM hH hm hv hn ev eq h1 h2 h3 (fun j hj1 hj2 => (h4 j hj1 hj2).1) (fun j hj1 hj2 => (h4 j hj1 hj2).2) (fun j hj => ?_) h8
  rcases h5 with z | z
  · omega
  · by_cases w : j = a - 1
    · rw [w]
      exact z
    · have := hH.2.2.2.1 j (a - 1) (by omega) (by omega)
      omega
