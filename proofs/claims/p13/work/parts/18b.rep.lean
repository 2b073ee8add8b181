/-! the class's carts stand for a net -/
def RepC (σ : QS) (N : Net) : Prop := wfN N ∧ (σ 3 0 0).toInt = nK N ∧ ∀ c, c < nK N → ((σ 26 c 0).toInt = nS N c ∧ (σ 22 c 0).toInt = nH N c ∧ (σ 21 c 0).toInt = nW N c ∧ nW N c < 128) ∧ (∀ s, s < nS N c → (σ 27 c s).toInt = nP N c s ∧ (σ 28 c s).toInt = nO N c s) ∧ ∀ d, d ≤ 300 → (snB (σ 29 c) (nI d) ≠ 0 ↔ nN N c d)
theorem RepC_of {σ σ' : QS} {N : Net} (h : RepC σ N) (hd : ∀ v ∈ [3, 21, 22, 26, 27, 28, 29], σ' v = σ v) : RepC σ' N := by
  unfold RepC at h ⊢
  rw [hd 3 (by decide), hd 21 (by decide), hd 22 (by decide), hd 26 (by decide), hd 27 (by decide), hd 28 (by decide), hd 29 (by decide)]
  exact h
def gOn (w : Int32) (f : Nat → Int32) (day : Int32) : Prop := 0 ≤ day.toInt ∧ ((w >>> ((day - day / 7 * 7) &&& 31)) &&& 1) ≠ 0 ∧ (300 < day.toInt ∨ snB f day = 0)
theorem and31 : ∀ k : Fin 7, (nI k.val &&& 31) = nI k.val := by decide +kernel
theorem gOn_run {σ : QS} {N : Net} {c : Nat} {day : Int32} (hR : RepC σ N) (hc : c < nK N) : gOn (σ 21 c 0) (σ 29 c) day ↔ ∃ d : Nat, (d : Int) = day.toInt ∧ runN N c d := by
  obtain ⟨h1, h2, h3⟩ := hR
  obtain ⟨⟨a1, a2, a3, a4⟩, -, b2⟩ := h3 c hc
  have hw : (σ 21 c 0).toBitVec.toNat = nW N c := by
    have := i_nn (x := σ 21 c 0) (by omega)
    omega
  have key : ∀ d : Nat, (d : Int) = day.toInt → (((σ 21 c 0) >>> ((day - day / 7 * 7) &&& 31)) &&& 1 ≠ 0 ↔ (nW N c).testBit (d % 7) = true) := by
    intro d hd
    have e1 := i_rem (x := day) (y := 7) (z := day - day / 7 * 7) (n := 7) rfl (by decide) (by decide) (by omega)
    have e2 : day - day / 7 * 7 = nI (d % 7) := by
      apply Int32.toInt_inj.mp
      rw [nI_toInt (by omega), e1, ← hd]
      omega
    have e3 := and31 ⟨d % 7, by omega⟩
    simp only at e3
    rw [e2, e3, sn_bit _ (by omega)]
    show (σ 21 c 0).toBitVec.toNat.testBit (d % 7) = true ↔ _
    rw [hw]
  constructor
  · rintro ⟨g1, g2, g3⟩
    have hd : ((day.toInt.toNat : Nat) : Int) = day.toInt := by omega
    refine ⟨day.toInt.toNat, hd, (key _ hd).mp g2, fun h300 => ?_⟩
    rcases g3 with g3 | g3
    · omega
    · have g4 := b2 day.toInt.toNat h300
      have g5 : nI day.toInt.toNat = day := by
        apply Int32.toInt_inj.mp
        rw [nI_toInt (by omega), hd]
      rw [g5] at g4
      exact fun z => (g4.mpr z) g3
  · rintro ⟨d, hd, r1, r2⟩
    refine ⟨by omega, (key d hd).mpr r1, ?_⟩
    by_cases h300 : d ≤ 300
    · right
      have g4 := b2 d h300
      have g5 : nI d = day := by
        apply Int32.toInt_inj.mp
        rw [nI_toInt (by omega), hd]
      rw [g5] at g4
      exact Classical.byContradiction fun z => (r2 h300) (g4.mp z)
    · left
      omega
theorem i_div24 {x z : Int32} {k : Int} (e : z = x / 24) (hx : x.toInt = 24 * k) : z.toInt = k := by
  have h1 := any32 x
  rw [e, Int32.toInt_div, show (24 : Int32).toInt = 24 by decide, hx, Int.mul_tdiv_cancel_left k (by decide), i_bmod (by omega) (by omega)]
/-- the day of the run that is at a halt now -/
theorem day_of {N : Net} (hN : wfN N) {c s : Nat} {h : Int} (hc : c < nK N) (hs : s < nS N c) (hm : (nH N c + nO N c s) % 24 = h % 24) : ∃ k : Int, h - nH N c - nO N c s = 24 * k ∧ 24 * k + nH N c + nO N c s = h :=
  ⟨(h - nH N c - nO N c s) / 24, by omega, by omega⟩
def at2 (g f : Nat → Nat → Int32) (i q : Nat) (x : Int32) : Prop := g i q = x ∧ ∀ c r, ¬ (c = i ∧ r = q) → g c r = f c r
theorem at2_w {σ σ' : QS} {v i q : Nat} {x : Int32} (e : σ' = rs σ v i (upd (σ v i) q x)) : at2 (σ' v) (σ v) i q x := by
  subst e
  refine ⟨by rw [rs_self]; unfold upd; rw [if_pos rfl], fun c r h => ?_⟩
  by_cases hc : c = i
  · subst hc
    rw [rs_self]
    unfold upd
    rw [if_neg (fun z => h ⟨rfl, z⟩)]
  · rw [rs_i hc]
theorem upd_self {f : Nat → Int32} {q : Nat} {x : Int32} : upd f q x q = x := by unfold upd; rw [if_pos rfl]
theorem at2_ww {σ σ1 : QS} {v i q : Nat} {x y : Int32} (h : σ1 v = σ v) : at2 (rs (rs σ1 v i (upd (σ1 v i) q y)) v i (upd (upd (σ1 v i) q y) q x) v) (σ v) i q x := by
  refine ⟨by rw [rs_self]; exact upd_self, fun c r hn => ?_⟩
  by_cases hc : c = i
  · subst hc
    rw [rs_self]
    unfold upd
    rw [if_neg (fun z => hn ⟨rfl, z⟩), if_neg (fun z => hn ⟨rfl, z⟩), h]
  · rw [rs_i hc, rs_i hc, h]
theorem cl_mod4 {x y : Int32} (h : y.toInt = x.toInt % 4) (hx : 0 ≤ x.toInt) : y.toNatClampNeg = x.toNatClampNeg % 4 := by
  have h1 := cl_eq hx
  have h2 := cl_eq (j := y) (by omega)
  omega
theorem cl_m1 {x y o : Int32} (h : y.toInt = x.toInt - o.toInt) (h1 : o.toInt = 1 ∧ 1 ≤ x.toInt) : y.toNatClampNeg = x.toNatClampNeg - 1 := by
  have h3 := cl_eq (j := x) (by omega)
  have h2 := cl_eq (j := y) (by omega)
  omega
theorem cl_same {x y : Int32} (h : x.toInt = y.toInt) : x.toNatClampNeg = y.toNatClampNeg := by rw [Int32.toInt_inj.mp h]
def inT (σ : QS) (i : Nat) (day : Int) (lat : Nat → Int32) (s : Nat) : Prop := 24 * day + (σ 22 i 0).toInt + (σ 28 i s).toInt ≤ (lat (σ 27 i s).toNatClampNeg).toInt
def lsT (σ : QS) (i : Nat) (stop day : Int) (lat : Nat → Int32) (x : Int32) : Prop := (x.toInt = -1 ∧ ∀ s : Nat, stop < (s : Int) → (s : Int) < (σ 26 i 0).toInt → ¬ inT σ i day lat s) ∨ (stop < x.toInt ∧ x.toInt < (σ 26 i 0).toInt ∧ inT σ i day lat x.toNatClampNeg ∧ ∀ s : Nat, x.toInt < (s : Int) → (s : Int) < (σ 26 i 0).toInt → ¬ inT σ i day lat s)
def ldn (f : Nat → Int32) : Prop := ∃ q : Nat, q < 4 ∧ 0 < (f q).toInt
theorem i_div24b {x z : Int32} (e : z = x / 24) (h1 : -100100 ≤ x.toInt) (h2 : x.toInt ≤ 100100) : -4171 ≤ z.toInt ∧ z.toInt ≤ 4171 := by
  have h3 : z.toInt = x.toInt.tdiv 24 := by
    have h4 : -100100 ≤ x.toInt.tdiv 24 ∧ x.toInt.tdiv 24 ≤ 100100 := by
      rcases Int.le_total 0 x.toInt with q | q
      · rw [Int.tdiv_eq_ediv_of_nonneg q]
        omega
      · have : x.toInt.tdiv 24 = -((-x.toInt).tdiv 24) := by rw [Int.neg_tdiv, Int.neg_neg]
        rw [this, Int.tdiv_eq_ediv_of_nonneg (by omega)]
        omega
    rw [e, Int32.toInt_div, show (24 : Int32).toInt = 24 by decide, i_bmod (by omega) (by omega)]
  rcases Int.le_total 0 x.toInt with q | q
  · rw [h3, Int.tdiv_eq_ediv_of_nonneg q]
    omega
  · have : x.toInt.tdiv 24 = -((-x.toInt).tdiv 24) := by rw [Int.neg_tdiv, Int.neg_neg]
    rw [h3, this, Int.tdiv_eq_ediv_of_nonneg (by omega)]
    omega
theorem dayW {σ : QS} {N : Net} {c s : Nat} {h : Int} {x : Int32} (hR : RepC σ N) (hc : c < nK N) (hs : s < nS N c) (hm : (nH N c + nO N c s) % 24 = h % 24) (hx : ∀ k : Int, h - (σ 22 c 0).toInt - (σ 28 c s).toInt = 24 * k → x.toInt = k) : 24 * x.toInt + nH N c + nO N c s = h := by
  obtain ⟨k, h1, h2⟩ := day_of hR.1 hc hs hm
  have h3 := hx k (by rw [((hR.2.2 c hc).1).2.1, ((hR.2.2 c hc).2.1 s hs).2]; exact h1)
  rw [h3]
  exact h2
