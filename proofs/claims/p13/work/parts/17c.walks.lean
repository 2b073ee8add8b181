/-! the errands' methods in these words -/
def wkC (f : Nat → Int32) (a b : Nat) : Int := (f (9 * a + b)).toInt
def mnC (f : Nat → Int32) (s : Nat) : Int := (f s).toInt
def wBy (f11 f12 g : Nat → Int32) (a s : Nat) (n : Int32) : Int := wkC f11 a s + mnC f12 s + wyG g s (rmS n (nI s))
theorem ix9 {a b u v : Int32} (hu : u.toInt = 9 * a.toInt) (hv : v.toInt = u.toInt + b.toInt) (ha : 0 ≤ a.toInt) (hb : 0 ≤ b.toInt) : v.toNatClampNeg = 9 * a.toNatClampNeg + b.toNatClampNeg := by
  have h1 := cl_eq ha
  have h2 := cl_eq hb
  have h3 := cl_eq (j := v) (by omega)
  omega
theorem ix9z {a u : Int32} (hu : u.toInt = 9 * a.toInt) (ha : 0 ≤ a.toInt) : u.toNatClampNeg = 9 * a.toNatClampNeg := by
  have h1 := cl_eq ha
  have h3 := cl_eq (j := u) (by omega)
  omega
theorem cl_1 {x y : Int32} (hy : y.toInt = x.toInt + 1) (hx : 0 ≤ x.toInt) : y.toNatClampNeg = x.toNatClampNeg + 1 := by
  have h1 := cl_eq hx
  have h3 := cl_eq (j := y) (by omega)
  omega
theorem rm_nI {n s : Int32} (h : 0 ≤ s.toInt) : rmS n s = rmS n (nI s.toNatClampNeg) := by rw [← nI_at h]
def wfE (n : Int32) (k m C : Int) (w : Nat → Int) : Prop := m = C ∨ ∃ s : Nat, 1 ≤ s ∧ (s : Int) < k ∧ hasS n s ∧ m = w s
section WF
variable {n x y : Int32} {m m' C : Int} {w : Nat → Int}
theorem wf0_skip (h : ∀ s : Nat, 1 ≤ s → (s : Int) < x.toInt → hasS n s → m ≤ w s) (hx : ¬ hasS n x.toNatClampNeg) (hy : y.toInt = x.toInt + 1) (h1 : 1 ≤ x.toInt) : ∀ s : Nat, 1 ≤ s → (s : Int) < y.toInt → hasS n s → m ≤ w s := by
  intro s a b c
  have h9 := cl_eq (j := x) (by omega)
  by_cases e : s = x.toNatClampNeg
  · subst e
    exact absurd c hx
  · exact h s a (by omega) c
theorem wf0_min (h : ∀ s : Nat, 1 ≤ s → (s : Int) < x.toInt → hasS n s → m ≤ w s) (hm : m' ≤ m) (hw : m' ≤ w x.toNatClampNeg) (hy : y.toInt = x.toInt + 1) (h1 : 1 ≤ x.toInt) : ∀ s : Nat, 1 ≤ s → (s : Int) < y.toInt → hasS n s → m' ≤ w s := by
  intro s a b c
  have h9 := cl_eq (j := x) (by omega)
  by_cases e : s = x.toNatClampNeg
  · subst e
    exact hw
  · have := h s a (by omega) c
    omega
theorem wf1_skip (h : wfE n x.toInt m C w) (hy : y.toInt = x.toInt + 1) : wfE n y.toInt m C w := by
  rcases h with h | ⟨s, a, b, c, d⟩
  · exact Or.inl h
  · exact Or.inr ⟨s, a, by omega, c, d⟩
theorem wf1_min (h : wfE n x.toInt m C w) (hx : hasS n x.toNatClampNeg) (hm : m' = m ∨ m' = w x.toNatClampNeg) (hy : y.toInt = x.toInt + 1) (h1 : 1 ≤ x.toInt) : wfE n y.toInt m' C w := by
  have h9 := cl_eq (j := x) (by omega)
  rcases hm with hm | hm
  · rcases h with h | ⟨s, a, b, c, d⟩
    · exact Or.inl (by omega)
    · exact Or.inr ⟨s, a, by omega, c, by omega⟩
  · exact Or.inr ⟨x.toNatClampNeg, by omega, by omega, hx, hm⟩
theorem wfE_end {k : Int} (h : wfE n k m C w) (hk : k ≤ 9) : m = C ∨ ∃ s : Nat, 1 ≤ s ∧ s ≤ 8 ∧ hasS n s ∧ m = w s := by
  rcases h with h | ⟨s, a, b, c, d⟩
  · exact Or.inl h
  · exact Or.inr ⟨s, a, by omega, c, d⟩
theorem wfn_skip {P : Nat → Prop} (h : ∀ s : Nat, 1 ≤ s → (s : Int) < x.toInt → hasS n s → ¬ P s) (hx : hasS n x.toNatClampNeg → ¬ P x.toNatClampNeg) (hy : y.toInt = x.toInt + 1) (h1 : 1 ≤ x.toInt) : ∀ s : Nat, 1 ≤ s → (s : Int) < y.toInt → hasS n s → ¬ P s := by
  intro s a b c
  have h9 := cl_eq (j := x) (by omega)
  by_cases e : s = x.toNatClampNeg
  · subst e
    exact hx c
  · exact h s a (by omega) c
theorem ws_next {f : Nat → Int32} (hy : y.toInt = x.toInt + 1) (h1 : 1 ≤ x.toInt) (h8 : x.toInt ≤ 8) : wsK (mnC f) n (y.toNatClampNeg - 1) = wsK (mnC f) n (x.toNatClampNeg - 1) + (if n.toBitVec.getLsbD (x.toNatClampNeg - 1) = true then (f x.toNatClampNeg).toInt else 0) := by
  have h9 := cl_eq (j := x) (by omega)
  have h2 := cl_1 hy (by omega)
  obtain ⟨k, hk⟩ : ∃ k, x.toNatClampNeg = k + 1 := ⟨x.toNatClampNeg - 1, by omega⟩
  rw [h2, hk]
  rfl
end WF
def isFr (f11 f12 g : Nat → Int32) (a : Nat) (n : Int32) (x : Int) : Prop := (n = 0 → x = wkC f11 a 0) ∧ (n ≠ 0 → (∀ s : Nat, 1 ≤ s → s ≤ 8 → hasS n s → x ≤ wBy f11 f12 g a s n) ∧ (x = 1000000 ∨ ∃ s : Nat, 1 ≤ s ∧ s ≤ 8 ∧ hasS n s ∧ x = wBy f11 f12 g a s n))
def subS (n m : Int32) : Prop := ∀ s, 1 ≤ s → s ≤ 8 → hasS n s → hasS m s
section MS
variable {f11 f12 g g' : Nat → Int32} {ls n : Int32} {x : Int32}
theorem fr_min {a : Nat} {v : Int} (b1 : ∀ j, (f11 j).toInt ≤ 60) (b2 : ∀ j, (f12 j).toInt ≤ 60) (hn : 0 ≤ n.toInt ∧ n.toInt ≤ 255) (hs : subS n ls) (hw : waysOk (wkC f11) (mnC f12) ls g n.toInt) (h : isFr f11 f12 g a n v) : isMin (wkC f11) (mnC f12) a n v := by
  by_cases h0 : n = 0
  · subst h0
    rw [h.1 rfl]
    exact isMin_0
  · obtain ⟨h1, h2⟩ := h.2 h0
    refine isMin_step (w := fun s => wyG g s (rmS n (nI s))) (fun a b => b1 _) (fun s => b2 _) hn h0 (fun s s1 s8 hh => ?_) h1 h2
    have hc := nI_cl (s := s) (by omega)
    have hr : ∀ t, 1 ≤ t → t ≤ 8 → (hasS (rmS n (nI s)) t ↔ hasS n t ∧ t ≠ s) := fun t x y => by rw [has_rm (by omega) (by omega) x y, hc.1]
    have hlt := rm_lt (n := n) (s := nI s) hn.1 (by omega) (by omega) (by rw [hc.1]; exact hh)
    exact hw (rmS n (nI s)) hlt.1 hlt.2 (fun t x y z => hs t x y ((hr t x y).mp z).1) s (Or.inr ⟨s1, s8, hs s s1 s8 hh, fun z => ((hr s s1 s8).mp z).2 rfl⟩)
/-- the least ways of the set n, of the stands below k -/
def mIn (wk : Nat → Nat → Int) (mn : Nat → Int) (ls : Int32) (g : Nat → Int32) (n : Int32) (k : Int) : Prop := ∀ a : Nat, (a = 0 ∨ (1 ≤ a ∧ (a : Int) < k ∧ hasS ls a ∧ ¬ hasS n a)) → isMin wk mn a n (wyG g a n)
theorem ms_keep {a : Nat} (hn : 0 ≤ n.toInt) (hw : waysOk (wkC f11) (mnC f12) ls g n.toInt) (e : g' = upd g (9 * n.toNatClampNeg + a) x) : waysOk (wkC f11) (mnC f12) ls g' n.toInt := by
  intro m h1 h2 h3 b hb
  have h4 := hw m h1 h2 h3 b hb
  have h5 := cl_eq h1
  have h6 := cl_eq hn
  have h7 : g' (9 * m.toNatClampNeg + b) = g (9 * m.toNatClampNeg + b) := by
    rw [e]
    unfold upd
    rw [if_neg (by omega)]
  rw [h7]
  exact h4
theorem ms_0 (b1 : ∀ j, (f11 j).toInt ≤ 60) (b2 : ∀ j, (f12 j).toInt ≤ 60) (hn : 0 ≤ n.toInt ∧ n.toInt ≤ 255) (hs : subS n ls) (hw : waysOk (wkC f11) (mnC f12) ls g n.toInt) (h : isFr f11 f12 g 0 n x.toInt) (e : g' = upd g (9 * n.toNatClampNeg) x) : waysOk (wkC f11) (mnC f12) ls g' n.toInt ∧ mIn (wkC f11) (mnC f12) ls g' n 1 := by
  refine ⟨ms_keep (a := 0) hn.1 hw e, fun a ha => ?_⟩
  have ha0 : a = 0 := by
    rcases ha with ha | ha
    · exact ha
    · omega
  subst ha0
  unfold wyG
  rw [e]
  unfold upd
  rw [if_pos (by omega)]
  exact fr_min b1 b2 hn hs hw h
theorem ms_s {s : Int32} (b1 : ∀ j, (f11 j).toInt ≤ 60) (b2 : ∀ j, (f12 j).toInt ≤ 60) (hn : 0 ≤ n.toInt ∧ n.toInt ≤ 255) (hs : subS n ls) (hw : waysOk (wkC f11) (mnC f12) ls g n.toInt) (hm : mIn (wkC f11) (mnC f12) ls g n s.toInt) (h1 : 1 ≤ s.toInt) (h8 : s.toInt ≤ 8) (h : isFr f11 f12 g s.toNatClampNeg n x.toInt) (e : g' = upd g (9 * n.toNatClampNeg + s.toNatClampNeg) x) : waysOk (wkC f11) (mnC f12) ls g' n.toInt ∧ mIn (wkC f11) (mnC f12) ls g' n (s.toInt + 1) := by
  have h9 := cl_eq (j := s) (by omega)
  refine ⟨ms_keep hn.1 hw e, fun a ha => ?_⟩
  by_cases hq : a = s.toNatClampNeg
  · subst hq
    unfold wyG
    rw [e]
    unfold upd
    rw [if_pos rfl]
    exact fr_min b1 b2 hn hs hw h
  · have h4 := hm a (by
      rcases ha with ha | ha
      · exact Or.inl ha
      · exact Or.inr ⟨ha.1, by omega, ha.2.2⟩)
    unfold wyG at h4 ⊢
    rw [e]
    unfold upd
    rw [if_neg (by omega)]
    exact h4
theorem ms_k {s : Int32} (hm : mIn (wkC f11) (mnC f12) ls g n s.toInt) (h1 : 1 ≤ s.toInt) (h : ¬ (hasS ls s.toNatClampNeg ∧ ¬ hasS n s.toNatClampNeg)) : mIn (wkC f11) (mnC f12) ls g n (s.toInt + 1) := by
  have h9 := cl_eq (j := s) (by omega)
  intro a ha
  refine hm a ?_
  rcases ha with ha | ha
  · exact Or.inl ha
  · by_cases hq : a = s.toNatClampNeg
    · subst hq
      exact absurd ha.2.2 h
    · exact Or.inr ⟨ha.1, by omega, ha.2.2⟩
theorem ms_e (hw : waysOk (wkC f11) (mnC f12) ls g n.toInt) (hm : mIn (wkC f11) (mnC f12) ls g n 9) : waysOk (wkC f11) (mnC f12) ls g (n.toInt + 1) := by
  intro m h1 h2 h3 a ha
  rcases Int.lt_or_eq_of_le (show m.toInt ≤ n.toInt by omega) with z | z
  · exact hw m h1 z h3 a ha
  · have z : m = n := Int32.toInt_inj.mp z
    subst z
    exact hm a (by
      rcases ha with ha | ha
      · exact Or.inl ha
      · exact Or.inr ⟨ha.1, by omega, ha.2.2⟩)
theorem ms_n (hw : waysOk (wkC f11) (mnC f12) ls g n.toInt) (hs : ¬ subS n ls) : waysOk (wkC f11) (mnC f12) ls g (n.toInt + 1) := by
  intro m h1 h2 h3 a ha
  rcases Int.lt_or_eq_of_le (show m.toInt ≤ n.toInt by omega) with z | z
  · exact hw m h1 z h3 a ha
  · have z : m = n := Int32.toInt_inj.mp z
    subst z
    exact absurd h3 hs
theorem ways_0 : waysOk (wkC f11) (mnC f12) ls g (0 : Int32).toInt := fun m h1 h2 => absurd h2 (by rw [show (0 : Int32).toInt = 0 by decide]; omega)
end MS
/-! longs -/
theorem l_nn {x : Int64} (h : 0 ≤ x.toInt) : x.toInt = (x.toBitVec.toNat : Int) := by
  have h1 : x.toInt = x.toBitVec.toInt := rfl
  rw [h1] at h ⊢
  rw [BitVec.toInt_eq_toNat_cond] at h ⊢
  have h2 := x.toBitVec.isLt
  split at h
  · rename_i q
    rw [if_pos q]
  · omega
theorem l_small {x : Int64} (h : x.toBitVec.toNat < 9223372036854775808) : x.toInt = (x.toBitVec.toNat : Int) := by
  have h1 : x.toInt = x.toBitVec.toInt := rfl
  rw [h1, BitVec.toInt_eq_toNat_cond, if_pos (by omega)]
theorem od_next {o v w u : Int64} {s : Int32} (hv : v = o <<< ((4 : Int32).toInt64 &&& 63)) (hw : w = s.toInt64) (hu : u = v ||| w) (h0 : 0 ≤ o.toInt) (h1 : o.toInt < 4294967296) (h2 : 0 ≤ s.toInt) (h3 : s.toInt ≤ 15) : u.toInt = 16 * o.toInt + s.toInt := by
  have e4 : ((4 : Int32).toInt64 &&& 63) = 4 := by decide
  have e5 : ((4 : Int64).toBitVec.smod 64) = 4#64 := by decide
  have a1 := l_nn h0
  have a2 := i_nn h2
  have a3 : v.toBitVec.toNat = o.toBitVec.toNat * 16 := by
    rw [hv, e4, Int64.toBitVec_shiftLeft, e5, BitVec.shiftLeft_eq', BitVec.toNat_shiftLeft, Nat.shiftLeft_eq]
    show o.toBitVec.toNat * 2 ^ 4 % 2 ^ 64 = _
    rw [Nat.mod_eq_of_lt (by omega)]
  have a4 : w.toBitVec.toNat = s.toBitVec.toNat := by
    have h9 : w.toInt = s.toInt := by rw [hw, Int32.toInt_toInt64]
    have h8 := l_nn (x := w) (by omega)
    omega
  have a5 : u.toBitVec.toNat = o.toBitVec.toNat * 16 + s.toBitVec.toNat := by
    rw [hu, Int64.toBitVec_or, BitVec.toNat_or, a3, a4]
    have := Nat.shiftLeft_add_eq_or_of_lt (b := s.toBitVec.toNat) (i := 4) (by omega) o.toBitVec.toNat
    rw [Nat.shiftLeft_eq, show (2 : Nat) ^ 4 = 16 from rfl] at this
    omega
  have a6 := l_small (x := u) (by omega)
  omega
theorem od_bound {wk : Nat → Nat → Int} {mn : Nat → Int} {ls : Int32} {g : Nat → Int32} {set rest : Int32} {i stand : Nat} {od : Int} (h : ordI wk mn ls g set i od rest stand) (hi : i ≤ 8) : 0 ≤ od ∧ od < 4294967296 := by
  obtain ⟨p, a1, a2, a3, a4, a5, -⟩ := h
  have h1 := encL_b i p (fun s hs => by have := a5 s hs; omega)
  have h2 : (16 : Int) ^ i ≤ 16 ^ 8 := by
    have : (16 : Nat) ^ i ≤ 16 ^ 8 := Nat.pow_le_pow_right (by decide) hi
    exact_mod_cast this
  have h3 : (16 : Int) ^ 8 = 4294967296 := by decide
  omega
/-! the reference's goes -/
def lsM (f : Nat → Int32) (s : Nat) : Prop := f s ≠ 0
def gP (σ : QS) (p : List Nat) (m a t b : Int32) : Prop := ezOk (lsM (σ 32 0)) p ∧ (p.length : Int) = m.toInt ∧ a.toNatClampNeg = ezE 0 p ∧ t.toInt = ezP (wkC (σ 27 0)) (mnC (σ 28 0)) 0 p ∧ b.toInt = ezW (mnC (σ 29 0)) p ∧ (∀ s, 1 ≤ s → s ≤ 8 → (σ 33 0 s ≠ 0 ↔ s ∈ p)) ∧ (∀ k, ∀ h : k < p.length, (σ 30 0 k).toInt = (p[k] : Nat))
def gR (σ : QS) (S : List Nat → Prop) : Prop := ezRec (wkC (σ 27 0)) (mnC (σ 28 0)) (mnC (σ 29 0)) (lsM (σ 32 0)) (σ 37 0 0).toInt (σ 34 0 0).toInt (σ 35 0 0).toInt (σ 36 0 0).toInt (fun k => (σ 31 0 k).toInt) S
theorem gR_of {σ σ' : QS} {S : List Nat → Prop} (h : gR σ S) (hd : ∀ v ∈ [27, 28, 29, 32, 37, 34, 35, 36, 31], σ' v = σ v) : gR σ' S := by
  unfold gR at h ⊢
  rw [hd 27 (by decide), hd 28 (by decide), hd 29 (by decide), hd 32 (by decide), hd 37 (by decide), hd 34 (by decide), hd 35 (by decide), hd 36 (by decide), hd 31 (by decide)]
  exact h
theorem gT0 {σ : QS} {p : List Nat} {m a t b : Int32} {h : Int} (hg : gP σ p m a t b) (hm : m.toInt = 0) (hh : h = t.toInt) : h = ezTot (wkC (σ 27 0)) (mnC (σ 28 0)) p := by
  obtain ⟨g1, g2, g3, g4, -⟩ := hg
  have : p = [] := List.length_eq_zero_iff.mp (by omega)
  subst this
  rw [hh, g4]
  rfl
theorem gT1 {σ : QS} {p : List Nat} {m a t b : Int32} {h : Int} (hg : gP σ p m a t b) (hm : m.toInt ≠ 0) (hh : h = t.toInt + (σ 27 0 (9 * a.toNatClampNeg)).toInt) : h = ezTot (wkC (σ 27 0)) (mnC (σ 28 0)) p := by
  obtain ⟨g1, g2, g3, g4, -⟩ := hg
  have : p ≠ [] := fun e => hm (by rw [← g2, e]; rfl)
  rw [ezTot_eq, if_neg this, hh, g4, ← g3]
  rfl
theorem gNew {σ σ' : QS} {p : List Nat} {m a t b : Int32} (hg : gP σ p m a t b) (hr : gR σ (fun q => ezLt q p)) (hk : ∀ v ∈ [27, 28, 29, 32, 37], σ' v = σ v) (ht : ezTot (wkC (σ 27 0)) (mnC (σ 28 0)) p ≤ (σ 37 0 0).toInt) (hc : (σ 34 0 0).toInt = -1 ∨ (σ 35 0 0).toInt < b.toInt ∨ (b.toInt = (σ 35 0 0).toInt ∧ ezTot (wkC (σ 27 0)) (mnC (σ 28 0)) p < (σ 36 0 0).toInt))
    (h1 : (σ' 34 0 0).toInt = m.toInt) (h2 : (σ' 35 0 0).toInt = b.toInt) (h3 : (σ' 36 0 0).toInt = ezTot (wkC (σ 27 0)) (mnC (σ 28 0)) p) (h4 : ∀ k : Nat, (k : Int) < m.toInt → σ' 31 0 k = σ 30 0 k) : gR σ' (fun q => ezLt q (p ++ [1])) := by
  obtain ⟨g1, g2, g3, g4, g5, g6, g7⟩ := hg
  unfold gR
  rw [hk 27 (by decide), hk 28 (by decide), hk 29 (by decide), hk 32 (by decide), hk 37 (by decide), h1, h2, h3, ← g2, g5]
  refine ezRec_new hr g1 ht (by rw [← g5]; exact hc) (fun k hk9 => ?_)
  show (σ' 31 0 k).toInt = _
  rw [h4 k (by omega)]
  exact g7 k hk9
theorem gOld {σ : QS} {p : List Nat} {m a t b : Int32} (hg : gP σ p m a t b) (hr : gR σ (fun q => ezLt q p)) (hc : (σ 37 0 0).toInt < ezTot (wkC (σ 27 0)) (mnC (σ 28 0)) p ∨ ((σ 34 0 0).toInt ≠ -1 ∧ ¬ (σ 35 0 0).toInt < b.toInt ∧ ¬ (b.toInt = (σ 35 0 0).toInt ∧ ezTot (wkC (σ 27 0)) (mnC (σ 28 0)) p < (σ 36 0 0).toInt))) : gR σ (fun q => ezLt q (p ++ [1])) := by
  have g5 := hg.2.2.2.2.1
  exact ezRec_old hr (by rw [← g5]; exact hc)
theorem gSkip {σ σ' : QS} {p : List Nat} {m a t b s s' : Int32} (hI : IvM σ) (hg : gP σ p m a t b) (hk : ∀ v ∈ [27, 28, 29, 32, 37], σ' v = σ v) (hr : gR σ' (fun q => ezLt q (p ++ [s.toNatClampNeg]))) (hs : 1 ≤ s.toInt) (hs8 : s.toInt ≤ 8) (e : s'.toInt = s.toInt + 1)
    (hc : σ 32 0 s.toNatClampNeg = 0 ∨ σ 33 0 s.toNatClampNeg ≠ 0 ∨ (σ 37 0 0).toInt < t.toInt + (σ 27 0 (9 * a.toNatClampNeg + s.toNatClampNeg)).toInt + (σ 28 0 s.toNatClampNeg).toInt) : gR σ' (fun q => ezLt q (p ++ [s'.toNatClampNeg])) := by
  obtain ⟨g1, g2, g3, g4, g5, g6, g7⟩ := hg
  have h9 := cl_eq (j := s) (by omega)
  rw [cl_1 e (by omega)]
  unfold gR at hr ⊢
  rw [hk 27 (by decide), hk 28 (by decide), hk 29 (by decide), hk 32 (by decide), hk 37 (by decide)] at hr ⊢
  refine ezRec_skip (fun a b => (hI 27 0 _).1) (fun s => (hI 28 0 _).1) hr ?_
  rcases hc with hc | hc | hc
  · exact Or.inl (fun z => z hc)
  · exact Or.inr (Or.inl ((g6 _ (by omega) (by omega)).mp hc))
  · exact Or.inr (Or.inr (by rw [← g4, ← g3]; exact hc))
theorem gWent {σ' : QS} {p : List Nat} {s s' : Int32} (hr : gR σ' (fun q => ezLt q ((p ++ [s.toNatClampNeg]) ++ [9]))) (hs : 1 ≤ s.toInt) (e : s'.toInt = s.toInt + 1) : gR σ' (fun q => ezLt q (p ++ [s'.toNatClampNeg])) := by
  rw [cl_1 e (by omega)]
  exact ezRec_went hr
theorem gDown {σ σ' : QS} {p : List Nat} {m a t b s m' t' b' : Int32} (hg : gP σ p m a t b) (hk : ∀ v ∈ [27, 28, 29, 32], σ' v = σ v) (hs : 1 ≤ s.toInt) (hs8 : s.toInt ≤ 8) (hl : σ 32 0 s.toNatClampNeg ≠ 0) (hb : σ 33 0 s.toNatClampNeg = 0) (em : m'.toInt = m.toInt + 1) (et : t'.toInt = t.toInt + (σ 27 0 (9 * a.toNatClampNeg + s.toNatClampNeg)).toInt + (σ 28 0 s.toNatClampNeg).toInt) (eb : b'.toInt = b.toInt + (σ 29 0 s.toNatClampNeg).toInt)
    (h33 : ∀ c : Nat, σ' 33 0 c = if c = s.toNatClampNeg then 1 else σ 33 0 c) (h30 : ∀ k : Nat, (k : Int) ≤ m.toInt → σ' 30 0 k = if (k : Int) = m.toInt then s else σ 30 0 k) : gP σ' (p ++ [s.toNatClampNeg]) m' s t' b' := by
  obtain ⟨g1, g2, g3, g4, g5, g6, g7⟩ := hg
  have h9 := cl_eq (j := s) (by omega)
  have hnp : s.toNatClampNeg ∉ p := fun z => ((g6 _ (by omega) (by omega)).mpr z) hb
  refine ⟨⟨List.pairwise_append.mpr ⟨g1.1, List.pairwise_singleton _ _, fun u hu v hv => ?_⟩, fun u hu => ?_⟩, ?_, (ezE_snoc 0 p _).symm, ?_, ?_, fun u u1 u8 => ?_, fun k hk9 => ?_⟩
  · have : v = s.toNatClampNeg := by simpa using hv
    rw [this]
    exact fun z => hnp (by rw [← z]; exact hu)
  · rw [hk 32 (by decide)]
    rcases List.mem_append.mp hu with z | z
    · exact g1.2 u z
    · have : u = s.toNatClampNeg := by simpa using z
      rw [this]
      exact ⟨by omega, by omega, hl⟩
  · rw [List.length_append]
    simp only [List.length_singleton]
    omega
  · rw [hk 27 (by decide), hk 28 (by decide), ezP_snoc, ← g3, ← g4]
    exact et
  · rw [hk 29 (by decide), ezW_snoc, ← g5]
    exact eb
  · rw [h33, List.mem_append, List.mem_singleton]
    by_cases z : u = s.toNatClampNeg
    · rw [if_pos z]
      exact ⟨fun _ => Or.inr z, fun _ => by decide⟩
    · rw [if_neg z, g6 u u1 u8]
      exact ⟨fun y => Or.inl y, fun y => y.resolve_right z⟩
  · have hl9 : k < p.length + 1 := by simpa using hk9
    rw [h30 k (by omega)]
    by_cases z : k < p.length
    · rw [if_neg (by omega), List.getElem_append_left z]
      exact g7 k z
    · rw [if_pos (by omega), List.getElem_append_right (by omega)]
      simp only [List.getElem_singleton]
      exact h9.symm
theorem lcmp_lt {x y : Int64} : (lg_cmp x y).toInt < 0 ↔ x.toInt < y.toInt := by
  unfold lg_cmp
  have h1 : y < x ↔ y.toInt < x.toInt := Int64.lt_iff_toInt_lt
  by_cases h : x > y
  · rw [if_pos h]
    have h9 := h1.mp h
    exact ⟨fun z => absurd z (by decide), fun z => by omega⟩
  · rw [if_neg h]
    have h2 : ¬ y.toInt < x.toInt := fun z => h (h1.mpr z)
    by_cases e : x = y
    · rw [if_pos e, e]
      exact ⟨fun z => absurd z (by decide), fun z => by omega⟩
    · rw [if_neg e]
      have h3 : x.toInt ≠ y.toInt := fun z => e (Int64.toInt_inj.mp z)
      exact ⟨fun _ => by omega, fun _ => by decide⟩
def wgP (f11 f12 f13 g : Nat → Int32) (n : Int32) (c18 c19 c20 d18 d19 d20 : Nat → Nat → Int32) (t u : Int64) : Prop :=
  (d18 = c18 ∧ d19 = c19 ∧ d20 = c20 ∧ u = t ∧ ((wsK (mnC f13) n 8 < (c19 0 0).toInt ∨ (wsK (mnC f13) n 8 = (c19 0 0).toInt ∧ (c20 0 0).toInt < wyG g 0 n)) ∨ ∃ o : Int, isOrd (wkC f11) (mnC f12) g n o ∧ ¬ wsK (mnC f13) n 8 < (c19 0 0).toInt ∧ ¬ (wsK (mnC f13) n 8 = (c19 0 0).toInt ∧ (c20 0 0).toInt < wyG g 0 n) ∧ ¬ ((c19 0 0).toInt < wsK (mnC f13) n 8 ∨ wyG g 0 n < (c20 0 0).toInt ∨ o < t.toInt))) ∨
  ∃ o : Int, isOrd (wkC f11) (mnC f12) g n o ∧ (¬ wsK (mnC f13) n 8 < (c19 0 0).toInt ∧ ¬ (wsK (mnC f13) n 8 = (c19 0 0).toInt ∧ (c20 0 0).toInt < wyG g 0 n)) ∧ ((c19 0 0).toInt < wsK (mnC f13) n 8 ∨ wyG g 0 n < (c20 0 0).toInt ∨ o < t.toInt) ∧ d18 0 0 = n ∧ (d19 0 0).toInt = wsK (mnC f13) n 8 ∧ (d20 0 0).toInt = wyG g 0 n ∧ u.toInt = o
theorem chW {f11 f12 f13 g : Nat → Int32} {ls n : Int32} {W : Int} {c18 c19 c20 d18 d19 d20 : Nat → Nat → Int32} {t u : Int64} (hw : waysOk (wkC f11) (mnC f12) ls g 256) (h0 : 1 ≤ n.toInt) (h9 : n.toInt ≤ 255) (hs : subS n ls) (h : chRec (wkC f11) (mnC f12) (mnC f13) ls W n.toInt (c18 0 0) (c19 0 0).toInt (c20 0 0).toInt t.toInt) (hW : wyG g 0 n ≤ W) (q : wgP f11 f12 f13 g n c18 c19 c20 d18 d19 d20 t u) :
    chRec (wkC f11) (mnC f12) (mnC f13) ls W (n.toInt + 1) (d18 0 0) (d19 0 0).toInt (d20 0 0).toInt u.toInt := by
  rcases q with ⟨e1, e2, e3, e4, q⟩ | ⟨o, o1, ⟨o2, o3⟩, o4, e1, e2, e3, e4⟩
  · rw [e1, e2, e3, e4]
    rcases q with q | ⟨o, o1, o2, o3, o4⟩
    · exact (chRec_weigh (od9 := 0) hw h0 h9 hs h hW).1 q
    · exact (chRec_weigh hw h0 h9 hs h hW).2.2 o1 o2 o3 o4
  · rw [e1, e2, e3, e4]
    exact (chRec_weigh hw h0 h9 hs h hW).2.1 o1 o2 o3 o4
def digS (t : Int64) (k : Int32) : Int32 := (t >>> (((4 : Int32) * ((7 : Int32) - k)).toInt64 &&& 63)).toInt32 &&& 15
def fbP (σ σ' : QS) (a : Int32) : Prop := ∃ r : List Nat, ezBest (wkC (σ 27 0)) (mnC (σ 28 0)) (mnC (σ 29 0)) (lsM (σ 32 0)) a.toInt r ∧ (σ' 34 0 0).toInt = r.length ∧ (σ' 35 0 0).toInt = ezW (mnC (σ 29 0)) r ∧ (σ' 36 0 0).toInt = ezTot (wkC (σ 27 0)) (mnC (σ 28 0)) r ∧ ∀ k, ∀ h : k < r.length, (σ' 31 0 k).toInt = (r[k] : Nat)
def b5P (σ : QS) (a b x : Int32) : Prop := (¬ (0 ≤ a.toInt ∧ a.toInt ≤ 500) ∧ x.toInt = -1) ∨ ((0 ≤ a.toInt ∧ a.toInt ≤ 500) ∧ ∃ r : List Nat, ezBest (wkC (σ 27 0)) (mnC (σ 28 0)) (mnC (σ 29 0)) (lsM (σ 32 0)) a.toInt r ∧ ((b.toInt = 0 ∧ x.toInt = ezW (mnC (σ 29 0)) r) ∨ (b.toInt = 1 ∧ x.toInt = ezTot (wkC (σ 27 0)) (mnC (σ 28 0)) r) ∨ (b.toInt = 2 ∧ x.toInt = r.length) ∨ ((b.toInt < 0 ∨ 2 < b.toInt) ∧ x.toInt = -1)))
def r5P (σ : QS) (a b x : Int32) : Prop := (¬ (0 ≤ a.toInt ∧ a.toInt ≤ 500) ∧ x.toInt = -1) ∨ ((0 ≤ a.toInt ∧ a.toInt ≤ 500) ∧ ∃ r : List Nat, ezBest (wkC (σ 27 0)) (mnC (σ 28 0)) (mnC (σ 29 0)) (lsM (σ 32 0)) a.toInt r ∧ ((0 ≤ b.toInt ∧ ∃ h : b.toNatClampNeg < r.length, x.toInt = (r[b.toNatClampNeg] : Nat)) ∨ (¬ (0 ≤ b.toInt ∧ b.toInt < r.length) ∧ x.toInt = -1)))
