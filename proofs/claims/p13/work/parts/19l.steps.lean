/-! the class's steps -/
def plQ (σ : QS) (N : Net) (q : Nat) : Prop := σ 41 q 0 = σ 4 0 0 → plF N (σ 34 q 0).toNatClampNeg (σ 1 0 0).toInt (σ 32 q 0).toNatClampNeg (σ 42 q 0).toInt (σ 43 q)
def rpP (σ σ' : QS) (N : Net) (q : Nat) : Prop := σ' 41 q 0 = σ 4 0 0 ∧ plF N (σ 34 q 0).toNatClampNeg (σ 1 0 0).toInt (σ 32 q 0).toNatClampNeg (σ' 42 q 0).toInt (σ' 43 q) ∧ plN N (σ 34 q 0).toNatClampNeg (σ 1 0 0).toInt (σ 32 q 0).toNatClampNeg (σ' 43 q) ∧ ∀ i, i ≠ q → σ' 41 i = σ 41 i ∧ σ' 42 i = σ 42 i ∧ σ' 43 i = σ 43 i
def skP (σ σ' : QS) (N : Net) (q n : Nat) : Prop := seek1 N (σ 1 0 0).toInt (capC σ) (pC σ) q (pC σ') ∧ PaC σ' N (σ 1 0 0).toInt ((σ 1 0 0).toInt + 1) n
section CS
variable {σ σ' σ1 σ2 : QS} {N : Net} {now m : Int} {n q c s : Nat} {A : PS} {C : Nat → Int} {F : Nat → Int32}
theorem tp_w (hw : wts (pC σ) q) : tpA (pC σ) q now = ((σ 34 q 0).toNatClampNeg, now) := by
  unfold tpA
  rw [if_pos hw.1]
  rfl
theorem plQ_of (h : PaC σ N now m n) (hw : wts (pC σ) q) (hq : q < 60) (e : now = (σ 1 0 0).toInt) : plQ σ N q := fun y => by
  have h1 := (h.2.2.1 q hq).2 y
  rw [tp_w hw, e] at h1
  exact h1
theorem rp_known (hN : wfN N) (e : σ 41 q 0 = σ 4 0 0) (hq : plQ σ N q) (hp : (σ 34 q 0).toNatClampNeg < 12) (h0 : 0 ≤ (σ 1 0 0).toInt) (hy : (σ 1 0 0).toInt < (σ 42 q 0).toInt ∨ (σ 1 0 0).toInt ≤ (σ 43 q (σ 34 q 0).toNatClampNeg).toInt) : rpP σ σ N q :=
  ⟨e, hq e, pl_known hN (hq e) hp hy h0, fun _ _ => ⟨rfl, rfl, rfl⟩⟩
def sooQ (N : Net) (f : Nat) (a b : Int) (g : Nat) (y : Int32) : Prop := (y.toInt = -1 ∧ ∀ u, fwR N (-1) f a g u → b < u) ∨ ((a ≤ y.toInt ∧ y.toInt ≤ b) ∧ fwR N (-1) f a g y.toInt ∧ ∀ u, fwR N (-1) f a g u → y.toInt ≤ u)
theorem rp_fill {y hop : Int32} (hs : sooQ N (σ 34 q 0).toNatClampNeg (σ 1 0 0).toInt ((σ 1 0 0).toInt + 672) (σ 32 q 0).toNatClampNeg y) (h0 : 0 ≤ (σ 1 0 0).toInt) (hh : (y.toInt = -1 ∧ hop.toInt = (σ 1 0 0).toInt + 337) ∨ (y.toInt ≠ -1 ∧ hop.toInt = y.toInt - 336)) (hn : (σ 1 0 0).toInt < hop.toInt)
    (e1 : σ' 41 q 0 = σ 4 0 0) (e2 : σ' 42 q 0 = hop) (hf : ∀ j : Nat, j < 12 → (σ' 43 q j).toInt = -1) (ho : ∀ i, i ≠ q → σ' 41 i = σ 41 i ∧ σ' 42 i = σ 42 i ∧ σ' 43 i = σ 43 i) : rpP σ σ' N q := by
  have h1 := pl_none (N := N) (p := (σ 34 q 0).toNatClampNeg) (g := (σ 32 q 0).toNatClampNeg) (hop := hop.toInt) hf (fun u hu => by
    rcases hs with ⟨a, b⟩ | ⟨a, b, c⟩
    · have := b u hu; omega
    · have := c u hu; omega) hn
  exact ⟨e1, by rw [e2]; exact h1.1, h1.2, ho⟩
theorem rp_find {y hop : Int32} (hs : sooQ N (σ 34 q 0).toNatClampNeg (σ 1 0 0).toInt ((σ 1 0 0).toInt + 672) (σ 32 q 0).toNatClampNeg y) (h0 : 0 ≤ (σ 1 0 0).toInt) (hh : (y.toInt = -1 ∧ hop.toInt = (σ 1 0 0).toInt + 337) ∨ (y.toInt ≠ -1 ∧ hop.toInt = y.toInt - 336)) (hn : hop.toInt ≤ (σ 1 0 0).toInt)
    (e1 : σ' 41 q 0 = σ 4 0 0) (e2 : σ' 42 q 0 = hop) (hL : (σ 1 0 0).toInt ≤ y.toInt + 1 → LatI N (-1) (σ 32 q 0).toNatClampNeg y.toInt (σ 1 0 0).toInt (σ' 43 q)) (ho : ∀ i, i ≠ q → σ' 41 i = σ 41 i ∧ σ' 42 i = σ 42 i ∧ σ' 43 i = σ 43 i) : rpP σ σ' N q := by
  have hy : y.toInt ≠ -1 ∧ hop.toInt = y.toInt - 336 := by omega
  have hs2 := Or.resolve_left hs (fun z => hy.1 z.1)
  have h1 := pl_new (hop := hop.toInt) (hL (by omega)) h0 hs2.1.1 (by omega) hs2.2.1 hs2.2.2 (by omega)
  exact ⟨e1, by rw [e2]; exact h1.1, h1.2, ho⟩
theorem PaC_rp (h : PaC σ N (σ 1 0 0).toInt m n) (hw : wts (pC σ) q) (hr : rpP σ σ' N q) (hk : Keep [5, 9, 41, 42, 43] σ σ') (hq : q < n) : PaC σ' N (σ 1 0 0).toInt m n := by
  obtain ⟨h1, h2, h3, h4, h5⟩ := h
  obtain ⟨r1, r2, r3, r4⟩ := hr
  unfold PaC
  rw [pC_k hk (by decide), hk 30 (by decide), hk 31 (by decide), hk 4 (by decide)]
  refine ⟨h1, h2, pc_set h3 (fun i hi => (r4 i hi).1) (fun i hi => (r4 i hi).2.1) (fun i hi => (r4 i hi).2.2) ⟨r1, ?_⟩, fun i a b => ?_, h5⟩
  · rw [tp_w hw]
    exact r2
  · rw [(r4 i (by omega)).1]
    exact h4 i a b
theorem in_good {d s' : Nat} {day : Int} {lat : Nat → Int32} {p g : Nat} (hR : RepC σ N) (hP : plN N p now g lat) (h0 : 0 ≤ now) (hc : c < nK N) (hs : s' < nS N c) (hd : (d : Int) = day) (hh : now ≤ htN N c d s') : inT σ c day lat s' ↔ goodK N now p g c d s' := by
  rw [← pl_test hR.1 hP h0 hc hs hh]
  obtain ⟨⟨b1, b2, b3, b4⟩, b5, b6⟩ := hR.2.2 c hc
  have e1 := (b5 s' hs).1
  have e2 := (b5 s' hs).2
  have e3 : (σ 27 c s').toNatClampNeg = nP N c s' := by
    have := cl_eq (j := σ 27 c s') (by omega)
    omega
  unfold inT htN
  rw [e3, b2, e2, hd]
theorem tk_none {day : Int} {lat : Nat → Int32} {x : Int32} (hR : RepC σ N) (hP : plN N (A q 2).toNatClampNeg now (A q 0).toNatClampNeg lat) (h0 : 0 ≤ now) (hc : c < nK N) (hd : 24 * day + nH N c + nO N c s = now) (hl : lsT σ c s day lat x) (hx : x.toInt = -1) : ∀ d s', ¬ takeK N now C A q c d s s' := by
  intro d s' h
  have hd2 := sk_day hd h
  obtain ⟨⟨a1, a2, a3, a4, a5, a6⟩, a7, a8, a9⟩ := h
  rcases hl with ⟨-, z⟩ | ⟨z, z2, -⟩
  · refine z s' (by omega) ?_ ((in_good hR hP h0 hc a7.2 hd2 ?_).mpr a8)
    · rw [((hR.2.2 c hc).1).1]; omega
    · rw [← a5]; exact ht_mono hR.1 hc a7.2 (by omega)
  · omega
theorem tk_some {day : Int} {lat : Nat → Int32} {x : Int32} {d : Nat} (hR : RepC σ N) (hP : plN N (A q 2).toNatClampNeg now (A q 0).toNatClampNeg lat) (h0 : 0 ≤ now) (hd : (d : Int) = day) (hS : sitK N now C A q c d s) (hl : lsT σ c s day lat x) (hx : x.toInt ≠ -1) : takeK N now C A q c d s x.toNatClampNeg := by
  have hS2 := hS
  obtain ⟨a1, a2, a3, a4, a5, a6⟩ := hS2
  have h26 := ((hR.2.2 c a1).1).1
  rcases hl with ⟨z, -⟩ | ⟨z1, z2, z3, z4⟩
  · exact absurd z hx
  · have hx9 := cl_eq (j := x) (by omega)
    refine ⟨hS, ⟨by omega, by omega⟩, (in_good hR hP h0 a1 (by omega) hd ?_).mp z3, fun s9 y1 y2 y3 => z4 s9 (by omega) (by omega) ((in_good hR hP h0 a1 y2 hd ?_).mpr y3)⟩
    · rw [← a5]; exact ht_mono hR.1 a1 (by omega) (by omega)
    · rw [← a5]; exact ht_mono hR.1 a1 y2 (by omega)
theorem PaC_now (h : PaC σ N now (now + 1) n) (hN : wfN N) (hk : ∀ v ∈ [4, 30, 31, 32, 33, 34, 35, 36, 37, 38, 39, 40, 41, 42, 43], σ' v = σ v) : PaC σ' N (now + 1) (now + 1) n := by
  obtain ⟨h1, h2, h3, h4, h5⟩ := PaC_of h hk
  exact ⟨wf_later h1 (by omega), h2, pc_now hN h3 (by omega), h4, h5⟩
theorem PaC_past {w : Int32} {S : SE} (h : PaC σ N w.toInt w.toInt n) (e : (pC σ, eC σ) = unN F w S n) (hS : wfA N w.toInt w.toInt n S.1) : PaC σ N w.toInt (w.toInt + 1) n := by
  have h1 := wf_past (F := F) hS
  rw [← e] at h1
  exact ⟨h1, h.2⟩
theorem sk_idle (h : ∀ k c d s s', ¬ takeK N now C A k c d s s') : ∀ n, skN N now C A n A
  | 0 => rfl
  | n + 1 => ⟨A, sk_idle h n, by
    rcases Classical.em (wts A n) with y | y
    · exact Or.inl ⟨y, Or.inr ⟨h n, rfl⟩⟩
    · exact Or.inr ⟨y, rfl⟩⟩
theorem no_halts {h6 h7 : Nat → Int32} (hN : wfN N) (hH : HalC h6 h7 N) {z : Nat} (hz : z < 24) (hm : now % 24 = z) (hn : ¬ (h7 z).toInt < (h7 (z + 1)).toInt) : ∀ k c d s s', ¬ takeK N now C A k c d s s' := fun k c d s s' h => by
  obtain ⟨-, -, j, j1, j2, -⟩ := sk_pr hN hH hz hm h
  omega
theorem sk_more {A' A'' : PS} (h : skN N now C A n A') (h2 : (wts A' n ∧ seek1 N now C A' n A'') ∨ (¬ wts A' n ∧ A'' = A')) : skN N now C A (n + 1) A'' := ⟨A', h, h2⟩
theorem hr_of {w : Int32} {S : SE} {A' : PS} (e : (pC σ, eC σ) = unN F w S n) (h : skN N w.toInt C (pC σ) n A') (e2 : eC σ' = eC σ) (e3 : pC σ' = A') : hrR N C F n w S (pC σ', eC σ') := by
  refine ⟨?_, ?_⟩
  · rw [← e]; exact e2
  · rw [← e]
    show skN N w.toInt C (pC σ) n (pC σ')
    rw [e3]; exact h
theorem hr_next {w : Int32} {S T T' : SE} {j : Nat} (h : tkR N C F n now S j T) (h2 : hrR N C F n w T T') (e : w.toInt = now + j + 1) : tkR N C F n now S (j + 1) T' := by
  refine ⟨T, h, ?_⟩
  rw [← e, Int32.ofInt_toInt]
  exact h2
theorem tk_day {day : Int} (hd : 24 * day + nH N c + nO N c s = now) (hn : ∀ d : Nat, (d : Int) = day → ¬ sitK N now C A q c d s) : ∀ d s', ¬ takeK N now C A q c d s s' := fun d s' h => hn d (sk_day hd h) h.1
end CS
/-! counting -/
def cnB (p : Nat → Bool) : Nat → Int32
  | 0 => 0
  | k + 1 => if p k = true then cnB p k + 1 else cnB p k
def smI (f : Nat → Int32) : Nat → Int32
  | 0 => 0
  | k + 1 => smI f k + f k
theorem cnB_y {p : Nat → Bool} {k : Nat} {x : Int32} (h : x = cnB p k) (hp : p k = true) : x + 1 = cnB p (k + 1) := by rw [h]; simp only [cnB, hp, if_true]
theorem cnB_n {p : Nat → Bool} {k : Nat} {x : Int32} (h : x = cnB p k) (hp : ¬ p k = true) : x = cnB p (k + 1) := by rw [h]; exact (if_neg hp).symm
def cuP (N : Net) (c : Int) (h : Int) (g : Nat) (x : Int32) : Prop := rchB x (fun p => bwR N (-1) g (h + 336) p h ∧ ¬ bwR N c g (h + 336) p h) ∧ b12 x
theorem cu_of {N : Net} {c h : Int} {g : Nat} {a b x : Int32} (ha : rchB a (fun p => bwR N (-1) g (h + 336) p h) ∧ b12 a) (hb : rchB b (fun p => bwR N c g (h + 336) p h) ∧ b12 b) (e : x = a &&& (b ^^^ (-1))) : cuP N c h g x := by
  subst e
  refine ⟨fun p hp => ?_, fun p hp => ha.2 p (hb_and.mp hp).1⟩
  rw [hb_and, hb_not (by omega), ha.1 p hp, hb.1 p hp]
theorem cu_1 {N : Net} {c h : Int} {g : Nat} {x y : Int32} (hx : cuP N c h g x) (hy : cuP N c h g y) : x = y := b_ext (fun p _ => by
  rcases Nat.lt_or_ge p 12 with z | z
  · rw [hx.1 p z, hy.1 p z]
  · exact ⟨fun w => absurd (hx.2 p w) (by omega), fun w => absurd (hy.2 p w) (by omega)⟩)
