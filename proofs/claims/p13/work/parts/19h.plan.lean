/-! plans of parcels -/
def plF (N : Net) (p : Nat) (t : Int) (g : Nat) (hop : Int) (lat : Nat → Int32) : Prop :=
  ((∀ q, q < 12 → (lat q).toInt = -1) ∧ ∀ u, fwR N (-1) p t g u → hop + 336 ≤ u) ∨
  ∃ v a, LatI N (-1) g v a lat ∧ 0 ≤ a ∧ a ≤ t ∧ a ≤ v ∧ v ≤ a + 336 ∧ hop ≤ a ∧ ∀ u, fwR N (-1) p t g u → v ≤ u
def plN (N : Net) (p : Nat) (now : Int) (g : Nat) (lat : Nat → Int32) : Prop :=
  ((∀ q, q < 12 → (lat q).toInt = -1) ∧ ∀ u, fwR N (-1) p now g u → now + 336 < u) ∨
  ∃ v a, LatI N (-1) g v a lat ∧ 0 ≤ a ∧ a ≤ now ∧ a ≤ v ∧ isSoon N p now g v
section PL
variable {N : Net} {w e a h now t t' hop : Int} {g p p' c d s' : Nat} {lat : Nat → Int32}
theorem la_at (hN : wfN N) (hL : LatI N w g e a lat) (h0 : 0 ≤ a) (ha : a ≤ h) (hp : p < 12) : h ≤ (lat p).toInt ↔ bwR N w g e p h := by
  by_cases y : p = g
  · subst y
    rw [hL.1]
    exact ⟨fun z => bw_here z, fun z => bw_le hN z⟩
  · rcases hL.2 p hp y with ⟨z1, z2⟩ | ⟨z1, z2, z3⟩
    · rw [z1]
      exact ⟨fun z => by omega, fun z => absurd z (z2 h ha)⟩
    · exact ⟨fun z => bw_mono z2 z, fun z => Classical.byContradiction (fun k => z3 h (by omega) z)⟩
theorem pl_test (hN : wfN N) (hP : plN N p now g lat) (h0 : 0 ≤ now) (hc : c < nK N) (hs : s' < nS N c) (hh : now ≤ htN N c d s') : htN N c d s' ≤ (lat (nP N c s')).toInt ↔ goodK N now p g c d s' := by
  have hp := ((hN.2 c hc).2.2.2.1 s' hs).1
  rcases hP with ⟨x1, x2⟩ | ⟨v, a, x1, x2, x3, x4, x5⟩
  · rw [x1 _ hp]
    refine ⟨fun z => by omega, ?_⟩
    rintro ⟨v, z1, z2⟩
    have z3 := x2 v z1.1
    have z4 := z1.2.1
    omega
  · rw [la_at hN x1 x2 (by omega) hp]
    constructor
    · intro z
      exact ⟨v, x5, z⟩
    · rintro ⟨v2, z1, z2⟩
      rw [soon_1 x5 z1]
      exact z2
theorem pl_known (hN : wfN N) (hP : plF N p now g hop lat) (hp : p < 12) (hy : now < hop ∨ now ≤ (lat p).toInt) (h0 : 0 ≤ now) : plN N p now g lat := by
  rcases hP with ⟨x1, x2⟩ | ⟨v, a, x1, x2, x3, x4, x5, x6, x7⟩
  · refine Or.inl ⟨x1, fun u hu => ?_⟩
    have h1 := x1 p hp
    have h2 := x2 u hu
    omega
  · have hb := (la_at hN x1 x2 x3 hp).mp (by omega)
    exact Or.inr ⟨v, a, x1, x2, x3, x4, fw_bw hb, by omega, x7⟩
theorem pl_ride (hN : wfN N) (hP : plF N p t g hop lat) (hr : fwR N (-1) p t p' t') : plF N p' t' g hop lat := by
  have ht := fw_ge hN hr
  rcases hP with ⟨x1, x2⟩ | ⟨v, a, x1, x2, x3, x4, x5, x6, x7⟩
  · exact Or.inl ⟨x1, fun u hu => x2 u (fw_trans hr hu)⟩
  · exact Or.inr ⟨v, a, x1, x2, by omega, x4, x5, x6, fun u hu => x7 u (fw_trans hr hu)⟩
theorem pB_b : ∀ k : Fin 12, 0 ≤ (pBI (nI k.val)).toInt ∧ (pBI (nI k.val)).toInt ≤ 4095 := by decide +kernel
theorem al_one {x : Int32} (h0 : 0 ≤ x.toInt) (h1 : x.toInt ≤ 11) {R : Nat → Prop} : (0 ≤ (pBI x).toInt ∧ (pBI x).toInt ≤ 4095) ∧ (allW (pBI x) R ↔ R x.toNatClampNeg) := by
  have e := cl_eq h0
  have e2 := nI_at h0
  refine ⟨by have := pB_b ⟨x.toNatClampNeg, by omega⟩; rw [e2]; exact this, ?_⟩
  have hb : ∀ p, hasB (pBI x) p ↔ p = x.toNatClampNeg := fun p => by
    unfold hasB
    rw [(pB_at h0 h1).1, BitVec.getLsbD_twoPow]
    simp only [Bool.and_eq_true, decide_eq_true_eq]
    omega
  exact ⟨fun z => z _ (by omega) ((hb _).mpr rfl), fun z p _ h => by rw [(hb p).mp h]; exact z⟩
/-- what the search for one place says -/
theorem so_one (hN : wfN N) {f : Nat} {a b : Int} {x y : Int32} (h0 : 0 ≤ x.toInt) (h1 : x.toInt ≤ 11) (hs : sooP N f a b (pBI x) y) : (y.toInt = -1 ∧ ∀ u, fwR N (-1) f a x.toNatClampNeg u → b < u) ∨ ((a ≤ y.toInt ∧ y.toInt ≤ b) ∧ fwR N (-1) f a x.toNatClampNeg y.toInt ∧ ∀ u, fwR N (-1) f a x.toNatClampNeg u → y.toInt ≤ u) := by
  have hr : ∀ k p, a ≤ k → (rchF N f a k p ↔ fwR N (-1) f a p k) := fun k p hk => by
    unfold rchF
    exact ⟨fun z => z.elim (fun z => by rw [z]; exact fw_here hk) id, Or.inr⟩
  have hw := (al_one h0 h1 (R := fun _ => True)).1
  rcases hs hw.1 hw.2 with ⟨z1, z2⟩ | ⟨z1, z2, z3⟩
  · refine Or.inl ⟨z1, fun u hu => ?_⟩
    have hg := fw_ge hN hu
    refine Classical.byContradiction (fun k => z2 u hg (by omega) ((al_one h0 h1).2.mpr ((hr u _ hg).mpr hu)))
  · refine Or.inr ⟨z1, (hr _ _ z1.1).mp ((al_one h0 h1).2.mp z2), fun u hu => ?_⟩
    have hg := fw_ge hN hu
    refine Classical.byContradiction (fun k => z3 u hg (by omega) ((al_one h0 h1).2.mpr ((hr u _ hg).mpr hu)))
theorem pl_none (hx : ∀ q, q < 12 → (lat q).toInt = -1) (hu : ∀ u, fwR N (-1) p now g u → hop + 336 ≤ u) (hn : now < hop) : plF N p now g hop lat ∧ plN N p now g lat :=
  ⟨Or.inl ⟨hx, hu⟩, Or.inl ⟨hx, fun u y => by have := hu u y; omega⟩⟩
theorem pl_new {v : Int} (hL : LatI N (-1) g v now lat) (h0 : 0 ≤ now) (hv : now ≤ v) (hv2 : v ≤ now + 336) (hf : fwR N (-1) p now g v) (hu : ∀ u, fwR N (-1) p now g u → v ≤ u) (hn : hop ≤ now) : plF N p now g hop lat ∧ plN N p now g lat :=
  ⟨Or.inr ⟨v, now, hL, h0, Int.le_refl _, hv, hv2, hn, hu⟩, Or.inr ⟨v, now, hL, h0, Int.le_refl _, hv, hf, hv2, hu⟩⟩
end PL
def tpA (A : PS) (i : Nat) (now : Int) : Nat × Int := if (A i 3).toInt = -1 then ((A i 2).toNatClampNeg, now) else ((A i 6).toNatClampNeg, (A i 5).toInt)
def plC (g4 : Int32) (g41 g42 g43 : Nat → Nat → Int32) (N : Net) (now : Int) (A : PS) : Prop := ∀ i, i < 60 → (g41 i 0).toInt ≤ g4.toInt ∧ (g41 i 0 = g4 → plF N (tpA A i now).1 (tpA A i now).2 (A i 0).toNatClampNeg (g42 i 0).toInt (g43 i))
section PC
variable {N M : Net} {now now' m : Int} {n k : Nat} {A B : PS} {g4 : Int32} {g41 g42 g43 u41 u42 u43 : Nat → Nat → Int32}
theorem tp_eq {i : Nat} (h : ∀ f, B i f = A i f) : tpA B i now = tpA A i now := by unfold tpA; simp only [h]
theorem pc_now (hN : wfN N) (h : plC g4 g41 g42 g43 N now A) (hn : now ≤ now') : plC g4 g41 g42 g43 N now' A := fun i hi => by
  refine ⟨(h i hi).1, fun e => ?_⟩
  have h1 := (h i hi).2 e
  unfold tpA at h1 ⊢
  by_cases y : (A i 3).toInt = -1
  · rw [if_pos y] at h1 ⊢
    exact pl_ride hN h1 (fw_here hn)
  · rw [if_neg y] at h1 ⊢
    exact h1
theorem pc_lv {w : Int32} (h : plC g4 g41 g42 g43 N w.toInt A) (hk : (A k 3).toInt ≠ -1) (hw : A k 5 = w) : plC g4 g41 g42 g43 N w.toInt (lvA A k w) := fun i hi => by
  refine ⟨(h i hi).1, fun e => ?_⟩
  have h1 := (h i hi).2 e
  by_cases y : i = k
  · subst y
    have e0 : lvA A i w i 0 = A i 0 := by rw [lv_s]; rfl
    have e1 : tpA (lvA A i w) i w.toInt = tpA A i w.toInt := by
      unfold tpA
      rw [if_pos (by rw [lv_3]; decide), if_neg hk, hw, show lvA A i w i 2 = A i 6 by rw [lv_s]; rfl]
    rw [e0, e1]
    exact h1
  · rw [tp_eq (lv_o y), lv_o y]
    exact h1
theorem pc_bd {c d u p : Int32} (hN : wfN N) (h : plC g4 g41 g42 g43 N now A) (hw : (A k 3).toInt = -1) (hc : c.toInt ≠ -1) (hr : fwR N (-1) (A k 2).toNatClampNeg now p.toNatClampNeg u.toInt) : plC g4 g41 g42 g43 N now (bdA A k c d u p) := fun i hi => by
  refine ⟨(h i hi).1, fun e => ?_⟩
  have h1 := (h i hi).2 e
  by_cases y : i = k
  · subst y
    have e0 : bdA A i c d u p i 0 = A i 0 := by rw [bd_s]; rfl
    have e1 : tpA (bdA A i c d u p) i now = (p.toNatClampNeg, u.toInt) := by
      unfold tpA
      rw [if_neg (by rw [show bdA A i c d u p i 3 = c by rw [bd_s]; rfl]; exact hc), show bdA A i c d u p i 6 = p by rw [bd_s]; rfl, show bdA A i c d u p i 5 = u by rw [bd_s]; rfl]
    rw [e0, e1]
    unfold tpA at h1
    rw [if_pos hw] at h1
    exact pl_ride hN h1 hr
  · rw [tp_eq (bd_o y), bd_o y]
    exact h1
theorem pc_ver {x : Int32} (h : plC g4 g41 g42 g43 N now A) (hx : g4.toInt < x.toInt) : plC x g41 g42 g43 M now' B := fun i hi => by
  have h1 := (h i hi).1
  exact ⟨by omega, fun e => by rw [e] at h1; omega⟩
theorem pc_set (h : plC g4 g41 g42 g43 N now A) (h1 : ∀ i, i ≠ k → u41 i = g41 i) (h2 : ∀ i, i ≠ k → u42 i = g42 i) (h3 : ∀ i, i ≠ k → u43 i = g43 i) (hk : u41 k 0 = g4 ∧ plF N (tpA A k now).1 (tpA A k now).2 (A k 0).toNatClampNeg (u42 k 0).toInt (u43 k)) : plC g4 u41 u42 u43 N now A := fun i hi => by
  by_cases y : i = k
  · subst y
    exact ⟨by rw [hk.1]; exact Int.le_refl _, fun _ => hk.2⟩
  · rw [h1 i y, h2 i y, h3 i y]
    exact h i hi
end PC
/-! going through the halts of an hour -/
def skI (N : Net) (now : Int) (C : Nat → Int) (A : PS) (q : Nat) (h6 : Nat → Int32) (b i : Int) : Prop := ∀ c s, PrH N h6 b i c s → ∀ d s', ¬ takeK N now C A q c d s s'
section SI
variable {N : Net} {now b i : Int} {C : Nat → Int} {A : PS} {q k c s : Nat} {h6 h7 : Nat → Int32}
theorem sk_0 : skI N now C A q h6 b b := fun _ _ h => (pr_none h).elim
theorem sk_s (hN : wfN N) (hI : skI N now C A q h6 b i) (hk : (k : Int) = i) (hb : b ≤ i) (hc : c < nK N) (hs : s < nS N c) (e : (h6 k).toInt = hvN N c s) (hn : ∀ d s', ¬ takeK N now C A q c d s s') : skI N now C A q h6 b (i + 1) := fun c9 s9 h => by
  rcases (pr_step hN hk hb hc hs e).mp h with h | ⟨rfl, rfl⟩
  · exact hI c9 s9 h
  · exact hn
theorem sk_day {day : Int} (hd : 24 * day + nH N c + nO N c s = now) {d s' : Nat} (h : takeK N now C A q c d s s') : (d : Int) = day := by
  have h1 := h.1.2.2.2.2.1
  unfold htN at h1
  omega
theorem sk_pr (hN : wfN N) (hH : HalC h6 h7 N) {z : Nat} (hz : z < 24) (hm : now % 24 = z) {d s' : Nat} (h : takeK N now C A q c d s s') : PrH N h6 (h7 z).toInt (h7 (z + 1)).toInt c s := by
  obtain ⟨⟨a1, a2, a3, a4, a5, a6⟩, -⟩ := h
  refine (pr_all hN hH hz).mpr ⟨a1, by omega, ?_⟩
  unfold htN at a5
  omega
theorem sk_e (hN : wfN N) (hH : HalC h6 h7 N) {z : Nat} (hz : z < 24) (hm : now % 24 = z) (hI : skI N now C A q h6 (h7 z).toInt (h7 (z + 1)).toInt) : ∀ c d s s', ¬ takeK N now C A q c d s s' := fun c d s s' h => hI c s (sk_pr hN hH hz hm h) d s' h
theorem sk_best (hN : wfN N) (hH : HalC h6 h7 N) {z : Nat} (hz : z < 24) (hm : now % 24 = z) (hI : skI N now C A q h6 (h7 z).toInt i) (hk : (k : Int) = i) (hi : i < (h7 (z + 1)).toInt) (e : (h6 k).toInt = hvN N c s) {d s' : Nat} (h : takeK N now C A q c d s s') : bestK N now C A q c d s s' := by
  refine ⟨h, fun c1 d1 s1 s2 h' => ?_⟩
  obtain ⟨x1, x2, j, x3, x4, x5⟩ := sk_pr hN hH hz hm h'
  have hj : k ≤ j := Classical.byContradiction (fun y => hI c1 s1 ⟨x1, x2, j, x3, by omega, x5⟩ d1 s2 h')
  have hle : hvN N c s ≤ hvN N c1 s1 := by
    rcases Nat.lt_or_eq_of_le hj with y | y
    · have := hH.2.2.2.1 k j y (by have := hH.1 (z + 1) (by omega); omega)
      omega
    · subst y; omega
  have t1 := h.1
  have t2 := h'.1
  obtain ⟨a1, a2, a3, a4, a5, a6⟩ := t1
  obtain ⟨b1, b2, b3, b4, b5, b6⟩ := t2
  have hs1 := (hN.2 c1 b1).1
  have hs0 := (hN.2 c a1).1
  unfold hvN at hle
  unfold htN at a5 b5
  have hc : c ≤ c1 := by omega
  rcases Nat.lt_or_eq_of_le hc with y | y
  · exact Or.inl y
  · subst y
    refine Or.inr ⟨rfl, ?_⟩
    have hss : s1 ≤ s := by omega
    rcases Nat.lt_or_eq_of_le hss with y | y
    · have := (hN.2 c a1).2.2.2.2 s1 s y (by omega)
      omega
    · subst y; omega
end SI
