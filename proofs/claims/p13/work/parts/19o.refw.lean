/-! what the reference's walks need -/
theorem wk_bit {x day : Int32} {W d : Nat} (hx : x.toInt = W) (hd : (d : Int) = day.toInt) : ((x >>> ((day - day / 7 * 7) &&& 31)) &&& 1 ≠ 0) ↔ W.testBit (d % 7) = true := by
  have hw : x.toBitVec.toNat = W := by
    have := i_nn (x := x) (by omega)
    omega
  have e1 := i_rem (x := day) (y := 7) (z := day - day / 7 * 7) (n := 7) rfl (by decide) (by decide) (by omega)
  have e2 : day - day / 7 * 7 = nI (d % 7) := by
    apply Int32.toInt_inj.mp
    rw [nI_toInt (by omega), e1, ← hd]
    omega
  have e3 := and31 ⟨d % 7, by omega⟩
  simp only at e3
  rw [e2, e3, sn_bit _ (by omega)]
  show x.toBitVec.toNat.testBit (d % 7) = true ↔ _
  rw [hw]
theorem run_M {σ : QS} {N : Net} {c : Nat} {day y z : Int32} (hR : RepM σ N) (hc : c < nK N) (hd : 0 ≤ day.toInt ∧ day.toInt ≤ 300) (ey : y = ((σ 5 0 c) >>> ((day - day / 7 * 7) &&& 31)) &&& 1) (ez : z = σ 13 0 (301 * c + day.toNatClampNeg)) : (y.toInt ≠ 0 ∧ z = 0) ↔ runN N c day.toNatClampNeg := by
  have hd9 := cl_eq hd.1
  obtain ⟨⟨a1, a2, a3, a4⟩, -, b2⟩ := hR.2.2 c hc
  have h1 := wk_bit a3 (day := day) hd9
  rw [← ey] at h1
  have h2 := b2 day.toNatClampNeg (by omega)
  rw [← ez] at h2
  have h3 : y.toInt ≠ 0 ↔ y ≠ 0 := ⟨fun q r => q (by rw [r]; decide), fun q r => q (Int32.toInt_inj.mp (by rw [r]; decide))⟩
  unfold runN
  rw [h3, h1]
  exact ⟨fun q => ⟨q.1, fun _ r => absurd q.2 (h2.mpr r)⟩, fun q => ⟨q.1, Classical.byContradiction (fun r => q.2 (by omega) (h2.mp r))⟩⟩
def busyM (σ : QS) (a : Int32) : Prop := ∃ i : Nat, (i : Int) < (σ 4 0 0).toInt ∧ σ 21 0 i = a
def fdO (N : Net) (w : Int) (f : Nat) (a : Int) (c d s : Nat) : Prop := ∃ s0, s0 < s ∧ fwR N w f a (nP N c s0) (htN N c d s0)
def fdF (N : Net) (c d s : Nat) (g : Nat → Int32) : Prop := ∀ s0, s0 < s → htN N c d s0 < (g (nP N c s0)).toInt
def fiP (N : Net) (w : Int) (f : Nat) (a : Int) (g : Nat → Int32) : Prop := ∀ p, p < 12 → isSV N w f a p (g p).toInt
section FW
variable {N : Net} {w a : Int} {f c d s p : Nat} {g g' : Nat → Int32}
theorem q49_0 : fdC N w a g (q49 (0 : Int32).toNatClampNeg) := by
  rw [show (0 : Int32).toNatClampNeg = 0 by decide]
  exact fun c d s s' _ _ h => absurd h (Nat.not_lt_zero _)
theorem qe_79 (h : fdC N w a g (q12 c d s)) (hs : nS N c ≤ s) : fdC N w a g (q79 c (d + 1)) := fdC_of h (fun c' d' s0 s' h1 _ h2 => by
  have h3 := h1.2.2.2.2
  unfold q79 at h2
  unfold q12
  rcases h2 with h2 | ⟨h2, h4⟩
  · exact Or.inl h2
  · subst h2
    omega)
theorem qn_79 (h : fdC N w a g (q79 c d)) (hr : ¬ runN N c d) : fdC N w a g (q79 c (d + 1)) := fdC_of h (fun c' d' s0 s' h1 _ h2 => by
  unfold q79 at h2 ⊢
  rcases h2 with h2 | ⟨h2, h4⟩
  · exact Or.inl h2
  · subst h2
    rcases Nat.lt_or_eq_of_le (Nat.le_of_lt_succ h4) with y | y
    · exact Or.inr ⟨rfl, y⟩
    · rw [y] at h1
      exact absurd h1.2.2.1 hr)
theorem qi_12 (h : fdC N w a g (q79 c d)) : fdC N w a g (q12 c d (0 : Int32).toNatClampNeg) := fdC_of h (fun c' d' s0 s' h1 _ h2 => by
  rw [show (0 : Int32).toNatClampNeg = 0 by decide] at h2
  unfold q12 at h2
  unfold q79
  omega)
theorem qi_79 (h : fdC N w a g (q49 c)) (hd : (d : Int) ≤ 0 ∨ (d : Int) ≤ a / 24 - 4) : fdC N w a g (q79 c d) := fdC_of h (fun c' d' s0 s' h1 h3 h2 => by
  unfold q79 at h2
  unfold q49
  unfold fdD at h3
  omega)
theorem qe_49 (h : fdC N w a g (q79 c d)) (hd : a + 336 < 24 * (d : Int) ∨ 300 < d) (ha : a ≤ 6399) : fdC N w a g (q49 (c + 1)) := fdC_of h (fun c' d' s0 s' h1 h3 h2 => by
  unfold q49 at h2
  unfold q79
  unfold fdD at h3
  omega)
theorem qn_49 (h : fdC N w a g (q49 c)) (hw : (c : Int) = w) : fdC N w a g (q49 (c + 1)) := fdC_of h (fun c' d' s0 s' h1 h3 h2 => by
  have h4 := h1.2.1
  unfold q49 at h2 ⊢
  omega)
theorem qe_38 (h : fdC N w a g (q49 c)) (hc : nK N ≤ c) : fdC N w a g (fun _ _ _ => True) := fdC_of h (fun c' d' s0 s' h1 h3 h2 => by
  have h4 := h1.1
  unfold q49
  omega)
end FW
/-! seeking -/
section SW
variable {N : Net} {now : Int} {C : Nat → Int} {A : PS} {k c d : Nat}
theorem ri_30 : skC N now C A k (r30 (0 : Int32).toNatClampNeg) := by
  rw [show (0 : Int32).toNatClampNeg = 0 by decide]
  exact fun c d s s' h => absurd h (Nat.not_lt_zero _)
theorem ri_53 (hN : wfN N) (h : skC N now C A k (r30 c)) (hd : (d : Int) ≤ 0 ∨ (d : Int) ≤ now / 24 - 4) : skC N now C A k (r53 c d) := skC_of h (fun c' d' s s' h1 h2 => by
  have h3 := sit_d hN h1
  unfold r53 at h2
  unfold r30
  omega)
theorem re_30 (hN : wfN N) (h : skC N now C A k (r53 c d)) (hd : now < 24 * (d : Int)) : skC N now C A k (r30 (c + 1)) := skC_of h (fun c' d' s s' h1 h2 => by
  have h3 := sit_d hN h1
  unfold r30 at h2
  unfold r53
  omega)
theorem re_0 (hN : wfN N) (h : skC N now C A k (r30 c)) (hc : nK N ≤ c) : ∀ c d s s', ¬ takeK N now C A k c d s s' := fun c' d' s s' h1 => h c' d' s s' (by
  have h3 := sit_d hN h1
  unfold r30
  omega) h1
theorem rn_53 (h : skC N now C A k (r53 c d)) (hn : ∀ s s', ¬ takeK N now C A k c d s s') : skC N now C A k (r53 c (d + 1)) := fun c' d' s s' h2 h1 => by
  unfold r53 at h2
  rcases Classical.em (r53 c d c' d') with y | y
  · exact h c' d' s s' y h1
  · unfold r53 at y
    have e : c' = c ∧ d' = d := by omega
    obtain ⟨rfl, rfl⟩ := e
    exact hn s s' h1
theorem no_run (h : ¬ runN N c d) : ∀ s s', ¬ takeK N now C A k c d s s' := fun s s' h1 => h h1.1.2.1
theorem no_room (h : ¬ (A k 1).toInt ≤ C c - onP A c d) : ∀ s s', ¬ takeK N now C A k c d s s' := fun s s' h1 => h h1.1.2.2.2.2.2
theorem no_good (hN : wfN N) (hc : c < nK N) {e s : Int} (hI : heI N now A k c d e s) (he : e ≠ -1) {x : Int} (hx : x ≤ e) (h : ∀ s9 : Nat, x < (s9 : Int) → s9 < nS N c → ¬ goodK N now (A k 2).toNatClampNeg (A k 0).toNatClampNeg c d s9) : ∀ s s', ¬ takeK N now C A k c d s s' := fun s0 s' h1 => by
  have h2 := he_same hN hc hI he h1
  have h3 := h1.2.1
  exact h s' (by omega) h3.2 h1.2.2.1
theorem se_some (hN : wfN N) (hc : c < nK N) {e s : Int} (hI : heI N now A k c d e s) (he : e ≠ -1) (hr : runN N c d) (hm : (A k 1).toInt ≤ C c - onP A c d) {x : Nat} (hx : e < (x : Int)) (hx2 : x < nS N c) (hg : goodK N now (A k 2).toNatClampNeg (A k 0).toNatClampNeg c d x) (h : ∀ s9 : Nat, (x : Int) < (s9 : Int) → s9 < nS N c → ¬ goodK N now (A k 2).toNatClampNeg (A k 0).toNatClampNeg c d s9) : takeK N now C A k c d e.toNat x := by
  rcases hI with ⟨h1, h2⟩ | ⟨h1, h2, h3⟩
  · exact absurd h1 he
  · exact ⟨⟨hc, hr, h3.1, h3.2.1, h3.2.2, hm⟩, ⟨by omega, hx2⟩, hg, fun s9 y1 y2 => h s9 (by omega) y2⟩
theorem he_fw (hc : c < nK N) (hr : runN N c d) {e s : Int} (hI : heI N now A k c d e s) (he : e ≠ -1) {x : Nat} (hx : e < (x : Int)) (hx2 : x < nS N c) : fwR N (-1) (A k 2).toNatClampNeg now (nP N c x) (htN N c d x) := by
  rcases hI with ⟨h1, h2⟩ | ⟨h1, h2, h3⟩
  · exact absurd h1 he
  · have e2 : (A k 2).toNatClampNeg = nP N c e.toNat := by
      have z := h3.2.1
      have := cl_eq (j := A k 2) (by omega)
      omega
    refine fw_ride (s := e.toNat) ⟨hc, by omega, hr, by omega, hx2⟩ ?_
    rw [e2, h3.2.2]
    exact fw_here (Int.le_refl _)
/-- an hour of the reference -/
theorem hr_M {F : Nat → Int32} {n : Nat} {w : Int32} {σ1 σ2 : QS} {S : SE} (e : (pM σ1, eM σ1) = unN F w S n) (h : skN N w.toInt C (pM σ1) n (pM σ2)) (e2 : eM σ2 = eM σ1) : hrR N C F n w S (pM σ2, eM σ2) := by
  refine ⟨?_, ?_⟩
  · rw [← e]; exact e2
  · rw [← e]; exact h
end SW
theorem un_M {σ σ' : QS} {k c : Nat} {w size fare x : Int32} (hk : (k : Int) < (σ 4 0 0).toInt) (h1 : (σ 21 0 k).toInt ≠ -1) (h2 : σ 23 0 k = w) (hc : c = (σ 21 0 k).toNatClampNeg) (hc2 : c < 12) (hs : size = σ 19 0 k) (hfa : fare = σ 8 0 c) (e10 : σ' 10 0 = upd (σ 10 0) c x) (hx : x = σ 10 0 c + size * fare) (l : pM σ' = lvA (pM σ) k w) : (pM σ', eM σ') = un1 (farM σ) w (pM σ, eM σ) k := by
  have p3 : pM σ k 3 = σ 21 0 k := pM_f hk (by decide) (by decide)
  have p5 : pM σ k 5 = σ 23 0 k := pM_f hk (by decide) (by decide)
  have p1 : pM σ k 1 = σ 19 0 k := pM_f hk (by decide) (by decide)
  unfold un1
  rw [if_pos ⟨by show (pM σ k 3).toInt ≠ -1; rw [p3]; exact h1, by show pM σ k 5 = w; rw [p5]; exact h2⟩]
  show (pM σ', eM σ') = (lvA (pM σ) k w, upd (eM σ) (pM σ k 3).toNatClampNeg (eM σ (pM σ k 3).toNatClampNeg + pM σ k 1 * farM σ (pM σ k 3).toNatClampNeg))
  rw [l, p3, p1, ← hc]
  refine congrArg (fun z => (lvA (pM σ) k w, z)) ?_
  funext j
  unfold eM farM upd
  rw [e10]
  unfold upd
  by_cases y : j = c
  · subst y
    rw [if_pos hc2, if_pos rfl, if_pos rfl, if_pos hc2, if_pos hc2, hx, hs, hfa]
  · rw [if_neg y, if_neg y]
theorem un_M0 {σ : QS} {k : Nat} {w : Int32} {F : Nat → Int32} (hk : (k : Int) < (σ 4 0 0).toInt) (h : ¬ ((σ 21 0 k).toInt ≠ -1 ∧ σ 23 0 k = w)) : (pM σ, eM σ) = un1 F w (pM σ, eM σ) k := by
  have p3 : pM σ k 3 = σ 21 0 k := pM_f hk (by decide) (by decide)
  have p5 : pM σ k 5 = σ 23 0 k := pM_f hk (by decide) (by decide)
  unfold un1
  refine (if_neg (fun z => h ⟨?_, ?_⟩)).symm
  · have := z.1; rw [← p3]; exact this
  · have := z.2; rw [← p5]; exact this
theorem rm_step {A : PS} {c d : Int} {k : Nat} {x y R z : Int} (h : x = R - sumP A c (fun x => decide (x = d)) k) (e : y = x - z) (hz : ((A k 3).toInt = c ∧ (A k 4).toInt = d ∧ z = (A k 1).toInt) ∨ (¬ ((A k 3).toInt = c ∧ (A k 4).toInt = d) ∧ z = 0)) : y = R - sumP A c (fun x => decide (x = d)) (k + 1) := by
  simp only [sumP]
  rcases hz with ⟨z1, z2, z3⟩ | ⟨z1, z2⟩
  · rw [if_pos ⟨z1, decide_eq_true z2⟩]; omega
  · rw [if_neg (fun q => z1 ⟨q.1, of_decide_eq_true q.2⟩)]; omega
theorem wf_hour {N : Net} {now : Int} {C : Nat → Int} {n : Nat} {A : PS} (hN : wfN N) (h0 : 0 ≤ now ∧ now ≤ 5000) (h : wfA N now (now + 1) n A) : ∀ k A', k ≤ n → skN N now C A k A' → wfA N now (now + 1) n A'
  | 0, A', _, e => by rw [e]; exact h
  | k + 1, A', hk, ⟨B, hB, h2⟩ => by
    have ih := wf_hour hN h0 h k B (by omega) hB
    rcases h2 with ⟨w1, w2⟩ | ⟨w1, w2⟩
    · exact wf_seek hN h0 ih (by omega) w1 w2
    · rw [w2]; exact ih
theorem wf_wts {N : Net} {now m : Int} {n k : Nat} {A : PS} (h : wfA N now m n A) (hk : k < n) : ((A k 2).toInt ≠ -1 ↔ (A k 3).toInt = -1) := by
  rcases (h.2.1 k hk).2.2 with y | y
  · have := y.1
    have := y.2.2.2.2.1
    omega
  · have := y.1
    have := y.2.2.1
    omega
theorem wf_next {N : Net} {C : Nat → Int} {F : Nat → Int32} {n : Nat} {w : Int32} {S S' : SE} (hN : wfN N) (h0 : 0 ≤ w.toInt ∧ w.toInt ≤ 5000) (h : wfA N (w.toInt - 1) (w.toInt - 1 + 1) n S.1) (hr : hrR N C F n w S S') : wfA N w.toInt (w.toInt + 1) n S'.1 := by
  have h1 : wfA N w.toInt w.toInt n S.1 := by
    have := wf_later h (now' := w.toInt) (by omega)
    rw [show w.toInt - 1 + 1 = w.toInt by omega] at this
    exact this
  exact wf_hour hN h0 (wf_past (F := F) h1) n _ (Nat.le_refl _) hr.2
