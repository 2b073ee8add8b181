/-! other nets: one more stop, one more cart, other weekdays, one more day of snow -/
def netS (N : Net) (c p : Nat) (o : Int) : Net := (nK N, fun x => if x = c then nS N c + 1 else nS N x, nH N, nW N, fun x s => if x = c ∧ s = nS N c then p else nP N x s, fun x s => if x = c ∧ s = nS N c then o else nO N x s, nN N)
def netA (N : Net) (h : Int) (w p : Nat) (Z : Nat → Prop) : Net := (nK N + 1, fun x => if x = nK N then 1 else nS N x, fun x => if x = nK N then h else nH N x, fun x => if x = nK N then w else nW N x, fun x s => if x = nK N then p else nP N x s, fun x s => if x = nK N then 0 else nO N x s, fun x d => if x = nK N then Z d else nN N x d)
def netW (N : Net) (c w : Nat) : Net := (nK N, nS N, nH N, fun x => if x = c then w else nW N x, nP N, nO N, nN N)
def netN (N : Net) (c d : Nat) : Net := (nK N, nS N, nH N, nW N, nP N, nO N, fun x y => (x = c ∧ y = d) ∨ nN N x y)
def totS (N : Net) : Nat → Nat
  | 0 => 0
  | k + 1 => totS N k + nS N k
def RepM (σ : QS) (N : Net) : Prop := wfN N ∧ (σ 2 0 0).toInt = nK N ∧ ∀ c, c < nK N → ((σ 9 0 c).toInt = nS N c ∧ (σ 6 0 c).toInt = nH N c ∧ (σ 5 0 c).toInt = nW N c ∧ nW N c < 128) ∧ (∀ s, s < nS N c → (σ 11 0 (6 * c + s)).toInt = nP N c s ∧ (σ 12 0 (6 * c + s)).toInt = nO N c s) ∧ ∀ d, d ≤ 300 → (σ 13 0 (301 * c + d) ≠ 0 ↔ nN N c d)
def NetC (σ : QS) (N : Net) : Prop := RepC σ N ∧ HalC (σ 6 0) (σ 7 0) N ∧ LnkC (σ 8 0) N ∧ (∀ p, p < 12 → b12 (σ 8 0 p)) ∧ (σ 7 0 24).toInt = totS N (nK N) ∧ ∀ c, nK N ≤ c → c < 12 → (σ 26 c 0).toInt = 0
section NE
variable {N M : Net} {c c9 p w d s k : Nat} {o h : Int} {Z : Nat → Prop} {σ σ' : QS}
theorem NetC_of (h : NetC σ N) (hk : ∀ v ∈ [3, 6, 7, 8, 21, 22, 26, 27, 28, 29], σ' v = σ v) : NetC σ' N := by
  unfold NetC at h ⊢
  rw [hk 6 (by decide), hk 7 (by decide), hk 8 (by decide), hk 26 (by decide)]
  exact ⟨RepC_of h.1 (fun v hv => hk v (by revert hv; revert v; decide)), h.2⟩
theorem NetC_k {ms : List Nat} (h : NetC σ N) (k : Keep ms σ σ') (hd : ∀ v ∈ [3, 6, 7, 8, 21, 22, 26, 27, 28, 29], v ∉ ms) : NetC σ' N := NetC_of h (fun v hv => k v (hd v hv))
theorem tot_le (hN : wfN N) : ∀ k, k ≤ nK N → totS N k ≤ 6 * k
  | 0, _ => Nat.le_refl _
  | k + 1, hk => by
    have h1 := tot_le hN k (by omega)
    have h2 := (hN.2 k (by omega)).1
    simp only [totS]
    omega
theorem tot_lt (hN : wfN N) (hs : nS N c < 6) : ∀ k, k ≤ nK N → c < k → totS N k < 6 * k
  | 0, _, h => by omega
  | k + 1, hk, hc => by
    have h2 := (hN.2 k (by omega)).1
    simp only [totS]
    rcases Nat.lt_or_eq_of_le (Nat.le_of_lt_succ hc) with y | y
    · have h1 := tot_lt hN hs k (by omega) y
      omega
    · subst y
      have h1 := tot_le hN c (by omega)
      omega
theorem tot_72 (hN : wfN N) (hc : c < nK N) (hs : nS N c < 6) : totS N (nK N) < 72 := by
  have h1 := tot_lt hN hs (nK N) (Nat.le_refl _) hc
  have h2 := hN.1
  omega
theorem tot_same (h : ∀ x, x < k → nS M x = nS N x) : totS M k = totS N k := by
  induction k with
  | zero => rfl
  | succ k ih => simp only [totS, ih (fun x hx => h x (by omega)), h k (by omega)]
theorem tot_S : ∀ k, c < k → totS (netS N c p o) k = totS N k + 1
  | 0, h => by omega
  | k + 1, h => by
    simp only [totS]
    rcases Nat.lt_or_eq_of_le (Nat.le_of_lt_succ h) with y | y
    · rw [tot_S k y, show nS (netS N c p o) k = nS N k from if_neg (by omega)]
      omega
    · subst y
      rw [tot_same (M := netS N c p o) (N := N) (fun x hx => if_neg (by omega)), show nS (netS N c p o) c = nS N c + 1 from if_pos rfl]
      omega
theorem wf_S (hN : wfN N) (hc : c < nK N) (hs : nS N c < 6) (hp : p < 12) (ho : nO N c (nS N c - 1) < o) (ho2 : o ≤ 60) : wfN (netS N c p o) := by
  refine ⟨hN.1, fun x hx => ?_⟩
  have hx : x < nK N := hx
  obtain ⟨a1, a2, a3, a4, a5⟩ := hN.2 x hx
  by_cases y : x = c
  · subst y
    have e1 : nS (netS N x p o) x = nS N x + 1 := if_pos rfl
    have eP : ∀ s, s ≠ nS N x → nP (netS N x p o) x s = nP N x s := fun s hs => if_neg (by omega)
    have eO : ∀ s, s ≠ nS N x → nO (netS N x p o) x s = nO N x s := fun s hs => if_neg (by omega)
    have eP1 : nP (netS N x p o) x (nS N x) = p := if_pos ⟨rfl, rfl⟩
    have eO1 : nO (netS N x p o) x (nS N x) = o := if_pos ⟨rfl, rfl⟩
    refine ⟨by omega, a2, by rw [eO 0 (by omega)]; exact a3, fun s hs => ?_, fun s s' h1 h2 => ?_⟩
    · by_cases z : s = nS N x
      · rw [z, eP1, eO1]
        have := a4 (nS N x - 1) (by omega)
        exact ⟨hp, by omega, ho2⟩
      · rw [eP s z, eO s z]
        exact a4 s (by omega)
    · by_cases z : s' = nS N x
      · rw [z, eO1, eO s (by omega)]
        rcases Nat.lt_or_ge s (nS N x - 1) with w | w
        · have := a5 s (nS N x - 1) w (by omega)
          omega
        · have : s = nS N x - 1 := by omega
          rw [this]; exact ho
      · rw [eO s' z, eO s (by omega)]
        exact a5 s s' h1 (by omega)
  · have e1 : nS (netS N c p o) x = nS N x := if_neg y
    have eP : ∀ s, nP (netS N c p o) x s = nP N x s := fun s => if_neg (fun z => y z.1)
    have eO : ∀ s, nO (netS N c p o) x s = nO N x s := fun s => if_neg (fun z => y z.1)
    rw [e1]
    simp only [eP, eO]
    exact ⟨a1, a2, a3, a4, a5⟩
theorem wf_A (hN : wfN N) (hk : nK N < 12) (hh : 0 ≤ h ∧ h ≤ 23) (hp : p < 12) : wfN (netA N h w p Z) := by
  refine ⟨by show nK N + 1 ≤ 12; omega, fun x hx => ?_⟩
  have hx : x < nK N + 1 := hx
  by_cases y : x = nK N
  · have e1 : nS (netA N h w p Z) x = 1 := if_pos y
    have e2 : nH (netA N h w p Z) x = h := if_pos y
    have eP : ∀ s, nP (netA N h w p Z) x s = p := fun s => if_pos y
    have eO : ∀ s, nO (netA N h w p Z) x s = 0 := fun s => if_pos y
    rw [e1, e2]
    simp only [eP, eO]
    exact ⟨by omega, hh, trivial, fun s _ => ⟨hp, by omega, by omega⟩, fun s s' h1 h2 => by omega⟩
  · have e1 : nS (netA N h w p Z) x = nS N x := if_neg y
    have e2 : nH (netA N h w p Z) x = nH N x := if_neg y
    have eP : ∀ s, nP (netA N h w p Z) x s = nP N x s := fun s => if_neg y
    have eO : ∀ s, nO (netA N h w p Z) x s = nO N x s := fun s => if_neg y
    rw [e1, e2]
    simp only [eP, eO]
    exact hN.2 x (by omega)
theorem wf_W (hN : wfN N) : wfN (netW N c w) := hN
theorem wf_N (hN : wfN N) : wfN (netN N c d) := hN
theorem hal_same {h6 h7 : Nat → Int32} (h : HalC h6 h7 N) (h1 : nK M = nK N) (h2 : nS M = nS N) (h3 : nH M = nH N) (h4 : nO M = nO N) : HalC h6 h7 M := by
  unfold HalC hvN at h ⊢
  rw [h1, h2, h3, h4]
  exact h
theorem ok_S {pl of : Int32} (hC : NetC σ N) (hc : c < nK N) (hs : nS N c < 6) (hp : 0 ≤ pl.toInt ∧ pl.toInt ≤ 11) (ho : nO N c (nS N c - 1) < of.toInt) (ho2 : of.toInt ≤ 60) : addOk σ N (netS N c pl.toNatClampNeg of.toInt) c pl of := by
  obtain ⟨hR, hH, -, -, hT, -⟩ := hC
  have hN := hR.1
  have hp9 := cl_eq hp.1
  have e26 : (σ 26 c 0).toNatClampNeg = nS N c := by
    have h1 := ((hR.2.2 c hc).1).1
    have h2 := cl_eq (j := σ 26 c 0) (by omega)
    omega
  have h26 := ((hR.2.2 c hc).1).1
  have hM := wf_S hN hc hs (p := pl.toNatClampNeg) (by omega) ho ho2
  refine ⟨⟨hM, ?_, fun x hx => ?_⟩, hH, ?_, ?_, ?_, ?_, ?_⟩
  · rw [stU_v (by decide) (by decide) (by decide)]; exact hR.2.1
  · have hx : x < nK N := hx
    obtain ⟨⟨b1, b2, b3, b4⟩, b5, b6⟩ := hR.2.2 x hx
    rw [stU_v (v := 22) (by decide) (by decide) (by decide), stU_v (v := 21) (by decide) (by decide) (by decide), stU_v (v := 29) (by decide) (by decide) (by decide)]
    by_cases y : x = c
    · subst y
      have e1 : nS (netS N x pl.toNatClampNeg of.toInt) x = nS N x + 1 := if_pos rfl
      refine ⟨⟨?_, b2, b3, b4⟩, fun s hs => ?_, b6⟩
      · show (rs _ 26 x (fun _ => σ 26 x 0 + 1) 26 x 0).toInt = _
        rw [rs_self, e1, i_addc (n := 1) rfl (by decide) (by omega) (by omega), b1]
        omega
      · unfold stU
        rw [rs_v (by decide), rs_v (by decide), rs_self, rs_v (a := 28) (by decide), rs_self, e26]
        unfold upd
        by_cases z : s = nS N x
        · rw [if_pos z, if_pos z, z, show nP (netS N x pl.toNatClampNeg of.toInt) x (nS N x) = pl.toNatClampNeg from if_pos ⟨rfl, rfl⟩, show nO (netS N x pl.toNatClampNeg of.toInt) x (nS N x) = of.toInt from if_pos ⟨rfl, rfl⟩]
          exact ⟨hp9.symm, rfl⟩
        · rw [if_neg z, if_neg z, show nP (netS N x pl.toNatClampNeg of.toInt) x s = nP N x s from if_neg (fun q => z q.2), show nO (netS N x pl.toNatClampNeg of.toInt) x s = nO N x s from if_neg (fun q => z q.2)]
          exact b5 s (by omega)
    · have e1 : nS (netS N c pl.toNatClampNeg of.toInt) x = nS N x := if_neg y
      refine ⟨⟨?_, b2, b3, b4⟩, fun s hs => ?_, b6⟩
      · unfold stU
        rw [rs_i y, rs_v (by decide), rs_v (by decide), e1]
        exact b1
      · unfold stU
        rw [rs_v (by decide), rs_v (by decide), rs_i y, rs_v (a := 28) (by decide), rs_i y, rs_v (by decide), show nP (netS N c pl.toNatClampNeg of.toInt) x s = nP N x s from if_neg (fun q => y q.1), show nO (netS N c pl.toNatClampNeg of.toInt) x s = nO N x s from if_neg (fun q => y q.1)]
        exact b5 s (by omega)
  · intro x s
    rw [e26]
    show (x < nK N ∧ s < nS (netS N c pl.toNatClampNeg of.toInt) x) ↔ _
    by_cases y : x = c
    · rw [show nS (netS N c pl.toNatClampNeg of.toInt) x = nS N c + 1 from if_pos y]
      subst y
      omega
    · rw [show nS (netS N c pl.toNatClampNeg of.toInt) x = nS N x from if_neg y]
      omega
  · intro x s hx hs
    unfold hvN
    rw [show nO (netS N c pl.toNatClampNeg of.toInt) x s = nO N x s from if_neg (fun q => by have := q.2; rw [q.1] at hs; omega)]
    rfl
  · rw [e26]; omega
  · rw [hT]
    have := tot_72 hN hc hs
    omega
  · omega
theorem ok_A {hr wd pl : Int32} (hC : NetC σ N) (hk : nK N < 12) (hh : 0 ≤ hr.toInt ∧ hr.toInt ≤ 23) (hw : 0 ≤ wd.toInt ∧ wd.toInt ≤ 127) (hp : 0 ≤ pl.toInt ∧ pl.toInt ≤ 11) (e3 : (σ' 3 0 0).toInt = nK N + 1) (e22 : σ' 22 = rs σ 22 (nK N) (fun _ => hr) 22) (e21 : σ' 21 = rs σ 21 (nK N) (fun _ => wd) 21) (hkp : ∀ v ∈ [6, 7, 26, 27, 28, 29], σ' v = σ v) : addOk σ' N (netA N hr.toInt wd.toNatClampNeg pl.toNatClampNeg (fun d => snB (σ 29 (nK N)) (nI d) ≠ 0)) (nK N) pl 0 := by
  obtain ⟨hR, hH, -, -, hT, h0⟩ := hC
  have hN := hR.1
  have hp9 := cl_eq hp.1
  have hw9 := cl_eq hw.1
  have e26 : (σ' 26 (nK N) 0).toInt = 0 := by rw [hkp 26 (by decide)]; exact h0 _ (Nat.le_refl _) hk
  have c26 : (σ' 26 (nK N) 0).toNatClampNeg = 0 := by
    have h2 := cl_eq (j := σ' 26 (nK N) 0) (by omega)
    omega
  have hM := wf_A (w := wd.toNatClampNeg) (Z := fun d => snB (σ 29 (nK N)) (nI d) ≠ 0) hN hk hh (p := pl.toNatClampNeg) (by omega)
  refine ⟨⟨hM, ?_, fun x hx => ?_⟩, by rw [hkp 6 (by decide), hkp 7 (by decide)]; exact hH, ?_, ?_, ?_, ?_, ?_⟩
  · rw [stU_v (by decide) (by decide) (by decide), e3]; rfl
  · have hx : x < nK N + 1 := hx
    rw [stU_v (v := 22) (by decide) (by decide) (by decide), stU_v (v := 21) (by decide) (by decide) (by decide), stU_v (v := 29) (by decide) (by decide) (by decide), hkp 29 (by decide), e22, e21]
    by_cases y : x = nK N
    · subst y
      have e1 : ∀ a b c d, nS (netA N a b c d) (nK N) = 1 := fun a b c d => if_pos rfl
      refine ⟨⟨?_, ?_, ?_, ?_⟩, fun s hs => ?_, fun d _ => ?_⟩
      · show (rs _ 26 (nK N) (fun _ => σ' 26 (nK N) 0 + 1) 26 (nK N) 0).toInt = _
        rw [rs_self, e1, i_addc (n := 1) rfl (by decide) (by omega) (by omega), e26]
        rfl
      · rw [rs_self]; exact (if_pos rfl).symm
      · rw [rs_self, show nW (netA N hr.toInt wd.toNatClampNeg pl.toNatClampNeg (fun d => snB (σ 29 (nK N)) (nI d) ≠ 0)) (nK N) = wd.toNatClampNeg from if_pos rfl]; exact hw9.symm
      · rw [show nW (netA N hr.toInt wd.toNatClampNeg pl.toNatClampNeg (fun d => snB (σ 29 (nK N)) (nI d) ≠ 0)) (nK N) = wd.toNatClampNeg from if_pos rfl]; omega
      · rw [e1] at hs
        have hs0 : s = 0 := by omega
        subst hs0
        unfold stU
        rw [rs_v (by decide), rs_v (by decide), rs_self, rs_v (a := 28) (by decide), rs_self, c26]
        unfold upd
        rw [if_pos rfl, if_pos rfl]
        exact ⟨by rw [show nP (netA N hr.toInt wd.toNatClampNeg pl.toNatClampNeg (fun d => snB (σ 29 (nK N)) (nI d) ≠ 0)) (nK N) 0 = pl.toNatClampNeg from if_pos rfl]; exact hp9.symm, by rw [show nO (netA N hr.toInt wd.toNatClampNeg pl.toNatClampNeg (fun d => snB (σ 29 (nK N)) (nI d) ≠ 0)) (nK N) 0 = 0 from if_pos rfl]; rfl⟩
      · show _ ↔ (if nK N = nK N then _ else _)
        rw [if_pos rfl]
    · obtain ⟨⟨b1, b2, b3, b4⟩, b5, b6⟩ := hR.2.2 x (by omega)
      have e1 : ∀ a b c d, nS (netA N a b c d) x = nS N x := fun a b c d => if_neg y
      have e2 : ∀ a b c d, nH (netA N a b c d) x = nH N x := fun a b c d => if_neg y
      have e4 : ∀ a b c d, nW (netA N a b c d) x = nW N x := fun a b c d => if_neg y
      have e5 : ∀ a b c d s, nP (netA N a b c d) x s = nP N x s := fun a b c d s => if_neg y
      have e6 : ∀ a b c d s, nO (netA N a b c d) x s = nO N x s := fun a b c d s => if_neg y
      have e7 : ∀ a b c d s, nN (netA N a b c d) x s = nN N x s := fun a b c d s => if_neg y
      rw [e1, e2, e4, rs_i y, rs_i y]
      simp only [e5, e6, e7]
      refine ⟨⟨?_, b2, b3, b4⟩, fun s hs => ?_, b6⟩
      · unfold stU
        rw [rs_i y, rs_v (by decide), rs_v (by decide), hkp 26 (by decide)]
        exact b1
      · unfold stU
        rw [rs_v (by decide), rs_v (by decide), rs_i y, rs_v (a := 28) (by decide), rs_i y, rs_v (by decide), hkp 27 (by decide), hkp 28 (by decide)]
        exact b5 s hs
  · intro x s
    rw [c26]
    show (x < nK N + 1 ∧ s < nS (netA N _ _ _ _) x) ↔ _
    by_cases y : x = nK N
    · rw [show ∀ a b c d, nS (netA N a b c d) x = 1 from fun a b c d => if_pos y]
      subst y
      omega
    · rw [show ∀ a b c d, nS (netA N a b c d) x = nS N x from fun a b c d => if_neg y]
      omega
  · intro x s hx hs
    unfold hvN
    rw [show ∀ a b c d, nO (netA N a b c d) x s = nO N x s from fun a b c d => if_neg (by omega), show ∀ a b c d, nH (netA N a b c d) x = nH N x from fun a b c d => if_neg (by omega)]
  · omega
  · rw [hkp 7 (by decide), hT]
    have := tot_le hN (nK N) (Nat.le_refl _)
    omega
  · omega
end NE
