/-! what always holds of parcels -/
def rdA (N : Net) (now m : Int) (A : PS) (i : Nat) : Prop := 0 ≤ (A i 3).toInt ∧ (A i 3).toInt < nK N ∧ (A i 2).toInt = -1 ∧ (A i 7).toInt = -1 ∧ 0 ≤ (A i 4).toInt ∧ 24 * (A i 4).toInt + nH N (A i 3).toNatClampNeg ≤ now ∧ m ≤ (A i 5).toInt ∧ (A i 5).toInt ≤ 24 * (A i 4).toInt + nH N (A i 3).toNatClampNeg + 60 ∧ 0 ≤ (A i 6).toInt ∧ (A i 6).toInt ≤ 11
def inA (A : PS) (i : Nat) : Prop := (A i 3).toInt = -1 ∧ A i 4 = -1 ∧ A i 5 = -1 ∧ A i 6 = -1 ∧ 0 ≤ (A i 2).toInt ∧ (A i 2).toInt ≤ 11
def wfA (N : Net) (now m : Int) (n : Nat) (A : PS) : Prop := n ≤ 60 ∧ (∀ i, i < n → (0 ≤ (A i 0).toInt ∧ (A i 0).toInt ≤ 11) ∧ (1 ≤ (A i 1).toInt ∧ (A i 1).toInt ≤ 20) ∧ (inA A i ∨ rdA N now m A i)) ∧ ∀ i, n ≤ i → ∀ f, A i f = dfl f
section WA
variable {N M : Net} {now m : Int} {n k : Nat} {A B : PS} {F : Nat → Int32} {S : SE}
theorem wf_sz (h : wfA N now m n A) (i : Nat) : 0 ≤ (A i 1).toInt ∧ (A i 1).toInt ≤ 20 := by
  rcases Nat.lt_or_ge i n with y | y
  · have := (h.2.1 i y).2.1; omega
  · rw [h.2.2 i y 1]; decide
theorem wf_off (h : wfA N now m n A) {i : Nat} (hi : n ≤ i) : (A i 3).toInt = -1 := by
  rw [h.2.2 i hi 3]; decide
theorem wf_on (h : wfA N now m n A) {i : Nat} (hi : (A i 3).toInt ≠ -1) : i < n ∧ rdA N now m A i := by
  rcases Nat.lt_or_ge i n with y | y
  · exact ⟨y, (h.2.1 i y).2.2.resolve_left (fun z => hi z.1)⟩
  · exact absurd (wf_off h y) hi
theorem lv_o {now : Int32} {i : Nat} (h : i ≠ k) (f : Nat) : lvA A k now i f = A i f := by unfold lvA; rw [if_neg h]
theorem lv_s {now : Int32} {f : Nat} : lvA A k now k f = (if f = 2 then A k 6 else if f = 3 ∨ f = 4 ∨ f = 5 ∨ f = 6 then -1 else if f = 7 ∧ A k 6 = A k 0 then now else A k f) := by unfold lvA; rw [if_pos rfl]
theorem lv_3 {now : Int32} : lvA A k now k 3 = -1 := by rw [lv_s]; rfl
theorem bd_o {c d u p : Int32} {i : Nat} (h : i ≠ k) (f : Nat) : bdA A k c d u p i f = A i f := by unfold bdA; rw [if_neg h]
theorem bd_s {c d u p : Int32} {f : Nat} : bdA A k c d u p k f = (if f = 2 then -1 else if f = 3 then c else if f = 4 then d else if f = 5 then u else if f = 6 then p else if f = 8 then A k 8 + 1 else A k f) := by unfold bdA; rw [if_pos rfl]
theorem rd_eq {i : Nat} (h : ∀ f, B i f = A i f) : rdA N now m B i ↔ rdA N now m A i := by unfold rdA; simp only [h]
theorem in_eq {i : Nat} (h : ∀ f, B i f = A i f) : inA B i ↔ inA A i := by unfold inA; simp only [h]
theorem wf_lv {w : Int32} (h : wfA N now m n A) (hk : (A k 3).toInt ≠ -1) : wfA N now m n (lvA A k w) := by
  obtain ⟨hkn, hr⟩ := wf_on h hk
  refine ⟨h.1, fun i hi => ?_, fun i hi f => ?_⟩
  · by_cases e : i = k
    · subst e
      have h1 := h.2.1 i hi
      refine ⟨by rw [lv_s]; exact h1.1, by rw [lv_s]; exact h1.2.1, Or.inl ?_⟩
      refine ⟨by rw [lv_3]; decide, by rw [lv_s]; rfl, by rw [lv_s]; rfl, by rw [lv_s]; rfl, ?_⟩
      rw [lv_s, if_pos rfl]
      exact hr.2.2.2.2.2.2.2.2
    · simp only [rd_eq (lv_o (A := A) (now := w) e), in_eq (lv_o (A := A) (now := w) e), lv_o e]
      exact h.2.1 i hi
  · rw [lv_o (by omega)]; exact h.2.2 i hi f
theorem wf_un {w : Int32} (h : wfA N now m n S.1) : ∀ j, wfA N now m n (unN F w S j).1
  | 0 => h
  | j + 1 => by
    have ih := wf_un (w := w) h j
    simp only [unN, un1]
    by_cases y : ((unN F w S j).1 j 3).toInt ≠ -1 ∧ (unN F w S j).1 j 5 = w
    · rw [if_pos y]; exact wf_lv ih y.1
    · rw [if_neg y]; exact ih
theorem un_o {w : Int32} {i : Nat} (hi : i < k) : ∀ j, k ≤ j → ∀ f, (unN F w S j).1 i f = (unN F w S k).1 i f := by
  intro j hj f
  induction j with
  | zero => omega
  | succ j ih =>
    rcases Nat.lt_or_ge j k with y | y
    · have : j + 1 = k := by omega
      rw [this]
    · rw [← ih (by omega)]
      simp only [unN, un1]
      by_cases z : ((unN F w S j).1 j 3).toInt ≠ -1 ∧ (unN F w S j).1 j 5 = w
      · rw [if_pos z]; exact lv_o (by omega) f
      · rw [if_neg z]
theorem un_gone {w : Int32} : ∀ j i, i < j → ¬ (((unN F w S j).1 i 3).toInt ≠ -1 ∧ (unN F w S j).1 i 5 = w) := by
  intro j i hi
  rw [un_o (k := i + 1) (by omega) j hi 3, un_o (k := i + 1) (by omega) j hi 5]
  simp only [unN, un1]
  by_cases z : ((unN F w S i).1 i 3).toInt ≠ -1 ∧ (unN F w S i).1 i 5 = w
  · rw [if_pos z]
    intro y
    exact y.1 (by show (lvA _ i w i 3).toInt = -1; rw [lv_3]; decide)
  · rw [if_neg z]; exact z
theorem wf_past {w : Int32} (h : wfA N w.toInt w.toInt n S.1) : wfA N w.toInt (w.toInt + 1) n (unN F w S n).1 := by
  have h1 := wf_un (F := F) (w := w) h n
  refine ⟨h1.1, fun i hi => ?_, h1.2.2⟩
  obtain ⟨a, b, c⟩ := h1.2.1 i hi
  refine ⟨a, b, c.imp_right (fun r => ?_)⟩
  have g := un_gone (F := F) (w := w) (S := S) n i hi
  obtain ⟨r1, r2, r3, r4, r5, r6, r7, r8⟩ := r
  refine ⟨r1, r2, r3, r4, r5, r6, ?_, r8⟩
  rcases Int.lt_or_le w.toInt ((unN F w S n).1 i 5).toInt with y | y
  · omega
  · exact absurd ⟨by omega, Int32.toInt_inj.mp (by omega)⟩ g
theorem wf_later {now' : Int} (h : wfA N now m n A) (hn : now ≤ now') : wfA N now' m n A :=
  ⟨h.1, fun i hi => ⟨(h.2.1 i hi).1, (h.2.1 i hi).2.1, (h.2.1 i hi).2.2.imp_right (fun r => ⟨r.1, r.2.1, r.2.2.1, r.2.2.2.1, r.2.2.2.2.1, by have := r.2.2.2.2.2.1; omega, r.2.2.2.2.2.2⟩)⟩, h.2.2⟩
theorem wf_net (h : wfA N now m n A) (hK : nK N ≤ nK M) (hH : ∀ c, c < nK N → nH M c = nH N c) : wfA M now m n A :=
  ⟨h.1, fun i hi => ⟨(h.2.1 i hi).1, (h.2.1 i hi).2.1, (h.2.1 i hi).2.2.imp_right (fun r => by
    obtain ⟨r1, r2, r3, r4, r5, r6, r7, r8, r9⟩ := r
    have e := cl_eq r1
    have e2 := hH (A i 3).toNatClampNeg (by omega)
    exact ⟨r1, by omega, r3, r4, r5, by omega, r7, by omega, r9⟩)⟩, h.2.2⟩
/-- a parcel boards -/
theorem wf_bd {c d s' : Nat} {u : Int32} (hN : wfN N) (h : wfA N now (now + 1) n A) (hk : k < n) (hw : wts A k) (hc : c < nK N) (hs : s' < nS N c) (hd : (d : Int) ≤ 100000) (h1 : 24 * (d : Int) + nH N c ≤ now) (h2 : now < htN N c d s') (hu : u.toInt = htN N c d s') : wfA N now (now + 1) n (bdA A k (nI c) (nI d) u (nI (nP N c s'))) := by
  have hK := hN.1
  have hcc := nI_cl (s := c) (by omega)
  have hdd := nI_cl (s := d) (by omega)
  have hp := ((hN.2 c hc).2.2.2.1 s' hs).1
  have hpp := nI_cl (s := nP N c s') (by omega)
  have hdu := ht_dur hN (d := d) hc hs
  refine ⟨h.1, fun i hi => ?_, fun i hi f => ?_⟩
  · by_cases e : i = k
    · subst e
      have g := h.2.1 i hi
      refine ⟨by rw [bd_s]; exact g.1, by rw [bd_s]; exact g.2.1, Or.inr ?_⟩
      unfold rdA
      simp only [bd_s]
      refine ⟨?_, ?_, ?_, ?_, ?_, ?_, ?_, ?_, ?_, ?_⟩
      · show 0 ≤ (nI c).toInt; omega
      · show (nI c).toInt < _; omega
      · show (-1 : Int32).toInt = -1; decide
      · exact hw.2
      · show 0 ≤ (nI d).toInt; omega
      · show 24 * (nI d).toInt + nH N (nI c).toNatClampNeg ≤ now; rw [hcc.1]; omega
      · show now + 1 ≤ u.toInt; omega
      · show u.toInt ≤ 24 * (nI d).toInt + nH N (nI c).toNatClampNeg + 60; rw [hcc.1]; omega
      · show 0 ≤ (nI (nP N c s')).toInt; omega
      · show (nI (nP N c s')).toInt ≤ 11; omega
    · simp only [rd_eq (bd_o (A := A) (c := nI c) (d := nI d) (u := u) (p := nI (nP N c s')) e), in_eq (bd_o (A := A) (c := nI c) (d := nI d) (u := u) (p := nI (nP N c s')) e), bd_o e]
      exact h.2.1 i hi
  · rw [bd_o (by omega)]; exact h.2.2 i hi f
/-! the loads of the class's carts -/
def ldC (g30 g31 : Nat → Nat → Int32) (A : PS) : Prop := ∀ c q : Nat, c < 12 → q < 4 → (g30 c q).toInt = slP A c q ∧ ∀ i, (A i 3).toInt = c → (A i 4).toInt % 4 = q → A i 4 = g31 c q
variable {g30 g31 u30 u31 : Nat → Nat → Int32}
theorem slP_b (h : wfA N now m n A) (c q : Int) : 0 ≤ slP A c q ∧ slP A c q ≤ 1200 := by
  have : 0 ≤ slP A c q ∧ slP A c q ≤ 20 * (60 : Nat) := sumP_b (A := A) (c := c) (Q := fun x => decide (x % 4 = q)) (n := 60) (fun i _ => wf_sz h i)
  omega
theorem ld_room (h : wfA N now m n A) (hL : ldC g30 g31 A) {c : Nat} (hc : c < 12) {day C x : Int32} (h0 : 0 ≤ day.toInt) (hC : 0 ≤ C.toInt ∧ C.toInt ≤ 50)
    (hx : (g31 c (day.toNatClampNeg % 4) = day ∧ x = C - g30 c (day.toNatClampNeg % 4)) ∨ (g31 c (day.toNatClampNeg % 4) ≠ day ∧ x = C)) : x.toInt = C.toInt - onP A c day.toInt := by
  have hd := cl_eq h0
  obtain ⟨e1, e2⟩ := hL c (day.toNatClampNeg % 4) hc (by omega)
  have hb := slP_b h c ((day.toNatClampNeg % 4 : Nat) : Int)
  rcases hx with ⟨h1, h2⟩ | ⟨h1, h2⟩
  · rw [i_sub h2 (by omega) (by omega), e1]
    have : slP A c ((day.toNatClampNeg % 4 : Nat) : Int) = onP A c day.toInt := sumP_ext (fun i _ hi => by
      simp only [decide_eq_true_eq]
      constructor
      · intro y
        rw [e2 i hi y, h1]
      · intro y
        omega)
    rw [this]
  · have : onP A c day.toInt = 0 := sumP_0 (fun i _ y => by
      simp only [decide_eq_true_eq] at y
      exact h1 (by rw [← e2 i y.1 (by omega)]; exact Int32.toInt_inj.mp y.2))
    rw [h2, this, Int.sub_zero]
theorem ld_busy (h : wfA N now m n A) (hL : ldC g30 g31 A) {c : Nat} (hc : c < 12) : ldn (g30 c) ↔ ∃ i, i < n ∧ (A i 3).toInt = c := by
  constructor
  · rintro ⟨q, hq, hp⟩
    rw [(hL c q hc hq).1] at hp
    refine Classical.byContradiction (fun z => ?_)
    have : slP A c q = 0 := sumP_0 (fun i _ y => z ⟨i, (wf_on h (by have := y.1; omega)).1, y.1⟩)
    omega
  · rintro ⟨i, hi, e⟩
    have hr := (wf_on h (i := i) (by omega)).2
    have h4 := hr.2.2.2.2.1
    refine ⟨((A i 4).toInt % 4).toNat, by omega, ?_⟩
    rw [(hL c _ hc (by omega)).1]
    have : 1 ≤ slP A c (((A i 4).toInt % 4).toNat : Int) := sumP_pos (A := A) (c := c) (Q := fun x => decide (x % 4 = (((A i 4).toInt % 4).toNat : Int))) (n := 60) (fun i _ => wf_sz h i) (i := i) (by have := h.1; omega) (h.2.1 i hi).2.1.1 ⟨e, by simp only [decide_eq_true_eq]; omega⟩
    omega
theorem ld_lv {w : Int32} {c : Nat} (h : wfA N now m n A) (hL : ldC g30 g31 A) (hk : (A k 3).toInt = c) (hc : c < 12) (h30 : at2 u30 g30 c ((A k 4).toNatClampNeg % 4) (g30 c ((A k 4).toNatClampNeg % 4) - A k 1)) : ldC u30 g31 (lvA A k w) := by
  obtain ⟨hkn, hr⟩ := wf_on h (by omega : (A k 3).toInt ≠ -1)
  have h4 := cl_eq hr.2.2.2.2.1
  have hk60 : k < 60 := by have := h.1; omega
  have hs := wf_sz h k
  have e3 : (lvA A k w k 3).toInt = -1 := by rw [lv_3]; decide
  intro c9 q hc9 hq
  have hs9 : slP (lvA A k w) c9 q = slP A c9 q - cpP A c9 (fun x => decide (x % 4 = (q : Int))) k := by
    have := sumP_at (A := A) (B := lvA A k w) (c := c9) (Q := fun x => decide (x % 4 = (q : Int))) (k := k) (fun i hi f => lv_o hi f) 60 hk60
    rw [show cpP (lvA A k w) c9 (fun x => decide (x % 4 = (q : Int))) k = 0 from if_neg (fun y => by have := y.1; omega)] at this
    show sumP _ _ _ _ = sumP _ _ _ _ - _
    omega
  obtain ⟨f1, f2⟩ := hL c9 q hc9 hq
  refine ⟨?_, fun i h1 h2 => ?_⟩
  · rw [hs9]
    by_cases y : c9 = c ∧ q = (A k 4).toNatClampNeg % 4
    · obtain ⟨rfl, rfl⟩ := y
      have hb := slP_b h c9 (((A k 4).toNatClampNeg % 4 : Nat) : Int)
      rw [h30.1, i_sub rfl (by omega) (by omega), f1, show cpP A c9 (fun x => decide (x % 4 = (((A k 4).toNatClampNeg % 4 : Nat) : Int))) k = (A k 1).toInt from if_pos ⟨hk, by simp only [decide_eq_true_eq]; omega⟩]
    · rw [h30.2 c9 q y, f1, show cpP A c9 (fun x => decide (x % 4 = (q : Int))) k = 0 from if_neg (fun z => y ⟨by have := z.1; omega, by have := z.2; simp only [decide_eq_true_eq] at this; omega⟩), Int.sub_zero]
  · by_cases e : i = k
    · subst e; omega
    · rw [lv_o e] at h1 h2 ⊢
      exact f2 i h1 h2
theorem ld_bd {c d : Nat} {u p : Int32} (hN : wfN N) (h : wfA N now (now + 1) n A) (hL : ldC g30 g31 A) (hk : k < n) (hw : wts A k) (hc : c < nK N) (hd : (d : Int) ≤ 100000) (h1 : 24 * (d : Int) + nH N c ≤ now) (h2 : now ≤ 24 * (d : Int) + nH N c + 60)
    (hx : (g31 c (d % 4) = nI d ∧ u31 = g31 ∧ at2 u30 g30 c (d % 4) (g30 c (d % 4) + A k 1)) ∨ (g31 c (d % 4) ≠ nI d ∧ at2 u31 g31 c (d % 4) (nI d) ∧ at2 u30 g30 c (d % 4) (0 + A k 1))) : ldC u30 u31 (bdA A k (nI c) (nI d) u p) := by
  have hK := hN.1
  have hk60 : k < 60 := by have := h.1; omega
  have hcc := nI_cl (s := c) (by omega)
  have hdd := nI_cl (s := d) (by omega)
  have hs := wf_sz h k
  have b3 : bdA A k (nI c) (nI d) u p k 3 = nI c := by rw [bd_s]; rfl
  have b4 : bdA A k (nI c) (nI d) u p k 4 = nI d := by rw [bd_s]; rfl
  have b1 : bdA A k (nI c) (nI d) u p k 1 = A k 1 := by rw [bd_s]; rfl
  -- all that is on this cart in this slot is on this very run
  have same : ∀ i, (A i 3).toInt = c → (A i 4).toInt % 4 = (d % 4 : Nat) → A i 4 = nI d := fun i h3 h4 => by
    obtain ⟨-, r1, r2, r3, r4, r5, r6, r7, r8, -⟩ := wf_on h (by omega : (A i 3).toInt ≠ -1)
    have e : (A i 3).toNatClampNeg = c := by have := cl_eq r1; omega
    rw [e] at r6 r8
    exact Int32.toInt_inj.mp (by omega)
  intro c9 q hc9 hq
  obtain ⟨f1, f2⟩ := hL c9 q hc9 hq
  have hs9 : slP (bdA A k (nI c) (nI d) u p) c9 q = slP A c9 q + (if c9 = c ∧ q = d % 4 then (A k 1).toInt else 0) := by
    have := sumP_at (A := A) (B := bdA A k (nI c) (nI d) u p) (c := c9) (Q := fun x => decide (x % 4 = (q : Int))) (k := k) (fun i hi f => bd_o hi f) 60 hk60
    rw [show cpP A c9 (fun x => decide (x % 4 = (q : Int))) k = 0 from if_neg (fun y => by have := y.1; have := hw.1; omega)] at this
    rw [show cpP (bdA A k (nI c) (nI d) u p) c9 (fun x => decide (x % 4 = (q : Int))) k = (if c9 = c ∧ q = d % 4 then (A k 1).toInt else 0) by
      unfold cpP
      rw [b1, b3, b4]
      by_cases y : c9 = c ∧ q = d % 4
      · rw [if_pos y, if_pos ⟨by omega, by simp only [decide_eq_true_eq]; omega⟩]
      · rw [if_neg y, if_neg (fun z => y ⟨by have := z.1; omega, by have := z.2; simp only [decide_eq_true_eq] at this; omega⟩)]] at this
    show sumP _ _ _ _ = sumP _ _ _ _ + _
    omega
  have hb := slP_b h c9 q
  rw [hs9]
  by_cases y : c9 = c ∧ q = d % 4
  · rw [if_pos y]
    obtain ⟨rfl, rfl⟩ := y
    rcases hx with ⟨x1, x2, x3⟩ | ⟨x1, x2, x3⟩
    · refine ⟨by rw [x3.1, i_add rfl (by omega) (by omega), f1], fun i y1 y2 => ?_⟩
      rw [x2]
      by_cases e : i = k
      · subst e; rw [b4]; exact x1.symm
      · rw [bd_o e] at y1 y2 ⊢
        exact f2 i y1 y2
    · have z0 : slP A c9 ((d % 4 : Nat) : Int) = 0 := sumP_0 (fun i _ y => by
        simp only [decide_eq_true_eq] at y
        exact x1 (by rw [← f2 i y.1 y.2]; exact same i y.1 y.2))
      refine ⟨by rw [x3.1, z0, i_add rfl (by show -2147483648 ≤ (0 : Int) + _; omega) (by show (0 : Int) + _ ≤ _; omega)]; rfl, fun i y1 y2 => ?_⟩
      rw [x2.1]
      by_cases e : i = k
      · subst e; rw [b4]
      · rw [bd_o e] at y1 y2 ⊢
        exact same i y1 y2
  · rw [if_neg y, Int.add_zero]
    have g : u30 c9 q = g30 c9 q ∧ u31 c9 q = g31 c9 q := by
      rcases hx with ⟨x1, x2, x3⟩ | ⟨x1, x2, x3⟩
      · exact ⟨x3.2 c9 q y, by rw [x2]⟩
      · exact ⟨x3.2 c9 q y, x2.2 c9 q y⟩
    rw [g.1, g.2]
    refine ⟨f1, fun i y1 y2 => ?_⟩
    by_cases e : i = k
    · subst e
      rw [b3] at y1
      rw [b4] at y2
      exact absurd ⟨by omega, by omega⟩ y
    · rw [bd_o e] at y1 y2 ⊢
      exact f2 i y1 y2
end WA
