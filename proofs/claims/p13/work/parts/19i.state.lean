/-! the class's parcels -/
def pC (σ : QS) : PS := fun i f => if f ≤ 8 then σ (32 + f) i 0 else dfl f
def eC (σ : QS) : Nat → Int32 := fun c => if c < 12 then σ 25 c 0 else 0
def capC (σ : QS) : Nat → Int := fun c => if c < 12 then (σ 23 c 0).toInt else 0
def farC (σ : QS) : Nat → Int32 := fun c => if c < 12 then σ 24 c 0 else 0
def PaC (σ : QS) (N : Net) (now m : Int) (n : Nat) : Prop := wfA N now m n (pC σ) ∧ ldC (σ 30) (σ 31) (pC σ) ∧ plC (σ 4 0 0) (σ 41) (σ 42) (σ 43) N now (pC σ) ∧ (∀ i, n ≤ i → i < 60 → (σ 41 i 0).toInt = -1) ∧ 0 ≤ (σ 4 0 0).toInt
def lvE (σ σ' : QS) (i : Nat) (h : Int32) : Prop := ∃ σ1 : QS, ((σ 38 i 0 = σ 32 i 0 ∧ σ1 = rs (rs σ 34 i (fun _ => σ 38 i 0)) 39 i (fun _ => h)) ∨ (σ 38 i 0 ≠ σ 32 i 0 ∧ σ1 = rs σ 34 i (fun _ => σ 38 i 0))) ∧ σ' = rs (rs (rs (rs σ1 35 i (fun _ => -1)) 36 i (fun _ => -1)) 37 i (fun _ => -1)) 38 i (fun _ => -1)
def bdE (σ σ' : QS) (i : Nat) (c d u p : Int32) : Prop := ∃ x : Int32, x = σ 40 i 0 + 1 ∧ σ' = rs (rs (rs (rs (rs (rs σ 34 i (fun _ => -1)) 35 i (fun _ => c)) 36 i (fun _ => d)) 37 i (fun _ => u)) 38 i (fun _ => p)) 40 i (fun _ => x)
def gvA (A : PS) (k : Nat) (a b z : Int32) : PS := fun i f => if i = k then (if f = 2 then a else if f = 0 then b else if f = 1 then z else A k f) else A i f
section ST
variable {σ σ' σ1 σ2 : QS} {N M : Net} {now m : Int} {n i k : Nat} {A : PS}
theorem f9 {f : Nat} (h : f ≤ 8) : f = 0 ∨ f = 1 ∨ f = 2 ∨ f = 3 ∨ f = 4 ∨ f = 5 ∨ f = 6 ∨ f = 7 ∨ f = 8 := by omega
theorem pC_of (h : ∀ v ∈ [32, 33, 34, 35, 36, 37, 38, 39, 40], σ' v = σ v) : pC σ' = pC σ := by
  funext i f
  unfold pC
  by_cases y : f ≤ 8
  · rw [if_pos y, if_pos y]
    rcases f9 y with rfl | rfl | rfl | rfl | rfl | rfl | rfl | rfl | rfl <;> exact congrFun (congrFun (h _ (by decide)) i) 0
  · rw [if_neg y, if_neg y]
theorem pC_k {ms : List Nat} (h : Keep ms σ σ') (hd : ∀ v ∈ [32, 33, 34, 35, 36, 37, 38, 39, 40], v ∉ ms) : pC σ' = pC σ := pC_of (fun v hv => h v (hd v hv))
theorem eC_of (h : σ' 25 = σ 25) : eC σ' = eC σ := by unfold eC; rw [h]
theorem lvE_p {h : Int32} (e : lvE σ σ' i h) : pC σ' = lvA (pC σ) i h := by
  obtain ⟨σ1, e1, e2⟩ := e
  funext j f
  by_cases y : f ≤ 8
  · by_cases z : j = i
    · subst z
      rw [lv_s]
      rcases e1 with ⟨e0, e1⟩ | ⟨e0, e1⟩ <;> subst e1 <;> subst e2 <;> rcases f9 y with rfl | rfl | rfl | rfl | rfl | rfl | rfl | rfl | rfl <;> simp [pC, rs, e0]
    · rw [lv_o z]
      rcases e1 with ⟨e0, e1⟩ | ⟨e0, e1⟩ <;> subst e1 <;> subst e2 <;> rcases f9 y with rfl | rfl | rfl | rfl | rfl | rfl | rfl | rfl | rfl <;> simp [pC, rs, z]
  · unfold lvA pC
    simp only [if_neg y]
    by_cases z : j = i
    · rw [if_pos z, if_neg (by omega), if_neg (by omega), if_neg (by omega)]
    · rw [if_neg z]
theorem bdE_p {c d u p : Int32} (e : bdE σ σ' i c d u p) : pC σ' = bdA (pC σ) i c d u p := by
  obtain ⟨x, e1, e2⟩ := e
  subst e1; subst e2
  funext j f
  by_cases y : f ≤ 8
  · by_cases z : j = i
    · subst z
      rw [bd_s]
      rcases f9 y with rfl | rfl | rfl | rfl | rfl | rfl | rfl | rfl | rfl <;> simp [pC, rs]
    · rw [bd_o z]
      rcases f9 y with rfl | rfl | rfl | rfl | rfl | rfl | rfl | rfl | rfl <;> simp [pC, rs, z]
  · unfold bdA pC
    simp only [if_neg y]
    by_cases z : j = i
    · rw [if_pos z, if_neg (by omega), if_neg (by omega), if_neg (by omega), if_neg (by omega), if_neg (by omega), if_neg (by omega)]
    · rw [if_neg z]
theorem gv_p {a b z : Int32} (h34 : σ' 34 = rs σ 34 i (fun _ => a) 34) (h32 : σ' 32 = rs σ 32 i (fun _ => b) 32) (h33 : σ' 33 = rs σ 33 i (fun _ => z) 33) (hk : ∀ v ∈ [35, 36, 37, 38, 39, 40], σ' v = σ v) : pC σ' = gvA (pC σ) i a b z := by
  funext j f
  unfold gvA pC
  by_cases y : f ≤ 8
  · simp only [if_pos y]
    by_cases w : j = i
    · rw [if_pos w]
      subst w
      rcases f9 y with rfl | rfl | rfl | rfl | rfl | rfl | rfl | rfl | rfl
      · show σ' 32 j 0 = _; rw [h32, rs_self]; rfl
      · show σ' 33 j 0 = _; rw [h33, rs_self]; rfl
      · show σ' 34 j 0 = _; rw [h34, rs_self]; rfl
      all_goals exact congrFun (congrFun (hk _ (by decide)) j) 0
    · rw [if_neg w]
      rcases f9 y with rfl | rfl | rfl | rfl | rfl | rfl | rfl | rfl | rfl
      · show σ' 32 j 0 = _; rw [h32, rs_i w]
      · show σ' 33 j 0 = _; rw [h33, rs_i w]
      · show σ' 34 j 0 = _; rw [h34, rs_i w]
      all_goals exact congrFun (congrFun (hk _ (by decide)) j) 0
  · simp only [if_neg y]
    by_cases w : j = i
    · rw [if_pos w, if_neg (by omega), if_neg (by omega), if_neg (by omega)]
    · rw [if_neg w]
theorem gv_o {a b z : Int32} {j : Nat} (h : j ≠ k) (f : Nat) : gvA A k a b z j f = A j f := by unfold gvA; rw [if_neg h]
theorem gv_s {a b z : Int32} {f : Nat} : gvA A k a b z k f = (if f = 2 then a else if f = 0 then b else if f = 1 then z else A k f) := by unfold gvA; rw [if_pos rfl]
theorem wf_gv {a b z : Int32} (h : wfA N now m n A) (hn : n < 60) (ha : 0 ≤ a.toInt ∧ a.toInt ≤ 11) (hb : 0 ≤ b.toInt ∧ b.toInt ≤ 11) (hz : 1 ≤ z.toInt ∧ z.toInt ≤ 20) : wfA N now m (n + 1) (gvA A n a b z) := by
  refine ⟨by omega, fun j hj => ?_, fun j hj f => ?_⟩
  · by_cases e : j = n
    · subst e
      have hd := h.2.2 j (Nat.le_refl _)
      refine ⟨by rw [gv_s]; exact hb, by rw [gv_s]; exact hz, Or.inl ⟨?_, ?_, ?_, ?_, ?_⟩⟩
      · rw [gv_s, if_neg (by decide), if_neg (by decide), if_neg (by decide), hd 3]; decide
      · rw [gv_s, if_neg (by decide), if_neg (by decide), if_neg (by decide), hd 4]; decide
      · rw [gv_s, if_neg (by decide), if_neg (by decide), if_neg (by decide), hd 5]; decide
      · rw [gv_s, if_neg (by decide), if_neg (by decide), if_neg (by decide), hd 6]; decide
      · rw [gv_s]; exact ha
    · simp only [rd_eq (gv_o (A := A) (a := a) (b := b) (z := z) e), in_eq (gv_o (A := A) (a := a) (b := b) (z := z) e), gv_o e]
      exact h.2.1 j (by omega)
  · rw [gv_o (by omega)]; exact h.2.2 j (by omega) f
theorem slP_gv {a b z : Int32} {c : Nat} {q : Int} (h : wfA N now m n A) : slP (gvA A n a b z) c q = slP A c q := by
  have h3 := wf_off h (Nat.le_refl n)
  have e3 : (gvA A n a b z n 3).toInt = -1 := by rw [gv_s]; exact h3
  rcases Nat.lt_or_ge n 60 with y | y
  · have := sumP_at (A := A) (B := gvA A n a b z) (c := c) (Q := fun x => decide (x % 4 = q)) (k := n) (fun i hi f => gv_o hi f) 60 y
    rw [show cpP (gvA A n a b z) c (fun x => decide (x % 4 = q)) n = 0 from if_neg (fun w => by have := w.1; omega), show cpP A c (fun x => decide (x % 4 = q)) n = 0 from if_neg (fun w => by have := w.1; omega)] at this
    show sumP _ _ _ _ = sumP _ _ _ _
    omega
  · exact sumP_out (fun i hi f => gv_o hi f) 60 (by omega)
theorem PaC_gv {a b z : Int32} (h : PaC σ N now m n) (e : pC σ' = gvA (pC σ) n a b z) (hk : ∀ v ∈ [4, 30, 31, 41, 42, 43], σ' v = σ v) (hn : n < 60) (ha : 0 ≤ a.toInt ∧ a.toInt ≤ 11) (hb : 0 ≤ b.toInt ∧ b.toInt ≤ 11) (hz : 1 ≤ z.toInt ∧ z.toInt ≤ 20) : PaC σ' N now m (n + 1) := by
  obtain ⟨h1, h2, h3, h4, h5⟩ := h
  unfold PaC
  rw [e, hk 4 (by decide), hk 30 (by decide), hk 31 (by decide), hk 41 (by decide), hk 42 (by decide), hk 43 (by decide)]
  refine ⟨wf_gv h1 hn ha hb hz, fun c q hc hq => ?_, fun j hj => ⟨(h3 j hj).1, fun y => ?_⟩, fun j hj hj2 => h4 j (by omega) hj2, h5⟩
  · rw [slP_gv h1]
    refine ⟨(h2 c q hc hq).1, fun j w1 w2 => ?_⟩
    by_cases y : j = n
    · subst y
      have h3 := wf_off h1 (Nat.le_refl j)
      have e3 : (gvA (pC σ) j a b z j 3).toInt = -1 := by rw [gv_s]; exact h3
      omega
    · rw [gv_o y] at w1 w2 ⊢
      exact (h2 c q hc hq).2 j w1 w2
  · by_cases w : j = n
    · subst w
      have := h4 j (Nat.le_refl _) hj
      rw [y] at this
      omega
    · rw [tp_eq (gv_o w), gv_o w]
      exact (h3 j hj).2 y
theorem PaC_of (h : PaC σ N now m n) (hk : ∀ v ∈ [4, 30, 31, 32, 33, 34, 35, 36, 37, 38, 39, 40, 41, 42, 43], σ' v = σ v) : PaC σ' N now m n := by
  have e : pC σ' = pC σ := pC_of (fun v hv => hk v (by revert hv; revert v; decide))
  unfold PaC at h ⊢
  rw [e, hk 4 (by decide), hk 30 (by decide), hk 31 (by decide), hk 41 (by decide), hk 42 (by decide), hk 43 (by decide)]
  exact h
/-- the net is another: plans no longer hold -/
theorem PaC_net (h : PaC σ N now m n) (hk : ∀ v ∈ [30, 31, 32, 33, 34, 35, 36, 37, 38, 39, 40, 41, 42, 43], σ' v = σ v) (hv : (σ' 4 0 0).toInt = (σ 4 0 0).toInt + 1) (hK : nK N ≤ nK M) (hH : ∀ c, c < nK N → nH M c = nH N c) : PaC σ' M now m n := by
  have e : pC σ' = pC σ := pC_of (fun v hv => hk v (by revert hv; revert v; decide))
  obtain ⟨h1, h2, h3, h4, h5⟩ := h
  unfold PaC
  rw [e, hk 30 (by decide), hk 31 (by decide), hk 41 (by decide), hk 42 (by decide), hk 43 (by decide)]
  exact ⟨wf_net h1 hK hH, h2, pc_ver h3 (by omega), h4, by omega⟩
/-- a parcel leaves its run, in the class -/
theorem un_C {w : Int32} {c : Nat} {size day : Int32} (hP : PaC σ N w.toInt w.toInt n) (hk : (σ 35 k 0).toInt ≠ -1) (hw : σ 37 k 0 = w) (hc : c = (σ 35 k 0).toNatClampNeg) (hc2 : c < 12) (hs : size = σ 33 k 0) (hd : day = σ 36 k 0)
    (u30 : at2 (σ1 30) (σ 30) c (day.toNatClampNeg % 4) (σ 30 c (day.toNatClampNeg % 4) - size)) (u25 : σ1 25 = rs σ 25 c (fun _ => σ 25 c 0 + size * σ 24 c 0) 25) (uk : Keep [30, 25] σ σ1) (l : lvE σ1 σ2 k w) (lk : Keep [34, 39, 35, 36, 37, 38] σ1 σ2) : PaC σ2 N w.toInt w.toInt n ∧ (pC σ2, eC σ2) = un1 (farC σ) w (pC σ, eC σ) k := by
  obtain ⟨h1, h2, h3, h4, h5⟩ := hP
  have p1 : pC σ1 = pC σ := pC_k uk (by decide)
  have p2 : pC σ2 = lvA (pC σ) k w := by rw [lvE_p l, p1]
  have h0 := (wf_on h1 (i := k) hk).2
  have hcc := cl_eq h0.1
  have e2 : eC σ2 = upd (eC σ) c (eC σ c + σ 33 k 0 * farC σ c) := by
    rw [eC_of (lk 25 (by decide))]
    funext j
    unfold eC upd farC
    rw [u25]
    by_cases y : j = c
    · subst y
      rw [if_pos rfl, if_pos hc2, if_pos hc2, if_pos hc2, rs_self, hs]
    · rw [if_neg y, rs_i y]
  refine ⟨⟨by rw [p2]; exact wf_lv h1 hk, ?_, ?_, fun j a b => ?_, ?_⟩, ?_⟩
  · rw [p2, lk 30 (by decide), lk 31 (by decide), uk 31 (by decide)]
    refine ld_lv (c := c) h1 h2 ?_ hc2 ?_
    · show (σ 35 k 0).toInt = c
      rw [hc]; exact hcc.symm
    · rw [hd, hs] at u30; exact u30
  · rw [p2, lk 4 (by decide), lk 41 (by decide), lk 42 (by decide), lk 43 (by decide), uk 4 (by decide), uk 41 (by decide), uk 42 (by decide), uk 43 (by decide)]
    exact pc_lv h3 hk hw
  · rw [lk 41 (by decide), uk 41 (by decide)]; exact h4 j a b
  · rw [lk 4 (by decide), uk 4 (by decide)]; exact h5
  · unfold un1
    rw [if_pos ⟨hk, hw⟩, p2, e2, hc]
    rfl
theorem un_C0 {w : Int32} (hk : ¬ ((σ 35 k 0).toInt ≠ -1 ∧ σ 37 k 0 = w)) {F : Nat → Int32} : (pC σ, eC σ) = un1 F w (pC σ, eC σ) k := by
  unfold un1
  exact (if_neg hk).symm
/-- a parcel boards, in the class -/
theorem bd_C {w : Int32} {c d s s' : Nat} {u p size day : Int32} (hN : wfN N) (hP : PaC σ N w.toInt (w.toInt + 1) n) (hk : k < n) (hw : wts (pC σ) k) (hT : takeK N w.toInt (capC σ) (pC σ) k c d s s') (h0 : 0 ≤ w.toInt ∧ w.toInt ≤ 5000) (hs : size = σ 33 k 0) (hd : day = nI d) (hu : u.toInt = htN N c d s') (hp : p.toInt = nP N c s')
    (ul : (σ 31 c (day.toNatClampNeg % 4) = day ∧ σ1 31 = σ 31 ∧ at2 (σ1 30) (σ 30) c (day.toNatClampNeg % 4) (σ 30 c (day.toNatClampNeg % 4) + size)) ∨ (σ 31 c (day.toNatClampNeg % 4) ≠ day ∧ at2 (σ1 31) (σ 31) c (day.toNatClampNeg % 4) day ∧ at2 (σ1 30) (σ 30) c (day.toNatClampNeg % 4) (0 + size))) (uk : Keep [30, 31] σ σ1) (l : bdE σ1 σ2 k (nI c) day u p) (lk : Keep [34, 35, 36, 37, 38, 40] σ1 σ2) : PaC σ2 N w.toInt (w.toInt + 1) n ∧ pC σ2 = bdA (pC σ) k (nI c) (nI d) (Int32.ofInt (htN N c d s')) (nI (nP N c s')) := by
  obtain ⟨h1, h2, h3, h4, h5⟩ := hP
  obtain ⟨⟨a1, a2, a3, a4, a5, a6⟩, a7, a8, a9⟩ := hT
  have hK := hN.1
  have hdu := ht_dur hN (d := d) a1 (s := s) (by omega)
  have hdu' := ht_dur hN (d := d) a1 (s := s') (by omega)
  have hH := (hN.2 c a1).2.1
  have hcc := nI_cl (s := c) (by omega)
  have hdd := nI_cl (s := d) (by omega)
  have hpp := ((hN.2 c a1).2.2.2.1 s' a7.2).1
  have hpn := nI_cl (s := nP N c s') (by omega)
  have eu : u = Int32.ofInt (htN N c d s') := by rw [← hu]; exact (Int32.ofInt_toInt u).symm
  have ep : p = nI (nP N c s') := Int32.toInt_inj.mp (by omega)
  have hr : rideN N (-1) c d s s' := ⟨a1, by omega, a2, a7.1, a7.2⟩
  have hlt := ht_lt hN hr
  have p1 : pC σ1 = pC σ := pC_k uk (by decide)
  have p2 : pC σ2 = bdA (pC σ) k (nI c) (nI d) u (nI (nP N c s')) := by rw [bdE_p l, p1, hd, ep]
  refine ⟨⟨?_, ?_, ?_, fun j a b => ?_, ?_⟩, by rw [p2, eu]⟩
  · rw [p2]
    exact wf_bd hN h1 hk hw a1 a7.2 (by omega) (by omega) (by omega) hu
  · rw [p2, lk 30 (by decide), lk 31 (by decide)]
    refine ld_bd hN h1 h2 hk hw a1 (by omega) (by omega) (by omega) ?_
    rw [hd, hdd.1, hs] at ul
    exact ul
  · rw [p2, lk 4 (by decide), lk 41 (by decide), lk 42 (by decide), lk 43 (by decide), uk 4 (by decide), uk 41 (by decide), uk 42 (by decide), uk 43 (by decide)]
    refine pc_bd hN h3 hw.1 (by omega) ?_
    rw [hpn.1, hu]
    refine fw_ride hr ?_
    have e2 : (pC σ k 2).toNatClampNeg = nP N c s := by have := cl_eq (j := pC σ k 2) (by omega); omega
    rw [e2, a5]
    exact fw_here (Int.le_refl _)
  · rw [lk 41 (by decide), uk 41 (by decide)]; exact h4 j a b
  · rw [lk 4 (by decide), uk 4 (by decide)]; exact h5
end ST
