/-! the reference's parcels -/
def pM (σ : QS) : PS := fun i f => if (i : Int) < (σ 4 0 0).toInt ∧ f ≤ 8 then (if f = 6 then (if σ 21 0 i = -1 then -1 else σ 24 0 i) else σ (18 + f) 0 i) else dfl f
def eM (σ : QS) : Nat → Int32 := fun c => if c < 12 then σ 10 0 c else 0
def capM (σ : QS) : Nat → Int := fun c => if c < 12 then (σ 7 0 c).toInt else 0
def farM (σ : QS) : Nat → Int32 := fun c => if c < 12 then σ 8 0 c else 0
section RM
variable {σ σ' : QS} {N : Net} {now m : Int} {n i k : Nat} {A A' : PS} {C : Nat → Int}
theorem pM_of (h : ∀ v ∈ [4, 18, 19, 20, 21, 22, 23, 24, 25, 26], σ' v = σ v) : pM σ' = pM σ := by
  funext i f
  unfold pM
  rw [h 4 (by decide), h 21 (by decide), h 24 (by decide)]
  by_cases y : (i : Int) < (σ 4 0 0).toInt ∧ f ≤ 8
  · rw [if_pos y, if_pos y]
    rcases f9 y.2 with rfl | rfl | rfl | rfl | rfl | rfl | rfl | rfl | rfl <;> first | rfl | exact congrFun (congrFun (h _ (by decide)) 0) i
  · rw [if_neg y, if_neg y]
theorem pM_k {ms : List Nat} (h : Keep ms σ σ') (hd : ∀ v ∈ [4, 18, 19, 20, 21, 22, 23, 24, 25, 26], v ∉ ms) : pM σ' = pM σ := pM_of (fun v hv => h v (hd v hv))
theorem eM_of (h : σ' 10 = σ 10) : eM σ' = eM σ := by unfold eM; rw [h]
theorem pM_f {f : Nat} (hi : (i : Int) < (σ 4 0 0).toInt) (hf : f ≤ 8) (h6 : f ≠ 6) : pM σ i f = σ (18 + f) 0 i := by
  unfold pM
  rw [if_pos ⟨hi, hf⟩, if_neg h6]
theorem pM_6' (hi : (i : Int) < (σ 4 0 0).toInt) : pM σ i 6 = (if σ 21 0 i = -1 then -1 else σ 24 0 i) := by
  unfold pM
  rw [if_pos ⟨hi, by omega⟩, if_pos rfl]
theorem pM_6 (hi : (i : Int) < (σ 4 0 0).toInt) (hc : (σ 21 0 i).toInt ≠ -1) : pM σ i 6 = σ 24 0 i := by
  unfold pM
  rw [if_pos ⟨hi, by omega⟩, if_pos rfl, if_neg (fun z => hc (by rw [z]; decide))]
theorem pM_out (hi : (σ 4 0 0).toInt ≤ (i : Int)) {f : Nat} : pM σ i f = dfl f := by
  unfold pM
  rw [if_neg (by omega)]
/-- a parcel leaves, in the reference -/
theorem lvM_p {w : Int32} (hk : (k : Int) < (σ 4 0 0).toInt) (hc : (σ 21 0 k).toInt ≠ -1) (e20 : σ' 20 0 = upd (σ 20 0) k (σ 24 0 k)) (e21 : σ' 21 0 = upd (σ 21 0) k (-1)) (e22 : σ' 22 0 = upd (σ 22 0) k (-1)) (e23 : σ' 23 0 = upd (σ 23 0) k (-1)) (e25 : (σ 24 0 k = σ 18 0 k ∧ σ' 25 0 = upd (σ 25 0) k w) ∨ (σ 24 0 k ≠ σ 18 0 k ∧ σ' 25 0 = σ 25 0)) (hk9 : ∀ v ∈ [4, 18, 19, 24, 26], σ' v = σ v) : pM σ' = lvA (pM σ) k w := by
  funext i f
  by_cases hi : (i : Int) < (σ 4 0 0).toInt
  · have hi' : (i : Int) < (σ' 4 0 0).toInt := by rw [hk9 4 (by decide)]; exact hi
    by_cases y : i = k
    · subst y
      rw [lv_s]
      by_cases hf : f ≤ 8
      · have h6 : pM σ i 6 = σ 24 0 i := pM_6 hi hc
        rcases f9 hf with rfl | rfl | rfl | rfl | rfl | rfl | rfl | rfl | rfl
        · rw [if_neg (by decide), if_neg (by decide), if_neg (by omega), pM_f hi' hf (by decide), pM_f hi hf (by decide), hk9 18 (by decide)]
        · rw [if_neg (by decide), if_neg (by decide), if_neg (by omega), pM_f hi' hf (by decide), pM_f hi hf (by decide)]
          show σ' 19 0 i = σ 19 0 i
          rw [hk9 19 (by decide)]
        · rw [if_pos rfl, pM_f hi' hf (by decide), h6]
          show σ' 20 0 i = _
          rw [e20]
          exact upd_self
        · rw [if_neg (by decide), if_pos (by decide), pM_f hi' hf (by decide)]
          show σ' 21 0 i = _
          rw [e21]
          exact upd_self
        · rw [if_neg (by decide), if_pos (by decide), pM_f hi' hf (by decide)]
          show σ' 22 0 i = _
          rw [e22]
          exact upd_self
        · rw [if_neg (by decide), if_pos (by decide), pM_f hi' hf (by decide)]
          show σ' 23 0 i = _
          rw [e23]
          exact upd_self
        · rw [if_neg (by decide), if_pos (by decide)]
          rw [pM_6' hi', if_pos (by rw [e21]; exact upd_self)]
        · rw [if_neg (by decide), if_neg (by decide), pM_f hi' hf (by decide), h6, pM_f (f := 0) hi (by decide) (by decide), pM_f (f := 7) hi (by decide) (by decide)]
          show σ' 25 0 i = (if 7 = 7 ∧ σ 24 0 i = σ 18 0 i then w else σ 25 0 i)
          rcases e25 with ⟨a, b⟩ | ⟨a, b⟩
          · rw [if_pos ⟨rfl, a⟩, b]; exact upd_self
          · rw [if_neg (fun z => a z.2), b]
        · rw [if_neg (by decide), if_neg (by decide), if_neg (by omega), pM_f hi' hf (by decide), pM_f hi hf (by decide)]
          show σ' 26 0 i = σ 26 0 i
          rw [hk9 26 (by decide)]
      · rw [if_neg (by omega), if_neg (by omega), if_neg (by omega)]
        unfold pM
        rw [if_neg (by omega), if_neg (by omega)]
    · rw [lv_o y]
      have hu : ∀ (g : Nat → Int32) (x : Int32), upd g k x i = g i := fun g x => by unfold upd; rw [if_neg y]
      have e25' : σ' 25 0 i = σ 25 0 i := by
        rcases e25 with ⟨a, b⟩ | ⟨a, b⟩
        · rw [b, hu]
        · rw [b]
      by_cases hf : f ≤ 8
      · rcases f9 hf with rfl | rfl | rfl | rfl | rfl | rfl | rfl | rfl | rfl
        · rw [pM_f hi' hf (by decide), pM_f hi hf (by decide), hk9 18 (by decide)]
        · rw [pM_f hi' hf (by decide), pM_f hi hf (by decide)]; show σ' 19 0 i = σ 19 0 i; rw [hk9 19 (by decide)]
        · rw [pM_f hi' hf (by decide), pM_f hi hf (by decide)]; show σ' 20 0 i = σ 20 0 i; rw [e20, hu]
        · rw [pM_f hi' hf (by decide), pM_f hi hf (by decide)]; show σ' 21 0 i = σ 21 0 i; rw [e21, hu]
        · rw [pM_f hi' hf (by decide), pM_f hi hf (by decide)]; show σ' 22 0 i = σ 22 0 i; rw [e22, hu]
        · rw [pM_f hi' hf (by decide), pM_f hi hf (by decide)]; show σ' 23 0 i = σ 23 0 i; rw [e23, hu]
        · rw [pM_6' hi', pM_6' hi, e21, hu, hk9 24 (by decide)]
        · rw [pM_f hi' hf (by decide), pM_f hi hf (by decide)]; exact e25'
        · rw [pM_f hi' hf (by decide), pM_f hi hf (by decide)]; show σ' 26 0 i = σ 26 0 i; rw [hk9 26 (by decide)]
      · unfold pM
        rw [if_neg (by omega), if_neg (by omega)]
  · rw [lv_o (by omega), pM_out (σ := σ') (by rw [hk9 4 (by decide)]; omega), pM_out (by omega)]
/-- a parcel boards, in the reference -/
theorem bdM_p {c d u p x : Int32} (hk : (k : Int) < (σ 4 0 0).toInt) (hc : c.toInt ≠ -1) (e20 : σ' 20 0 = upd (σ 20 0) k (-1)) (e21 : σ' 21 0 = upd (σ 21 0) k c) (e22 : σ' 22 0 = upd (σ 22 0) k d) (e23 : σ' 23 0 = upd (σ 23 0) k u) (e24 : σ' 24 0 = upd (σ 24 0) k p) (e26 : σ' 26 0 = upd (σ 26 0) k x) (hx : x = σ 26 0 k + 1) (hk9 : ∀ v ∈ [4, 18, 19, 25], σ' v = σ v) : pM σ' = bdA (pM σ) k c d u p := by
  funext i f
  by_cases hi : (i : Int) < (σ 4 0 0).toInt
  · have hi' : (i : Int) < (σ' 4 0 0).toInt := by rw [hk9 4 (by decide)]; exact hi
    by_cases y : i = k
    · subst y
      rw [bd_s]
      by_cases hf : f ≤ 8
      · rcases f9 hf with rfl | rfl | rfl | rfl | rfl | rfl | rfl | rfl | rfl
        · rw [if_neg (by decide), if_neg (by decide), if_neg (by decide), if_neg (by decide), if_neg (by decide), if_neg (by decide), pM_f hi' hf (by decide), pM_f hi hf (by decide), hk9 18 (by decide)]
        · rw [if_neg (by decide), if_neg (by decide), if_neg (by decide), if_neg (by decide), if_neg (by decide), if_neg (by decide), pM_f hi' hf (by decide), pM_f hi hf (by decide)]
          show σ' 19 0 i = σ 19 0 i
          rw [hk9 19 (by decide)]
        · rw [if_pos rfl, pM_f hi' hf (by decide)]
          show σ' 20 0 i = _
          rw [e20]; exact upd_self
        · rw [if_neg (by decide), if_pos rfl, pM_f hi' hf (by decide)]
          show σ' 21 0 i = _
          rw [e21]; exact upd_self
        · rw [if_neg (by decide), if_neg (by decide), if_pos rfl, pM_f hi' hf (by decide)]
          show σ' 22 0 i = _
          rw [e22]; exact upd_self
        · rw [if_neg (by decide), if_neg (by decide), if_neg (by decide), if_pos rfl, pM_f hi' hf (by decide)]
          show σ' 23 0 i = _
          rw [e23]; exact upd_self
        · rw [if_neg (by decide), if_neg (by decide), if_neg (by decide), if_neg (by decide), if_pos rfl, pM_6 hi' (by rw [e21, upd_self]; exact hc), e24, upd_self]
        · rw [if_neg (by decide), if_neg (by decide), if_neg (by decide), if_neg (by decide), if_neg (by decide), if_neg (by decide), pM_f hi' hf (by decide), pM_f hi hf (by decide)]
          show σ' 25 0 i = σ 25 0 i
          rw [hk9 25 (by decide)]
        · rw [if_neg (by decide), if_neg (by decide), if_neg (by decide), if_neg (by decide), if_neg (by decide), if_pos rfl, pM_f hi' hf (by decide), pM_f hi hf (by decide)]
          show σ' 26 0 i = σ 26 0 i + 1
          rw [e26, upd_self, hx]
      · rw [if_neg (by omega), if_neg (by omega), if_neg (by omega), if_neg (by omega), if_neg (by omega), if_neg (by omega)]
        unfold pM
        rw [if_neg (by omega), if_neg (by omega)]
    · rw [bd_o y]
      have hu : ∀ (g : Nat → Int32) (x : Int32), upd g k x i = g i := fun g x => by unfold upd; rw [if_neg y]
      by_cases hf : f ≤ 8
      · rcases f9 hf with rfl | rfl | rfl | rfl | rfl | rfl | rfl | rfl | rfl
        · rw [pM_f hi' hf (by decide), pM_f hi hf (by decide), hk9 18 (by decide)]
        · rw [pM_f hi' hf (by decide), pM_f hi hf (by decide)]; show σ' 19 0 i = σ 19 0 i; rw [hk9 19 (by decide)]
        · rw [pM_f hi' hf (by decide), pM_f hi hf (by decide)]; show σ' 20 0 i = σ 20 0 i; rw [e20, hu]
        · rw [pM_f hi' hf (by decide), pM_f hi hf (by decide)]; show σ' 21 0 i = σ 21 0 i; rw [e21, hu]
        · rw [pM_f hi' hf (by decide), pM_f hi hf (by decide)]; show σ' 22 0 i = σ 22 0 i; rw [e22, hu]
        · rw [pM_f hi' hf (by decide), pM_f hi hf (by decide)]; show σ' 23 0 i = σ 23 0 i; rw [e23, hu]
        · rw [pM_6' hi', pM_6' hi, e21, e24, hu, hu]
        · rw [pM_f hi' hf (by decide), pM_f hi hf (by decide)]; show σ' 25 0 i = σ 25 0 i; rw [hk9 25 (by decide)]
        · rw [pM_f hi' hf (by decide), pM_f hi hf (by decide)]; show σ' 26 0 i = σ 26 0 i; rw [e26, hu]
      · unfold pM
        rw [if_neg (by omega), if_neg (by omega)]
  · rw [bd_o (by omega), pM_out (σ := σ') (by rw [hk9 4 (by decide)]; omega), pM_out (by omega)]
/-- a parcel is given, to the reference -/
theorem gvM_p {a b z : Int32} (hk : (k : Int) = (σ 4 0 0).toInt) (h4 : (σ' 4 0 0).toInt = (σ 4 0 0).toInt + 1) (h26 : σ 26 0 k = 0) (e18 : σ' 18 0 = upd (σ 18 0) k b) (e19 : σ' 19 0 = upd (σ 19 0) k z) (e20 : σ' 20 0 = upd (σ 20 0) k a) (e21 : σ' 21 0 = upd (σ 21 0) k (-1)) (e22 : σ' 22 0 = upd (σ 22 0) k (-1)) (e23 : σ' 23 0 = upd (σ 23 0) k (-1)) (e25 : σ' 25 0 = upd (σ 25 0) k (-1)) (hk9 : ∀ v ∈ [24, 26], σ' v = σ v) : pM σ' = gvA (pM σ) k a b z := by
  funext i f
  by_cases y : i = k
  · subst y
    have hi' : (i : Int) < (σ' 4 0 0).toInt := by omega
    rw [gv_s]
    by_cases hf : f ≤ 8
    · rcases f9 hf with rfl | rfl | rfl | rfl | rfl | rfl | rfl | rfl | rfl
      · rw [if_neg (by decide), if_pos rfl, pM_f hi' hf (by decide)]; show σ' 18 0 i = _; rw [e18]; exact upd_self
      · rw [if_neg (by decide), if_neg (by decide), if_pos rfl, pM_f hi' hf (by decide)]; show σ' 19 0 i = _; rw [e19]; exact upd_self
      · rw [if_pos rfl, pM_f hi' hf (by decide)]; show σ' 20 0 i = _; rw [e20]; exact upd_self
      · rw [if_neg (by decide), if_neg (by decide), if_neg (by decide), pM_f hi' hf (by decide), pM_out (by omega)]; show σ' 21 0 i = _; rw [e21, upd_self]; rfl
      · rw [if_neg (by decide), if_neg (by decide), if_neg (by decide), pM_f hi' hf (by decide), pM_out (by omega)]; show σ' 22 0 i = _; rw [e22, upd_self]; rfl
      · rw [if_neg (by decide), if_neg (by decide), if_neg (by decide), pM_f hi' hf (by decide), pM_out (by omega)]; show σ' 23 0 i = _; rw [e23, upd_self]; rfl
      · rw [if_neg (by decide), if_neg (by decide), if_neg (by decide), pM_out (σ := σ) (by omega)]
        rw [pM_6' hi', if_pos (by rw [e21]; exact upd_self)]
        rfl
      · rw [if_neg (by decide), if_neg (by decide), if_neg (by decide), pM_f hi' hf (by decide), pM_out (by omega)]; show σ' 25 0 i = _; rw [e25, upd_self]; rfl
      · rw [if_neg (by decide), if_neg (by decide), if_neg (by decide), pM_f hi' hf (by decide), pM_out (by omega)]; show σ' 26 0 i = _; rw [hk9 26 (by decide), h26]; rfl
    · rw [if_neg (by omega), if_neg (by omega), if_neg (by omega)]
      unfold pM
      rw [if_neg (by omega), if_neg (by omega)]
  · rw [gv_o y]
    have hu : ∀ (g : Nat → Int32) (x : Int32), upd g k x i = g i := fun g x => by unfold upd; rw [if_neg y]
    by_cases hi : (i : Int) < (σ 4 0 0).toInt
    · have hi' : (i : Int) < (σ' 4 0 0).toInt := by omega
      by_cases hf : f ≤ 8
      · rcases f9 hf with rfl | rfl | rfl | rfl | rfl | rfl | rfl | rfl | rfl
        · rw [pM_f hi' hf (by decide), pM_f hi hf (by decide)]; show σ' 18 0 i = σ 18 0 i; rw [e18, hu]
        · rw [pM_f hi' hf (by decide), pM_f hi hf (by decide)]; show σ' 19 0 i = σ 19 0 i; rw [e19, hu]
        · rw [pM_f hi' hf (by decide), pM_f hi hf (by decide)]; show σ' 20 0 i = σ 20 0 i; rw [e20, hu]
        · rw [pM_f hi' hf (by decide), pM_f hi hf (by decide)]; show σ' 21 0 i = σ 21 0 i; rw [e21, hu]
        · rw [pM_f hi' hf (by decide), pM_f hi hf (by decide)]; show σ' 22 0 i = σ 22 0 i; rw [e22, hu]
        · rw [pM_f hi' hf (by decide), pM_f hi hf (by decide)]; show σ' 23 0 i = σ 23 0 i; rw [e23, hu]
        · rw [pM_6' hi', pM_6' hi, e21, hu, hk9 24 (by decide)]
        · rw [pM_f hi' hf (by decide), pM_f hi hf (by decide)]; show σ' 25 0 i = σ 25 0 i; rw [e25, hu]
        · rw [pM_f hi' hf (by decide), pM_f hi hf (by decide)]; show σ' 26 0 i = σ 26 0 i; rw [hk9 26 (by decide)]
      · unfold pM
        rw [if_neg (by omega), if_neg (by omega)]
    · rw [pM_out (by omega), pM_out (by omega)]
/-- what is sought keeps what always holds -/
theorem wf_seek (hN : wfN N) (h0 : 0 ≤ now ∧ now ≤ 5000) (h : wfA N now (now + 1) n A) (hk : k < n) (hw : wts A k) (hs : seek1 N now C A k A') : wfA N now (now + 1) n A' := by
  rcases hs with ⟨c, d, s, s', h1, e⟩ | ⟨-, e⟩
  · obtain ⟨⟨⟨a1, a2, a3, a4, a5, a6⟩, a7, -⟩, -⟩ := h1
    have hdu := ht_dur hN (d := d) a1 (s := s) (by omega)
    have hdu' := ht_dur hN (d := d) a1 (s := s') (by omega)
    have hH := (hN.2 c a1).2.1
    have hr : rideN N (-1) c d s s' := ⟨a1, by omega, a2, a7.1, a7.2⟩
    have hlt := ht_lt hN hr
    rw [e]
    exact wf_bd hN h hk hw a1 a7.2 (by omega) (by omega) (by omega) (Int32.toInt_ofInt_of_le (by omega) (by omega))
  · rw [e]; exact h
end RM
