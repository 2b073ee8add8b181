/-! both sides' nets after a call -/
section NO
variable {N M : Net} {c : Nat} {σ σ' σ1 : QS}
theorem rep_W {wd : Int32} (hR : RepC σ N) (hc : c < nK N) (hw : 0 ≤ wd.toInt ∧ wd.toInt ≤ 127) (e : σ' 21 = rs σ 21 c (fun _ => wd) 21) (hk : ∀ v ∈ [3, 22, 26, 27, 28, 29], σ' v = σ v) : RepC σ' (netW N c wd.toNatClampNeg) := by
  have hw9 := cl_eq hw.1
  refine ⟨hR.1, by rw [hk 3 (by decide)]; exact hR.2.1, fun x hx => ?_⟩
  obtain ⟨⟨b1, b2, b3, b4⟩, b5, b6⟩ := hR.2.2 x hx
  rw [hk 26 (by decide), hk 22 (by decide), hk 27 (by decide), hk 28 (by decide), hk 29 (by decide), e]
  refine ⟨⟨b1, b2, ?_⟩, b5, b6⟩
  by_cases y : x = c
  · rw [show nW (netW N c wd.toNatClampNeg) x = wd.toNatClampNeg from if_pos y]
    subst y
    rw [rs_self]
    exact ⟨hw9.symm, by omega⟩
  · rw [show nW (netW N c wd.toNatClampNeg) x = nW N x from if_neg y, rs_i y]
    exact ⟨b3, b4⟩
theorem rep_N {d : Int32} (hR : RepC σ N) (hc : c < nK N) (hd : 0 ≤ d.toInt ∧ d.toInt ≤ 300) (e : σ' 29 = rs σ 29 c (snA (σ 29 c) d) 29) (hk : ∀ v ∈ [3, 21, 22, 26, 27, 28], σ' v = σ v) : RepC σ' (netN N c d.toNatClampNeg) := by
  have hd9 := cl_eq hd.1
  refine ⟨hR.1, by rw [hk 3 (by decide)]; exact hR.2.1, fun x hx => ?_⟩
  obtain ⟨⟨b1, b2, b3, b4⟩, b5, b6⟩ := hR.2.2 x hx
  rw [hk 26 (by decide), hk 22 (by decide), hk 27 (by decide), hk 28 (by decide), hk 21 (by decide), e]
  refine ⟨⟨b1, b2, b3, b4⟩, b5, fun y hy => ?_⟩
  show _ ↔ (x = c ∧ y = d.toNatClampNeg) ∨ nN N x y
  by_cases z : x = c
  · subst z
    rw [rs_self, show snA (σ 29 x) d = snA (σ 29 x) (nI d.toNatClampNeg) by rw [← nI_at hd.1], sn_add hy (by omega), b6 y hy]
    exact ⟨fun q => q.imp_left (fun q => ⟨rfl, q⟩), fun q => q.imp_left (fun q => q.2)⟩
  · rw [rs_i z, b6 y hy]
    exact ⟨fun q => Or.inr q, fun q => q.resolve_left (fun q => z q.1)⟩
theorem net_S {pl of : Int32} (hC : NetC σ N) (hc : c < nK N) (h : RepC σ' (netS N c pl.toNatClampNeg of.toInt) ∧ HalC (σ' 6 0) (σ' 7 0) (netS N c pl.toNatClampNeg of.toInt) ∧ LnkC (σ' 8 0) (netS N c pl.toNatClampNeg of.toInt) ∧ (∀ p, p < 12 → b12 (σ' 8 0 p)) ∧ σ' 4 0 0 = σ1 4 0 0 + 1 ∧ (σ' 7 0 24).toInt = (σ1 7 0 24).toInt + 1 ∧ σ' 26 = stU σ1 c pl of 26) (e : σ1 7 = σ 7) (e2 : σ1 26 = σ 26) : NetC σ' (netS N c pl.toNatClampNeg of.toInt) := by
  obtain ⟨h1, h2, h3, h4, h5, h6, h7⟩ := h
  refine ⟨h1, h2, h3, h4, ?_, fun x hx hx2 => ?_⟩
  · show _ = ((totS _ (nK N) : Nat) : Int)
    rw [h6, e, hC.2.2.2.2.1, tot_S _ hc]
    omega
  · have hx : nK N ≤ x := hx
    rw [h7]
    show (rs _ 26 c _ 26 x 0).toInt = 0
    rw [rs_i (by omega), rs_v (by decide), rs_v (by decide), e2]
    exact hC.2.2.2.2.2 x hx hx2
theorem net_A {h : Int} {w p : Nat} {Z : Nat → Prop} {pl of : Int32} (hC : NetC σ N) (hh : RepC σ' (netA N h w p Z) ∧ HalC (σ' 6 0) (σ' 7 0) (netA N h w p Z) ∧ LnkC (σ' 8 0) (netA N h w p Z) ∧ (∀ p, p < 12 → b12 (σ' 8 0 p)) ∧ σ' 4 0 0 = σ1 4 0 0 + 1 ∧ (σ' 7 0 24).toInt = (σ1 7 0 24).toInt + 1 ∧ σ' 26 = stU σ1 (nK N) pl of 26) (e : σ1 7 = σ 7) (e2 : σ1 26 = σ 26) : NetC σ' (netA N h w p Z) := by
  obtain ⟨h1, h2, h3, h4, h5, h6, h7⟩ := hh
  refine ⟨h1, h2, h3, h4, ?_, fun x hx hx2 => ?_⟩
  · show _ = ((totS _ (nK N + 1) : Nat) : Int)
    simp only [totS]
    rw [h6, e, hC.2.2.2.2.1, tot_same (M := netA N h w p Z) (N := N) (fun x hx => if_neg (by omega)), show nS (netA N h w p Z) (nK N) = 1 from if_pos rfl]
    omega
  · have hx : nK N + 1 ≤ x := hx
    rw [h7]
    show (rs _ 26 _ _ 26 x 0).toInt = 0
    rw [rs_i (by omega), rs_v (by decide), rs_v (by decide), e2]
    exact hC.2.2.2.2.2 x (by omega) hx2
theorem net_R (hC : NetC σ N) (h1 : RepC σ' M) (e1 : nK M = nK N) (e2 : nS M = nS N) (e3 : nH M = nH N) (e4 : nO M = nO N) (h : LnkC (σ' 8 0) M ∧ (∀ p, p < 12 → b12 (σ' 8 0 p)) ∧ σ' 4 0 0 = σ1 4 0 0 + 1) (hk : ∀ v ∈ [6, 7, 26], σ' v = σ v) : NetC σ' M := by
  refine ⟨h1, ?_, h.1, h.2.1, ?_, ?_⟩
  · rw [hk 6 (by decide), hk 7 (by decide)]
    exact hal_same hC.2.1 e1 e2 e3 e4
  · rw [hk 7 (by decide), hC.2.2.2.2.1, e1, tot_same (M := M) (N := N) (fun x _ => by rw [e2])]
  · rw [hk 26 (by decide), e1]
    exact hC.2.2.2.2.2
/-! the reference's -/
theorem RepM_of (h : RepM σ N) (hk : ∀ v ∈ [2, 5, 6, 9, 11, 12, 13], σ' v = σ v) : RepM σ' N := by
  unfold RepM at h ⊢
  rw [hk 2 (by decide), hk 5 (by decide), hk 6 (by decide), hk 9 (by decide), hk 11 (by decide), hk 12 (by decide), hk 13 (by decide)]
  exact h
theorem RepM_k {ms : List Nat} (h : RepM σ N) (k : Keep ms σ σ') (hd : ∀ v ∈ [2, 5, 6, 9, 11, 12, 13], v ∉ ms) : RepM σ' N := RepM_of h (fun v hv => k v (hd v hv))
theorem repM_W {wd : Int32} (hR : RepM σ N) (hc : c < nK N) (hw : 0 ≤ wd.toInt ∧ wd.toInt ≤ 127) (e : σ' 5 0 = upd (σ 5 0) c wd) (hk : ∀ v ∈ [2, 6, 9, 11, 12, 13], σ' v = σ v) : RepM σ' (netW N c wd.toNatClampNeg) := by
  have hw9 := cl_eq hw.1
  refine ⟨hR.1, by rw [hk 2 (by decide)]; exact hR.2.1, fun x hx => ?_⟩
  obtain ⟨⟨b1, b2, b3, b4⟩, b5, b6⟩ := hR.2.2 x hx
  rw [hk 9 (by decide), hk 6 (by decide), hk 11 (by decide), hk 12 (by decide), hk 13 (by decide), e]
  refine ⟨⟨b1, b2, ?_⟩, b5, b6⟩
  unfold upd
  by_cases y : x = c
  · rw [show nW (netW N c wd.toNatClampNeg) x = wd.toNatClampNeg from if_pos y, if_pos y]
    exact ⟨hw9.symm, by omega⟩
  · rw [show nW (netW N c wd.toNatClampNeg) x = nW N x from if_neg y, if_neg y]
    exact ⟨b3, b4⟩
theorem repM_N {d : Int32} (hR : RepM σ N) (hc : c < nK N) (hd : 0 ≤ d.toInt ∧ d.toInt ≤ 300) (e : σ' 13 0 = upd (σ 13 0) (301 * c + d.toNatClampNeg) 1) (hk : ∀ v ∈ [2, 5, 6, 9, 11, 12], σ' v = σ v) : RepM σ' (netN N c d.toNatClampNeg) := by
  have hd9 := cl_eq hd.1
  refine ⟨hR.1, by rw [hk 2 (by decide)]; exact hR.2.1, fun x hx => ?_⟩
  obtain ⟨⟨b1, b2, b3, b4⟩, b5, b6⟩ := hR.2.2 x hx
  rw [hk 9 (by decide), hk 6 (by decide), hk 11 (by decide), hk 12 (by decide), hk 5 (by decide), e]
  refine ⟨⟨b1, b2, b3, b4⟩, b5, fun y hy => ?_⟩
  show _ ↔ (x = c ∧ y = d.toNatClampNeg) ∨ nN N x y
  unfold upd
  by_cases z : x = c ∧ y = d.toNatClampNeg
  · rw [if_pos (by omega)]
    exact ⟨fun _ => Or.inl z, fun _ => by decide⟩
  · rw [if_neg (by omega), b6 y hy]
    exact ⟨fun q => Or.inr q, fun q => q.resolve_left z⟩
theorem repM_S {pl of x9 : Int32} (hR : RepM σ N) (hc : c < nK N) (hs : nS N c < 6) (hp : 0 ≤ pl.toInt ∧ pl.toInt ≤ 11) (ho : nO N c (nS N c - 1) < of.toInt) (ho2 : of.toInt ≤ 60) (e11 : σ' 11 0 = upd (σ 11 0) (6 * c + nS N c) pl) (e12 : σ' 12 0 = upd (σ 12 0) (6 * c + nS N c) of) (e9 : σ' 9 0 = upd (σ 9 0) c x9) (hx : x9.toInt = nS N c + 1) (hk : ∀ v ∈ [2, 5, 6, 13], σ' v = σ v) : RepM σ' (netS N c pl.toNatClampNeg of.toInt) := by
  have hp9 := cl_eq hp.1
  refine ⟨wf_S hR.1 hc hs (by omega) ho ho2, by rw [hk 2 (by decide)]; exact hR.2.1, fun x hx => ?_⟩
  have hx : x < nK N := hx
  obtain ⟨⟨b1, b2, b3, b4⟩, b5, b6⟩ := hR.2.2 x hx
  have hx6 := (hR.1.2 x hx).1
  rw [hk 6 (by decide), hk 5 (by decide), hk 13 (by decide), e11, e12, e9]
  unfold upd
  by_cases y : x = c
  · subst y
    have e1 : nS (netS N x pl.toNatClampNeg of.toInt) x = nS N x + 1 := if_pos rfl
    refine ⟨⟨by rw [if_pos rfl, e1]; omega, b2, b3, b4⟩, fun s hs => ?_, b6⟩
    by_cases z : s = nS N x
    · rw [if_pos (by rw [z]), if_pos (by rw [z]), z, show nP (netS N x pl.toNatClampNeg of.toInt) x (nS N x) = pl.toNatClampNeg from if_pos ⟨rfl, rfl⟩, show nO (netS N x pl.toNatClampNeg of.toInt) x (nS N x) = of.toInt from if_pos ⟨rfl, rfl⟩]
      exact ⟨hp9.symm, rfl⟩
    · rw [if_neg (by omega), if_neg (by omega), show nP (netS N x pl.toNatClampNeg of.toInt) x s = nP N x s from if_neg (fun q => z q.2), show nO (netS N x pl.toNatClampNeg of.toInt) x s = nO N x s from if_neg (fun q => z q.2)]
      exact b5 s (by omega)
  · have e1 : nS (netS N c pl.toNatClampNeg of.toInt) x = nS N x := if_neg y
    rw [e1]
    refine ⟨⟨by rw [if_neg y]; exact b1, b2, b3, b4⟩, fun s hs => ?_, b6⟩
    rw [if_neg (by omega), if_neg (by omega), show nP (netS N c pl.toNatClampNeg of.toInt) x s = nP N x s from if_neg (fun q => y q.1), show nO (netS N c pl.toNatClampNeg of.toInt) x s = nO N x s from if_neg (fun q => y q.1)]
    exact b5 s hs
theorem repM_A {hr wd pl x0 x1 : Int32} {Z : Nat → Prop} (hR : RepM σ N) (hk9 : nK N < 12) (hh : 0 ≤ hr.toInt ∧ hr.toInt ≤ 23) (hw : 0 ≤ wd.toInt ∧ wd.toInt ≤ 127) (hp : 0 ≤ pl.toInt ∧ pl.toInt ≤ 11) (e2 : (σ' 2 0 0).toInt = nK N + 1) (e5 : σ' 5 0 = upd (σ 5 0) (nK N) wd) (e6 : σ' 6 0 = upd (σ 6 0) (nK N) hr) (e9 : σ' 9 0 = upd (σ 9 0) (nK N) x1) (h1 : x1.toInt = 1) (e11 : σ' 11 0 = upd (σ 11 0) (6 * nK N) pl) (e12 : σ' 12 0 = upd (σ 12 0) (6 * nK N) x0) (h0 : x0.toInt = 0) (e13 : σ' 13 = σ 13) (hZ : ∀ d, d ≤ 300 → (σ 13 0 (301 * nK N + d) ≠ 0 ↔ Z d)) : RepM σ' (netA N hr.toInt wd.toNatClampNeg pl.toNatClampNeg Z) := by
  have hp9 := cl_eq hp.1
  have hw9 := cl_eq hw.1
  refine ⟨wf_A hR.1 hk9 hh (by omega), by rw [e2]; rfl, fun x hx => ?_⟩
  have hx : x < nK N + 1 := hx
  rw [e5, e6, e9, e11, e12, e13]
  unfold upd
  by_cases y : x = nK N
  · subst y
    rw [if_pos rfl, if_pos rfl, if_pos rfl]
    refine ⟨⟨?_, ?_, ?_, ?_⟩, fun s hs => ?_, fun d hd => ?_⟩
    · rw [show ∀ a b c d, nS (netA N a b c d) (nK N) = 1 from fun a b c d => if_pos rfl]; omega
    · exact (if_pos rfl).symm
    · rw [show ∀ a b c d, nW (netA N a b c d) (nK N) = b from fun a b c d => if_pos rfl]; omega
    · rw [show ∀ a b c d, nW (netA N a b c d) (nK N) = b from fun a b c d => if_pos rfl]; omega
    · rw [show ∀ a b c d, nS (netA N a b c d) (nK N) = 1 from fun a b c d => if_pos rfl] at hs
      have hs0 : s = 0 := by omega
      subst hs0
      rw [Nat.add_zero, if_pos rfl, if_pos rfl, show ∀ a b c d, nP (netA N a b c d) (nK N) 0 = c from fun a b c d => if_pos rfl, show ∀ a b c d, nO (netA N a b c d) (nK N) 0 = 0 from fun a b c d => if_pos rfl]
      exact ⟨hp9.symm, h0⟩
    · rw [show ∀ a b c z, nN (netA N a b c z) (nK N) d = z d from fun a b c z => if_pos rfl]
      exact hZ d hd
  · obtain ⟨⟨b1, b2, b3, b4⟩, b5, b6⟩ := hR.2.2 x (by omega)
    have hx6 := (hR.1.2 x (by omega)).1
    have e1 : ∀ a b c d, nS (netA N a b c d) x = nS N x := fun a b c d => if_neg y
    have e2 : ∀ a b c d, nH (netA N a b c d) x = nH N x := fun a b c d => if_neg y
    have e4 : ∀ a b c d, nW (netA N a b c d) x = nW N x := fun a b c d => if_neg y
    have e5 : ∀ a b c d s, nP (netA N a b c d) x s = nP N x s := fun a b c d s => if_neg y
    have e6 : ∀ a b c d s, nO (netA N a b c d) x s = nO N x s := fun a b c d s => if_neg y
    have e7 : ∀ a b c d s, nN (netA N a b c d) x s = nN N x s := fun a b c d s => if_neg y
    rw [e1, e2, e4, if_neg y, if_neg y, if_neg y]
    simp only [e5, e6, e7]
    refine ⟨⟨b1, b2, b3, b4⟩, fun s hs => ?_, b6⟩
    rw [if_neg (by omega), if_neg (by omega)]
    exact b5 s hs
end NO
