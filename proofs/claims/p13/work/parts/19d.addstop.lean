/-! addStop: one more stop -/
def stU (σ : QS) (c : Nat) (p o : Int32) : QS := rs (rs (rs σ 27 c (upd (σ 27 c) (σ 26 c 0).toNatClampNeg p)) 28 c (upd (σ 28 c) (σ 26 c 0).toNatClampNeg o)) 26 c (fun _ => σ 26 c 0 + 1)
theorem stU_v {σ : QS} {c : Nat} {p o : Int32} {v : Nat} (h1 : v ≠ 26) (h2 : v ≠ 27) (h3 : v ≠ 28) : stU σ c p o v = σ v := by
  unfold stU
  rw [rs_v h1, rs_v h3, rs_v h2]
def addOk (σ : QS) (N M : Net) (c : Nat) (p o : Int32) : Prop := RepC (stU σ c p o) M ∧ HalC (σ 6 0) (σ 7 0) N ∧ moreS N M c (σ 26 c 0).toNatClampNeg ∧ (∀ c9 s9, c9 < nK N → s9 < nS N c9 → hvN M c9 s9 = hvN N c9 s9) ∧ ¬ (c < nK N ∧ (σ 26 c 0).toNatClampNeg < nS N c) ∧ (σ 7 0 24).toInt < 72 ∧ (σ 26 c 0).toInt < 6
theorem stU_of {σ σ1 σ2 σ3 : QS} {c s : Nat} {p o x : Int32} (w1 : σ1 = rs σ 27 c (upd (σ 27 c) s p)) (w2 : σ2 = rs σ1 28 c (upd (σ1 28 c) s o)) (w3 : σ3 = rs σ2 26 c (fun _ => x)) (hs : s = (σ 26 c 0).toNatClampNeg) (hx : x = σ 26 c 0 + 1) : σ3 = stU σ c p o := by
  unfold stU
  rw [w3, w2, w1, rs_v (a := 28) (v := 27) (by decide), hs, hx]
theorem add_hal {σ : QS} {N M : Net} {c : Nat} {p o a b t : Int32} {g6 g7 : Nat → Int32} (hA : addOk σ N M c p o) (ha : a.toInt = ((σ 22 c 0).toInt + o.toInt) % 24) (hb : b.toInt = c) (ht : t.toInt = (σ 26 c 0).toInt) (ht0 : 0 ≤ t.toInt) (hP : insP (σ 6 0) (σ 7 0) g6 g7 (haV a b t) a.toInt) : HalC g6 g7 M := by
  obtain ⟨hR, hH, hm, hv, hn, -, h6⟩ := hA
  have hcs := (hm c (σ 26 c 0).toNatClampNeg).mpr (Or.inr ⟨rfl, rfl⟩)
  have hr := hR.2.2 c hcs.1
  have e1 : (stU σ c p o) 22 c 0 = σ 22 c 0 := by rw [stU_v (by decide) (by decide) (by decide)]
  have e2 : (stU σ c p o) 28 c (σ 26 c 0).toNatClampNeg = o := by
    unfold stU
    rw [rs_v (by decide), rs_self]
    exact upd_self
  have e3 := hr.1.2.1
  rw [e1] at e3
  have e4 := (hr.2.1 _ hcs.2).2
  rw [e2] at e4
  have hb0 := hv_b hR.1 hcs.1 hcs.2
  have hcl := cl_eq (j := σ 26 c 0) (by omega)
  have ha2 : a.toInt = (nH M c + nO M c (σ 26 c 0).toNatClampNeg) % 24 := by rw [ha, e3, e4]
  refine ins_hal hR.1 hH hm hv hn ?_ ha2 hP
  rw [haV_at (by omega) (by omega) (by omega)]
  unfold hvN
  omega
theorem add_cnt {h6 h7 g6 g7 : Nat → Int32} {v : Int32} {q : Int} (hP : insP h6 h7 g6 g7 v q) (hq : q ≤ 23) : (g7 24).toInt = (h7 24).toInt + 1 := by
  rw [hP.2 24 (by omega), if_pos (by omega)]
