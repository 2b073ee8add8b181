/-! nets and parcels on both sides -/
def TN (σ σM : QS) (N : Net) (n k : Nat) : Prop := (NetC σ N ∧ RepM σM N ∧ KepM σM N) ∧ PaC σ N (σ 1 0 0).toInt ((σ 1 0 0).toInt + 1) n ∧ (n : Int) = (σ 0 0 0).toInt ∧ (pC σ = pM σM ∧ eC σ = eM σM ∧ capC σ = capM σM ∧ farC σ = farM σM) ∧ (∀ i : Nat, n ≤ i → i < 60 → σM 26 0 i = 0) ∧ (σ 4 0 0).toInt ≤ k ∧ (0 ≤ (σM 17 0 0).toInt ∧ (σM 17 0 0).toInt ≤ (k : Int) + 1)
def TNk (σ σM : QS) (k : Nat) : Prop := ∃ N n, TN σ σM N n k
section TT
variable {σ σ1 σM σ2 : QS} {N M : Net} {n k : Nat} {a b z r f h n9 x1 x2 : Int32}
theorem TN_q (h : TN σ σM N n k) (hK : KepM σ2 N) (h1 : ∀ v ∈ [0, 1, 3, 4, 6, 7, 8, 21, 22, 23, 24, 25, 26, 27, 28, 29, 30, 31, 32, 33, 34, 35, 36, 37, 38, 39, 40, 41, 42, 43], σ1 v = σ v) (h2 : ∀ v ∈ [1, 2, 4, 5, 6, 7, 8, 9, 10, 11, 12, 13, 17, 18, 19, 20, 21, 22, 23, 24, 25, 26], σ2 v = σM v) : TN σ1 σ2 N n (k + 1) := by
  obtain ⟨⟨a1, a2, a3⟩, a4, a5, ⟨a6, a7, a8, a9⟩, a10, a11, a12⟩ := h
  have e1 : pC σ1 = pC σ := pC_of (fun v hv => h1 v (by revert hv; revert v; decide))
  have e2 : pM σ2 = pM σM := pM_of (fun v hv => h2 v (by revert hv; revert v; decide))
  have e3 : eC σ1 = eC σ := eC_of (h1 25 (by decide))
  have e4 : eM σ2 = eM σM := eM_of (h2 10 (by decide))
  have e5 : capC σ1 = capC σ := by unfold capC; rw [h1 23 (by decide)]
  have e6 : capM σ2 = capM σM := by unfold capM; rw [h2 7 (by decide)]
  have e7 : farC σ1 = farC σ := by unfold farC; rw [h1 24 (by decide)]
  have e8 : farM σ2 = farM σM := by unfold farM; rw [h2 8 (by decide)]
  refine ⟨⟨NetC_of a1 (fun v hv => h1 v (by revert hv; revert v; decide)), RepM_of a2 (fun v hv => h2 v (by revert hv; revert v; decide)), hK⟩, ?_, by rw [h1 0 (by decide)]; exact a5, ⟨by rw [e1, e2]; exact a6, by rw [e3, e4]; exact a7, by rw [e5, e6]; exact a8, by rw [e7, e8]; exact a9⟩, by rw [h2 26 (by decide)]; exact a10, by rw [h1 4 (by decide)]; omega, by rw [h2 17 (by decide)]; omega⟩
  rw [h1 1 (by decide)]
  exact PaC_of a4 (fun v hv => h1 v (by revert hv; revert v; decide))
theorem TN_of (h : TN σ σM N n k) (h1 : ∀ v ∈ [0, 1, 3, 4, 6, 7, 8, 21, 22, 23, 24, 25, 26, 27, 28, 29, 30, 31, 32, 33, 34, 35, 36, 37, 38, 39, 40, 41, 42, 43], σ1 v = σ v) (h2 : ∀ v ∈ [1, 2, 4, 5, 6, 7, 8, 9, 10, 11, 12, 13, 14, 15, 17, 18, 19, 20, 21, 22, 23, 24, 25, 26], σ2 v = σM v) : TN σ1 σ2 N n (k + 1) :=
  TN_q h (KepM_of h.1.2.2 (fun v hv => h2 v (by revert hv; revert v; decide))) h1 (fun v hv => h2 v (by revert hv; revert v; decide))
theorem TN_0 (h : TN σ σM N n k) (h2 : Keep [0] σM σ2) : TN σ σ2 N n (k + 1) := TN_of h (fun _ _ => rfl) (fun v hv => h2 v (fun z => by revert hv z; revert v; decide))
theorem TN_net (h : TN σ σM N n k) (hk : k < 1000) (n1 : NetC σ1 M) (n2 : RepM σ2 M) (v1 : σ1 4 0 0 = σ 4 0 0 + 1) (v2 : σ2 17 0 0 = σM 17 0 0 + 1) (k1 : ∀ v ∈ [0, 1, 25, 30, 31, 32, 33, 34, 35, 36, 37, 38, 39, 40, 41, 42, 43], σ1 v = σ v) (k2 : ∀ v ∈ [4, 10, 15, 18, 19, 20, 21, 22, 23, 24, 25, 26], σ2 v = σM v) (hK : nK N ≤ nK M) (hH : ∀ c, c < nK N → nH M c = nH N c) (c1 : capC σ1 = capM σ2) (f1 : farC σ1 = farM σ2) : TN σ1 σ2 M n (k + 1) := by
  obtain ⟨⟨a1, a2, a3⟩, a4, a5, ⟨a6, a7, a8, a9⟩, a10, a11, a12⟩ := h
  have e1 : pC σ1 = pC σ := pC_of (fun v hv => k1 v (by revert hv; revert v; decide))
  have e2 : pM σ2 = pM σM := pM_of (fun v hv => k2 v (by revert hv; revert v; decide))
  have h5 := a4.2.2.2.2
  have u1 : (σ1 4 0 0).toInt = (σ 4 0 0).toInt + 1 := i_addc (n := 1) v1 (by decide) (by omega) (by omega)
  have u2 : (σ2 17 0 0).toInt = (σM 17 0 0).toInt + 1 := i_addc (n := 1) v2 (by decide) (by omega) (by omega)
  refine ⟨⟨n1, n2, kp_ver a3 u2 (k2 15 (by decide))⟩, ?_, by rw [k1 0 (by decide)]; exact a5, ⟨by rw [e1, e2]; exact a6, by rw [eC_of (k1 25 (by decide)), eM_of (k2 10 (by decide))]; exact a7, c1, f1⟩, by rw [k2 26 (by decide)]; exact a10, by omega, by omega⟩
  rw [k1 1 (by decide)]
  exact PaC_net a4 (fun v hv => k1 v (by revert hv; revert v; decide)) u1 hK hH
theorem cap_same (h : capC σ = capM σM) (h1 : σ1 23 = σ 23) (h2 : σ2 7 = σM 7) : capC σ1 = capM σ2 := by
  unfold capC capM at h ⊢
  rw [h1, h2]; exact h
theorem far_same (h : farC σ = farM σM) (h1 : σ1 24 = σ 24) (h2 : σ2 8 = σM 8) : farC σ1 = farM σ2 := by
  unfold farC farM at h ⊢
  rw [h1, h2]; exact h
theorem cap_set {c : Nat} (h : capC σ = capM σM) (h1 : σ1 23 = rs σ 23 c (fun _ => r) 23) (h2 : σ2 7 0 = upd (σM 7 0) c r) : capC σ1 = capM σ2 := by
  funext j
  have hj := congrFun h j
  unfold capC capM at hj ⊢
  rw [h1, h2]
  unfold upd
  by_cases y : j = c
  · subst y; rw [rs_self, if_pos rfl]
  · rw [rs_i y, if_neg y]; exact hj
theorem far_set {c : Nat} (h : farC σ = farM σM) (h1 : σ1 24 = rs σ 24 c (fun _ => f) 24) (h2 : σ2 8 0 = upd (σM 8 0) c f) : farC σ1 = farM σ2 := by
  funext j
  have hj := congrFun h j
  unfold farC farM at hj ⊢
  rw [h1, h2]
  unfold upd
  by_cases y : j = c
  · subst y; rw [rs_self, if_pos rfl]
  · rw [rs_i y, if_neg y]; exact hj
theorem busy_tie (h : TN σ σM N n k) (h0 : 0 ≤ a.toInt) (ha : a.toInt < (σ 3 0 0).toInt) (e4 : (σ 0 0 0).toInt = (σM 4 0 0).toInt) : ldn (σ 30 a.toNatClampNeg) ↔ busyM σM a := by
  have hc := cl_eq h0
  have hK := h.1.1.1.2.1
  have hK2 := h.1.1.1.1.1
  rw [ld_busy h.2.1.1 h.2.1.2.1 (c := a.toNatClampNeg) (by omega), h.2.2.2.1.1]
  have hn := h.2.2.1
  unfold busyM
  constructor
  · rintro ⟨i, hi, e⟩
    refine ⟨i, by omega, ?_⟩
    rw [pM_f (f := 3) (by omega) (by decide) (by decide)] at e
    exact Int32.toInt_inj.mp (by show (σM (18 + 3) 0 i).toInt = a.toInt; omega)
  · rintro ⟨i, hi, e⟩
    refine ⟨i, by omega, ?_⟩
    rw [pM_f (f := 3) (by omega) (by decide) (by decide)]
    show (σM 21 0 i).toInt = _
    rw [e]; omega
theorem cart_N (hT9 : TN σ σM N n k) (hk : k < 1000) (e : (σ 3 0 0).toInt = (σM 2 0 0).toInt) (q1 : (((x1.toInt = -1 ∧ σ1 3 = σ 3 ∧ ¬ (0 ≤ a.toInt ∧ a.toInt ≤ 127 ∧ 0 ≤ h.toInt ∧ h.toInt ≤ 23 ∧ 0 ≤ r.toInt ∧ r.toInt ≤ 50 ∧ 0 ≤ f.toInt ∧ f.toInt ≤ 20 ∧ 0 ≤ z.toInt ∧ z.toInt ≤ 11 ∧ (σ 3 0 0).toInt < 12)) ∨ ((0 ≤ a.toInt ∧ a.toInt ≤ 127 ∧ 0 ≤ h.toInt ∧ h.toInt ≤ 23 ∧ 0 ≤ r.toInt ∧ r.toInt ≤ 50 ∧ 0 ≤ f.toInt ∧ f.toInt ≤ 20 ∧ 0 ≤ z.toInt ∧ z.toInt ≤ 11 ∧ (σ 3 0 0).toInt < 12) ∧ x1.toInt = (σ 3 0 0).toInt ∧ (σ1 3 0 0).toInt = (σ 3 0 0).toInt + 1)) ∧ ((x1.toInt = -1 ∧ σ1 = σ) ∨ (x1.toInt ≠ -1 ∧ NetC σ1 (netA N h.toInt a.toNatClampNeg z.toNatClampNeg (fun d => snB (σ 29 (nK N)) (nI d) ≠ 0)) ∧ σ1 4 0 0 = σ 4 0 0 + 1 ∧ σ1 23 = rs σ 23 (nK N) (fun _ => r) 23 ∧ σ1 24 = rs σ 24 (nK N) (fun _ => f) 24)))) (q2 : (((x2.toInt = -1 ∧ σ2 2 = σM 2 ∧ ¬ (0 ≤ a.toInt ∧ a.toInt ≤ 127 ∧ 0 ≤ h.toInt ∧ h.toInt ≤ 23 ∧ 0 ≤ r.toInt ∧ r.toInt ≤ 50 ∧ 0 ≤ f.toInt ∧ f.toInt ≤ 20 ∧ 0 ≤ z.toInt ∧ z.toInt ≤ 11 ∧ (σM 2 0 0).toInt < 12)) ∨ ((0 ≤ a.toInt ∧ a.toInt ≤ 127 ∧ 0 ≤ h.toInt ∧ h.toInt ≤ 23 ∧ 0 ≤ r.toInt ∧ r.toInt ≤ 50 ∧ 0 ≤ f.toInt ∧ f.toInt ≤ 20 ∧ 0 ≤ z.toInt ∧ z.toInt ≤ 11 ∧ (σM 2 0 0).toInt < 12) ∧ x2.toInt = (σM 2 0 0).toInt ∧ (σ2 2 0 0).toInt = (σM 2 0 0).toInt + 1)) ∧ ((x2.toInt = -1 ∧ Keep [0] σM σ2) ∨ (x2.toInt ≠ -1 ∧ RepM σ2 (netA N h.toInt a.toNatClampNeg z.toNatClampNeg (fun d => snB (σ 29 (nK N)) (nI d) ≠ 0)) ∧ σ2 17 0 0 = σM 17 0 0 + 1 ∧ σ2 7 0 = upd (σM 7 0) (nK N) r ∧ σ2 8 0 = upd (σM 8 0) (nK N) f)))) (k1 : Keep [3, 22, 21, 23, 24, 27, 28, 26, 6, 7, 4, 8] σ σ1) (k2 : Keep [0, 5, 6, 7, 8, 9, 11, 12, 2, 17] σM σ2) : TNk σ1 σ2 (k + 1) := by
  rcases q1 with ⟨y1, ⟨y2, y3⟩ | ⟨y2, y3, y4, y5, y6⟩⟩ <;> rcases q2 with ⟨w1, ⟨w2, w3⟩ | ⟨w2, w3, w4, w5, w6⟩⟩
  · rw [y3]; exact ⟨N, n, TN_0 hT9 w3⟩
  · exfalso
    rcases y1 with ⟨-, -, y1⟩ | ⟨y1, y7, -⟩
    · rcases w1 with ⟨w1, -⟩ | ⟨w1, -⟩
      · omega
      · exact y1 (by rw [e]; exact w1)
    · omega
  · exfalso
    rcases w1 with ⟨-, -, w1⟩ | ⟨w1, w7, -⟩
    · rcases y1 with ⟨y1, -⟩ | ⟨y1, -⟩
      · omega
      · exact w1 (by rw [← e]; exact y1)
    · omega
  · refine ⟨_, n, TN_net hT9 hk y3 w3 y4 w4 (fun v hv => k1 v (fun z => by revert hv z; revert v; decide)) (fun v hv => k2 v (fun z => by revert hv z; revert v; decide)) (by show nK N ≤ nK N + 1; omega) (fun c hc => if_neg (by omega)) (cap_set hT9.2.2.2.1.2.2.1 y5 w5) (far_set hT9.2.2.2.1.2.2.2 y6 w6)⟩
theorem stop_N (h : TN σ σM N n k) (hk : k < 1000) (e : (σ 3 0 0).toInt = (σM 2 0 0).toInt) (e4 : (σ 0 0 0).toInt = (σM 4 0 0).toInt) (q1 : ((x1.toInt = -1 ∧ σ1 = σ ∧ ¬ (0 ≤ a.toInt ∧ a.toInt < (σ 3 0 0).toInt ∧ 0 ≤ b.toInt ∧ b.toInt ≤ 11 ∧ z.toInt ≤ 60 ∧ nS N a.toNatClampNeg < 6 ∧ nO N a.toNatClampNeg (nS N a.toNatClampNeg - 1) < z.toInt ∧ ¬ ldn (σ 30 a.toNatClampNeg))) ∨ (x1.toInt = nS N a.toNatClampNeg + 1 ∧ (0 ≤ a.toInt ∧ a.toInt < (σ 3 0 0).toInt ∧ 0 ≤ b.toInt ∧ b.toInt ≤ 11 ∧ z.toInt ≤ 60 ∧ nS N a.toNatClampNeg < 6 ∧ nO N a.toNatClampNeg (nS N a.toNatClampNeg - 1) < z.toInt ∧ ¬ ldn (σ 30 a.toNatClampNeg)) ∧ NetC σ1 (netS N a.toNatClampNeg b.toNatClampNeg z.toInt) ∧ σ1 4 0 0 = σ 4 0 0 + 1))) (q2 : ((x2.toInt = -1 ∧ Keep [0] σM σ2 ∧ ¬ (0 ≤ a.toInt ∧ a.toInt < (σM 2 0 0).toInt ∧ 0 ≤ b.toInt ∧ b.toInt ≤ 11 ∧ z.toInt ≤ 60 ∧ nS N a.toNatClampNeg < 6 ∧ nO N a.toNatClampNeg (nS N a.toNatClampNeg - 1) < z.toInt ∧ ¬ busyM σM a)) ∨ (x2.toInt = nS N a.toNatClampNeg + 1 ∧ (0 ≤ a.toInt ∧ a.toInt < (σM 2 0 0).toInt ∧ 0 ≤ b.toInt ∧ b.toInt ≤ 11 ∧ z.toInt ≤ 60 ∧ nS N a.toNatClampNeg < 6 ∧ nO N a.toNatClampNeg (nS N a.toNatClampNeg - 1) < z.toInt ∧ ¬ busyM σM a) ∧ RepM σ2 (netS N a.toNatClampNeg b.toNatClampNeg z.toInt) ∧ σ2 17 0 0 = σM 17 0 0 + 1))) (k1 : Keep [27, 28, 26, 6, 7, 4, 8] σ σ1) (k2 : Keep [0, 11, 12, 9, 17] σM σ2) : x1.toInt = x2.toInt ∧ TNk σ1 σ2 (k + 1) := by
  rcases q1 with ⟨y1, y2, y3⟩ | ⟨y1, y2, y3, y4⟩ <;> rcases q2 with ⟨w1, w2, w3⟩ | ⟨w1, w2, w3, w4⟩
  · exact ⟨by omega, by rw [y2]; exact ⟨N, n, TN_0 h w2⟩⟩
  · exact absurd ⟨w2.1, by rw [e]; exact w2.2.1, w2.2.2.1, w2.2.2.2.1, w2.2.2.2.2.1, w2.2.2.2.2.2.1, w2.2.2.2.2.2.2.1, fun z => w2.2.2.2.2.2.2.2 ((busy_tie h w2.1 (by rw [e]; exact w2.2.1) e4).mp z)⟩ y3
  · exact absurd ⟨y2.1, by rw [← e]; exact y2.2.1, y2.2.2.1, y2.2.2.2.1, y2.2.2.2.2.1, y2.2.2.2.2.2.1, y2.2.2.2.2.2.2.1, fun z => y2.2.2.2.2.2.2.2 ((busy_tie h y2.1 y2.2.1 e4).mpr z)⟩ w3
  · exact ⟨by omega, _, n, TN_net h hk y3 w3 y4 w4 (fun v hv => k1 v (fun z => by revert hv z; revert v; decide)) (fun v hv => k2 v (fun z => by revert hv z; revert v; decide)) (Nat.le_refl _) (fun c hc => rfl) (cap_same h.2.2.2.1.2.2.1 (k1 23 (by decide)) (k2 7 (by decide))) (far_same h.2.2.2.1.2.2.2 (k1 24 (by decide)) (k2 8 (by decide)))⟩
theorem change_N (h : TN σ σM N n k) (hk : k < 1000) (e : (σ 3 0 0).toInt = (σM 2 0 0).toInt) (e4 : (σ 0 0 0).toInt = (σM 4 0 0).toInt) (q1 : ((x1.toInt = 0 ∧ σ1 = σ ∧ ¬ (0 ≤ a.toInt ∧ a.toInt < (σ 3 0 0).toInt ∧ 0 ≤ b.toInt ∧ b.toInt ≤ 127 ∧ 0 ≤ r.toInt ∧ r.toInt ≤ 50 ∧ 0 ≤ f.toInt ∧ f.toInt ≤ 20 ∧ ¬ ldn (σ 30 a.toNatClampNeg))) ∨ (x1.toInt = 1 ∧ (0 ≤ a.toInt ∧ a.toInt < (σ 3 0 0).toInt ∧ 0 ≤ b.toInt ∧ b.toInt ≤ 127 ∧ 0 ≤ r.toInt ∧ r.toInt ≤ 50 ∧ 0 ≤ f.toInt ∧ f.toInt ≤ 20 ∧ ¬ ldn (σ 30 a.toNatClampNeg)) ∧ NetC σ1 (netW N a.toNatClampNeg b.toNatClampNeg) ∧ σ1 4 0 0 = σ 4 0 0 + 1 ∧ σ1 23 = rs σ 23 a.toNatClampNeg (fun _ => r) 23 ∧ σ1 24 = rs σ 24 a.toNatClampNeg (fun _ => f) 24))) (q2 : ((x2.toInt = 0 ∧ Keep [0] σM σ2 ∧ ¬ (0 ≤ a.toInt ∧ a.toInt < (σM 2 0 0).toInt ∧ 0 ≤ b.toInt ∧ b.toInt ≤ 127 ∧ 0 ≤ r.toInt ∧ r.toInt ≤ 50 ∧ 0 ≤ f.toInt ∧ f.toInt ≤ 20 ∧ ¬ busyM σM a)) ∨ (x2.toInt = 1 ∧ (0 ≤ a.toInt ∧ a.toInt < (σM 2 0 0).toInt ∧ 0 ≤ b.toInt ∧ b.toInt ≤ 127 ∧ 0 ≤ r.toInt ∧ r.toInt ≤ 50 ∧ 0 ≤ f.toInt ∧ f.toInt ≤ 20 ∧ ¬ busyM σM a) ∧ RepM σ2 (netW N a.toNatClampNeg b.toNatClampNeg) ∧ σ2 17 0 0 = σM 17 0 0 + 1 ∧ σ2 7 0 = upd (σM 7 0) a.toNatClampNeg r ∧ σ2 8 0 = upd (σM 8 0) a.toNatClampNeg f))) (k1 : Keep [21, 23, 24, 4, 8] σ σ1) (k2 : Keep [0, 5, 7, 8, 17] σM σ2) : x1.toInt = x2.toInt ∧ TNk σ1 σ2 (k + 1) := by
  rcases q1 with ⟨y1, y2, y3⟩ | ⟨y1, y2, y3, y4, y5, y6⟩ <;> rcases q2 with ⟨w1, w2, w3⟩ | ⟨w1, w2, w3, w4, w5, w6⟩
  · exact ⟨by omega, by rw [y2]; exact ⟨N, n, TN_0 h w2⟩⟩
  · exact absurd ⟨w2.1, by rw [e]; exact w2.2.1, w2.2.2.1, w2.2.2.2.1, w2.2.2.2.2.1, w2.2.2.2.2.2.1, w2.2.2.2.2.2.2.1, w2.2.2.2.2.2.2.2.1, fun z => w2.2.2.2.2.2.2.2.2 ((busy_tie h w2.1 (by rw [e]; exact w2.2.1) e4).mp z)⟩ y3
  · exact absurd ⟨y2.1, by rw [← e]; exact y2.2.1, y2.2.2.1, y2.2.2.2.1, y2.2.2.2.2.1, y2.2.2.2.2.2.1, y2.2.2.2.2.2.2.1, y2.2.2.2.2.2.2.2.1, fun z => y2.2.2.2.2.2.2.2.2 ((busy_tie h y2.1 y2.2.1 e4).mpr z)⟩ w3
  · exact ⟨by omega, _, n, TN_net h hk y3 w3 y4 w4 (fun v hv => k1 v (fun z => by revert hv z; revert v; decide)) (fun v hv => k2 v (fun z => by revert hv z; revert v; decide)) (Nat.le_refl _) (fun c hc => rfl) (cap_set h.2.2.2.1.2.2.1 y5 w5) (far_set h.2.2.2.1.2.2.2 y6 w6)⟩
theorem snow_N (h : TN σ σM N n k) (hk : k < 1000) (ex : x1.toInt = x2.toInt) (q1 : ((x1.toInt = 0 ∧ σ1 = σ) ∨ (x1.toInt = 1 ∧ NetC σ1 (netN N a.toNatClampNeg b.toNatClampNeg) ∧ σ1 4 0 0 = σ 4 0 0 + 1))) (q2 : ((x2.toInt = 0 ∧ Keep [0] σM σ2) ∨ (x2.toInt = 1 ∧ RepM σ2 (netN N a.toNatClampNeg b.toNatClampNeg) ∧ σ2 17 0 0 = σM 17 0 0 + 1))) (k1 : Keep [29, 2, 4, 8] σ σ1) (k2 : Keep [0, 13, 3, 17] σM σ2) : TNk σ1 σ2 (k + 1) := by
  rcases q1 with ⟨y1, y2⟩ | ⟨y1, y2, y3⟩ <;> rcases q2 with ⟨w1, w2⟩ | ⟨w1, w2, w3⟩
  · rw [y2]; exact ⟨N, n, TN_0 h w2⟩
  · omega
  · omega
  · exact ⟨_, n, TN_net h hk y2 w2 y3 w3 (fun v hv => k1 v (fun z => by revert hv z; revert v; decide)) (fun v hv => k2 v (fun z => by revert hv z; revert v; decide)) (Nat.le_refl _) (fun c hc => rfl) (cap_same h.2.2.2.1.2.2.1 (k1 23 (by decide)) (k2 7 (by decide))) (far_same h.2.2.2.1.2.2.2 (k1 24 (by decide)) (k2 8 (by decide)))⟩
theorem parcel_N (h : TN σ σM N n k) (e : (σ 0 0 0).toInt = (σM 4 0 0).toInt) (q1 : (((x1.toInt = -1 ∧ σ1 0 = σ 0 ∧ ¬ (0 ≤ a.toInt ∧ a.toInt ≤ 11 ∧ 0 ≤ b.toInt ∧ b.toInt ≤ 11 ∧ a.toInt ≠ b.toInt ∧ 1 ≤ z.toInt ∧ z.toInt ≤ 20 ∧ (σ 0 0 0).toInt < 60)) ∨ ((0 ≤ a.toInt ∧ a.toInt ≤ 11 ∧ 0 ≤ b.toInt ∧ b.toInt ≤ 11 ∧ a.toInt ≠ b.toInt ∧ 1 ≤ z.toInt ∧ z.toInt ≤ 20 ∧ (σ 0 0 0).toInt < 60) ∧ x1.toInt = (σ 0 0 0).toInt ∧ (σ1 0 0 0).toInt = (σ 0 0 0).toInt + 1)) ∧ ((x1.toInt = -1 ∧ σ1 = σ) ∨ (x1.toInt ≠ -1 ∧ pC σ1 = gvA (pC σ) (σ 0 0 0).toNatClampNeg a b z)))) (q2 : (((x2.toInt = -1 ∧ σ2 4 = σM 4 ∧ ¬ (0 ≤ a.toInt ∧ a.toInt ≤ 11 ∧ 0 ≤ b.toInt ∧ b.toInt ≤ 11 ∧ a.toInt ≠ b.toInt ∧ 1 ≤ z.toInt ∧ z.toInt ≤ 20 ∧ (σM 4 0 0).toInt < 60)) ∨ ((0 ≤ a.toInt ∧ a.toInt ≤ 11 ∧ 0 ≤ b.toInt ∧ b.toInt ≤ 11 ∧ a.toInt ≠ b.toInt ∧ 1 ≤ z.toInt ∧ z.toInt ≤ 20 ∧ (σM 4 0 0).toInt < 60) ∧ x2.toInt = (σM 4 0 0).toInt ∧ (σ2 4 0 0).toInt = (σM 4 0 0).toInt + 1)) ∧ ((x2.toInt = -1 ∧ Keep [0] σM σ2) ∨ (x2.toInt ≠ -1 ∧ pM σ2 = gvA (pM σM) (σM 4 0 0).toNatClampNeg a b z)))) (k1 : Keep [0, 34, 32, 33] σ σ1) (k2 : Keep [0, 18, 19, 20, 21, 22, 23, 25, 4] σM σ2) : TNk σ1 σ2 (k + 1) := by
  have hn := h.2.2.1
  have hc := cl_eq (j := σ 0 0 0) (by omega)
  have hc2 := cl_eq (j := σM 4 0 0) (by omega)
  rcases q1 with ⟨y1, ⟨y2, y3⟩ | ⟨y2, y3⟩⟩ <;> rcases q2 with ⟨w1, ⟨w2, w3⟩ | ⟨w2, w3⟩⟩
  · rw [y3]; exact ⟨N, n, TN_0 h w3⟩
  · exfalso
    rcases y1 with ⟨-, -, y1⟩ | ⟨y1, y7, -⟩
    · rcases w1 with ⟨w1, -⟩ | ⟨w1, -⟩
      · omega
      · exact y1 (by rw [e]; exact w1)
    · omega
  · exfalso
    rcases w1 with ⟨-, -, w1⟩ | ⟨w1, w7, -⟩
    · rcases y1 with ⟨y1, -⟩ | ⟨y1, -⟩
      · omega
      · exact w1 (by rw [← e]; exact y1)
    · omega
  · rcases y1 with ⟨y1, -⟩ | ⟨⟨g1, g2, g3, g4, g5, g6, g7, g8⟩, y7, y8⟩
    · omega
    · obtain ⟨⟨a1, a2, a3⟩, a4, a5, ⟨a6, a7, a8, a9⟩, a10, a11, a12⟩ := h
      rw [show (σ 0 0 0).toNatClampNeg = n by omega] at y3
      rw [show (σM 4 0 0).toNatClampNeg = n by omega] at w3
      refine ⟨N, n + 1, ⟨NetC_k a1 k1 (by decide), RepM_k a2 k2 (by decide), KepM_of a3 (fun v hv => k2 v (fun z => by revert hv z; revert v; decide))⟩, ?_, by omega, ⟨by rw [y3, w3, a6], by rw [eC_of (k1 25 (by decide)), eM_of (k2 10 (by decide))]; exact a7, cap_same a8 (k1 23 (by decide)) (k2 7 (by decide)), far_same a9 (k1 24 (by decide)) (k2 8 (by decide))⟩, by rw [k2 26 (by decide)]; exact fun i hi => a10 i (by omega), by rw [k1 4 (by decide)]; omega, by rw [k2 17 (by decide)]; omega⟩
      rw [k1 1 (by decide)]
      exact PaC_gv a4 y3 (fun v hv => k1 v (fun z => by revert hv z; revert v; decide)) (by omega) ⟨g1, g2⟩ ⟨g3, g4⟩ ⟨g6, g7⟩
theorem tick_N (h : TN σ σM N n k) (e : (σ 1 0 0).toInt = (σM 1 0 0).toInt) (hnow : 0 ≤ (σ 1 0 0).toInt) (q1 : (((x1.toInt = -1 ∧ σ1 1 = σ 1 ∧ ¬ (0 ≤ n9.toInt ∧ n9.toInt ≤ 500 ∧ n9.toInt + (σ 1 0 0).toInt ≤ 5000)) ∨ ((0 ≤ n9.toInt ∧ n9.toInt ≤ 500 ∧ n9.toInt + (σ 1 0 0).toInt ≤ 5000) ∧ x1.toInt = (σ 1 0 0).toInt + n9.toInt ∧ (σ1 1 0 0).toInt = (σ 1 0 0).toInt + n9.toInt)) ∧ ((x1.toInt = -1 ∧ σ1 = σ) ∨ (x1.toInt ≠ -1 ∧ tkR N (capC σ) (farC σ) n (σ 1 0 0).toInt (pC σ, eC σ) n9.toNatClampNeg (pC σ1, eC σ1) ∧ PaC σ1 N (σ1 1 0 0).toInt ((σ1 1 0 0).toInt + 1) n)))) (q2 : (((x2.toInt = -1 ∧ σ2 1 = σM 1 ∧ ¬ (0 ≤ n9.toInt ∧ n9.toInt ≤ 500 ∧ n9.toInt + (σM 1 0 0).toInt ≤ 5000)) ∨ ((0 ≤ n9.toInt ∧ n9.toInt ≤ 500 ∧ n9.toInt + (σM 1 0 0).toInt ≤ 5000) ∧ x2.toInt = (σM 1 0 0).toInt + n9.toInt ∧ (σ2 1 0 0).toInt = (σM 1 0 0).toInt + n9.toInt)) ∧ ((x2.toInt = -1 ∧ Keep [0] σM σ2) ∨ (x2.toInt ≠ -1 ∧ tkR N (capM σM) (farM σM) n (σM 1 0 0).toInt (pM σM, eM σM) n9.toNatClampNeg (pM σ2, eM σ2) ∧ KepM σ2 N ∧ ∀ i9 : Nat, n ≤ i9 → σ2 26 0 i9 = σM 26 0 i9)))) (k1 : Keep [1, 30, 25, 34, 39, 35, 36, 37, 38, 5, 9, 41, 42, 43, 31, 40] σ σ1) (k2 : Keep [0, 1, 10, 25, 14, 15, 16, 20, 21, 22, 23, 24, 26] σM σ2) : TNk σ1 σ2 (k + 1) := by
  rcases q1 with ⟨y1, ⟨y2, y3⟩ | ⟨y2, y3, y4⟩⟩ <;> rcases q2 with ⟨w1, ⟨w2, w3⟩ | ⟨w2, w3, w4, w5⟩⟩
  · rw [y3]; exact ⟨N, n, TN_0 h w3⟩
  · exfalso
    rcases y1 with ⟨-, -, y1⟩ | ⟨y1, y7, -⟩
    · rcases w1 with ⟨w1, -⟩ | ⟨w1, -⟩
      · omega
      · exact y1 (by rw [e]; exact w1)
    · omega
  · exfalso
    rcases w1 with ⟨-, -, w1⟩ | ⟨w1, w7, -⟩
    · rcases y1 with ⟨y1, -⟩ | ⟨y1, -⟩
      · omega
      · exact w1 (by rw [← e]; exact y1)
    · omega
  · obtain ⟨⟨a1, a2, a3⟩, a4, a5, ⟨a6, a7, a8, a9⟩, a10, a11, a12⟩ := h
    rw [← a6, ← a7, ← a8, ← a9, ← e] at w3
    have et := tk_1 a1.1.1 _ _ _ y3 w3
    have e1 : pC σ1 = pM σ2 := congrArg Prod.fst et
    have e2 : eC σ1 = eM σ2 := congrArg Prod.snd et
    exact ⟨N, n, ⟨NetC_k a1 k1 (by decide), RepM_k a2 k2 (by decide), w4⟩, y4, by rw [k1 0 (by decide)]; exact a5, ⟨e1, e2, cap_same a8 (k1 23 (by decide)) (k2 7 (by decide)), far_same a9 (k1 24 (by decide)) (k2 8 (by decide))⟩, fun i hi hi2 => by rw [w5 i hi]; exact a10 i hi hi2, by rw [k1 4 (by decide)]; omega, by rw [k2 17 (by decide)]; omega⟩
theorem soon_N (q1 : ((x1.toInt = -1 ∧ ¬ (0 ≤ a.toInt ∧ a.toInt ≤ 11 ∧ 0 ≤ b.toInt ∧ b.toInt ≤ 6000 ∧ 0 ≤ z.toInt ∧ z.toInt ≤ 11)) ∨ ((0 ≤ a.toInt ∧ a.toInt ≤ 11 ∧ 0 ≤ b.toInt ∧ b.toInt ≤ 6000 ∧ 0 ≤ z.toInt ∧ z.toInt ≤ 11) ∧ sooQ N a.toNatClampNeg b.toInt (b.toInt + 336) z.toNatClampNeg x1))) (q2 : ((x2.toInt = -1 ∧ ¬ (0 ≤ a.toInt ∧ a.toInt ≤ 11 ∧ 0 ≤ b.toInt ∧ b.toInt ≤ 6000 ∧ 0 ≤ z.toInt ∧ z.toInt ≤ 11)) ∨ ((0 ≤ a.toInt ∧ a.toInt ≤ 11 ∧ 0 ≤ b.toInt ∧ b.toInt ≤ 6000 ∧ 0 ≤ z.toInt ∧ z.toInt ≤ 11) ∧ sooQ N a.toNatClampNeg b.toInt (b.toInt + 336) z.toNatClampNeg x2))) : x1.toInt = x2.toInt := by
  rcases q1 with ⟨y1, y2⟩ | ⟨y1, y2⟩ <;> rcases q2 with ⟨w1, w2⟩ | ⟨w1, w2⟩
  · omega
  · exact absurd w1 y2
  · exact absurd y1 w2
  · exact sooQ_1 y2 w2
theorem cut_N (e : (σ 3 0 0).toInt = (σM 2 0 0).toInt) (q1 : ((x1.toInt = -1 ∧ ¬ (0 ≤ a.toInt ∧ a.toInt < (σ 3 0 0).toInt ∧ 0 ≤ b.toInt ∧ b.toInt ≤ 6000 ∧ 0 ≤ z.toInt ∧ z.toInt ≤ 11)) ∨ ((0 ≤ a.toInt ∧ a.toInt < (σ 3 0 0).toInt ∧ 0 ≤ b.toInt ∧ b.toInt ≤ 6000 ∧ 0 ≤ z.toInt ∧ z.toInt ≤ 11) ∧ cuP N a.toInt b.toInt z.toNatClampNeg x1))) (q2 : ((x2.toInt = -1 ∧ ¬ (0 ≤ a.toInt ∧ a.toInt < (σM 2 0 0).toInt ∧ 0 ≤ b.toInt ∧ b.toInt ≤ 6000 ∧ 0 ≤ z.toInt ∧ z.toInt ≤ 11)) ∨ ((0 ≤ a.toInt ∧ a.toInt < (σM 2 0 0).toInt ∧ 0 ≤ b.toInt ∧ b.toInt ≤ 6000 ∧ 0 ≤ z.toInt ∧ z.toInt ≤ 11) ∧ cuP N a.toInt b.toInt z.toNatClampNeg x2))) : x1.toInt = x2.toInt := by
  rcases q1 with ⟨y1, y2⟩ | ⟨y1, y2⟩ <;> rcases q2 with ⟨w1, w2⟩ | ⟨w1, w2⟩
  · omega
  · exact absurd w1 (by rw [← e]; exact y2)
  · exact absurd y1 (by rw [e]; exact w2)
  · rw [cu_1 y2 w2]
theorem runs_N (e : (σ 3 0 0).toInt = (σM 2 0 0).toInt) (q1 : ((x1.toInt = -1 ∧ ¬ (0 ≤ a.toInt ∧ a.toInt < (σ 3 0 0).toInt ∧ 0 ≤ b.toInt ∧ b.toInt ≤ 300)) ∨ ((0 ≤ a.toInt ∧ a.toInt < (σ 3 0 0).toInt ∧ 0 ≤ b.toInt ∧ b.toInt ≤ 300) ∧ ((x1.toInt = 1 ∧ runN N a.toNatClampNeg b.toNatClampNeg) ∨ (x1.toInt = 0 ∧ ¬ runN N a.toNatClampNeg b.toNatClampNeg))))) (q2 : ((x2.toInt = -1 ∧ ¬ (0 ≤ a.toInt ∧ a.toInt < (σM 2 0 0).toInt ∧ 0 ≤ b.toInt ∧ b.toInt ≤ 300)) ∨ ((0 ≤ a.toInt ∧ a.toInt < (σM 2 0 0).toInt ∧ 0 ≤ b.toInt ∧ b.toInt ≤ 300) ∧ ((x2.toInt = 1 ∧ runN N a.toNatClampNeg b.toNatClampNeg) ∨ (x2.toInt = 0 ∧ ¬ runN N a.toNatClampNeg b.toNatClampNeg))))) : x1.toInt = x2.toInt := by
  rcases q1 with ⟨y1, y2⟩ | ⟨y1, y2⟩ <;> rcases q2 with ⟨w1, w2⟩ | ⟨w1, w2⟩
  · omega
  · exact absurd w1 (by rw [← e]; exact y2)
  · exact absurd y1 (by rw [e]; exact w2)
  · rcases y2 with ⟨u1, u2⟩ | ⟨u1, u2⟩ <;> rcases w2 with ⟨v1, v2⟩ | ⟨v1, v2⟩
    · omega
    · exact absurd u2 v2
    · exact absurd v2 u2
    · omega
theorem fares_N (h : TN σ σM N n k) (e : (σ 3 0 0).toInt = (σM 2 0 0).toInt) (q1 : ((x1.toInt = -1 ∧ ¬ (0 ≤ a.toInt ∧ a.toInt < (σ 3 0 0).toInt)) ∨ ((0 ≤ a.toInt ∧ a.toInt < (σ 3 0 0).toInt) ∧ x1 = eC σ a.toNatClampNeg))) (q2 : ((x2.toInt = -1 ∧ ¬ (0 ≤ a.toInt ∧ a.toInt < (σM 2 0 0).toInt)) ∨ ((0 ≤ a.toInt ∧ a.toInt < (σM 2 0 0).toInt) ∧ x2 = eM σM a.toNatClampNeg))) : x1.toInt = x2.toInt := by
  rcases q1 with ⟨y1, y2⟩ | ⟨y1, y2⟩ <;> rcases q2 with ⟨w1, w2⟩ | ⟨w1, w2⟩
  · omega
  · exact absurd w1 (by rw [← e]; exact y2)
  · exact absurd y1 (by rw [e]; exact w2)
  · rw [y2, w2, h.2.2.2.1.2.1]
theorem waiting_N (h : TN σ σM N n k) (e : (σ 0 0 0).toInt = (σM 4 0 0).toInt) (q1 : ((x1.toInt = -1 ∧ ¬ (0 ≤ a.toInt ∧ a.toInt ≤ 11)) ∨ ((0 ≤ a.toInt ∧ a.toInt ≤ 11) ∧ x1 = cnB (fun i => decide (pC σ i 2 = a ∧ pC σ i 7 = -1)) (σ 0 0 0).toNatClampNeg))) (q2 : ((x2.toInt = -1 ∧ ¬ (0 ≤ a.toInt ∧ a.toInt ≤ 11)) ∨ ((0 ≤ a.toInt ∧ a.toInt ≤ 11) ∧ x2 = cnB (fun i => decide (pM σM i 2 = a ∧ pM σM i 7 = -1)) (σM 4 0 0).toNatClampNeg))) : x1.toInt = x2.toInt := by
  rcases q1 with ⟨y1, y2⟩ | ⟨y1, y2⟩ <;> rcases q2 with ⟨w1, w2⟩ | ⟨w1, w2⟩
  · omega
  · exact absurd w1 y2
  · exact absurd y1 w2
  · rw [y2, w2, h.2.2.2.1.1, cl_same e]
theorem bc_9 : ∀ x : Fin 256, bcF (nI x.val) = cnB (fun i => decide (i ≠ 0 ∧ (nI x.val).toBitVec.getLsbD (i - 1) = true)) 9 := by decide +kernel
theorem cnB_ext {p q : Nat → Bool} : ∀ n, (∀ i, i < n → (p i = true ↔ q i = true)) → cnB p n = cnB q n
  | 0, _ => rfl
  | n + 1, h => by
    have ih := cnB_ext n (fun i hi => h i (by omega))
    have h1 := h n (by omega)
    simp only [cnB, ih, h1]
theorem count_N (h : TN σ σM N n k) (hI : InvC σ) (e0 : (σ 0 0 0).toInt = (σM 4 0 0).toInt) (e1 : (σ 1 0 0).toInt = (σM 1 0 0).toInt) (e3 : (σ 3 0 0).toInt = (σM 2 0 0).toInt) (e2 : (σ 2 0 0).toInt = (σM 3 0 0).toInt) (hL : ∀ s : Nat, 1 ≤ s → s ≤ 8 → (hasS (σ 15 0 0) s ↔ σM 32 0 s ≠ 0)) (h0 : σM 32 0 0 = 0) (q1 : ((a.toInt = 0 → x1 = σ 1 0 0) ∧ (a.toInt = 1 → x1 = σ 3 0 0) ∧ (a.toInt = 2 → x1 = σ 0 0 0) ∧ (a.toInt = 3 → x1 = cnB (fun i => decide (pC σ i 7 ≠ -1)) (σ 0 0 0).toNatClampNeg) ∧ (a.toInt = 4 → x1 = cnB (fun i => decide (pC σ i 3 ≠ -1)) (σ 0 0 0).toNatClampNeg) ∧ (a.toInt = 5 → x1 = σ 2 0 0) ∧ (a.toInt = 6 → x1 = smI (eC σ) (σ 3 0 0).toNatClampNeg) ∧ (a.toInt = 7 → x1 = bcF (σ 15 0 0)) ∧ ((a.toInt < 0 ∨ 7 < a.toInt) → x1.toInt = -1))) (q2 : ((a.toInt = 0 → x2 = σM 1 0 0) ∧ (a.toInt = 1 → x2 = σM 2 0 0) ∧ (a.toInt = 2 → x2 = σM 4 0 0) ∧ (a.toInt = 3 → x2 = cnB (fun i => decide (pM σM i 7 ≠ -1)) (σM 4 0 0).toNatClampNeg) ∧ (a.toInt = 4 → x2 = cnB (fun i => decide (pM σM i 3 ≠ -1)) (σM 4 0 0).toNatClampNeg) ∧ (a.toInt = 5 → x2 = σM 3 0 0) ∧ (a.toInt = 6 → x2 = smI (eM σM) (σM 2 0 0).toNatClampNeg) ∧ (a.toInt = 7 → x2 = cnB (fun i => decide (σM 32 0 i ≠ 0)) 9) ∧ ((a.toInt < 0 ∨ 7 < a.toInt) → x2.toInt = -1))) : x1.toInt = x2.toInt := by
  obtain ⟨y0, y1, y2, y3, y4, y5, y6, y7, y8⟩ := q1
  obtain ⟨w0, w1, w2, w3, w4, w5, w6, w7, w8⟩ := q2
  have hp := h.2.2.2.1.1
  have he := h.2.2.2.1.2.1
  by_cases c0 : a.toInt = 0
  · rw [y0 c0, w0 c0]; exact e1
  by_cases c1 : a.toInt = 1
  · rw [y1 c1, w1 c1]; exact e3
  by_cases c2 : a.toInt = 2
  · rw [y2 c2, w2 c2]; exact e0
  by_cases c3 : a.toInt = 3
  · rw [y3 c3, w3 c3, hp, cl_same e0]
  by_cases c4 : a.toInt = 4
  · rw [y4 c4, w4 c4, hp, cl_same e0]
  by_cases c5 : a.toInt = 5
  · rw [y5 c5, w5 c5]; exact e2
  by_cases c6 : a.toInt = 6
  · rw [y6 c6, w6 c6, he, cl_same e3]
  by_cases c7 : a.toInt = 7
  · rw [y7 c7, w7 c7]
    have hb : 0 ≤ (σ 15 0 0).toInt ∧ (σ 15 0 0).toInt ≤ 255 := hI.1 15 0 0
    have hc := cl_eq hb.1
    have hx := nI_at hb.1
    have h9 := bc_9 ⟨(σ 15 0 0).toNatClampNeg, by omega⟩
    simp only at h9
    rw [← hx] at h9
    rw [h9]
    refine congrArg Int32.toInt (cnB_ext 9 (fun i hi => ?_))
    simp only [decide_eq_true_eq]
    rcases Nat.eq_zero_or_pos i with y | y
    · subst y
      exact ⟨fun z => absurd rfl z.1, fun z => absurd h0 z⟩
    · rw [← hL i y (by omega)]
      exact ⟨fun z => z.2, fun z => ⟨by omega, z⟩⟩
  rw [y8 (by omega), w8 (by omega)]
/-! at the start -/
end TT
def net0 : Net := (0, fun _ => 0, fun _ => 0, fun _ => 0, fun _ _ => 0, fun _ _ => 0, fun _ _ => False)
