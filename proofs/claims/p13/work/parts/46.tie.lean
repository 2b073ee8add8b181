/-! snow on both sides -/
def TSn (c2 c29 m3 m13 : Nat → Nat → Int32) : Prop := (c2 0 0).toInt = (m3 0 0).toInt ∧ (c2 0 0).toInt ≤ 100 ∧ ∀ c n : Nat, c < 12 → n ≤ 300 → (snB (c29 c) (nI n) ≠ 0 ↔ m13 0 (301 * c + n) ≠ 0)
theorem snow_tie {σ σ1 σM σ2 : QS} {a b x1 x2 : Int32} (hC : (σ 3 0 0).toInt ≤ 12) (hN : 0 ≤ (σ 1 0 0).toInt) (e1 : (σ 1 0 0).toInt = (σM 1 0 0).toInt) (e3 : (σ 3 0 0).toInt = (σM 2 0 0).toInt) (hS : TSn (σ 2) (σ 29) (σM 3) (σM 13))
    (q1 : (x1.toInt = 0 ∧ σ1 29 = σ 29 ∧ σ1 2 = σ 2 ∧ ¬ (0 ≤ a.toInt ∧ a.toInt < (σ 3 0 0).toInt ∧ (σ 1 0 0).toInt / 24 + 1 ≤ b.toInt ∧ b.toInt ≤ 300 ∧ (σ 2 0 0).toInt < 100 ∧ snB (σ 29 a.toNatClampNeg) b = 0)) ∨ (x1.toInt = 1 ∧ (0 ≤ a.toInt ∧ a.toInt < (σ 3 0 0).toInt ∧ (σ 1 0 0).toInt / 24 + 1 ≤ b.toInt ∧ b.toInt ≤ 300 ∧ (σ 2 0 0).toInt < 100 ∧ snB (σ 29 a.toNatClampNeg) b = 0) ∧ (σ1 2 0 0).toInt = (σ 2 0 0).toInt + 1 ∧ σ1 29 = rs σ 29 a.toNatClampNeg (snA (σ 29 a.toNatClampNeg) b) 29))
    (q2 : (x2.toInt = 0 ∧ σ2 13 = σM 13 ∧ σ2 3 = σM 3 ∧ ¬ (0 ≤ a.toInt ∧ a.toInt < (σM 2 0 0).toInt ∧ (σM 1 0 0).toInt / 24 + 1 ≤ b.toInt ∧ b.toInt ≤ 300 ∧ (σM 3 0 0).toInt ≠ 100 ∧ σM 13 0 (301 * a.toNatClampNeg + b.toNatClampNeg) = 0)) ∨ (x2.toInt = 1 ∧ (0 ≤ a.toInt ∧ a.toInt < (σM 2 0 0).toInt ∧ (σM 1 0 0).toInt / 24 + 1 ≤ b.toInt ∧ b.toInt ≤ 300 ∧ (σM 3 0 0).toInt ≠ 100 ∧ σM 13 0 (301 * a.toNatClampNeg + b.toNatClampNeg) = 0) ∧ (σ2 3 0 0).toInt = (σM 3 0 0).toInt + 1 ∧ σ2 13 = rs σM 13 0 (upd (σM 13 0) (301 * a.toNatClampNeg + b.toNatClampNeg) 1) 13)) :
    x1.toInt = x2.toInt ∧ TSn (σ1 2) (σ1 29) (σ2 3) (σ2 13) := by
  obtain ⟨s1, s2, s3⟩ := id hS
  have bit : 0 ≤ a.toInt → a.toInt < (σ 3 0 0).toInt → 0 ≤ b.toInt → b.toInt ≤ 300 → (snB (σ 29 a.toNatClampNeg) b = 0 ↔ σM 13 0 (301 * a.toNatClampNeg + b.toNatClampNeg) = 0) := by
    intro g1 g2 g3 g4
    have h1 := cl_eq g1
    have h2 := cl_eq g3
    have h3 := s3 a.toNatClampNeg b.toNatClampNeg (by omega) (by omega)
    rw [← nI_at g3] at h3
    exact ⟨fun h => Classical.byContradiction fun h9 => (h3.mpr h9) h, fun h => Classical.byContradiction fun h9 => (h3.mp h9) h⟩
  have key : (0 ≤ a.toInt ∧ a.toInt < (σ 3 0 0).toInt ∧ (σ 1 0 0).toInt / 24 + 1 ≤ b.toInt ∧ b.toInt ≤ 300 ∧ (σ 2 0 0).toInt < 100 ∧ snB (σ 29 a.toNatClampNeg) b = 0) ↔ (0 ≤ a.toInt ∧ a.toInt < (σM 2 0 0).toInt ∧ (σM 1 0 0).toInt / 24 + 1 ≤ b.toInt ∧ b.toInt ≤ 300 ∧ (σM 3 0 0).toInt ≠ 100 ∧ σM 13 0 (301 * a.toNatClampNeg + b.toNatClampNeg) = 0) := by
    constructor
    · rintro ⟨g1, g2, g3, g4, g5, g6⟩
      exact ⟨g1, by omega, by omega, g4, by omega, (bit g1 g2 (by omega) g4).mp g6⟩
    · rintro ⟨g1, g2, g3, g4, g5, g6⟩
      exact ⟨g1, by omega, by omega, g4, by omega, (bit g1 (by omega) (by omega) g4).mpr g6⟩
  rcases q1 with ⟨u1, u2, u3, u4⟩ | ⟨u1, u2, u3, u4⟩ <;> rcases q2 with ⟨w1, w2, w3, w4⟩ | ⟨w1, w2, w3, w4⟩
  · exact ⟨by rw [u1, w1], by rw [u2, u3, w2, w3]; exact hS⟩
  · exact absurd (key.mpr w2) u4
  · exact absurd (key.mp u2) w4
  · obtain ⟨g1, g2, g3, g4, g5, g6⟩ := u2
    have h1 := cl_eq g1
    have h2 := cl_eq (j := b) (by omega)
    refine ⟨by rw [u1, w1], by omega, by omega, fun c n hc hn => ?_⟩
    rw [u4, w4, rs_self]
    by_cases hca : c = a.toNatClampNeg
    · subst hca
      have hb : b = nI b.toNatClampNeg := nI_at (by omega)
      rw [rs_self, show snA (σ 29 a.toNatClampNeg) b = snA (σ 29 a.toNatClampNeg) (nI b.toNatClampNeg) by rw [← hb], sn_add hn (by omega)]
      unfold upd
      by_cases hnb : n = b.toNatClampNeg
      · rw [if_pos (by rw [hnb])]
        exact ⟨fun _ => by decide, fun _ => Or.inl hnb⟩
      · rw [if_neg (by omega), ← s3 _ n hc hn]
        exact ⟨fun h => h.resolve_left hnb, fun h => Or.inr h⟩
    · rw [rs_i hca]
      unfold upd
      rw [if_neg (by omega)]
      exact s3 c n hc hn
theorem snow_0 (u : tN) (v : (Nat → Nat) × (Nat → Int32)) : TSn (sN u 2) (sN u 29) (sM v 3) (sM v 13) := by
  refine ⟨rfl, (by show (0 : Int32).toInt ≤ 100; decide), fun c n hc hn => ?_⟩
  have h1 : sN u 29 c = fun _ => 0 := rfl
  have h2 : sM v 13 0 (301 * c + n) = 0 := rfl
  rw [h1, h2, sn_at hn]
  constructor
  · intro h
    exact absurd h (by show ¬ (BitVec.getLsbD (0#32) _ = true); simp)
  · intro h
    exact absurd rfl h
/-! errands on both sides -/
def eOk (σ : QS) (τ : Int64) : Prop := ((σ 16 0 0 ≠ 0 → waysOk (wkC (σ 11 0)) (mnC (σ 12 0)) (σ 15 0 0) (σ 14 0) 256) ∧ ((σ 17 0 0).toInt = -1 ∨ chRec (wkC (σ 11 0)) (mnC (σ 12 0)) (mnC (σ 13 0)) (σ 15 0 0) (σ 17 0 0).toInt 256 (σ 18 0 0) (σ 19 0 0).toInt (σ 20 0 0).toInt τ.toInt))
def TEr (σ : QS) (τ : Int64) (σM : QS) : Prop := eOk σ τ ∧ (∀ a b : Nat, a ≤ 8 → b ≤ 8 → a ≠ b → σ 11 0 (9 * a + b) = σM 27 0 (9 * a + b)) ∧ ∀ s : Nat, 1 ≤ s → s ≤ 8 → σ 12 0 s = σM 28 0 s ∧ σ 13 0 s = σM 29 0 s ∧ (hasS (σ 15 0 0) s ↔ σM 32 0 s ≠ 0)
theorem TEr_of {σ σ' σM σM' : QS} {τ : Int64} (h : TEr σ τ σM) (h1 : ∀ v ∈ [11, 12, 13, 14, 15, 16, 17, 18, 19, 20], σ' v = σ v) (h2 : ∀ v ∈ [27, 28, 29, 32], σM' v = σM v) : TEr σ' τ σM' := by
  unfold TEr eOk at h ⊢
  rw [h1 11 (by decide), h1 12 (by decide), h1 13 (by decide), h1 14 (by decide), h1 15 (by decide), h1 16 (by decide), h1 17 (by decide), h1 18 (by decide), h1 19 (by decide), h1 20 (by decide), h2 27 (by decide), h2 28 (by decide), h2 29 (by decide), h2 32 (by decide)]
  exact h
theorem eOk_new {σ : QS} {τ : Int64} (h : σ 16 0 0 = 0 ∧ σ 17 0 0 = -1) : eOk σ τ := ⟨fun z => absurd h.1 z, Or.inl (by rw [h.2]; decide)⟩
theorem upd_same {f g : Nat → Int32} {i j : Nat} {x : Int32} (h : f j = g j) : upd f i x j = upd g i x j := by
  unfold upd
  by_cases q : j = i
  · rw [if_pos q, if_pos q]
  · rw [if_neg q, if_neg q]; exact h
section TE
variable {σ σ1 σM σ2 : QS} {τ τ1 : Int64} {a b z x1 x2 : Int32}
theorem walk_tie (hT : TEr σ τ σM) (hk : ∀ v ∈ [12, 13, 15], σ1 v = σ v) (hm : ∀ v ∈ [28, 29, 32], σ2 v = σM v) (hs : ∀ v ∈ [14, 18, 19, 20], σ1 v = σ v)
    (q1 : (x1.toInt = 1 ∧ (0 ≤ a.toInt ∧ a.toInt ≤ 8 ∧ 0 ≤ b.toInt ∧ b.toInt ≤ 8 ∧ a.toInt ≠ b.toInt ∧ 0 ≤ z.toInt ∧ z.toInt ≤ 60) ∧ σ1 11 0 = upd (upd (σ 11 0) (9 * a.toNatClampNeg + b.toNatClampNeg) z) (9 * b.toNatClampNeg + a.toNatClampNeg) z ∧ σ1 16 0 0 = 0 ∧ σ1 17 0 0 = -1) ∨ (x1.toInt = 0 ∧ ¬ (0 ≤ a.toInt ∧ a.toInt ≤ 8 ∧ 0 ≤ b.toInt ∧ b.toInt ≤ 8 ∧ a.toInt ≠ b.toInt ∧ 0 ≤ z.toInt ∧ z.toInt ≤ 60) ∧ σ1 11 = σ 11 ∧ σ1 16 = σ 16 ∧ σ1 17 = σ 17))
    (q2 : (x2.toInt = 1 ∧ (0 ≤ a.toInt ∧ a.toInt ≤ 8 ∧ 0 ≤ b.toInt ∧ b.toInt ≤ 8 ∧ a.toInt ≠ b.toInt ∧ 0 ≤ z.toInt ∧ z.toInt ≤ 60) ∧ σ2 27 0 = upd (upd (σM 27 0) (9 * a.toNatClampNeg + b.toNatClampNeg) z) (9 * b.toNatClampNeg + a.toNatClampNeg) z) ∨ (x2.toInt = 0 ∧ ¬ (0 ≤ a.toInt ∧ a.toInt ≤ 8 ∧ 0 ≤ b.toInt ∧ b.toInt ≤ 8 ∧ a.toInt ≠ b.toInt ∧ 0 ≤ z.toInt ∧ z.toInt ≤ 60) ∧ σ2 27 = σM 27)) :
    x1.toInt = x2.toInt ∧ TEr σ1 τ σ2 := by
  rcases q1 with ⟨u1, u2, u3, u4⟩ | ⟨u1, u2, u3, u4, u5⟩ <;> rcases q2 with ⟨w1, w2, w3⟩ | ⟨w1, w2, w3⟩
  · refine ⟨by rw [u1, w1], eOk_new u4, fun c d hc hd hcd => ?_, fun s h1 h8 => ?_⟩
    · rw [u3, w3]
      exact upd_same (upd_same (hT.2.1 c d hc hd hcd))
    · rw [hk 12 (by decide), hk 13 (by decide), hk 15 (by decide), hm 28 (by decide), hm 29 (by decide), hm 32 (by decide)]
      exact hT.2.2 s h1 h8
  · exact absurd u2 w2
  · exact absurd w2 u2
  · refine ⟨by rw [u1, w1], TEr_of hT (fun v hv => ?_) (fun v hv => ?_)⟩
    · simp only [List.mem_cons, List.not_mem_nil, or_false] at hv
      rcases hv with rfl | rfl | rfl | rfl | rfl | rfl | rfl | rfl | rfl | rfl <;> first | exact u3 | exact u4 | exact u5 | exact hk _ (by decide) | exact hs _ (by decide)
    · simp only [List.mem_cons, List.not_mem_nil, or_false] at hv
      rcases hv with rfl | rfl | rfl | rfl <;> first | exact w3 | exact hm _ (by decide)
theorem errand_tie (hT : TEr σ τ σM) (hk : ∀ v ∈ [11, 14, 18, 19, 20], σ1 v = σ v) (hm : ∀ v ∈ [27], σ2 v = σM v)
    (q1 : (x1.toInt = 1 ∧ (1 ≤ a.toInt ∧ a.toInt ≤ 8 ∧ 0 ≤ b.toInt ∧ b.toInt ≤ 60 ∧ 0 ≤ z.toInt ∧ z.toInt ≤ 100) ∧ σ1 15 0 0 = (σ 15 0 0 ||| bI a) ∧ σ1 12 0 = upd (σ 12 0) a.toNatClampNeg b ∧ σ1 13 0 = upd (σ 13 0) a.toNatClampNeg z ∧ σ1 16 0 0 = 0 ∧ σ1 17 0 0 = -1) ∨ (x1.toInt = 0 ∧ ¬ (1 ≤ a.toInt ∧ a.toInt ≤ 8 ∧ 0 ≤ b.toInt ∧ b.toInt ≤ 60 ∧ 0 ≤ z.toInt ∧ z.toInt ≤ 100) ∧ σ1 15 = σ 15 ∧ σ1 12 = σ 12 ∧ σ1 13 = σ 13 ∧ σ1 16 = σ 16 ∧ σ1 17 = σ 17))
    (q2 : (x2.toInt = 1 ∧ (1 ≤ a.toInt ∧ a.toInt ≤ 8 ∧ 0 ≤ b.toInt ∧ b.toInt ≤ 60 ∧ 0 ≤ z.toInt ∧ z.toInt ≤ 100) ∧ σ2 28 0 = upd (σM 28 0) a.toNatClampNeg b ∧ σ2 29 0 = upd (σM 29 0) a.toNatClampNeg z ∧ σ2 32 0 = upd (σM 32 0) a.toNatClampNeg 1) ∨ (x2.toInt = 0 ∧ ¬ (1 ≤ a.toInt ∧ a.toInt ≤ 8 ∧ 0 ≤ b.toInt ∧ b.toInt ≤ 60 ∧ 0 ≤ z.toInt ∧ z.toInt ≤ 100) ∧ σ2 28 = σM 28 ∧ σ2 29 = σM 29 ∧ σ2 32 = σM 32)) :
    x1.toInt = x2.toInt ∧ TEr σ1 τ σ2 := by
  rcases q1 with ⟨u1, u2, u3, u4, u5, u6⟩ | ⟨u1, u2, u3, u4, u5, u6, u7⟩ <;> rcases q2 with ⟨w1, w2, w3, w4, w5⟩ | ⟨w1, w2, w3, w4, w5⟩
  · refine ⟨by rw [u1, w1], eOk_new u6, fun c d hc hd hcd => ?_, fun s h1 h8 => ?_⟩
    · rw [hk 11 (by decide), hm 27 (by decide)]
      exact hT.2.1 c d hc hd hcd
    · have h9 := hT.2.2 s h1 h8
      rw [u3, u4, u5, w3, w4, w5]
      refine ⟨upd_same h9.1, upd_same h9.2.1, ?_⟩
      rw [has_or (by omega) (by omega) h1 h8, h9.2.2]
      unfold upd
      by_cases q : s = a.toNatClampNeg
      · rw [if_pos q]
        exact ⟨fun _ => by decide, fun _ => Or.inr q⟩
      · rw [if_neg q]
        exact ⟨fun y => y.resolve_right q, fun y => Or.inl y⟩
  · exact absurd u2 w2
  · exact absurd w2 u2
  · refine ⟨by rw [u1, w1], TEr_of hT (fun v hv => ?_) (fun v hv => ?_)⟩
    · simp only [List.mem_cons, List.not_mem_nil, or_false] at hv
      rcases hv with rfl | rfl | rfl | rfl | rfl | rfl | rfl | rfl | rfl | rfl <;> first | exact u3 | exact u4 | exact u5 | exact u6 | exact u7 | exact hk _ (by decide)
    · simp only [List.mem_cons, List.not_mem_nil, or_false] at hv
      rcases hv with rfl | rfl | rfl | rfl <;> first | exact w3 | exact w4 | exact w5 | exact hm _ (by decide)
theorem clear_tie (hT : TEr σ τ σM) (hk : ∀ v ∈ [11, 12, 13], σ1 v = σ v) (hm : ∀ v ∈ [27, 28, 29], σ2 v = σM v) (q1 : σ1 15 0 0 = 0 ∧ σ1 16 0 0 = 0 ∧ σ1 17 0 0 = -1) (q2 : ∀ s : Nat, s ≤ 8 → σ2 32 0 s = 0) : TEr σ1 τ σ2 := by
  refine ⟨eOk_new q1.2, fun c d hc hd hcd => ?_, fun s h1 h8 => ?_⟩
  · rw [hk 11 (by decide), hm 27 (by decide)]
    exact hT.2.1 c d hc hd hcd
  · have h9 := hT.2.2 s h1 h8
    rw [hk 12 (by decide), hk 13 (by decide), hm 28 (by decide), hm 29 (by decide), q1.1, q2 s h8]
    exact ⟨h9.1, h9.2.1, fun y => absurd y (has_0 s), fun y => absurd rfl y⟩
theorem ezT_tie {w1 w2 : Nat → Nat → Int} {m1 m2 : Nat → Int} (hw : ∀ a b : Nat, a ≤ 8 → b ≤ 8 → a ≠ b → w1 a b = w2 a b) (hm : ∀ s : Nat, 1 ≤ s → s ≤ 8 → m1 s = m2 s) : ∀ (q : List Nat) (a : Nat), a ≤ 8 → a ∉ q → q.Nodup → (∀ s ∈ q, 1 ≤ s ∧ s ≤ 8) → (a ≠ 0 ∨ q ≠ []) → ezT w1 m1 a q = ezT w2 m2 a q
  | [], a, ha, _, _, _, h => by
    rcases h with h | h
    · exact hw a 0 ha (by omega) h
    · exact absurd rfl h
  | s :: q, a, ha, hn, hd, h8, _ => by
    have hs := h8 s List.mem_cons_self
    have hd2 := List.nodup_cons.mp hd
    have ih := ezT_tie hw hm q s hs.2 hd2.1 hd2.2 (fun t ht => h8 t (List.mem_cons_of_mem _ ht)) (Or.inl (by omega))
    simp only [ezT, ih, hm s hs.1 hs.2, hw a s ha hs.2 (fun e => hn (by rw [e]; exact List.mem_cons_self))]
theorem ezW_tie {f g : Nat → Int32} (h : ∀ s : Nat, 1 ≤ s → s ≤ 8 → f s = g s) : ∀ q : List Nat, (∀ s ∈ q, 1 ≤ s ∧ s ≤ 8) → ezW (mnC f) q = ezW (mnC g) q
  | [], _ => by
    show (0 : Int) = 0
    rfl
  | s :: q, h8 => by
    have h9 := h8 s List.mem_cons_self
    have ih := ezW_tie h q (fun t ht => h8 t (List.mem_cons_of_mem _ ht))
    have e : mnC f s = mnC g s := by
      unfold mnC
      rw [h s h9.1 h9.2]
    show mnC f s + ezW (mnC f) q = mnC g s + ezW (mnC g) q
    rw [ih, e]
theorem tot_tie {f11 f12 g27 g28 : Nat → Int32} {L1 : Nat → Prop} (hw : ∀ a b : Nat, a ≤ 8 → b ≤ 8 → a ≠ b → f11 (9 * a + b) = g27 (9 * a + b)) (hs : ∀ s : Nat, 1 ≤ s → s ≤ 8 → f12 s = g28 s) : ∀ q : List Nat, ezOk L1 q → ezTot (wkC f11) (mnC f12) q = ezTot (wkC g27) (mnC g28) q
  | [], _ => by
    show (0 : Int) = 0
    rfl
  | s :: q, hq => by
    have h0 : (0 : Nat) ∉ s :: q := fun z => absurd (hq.2 0 z).1 (by decide)
    have h1 : ∀ a b : Nat, a ≤ 8 → b ≤ 8 → a ≠ b → wkC f11 a b = wkC g27 a b := fun a b x y z => by
      unfold wkC
      rw [hw a b x y z]
    have h2 : ∀ s : Nat, 1 ≤ s → s ≤ 8 → mnC f12 s = mnC g28 s := fun s x y => by
      unfold mnC
      rw [hs s x y]
    exact ezT_tie h1 h2 (s :: q) 0 (Nat.zero_le _) h0 hq.1 (fun t ht => ⟨(hq.2 t ht).1, (hq.2 t ht).2.1⟩) (Or.inr (List.cons_ne_nil _ _))
theorem best_tie {f11 f12 f13 g27 g28 g29 : Nat → Int32} {L1 L2 : Nat → Prop} {W : Int} {r : List Nat} (hw : ∀ a b : Nat, a ≤ 8 → b ≤ 8 → a ≠ b → f11 (9 * a + b) = g27 (9 * a + b)) (hs : ∀ s : Nat, 1 ≤ s → s ≤ 8 → f12 s = g28 s ∧ f13 s = g29 s ∧ (L1 s ↔ L2 s)) (h : ezBest (wkC f11) (mnC f12) (mnC f13) L1 W r) : ezBest (wkC g27) (mnC g28) (mnC g29) L2 W r ∧ ezW (mnC f13) r = ezW (mnC g29) r ∧ ezTot (wkC f11) (mnC f12) r = ezTot (wkC g27) (mnC g28) r := by
  have hok : ∀ q, ezOk L1 q ↔ ezOk L2 q := fun q => ⟨fun z => ⟨z.1, fun s y => ⟨(z.2 s y).1, (z.2 s y).2.1, (hs s (z.2 s y).1 (z.2 s y).2.1).2.2.mp (z.2 s y).2.2⟩⟩, fun z => ⟨z.1, fun s y => ⟨(z.2 s y).1, (z.2 s y).2.1, (hs s (z.2 s y).1 (z.2 s y).2.1).2.2.mpr (z.2 s y).2.2⟩⟩⟩
  have hW := ezW_tie (f := f13) (g := g29) (fun s x y => (hs s x y).2.1)
  have hT := tot_tie (L1 := L1) hw (fun s x y => (hs s x y).1)
  have h8 : ∀ q, ezOk L1 q → ∀ s ∈ q, 1 ≤ s ∧ s ≤ 8 := fun q z s y => ⟨(z.2 s y).1, (z.2 s y).2.1⟩
  have e1 := hW r (h8 r h.1)
  have e3 := hT r h.1
  refine ⟨⟨(hok r).mp h.1, by rw [← e3]; exact h.2.1, fun q hq ht => ?_⟩, e1, e3⟩
  have hq1 := (hok q).mpr hq
  have e2 := hW q (h8 q hq1)
  have e4 := hT q hq1
  rcases h.2.2 q hq1 (by rw [e4]; exact ht) with z | ⟨z1, z | ⟨z2, z⟩⟩
  · exact Or.inl (by omega)
  · exact Or.inr ⟨by omega, Or.inl (by omega)⟩
  · exact Or.inr ⟨by omega, Or.inr ⟨by omega, z⟩⟩
/-- what choose leaves -/
abbrev chose (σ σ1 : QS) (τ1 : Int64) (a : Int32) : Prop := σ1 16 0 0 ≠ 0 ∧ waysOk (wkC (σ 11 0)) (mnC (σ 12 0)) (σ 15 0 0) (σ1 14 0) 256 ∧ σ1 17 0 0 = a ∧ chRec (wkC (σ 11 0)) (mnC (σ 12 0)) (mnC (σ 13 0)) (σ 15 0 0) a.toInt 256 (σ1 18 0 0) (σ1 19 0 0).toInt (σ1 20 0 0).toInt τ1.toInt
theorem chose_eOk (h : chose σ σ1 τ1 a) (hk : ∀ v ∈ [11, 12, 13, 15], σ1 v = σ v) : eOk σ1 τ1 := by
  unfold eOk
  rw [hk 11 (by decide), hk 12 (by decide), hk 13 (by decide), hk 15 (by decide), h.2.2.1]
  exact ⟨fun _ => h.2.1, Or.inr h.2.2.2⟩
theorem best2_tie (hT : TEr σ τ σM) (hk : ∀ v ∈ [11, 12, 13, 15], σ1 v = σ v) (hm : ∀ v ∈ [27, 28, 29, 32], σ2 v = σM v)
    (q1 : (¬ (0 ≤ a.toInt ∧ a.toInt ≤ 500) ∧ x1.toInt = -1 ∧ σ1 = σ ∧ τ1 = τ) ∨ ((0 ≤ a.toInt ∧ a.toInt ≤ 500) ∧ chose σ σ1 τ1 a ∧ ((b.toInt = 0 ∧ x1.toInt = (σ1 19 0 0).toInt) ∨ (b.toInt = 1 ∧ x1.toInt = (σ1 20 0 0).toInt) ∨ (b.toInt = 2 ∧ x1 = bcF (σ1 18 0 0)) ∨ ((b.toInt < 0 ∨ 2 < b.toInt) ∧ x1.toInt = -1))))
    (q2 : b5P σM a b x2) :
    x1.toInt = x2.toInt ∧ TEr σ1 τ1 σ2 := by
  rcases q1 with ⟨u1, u2, u3, u4⟩ | ⟨u1, u2, u3⟩
  · rcases q2 with ⟨w1, w2⟩ | ⟨w1, w2⟩
    · rw [u3, u4]
      exact ⟨by rw [u2, w2], TEr_of hT (fun _ _ => rfl) hm⟩
    · exact absurd w1 u1
  · rcases q2 with ⟨w1, w2⟩ | ⟨w1, r2, w2, w3⟩
    · exact absurd u1 w1
    · obtain ⟨r1, b1, b2, b3, b4, b5, b6⟩ := chRec_best u2.2.2.2
      obtain ⟨t1, t2, t3⟩ := best_tie hT.2.1 (fun s x y => ⟨(hT.2.2 s x y).1, (hT.2.2 s x y).2.1, (hT.2.2 s x y).2.2⟩) b1
      have e : r1 = r2 := ezBest_one t1 w2
      subst e
      have e3 := bcF_len b3.1 b3.2 b2
      refine ⟨?_, chose_eOk u2 hk, ?_, ?_⟩
      · rcases u3 with u3 | u3 | u3 | u3 <;> rcases w3 with w3 | w3 | w3 | w3 <;> first | omega | (rw [u3.2] at *; omega)
      · rw [hk 11 (by decide), hm 27 (by decide)]
        exact hT.2.1
      · rw [hk 12 (by decide), hk 13 (by decide), hk 15 (by decide), hm 28 (by decide), hm 29 (by decide), hm 32 (by decide)]
        exact hT.2.2
theorem round_tie (hT : TEr σ τ σM) (hk : ∀ v ∈ [11, 12, 13, 15], σ1 v = σ v) (hm : ∀ v ∈ [27, 28, 29, 32], σ2 v = σM v)
    (q1 : (¬ ((0 ≤ a.toInt ∧ a.toInt ≤ 500) ∧ (0 ≤ b.toInt ∧ b.toInt ≤ 7)) ∧ x1.toInt = -1 ∧ σ1 = σ ∧ τ1 = τ) ∨ ((0 ≤ a.toInt ∧ a.toInt ≤ 500) ∧ (0 ≤ b.toInt ∧ b.toInt ≤ 7) ∧ chose σ σ1 τ1 a ∧ (((digS τ1 b).toInt = 0 ∧ x1.toInt = -1) ∨ ((digS τ1 b).toInt ≠ 0 ∧ x1 = digS τ1 b))))
    (q2 : r5P σM a b x2) :
    x1.toInt = x2.toInt ∧ TEr σ1 τ1 σ2 := by
  rcases q1 with ⟨u1, u2, u3, u4⟩ | ⟨u1, u0, u2, u3⟩
  · rw [u3, u4]
    refine ⟨?_, TEr_of hT (fun _ _ => rfl) hm⟩
    rcases q2 with ⟨w1, w2⟩ | ⟨w1, r2, w2, w3⟩
    · rw [u2, w2]
    · have h8 := isP_len r2 w2.1.1 (fun s hs => ⟨(w2.1.2 s hs).1, (w2.1.2 s hs).2.1⟩) 8 (fun s hs => (w2.1.2 s hs).2.1)
      rcases w3 with ⟨w3, w4, w5⟩ | ⟨w3, w4⟩
      · exfalso
        have := cl_eq w3
        exact u1 ⟨w1, w3, by omega⟩
      · rw [u2, w4]
  · rcases q2 with ⟨w1, w2⟩ | ⟨w1, r2, w2, w3⟩
    · exact absurd u1 w1
    · obtain ⟨r1, b1, b2, b3, b4, b5, b6⟩ := chRec_best u2.2.2.2
      obtain ⟨t1, t2, t3⟩ := best_tie hT.2.1 (fun s x y => ⟨(hT.2.2 s x y).1, (hT.2.2 s x y).2.1, (hT.2.2 s x y).2.2⟩) b1
      have e : r1 = r2 := ezBest_one t1 w2
      subst e
      have hc := cl_eq u0.1
      have h15 : ∀ s ∈ r1, s ≤ 15 := fun s hs => by have := (b1.1.2 s hs).2.1; omega
      have hd : (digS τ1 b).toInt = ((r1.getD b.toNatClampNeg 0 : Nat) : Int) := by
        rw [digS_eq (by rw [b6]; exact (encL_b 8 r1 h15).1) u0.1 u0.2, b6]
        exact encL_dig r1 7 b.toNatClampNeg (by omega) h15
      refine ⟨?_, chose_eOk u2 hk, ?_, ?_⟩
      · rcases Nat.lt_or_ge b.toNatClampNeg r1.length with h | h
        · have e1 : r1.getD b.toNatClampNeg 0 = r1[b.toNatClampNeg] := by simp [h]
          have e2 := (b1.1.2 _ (List.getElem_mem h)).1
          rw [e1] at hd
          rcases u3 with u3 | u3
          · omega
          · rcases w3 with ⟨w3, w4, w5⟩ | ⟨w3, w4⟩
            · rw [u3.2, hd, w5]
            · exact absurd ⟨u0.1, by omega⟩ w3
        · have e1 : r1.getD b.toNatClampNeg 0 = 0 := by simp [h]
          rw [e1] at hd
          rcases u3 with u3 | u3
          · rcases w3 with ⟨w3, w4, w5⟩ | ⟨w3, w4⟩
            · omega
            · rw [u3.2, w4]
          · exact absurd hd u3.1
      · rw [hk 11 (by decide), hm 27 (by decide)]
        exact hT.2.1
      · rw [hk 12 (by decide), hk 13 (by decide), hk 15 (by decide), hm 28 (by decide), hm 29 (by decide), hm 32 (by decide)]
        exact hT.2.2
end TE
theorem TEr_0 (u : tN) (v : (Nat → Nat) × (Nat → Int32)) (hu : okE u.2.2.2.1.2) (hv : okM v.2) : TEr (sN u) 0 (sM v) := by
  refine ⟨eOk_new ⟨rfl, rfl⟩, fun a b ha hb hab => ?_, fun s _ _ => ⟨rfl, rfl, fun z => absurd z (has_0 s), fun z => absurd rfl z⟩⟩
  show u.2.2.2.1.2 (9 * a + b) = v.2 (9 * a + b)
  rw [hu.2 a b (by omega) (by omega), hv.2 _ (by omega), if_neg hab]
