/-! one halt of the hour, in the words of the walk -/
section GW
variable {N : Net} {h6 h7 f9 g9 : Nat → Int32} {b i h : Int} {act : Nat → Nat → Prop} {Q : Nat → Nat → Prop} {R : Nat → Prop} {z : Nat → Nat} {k c s : Nat} {x5 y5 day pl : Int32}
theorem rch_same (hR : rchB x5 (fun p => R p ∨ hitH N h6 b i h act p)) (hh : ∀ p, hitH N h6 b (i + 1) h act p ↔ hitH N h6 b i h act p) : rchB x5 (fun p => R p ∨ hitH N h6 b (i + 1) h act p) := fun p hp => by
  show _ ↔ (R p ∨ hitH N h6 b (i + 1) h act p)
  rw [hR p hp, hh p]
theorem rd_zero (hc : c < nK N) (hI : rdI N h6 b i h act z f9) (hz : f9 c = 0) : ∀ d, ¬ (act c d ∧ ¬ (PrH N h6 b i c (z c) ∧ htN N c d (z c) = h)) := by
  intro d a
  have := (hI c hc (d % 4) (by omega)).mpr ⟨d, rfl, a⟩
  rw [hz] at this
  exact hasB_0 _ this
theorem gd_w1 (hN : wfN N) (hH : HalC h6 h7 N) (hz : ∀ c, c < nK N → z c < nS N c) (hk : (k : Int) = i) (hb : b ≤ i) (hi : i < (h7 24).toInt) (hc : c < nK N) (hs : s < nS N c) (e : (h6 k).toInt = hvN N c s) (hI : rdI N h6 b i h act z f9) (h0 : f9 c = 0) : rdI N h6 b (i + 1) h act z f9 ∧ ∀ p, hitH N h6 b (i + 1) h act p ↔ hitH N h6 b i h act p :=
  rd_no hN hH hz hk hb hi hc hs e hI (fun d _ => rd_zero hc hI h0 d)
theorem gd_w2 (hN : wfN N) (hH : HalC h6 h7 N) (hz : ∀ c, c < nK N → z c < nS N c) (ha : actOk N h act) (hk : (k : Int) = i) (hb : b ≤ i) (hi : i < (h7 24).toInt) (hc : c < nK N) (hs : s < nS N c) (e : (h6 k).toInt = hvN N c s) (hI : rdI N h6 b i h act z f9) (hd : 24 * day.toInt + nH N c + nO N c s = h) (h0 : f9 c &&& b4I day = 0) : rdI N h6 b (i + 1) h act z f9 ∧ ∀ p, hitH N h6 b (i + 1) h act p ↔ hitH N h6 b i h act p :=
  rd_no hN hH hz hk hb hi hc hs e hI ((rd_bit hN ha hc hs hI hd).2 (fun y => (bw_and (by omega) (b4_at day).1).mpr y h0))
theorem gd_w3 (hN : wfN N) (hH : HalC h6 h7 N) (hz : ∀ c, c < nK N → z c < nS N c) (ha : actOk N h act) (hk : (k : Int) = i) (hb : b ≤ i) (hi : i < (h7 24).toInt) (hc : c < nK N) (hs : s < nS N c) (e : (h6 k).toInt = hvN N c s) (hI : rdI N h6 b i h act z f9) (hd : 24 * day.toInt + nH N c + nO N c s = h) (h0 : f9 c &&& b4I day ≠ 0)
    (hg : (s ≠ z c ∧ g9 = f9) ∨ (s = z c ∧ g9 = upd f9 c (f9 c &&& (b4I day ^^^ (-1))))) : rdI N h6 b (i + 1) h act z g9 ∧ ∀ p, hitH N h6 b (i + 1) h act p ↔ hitH N h6 b i h act p ∨ p = nP N c s := by
  obtain ⟨d, d1, d2, d3⟩ := (rd_bit hN ha hc hs hI hd).1 ((bw_and (by omega) (b4_at day).1).mp h0)
  refine rd_yes hN hH hz ha hk hb hi hc hs e hI d2 d3 (fun c9 hc9 r hr => ?_)
  rcases hg with ⟨g1, g2⟩ | ⟨g1, g2⟩
  · rw [g2]
    exact ⟨fun y => ⟨y, fun x => g1 x.1⟩, fun y => y.1⟩
  · rw [g2]
    unfold upd
    by_cases q : c9 = c
    · subst q
      rw [if_pos rfl, bw_rm (by omega) (b4_at day).2 (by omega)]
      have : (day.toInt % 4).toNat = d % 4 := by omega
      rw [this]
      exact ⟨fun y => ⟨y.1, fun x => y.2 x.2.2⟩, fun y => ⟨y.1, fun x => y.2 ⟨g1, rfl, x⟩⟩⟩
    · rw [if_neg q]
      exact ⟨fun y => ⟨y, fun x => q x.2.1⟩, fun y => y.1⟩
theorem gd_hit (hN : wfN N) (hH : HalC h6 h7 N) (hz : ∀ c, c < nK N → z c < nS N c) (ha : actOk N h act) (hk : (k : Int) = i) (hb : b ≤ i) (hi : i < (h7 24).toInt) (hc : c < nK N) (hs : s < nS N c) (e : (h6 k).toInt = hvN N c s) (hI : rdI N h6 b i h act z f9) (hd : 24 * day.toInt + nH N c + nO N c s = h) (h0 : f9 c &&& b4I day ≠ 0) : ∀ p, hitH N h6 b (i + 1) h act p ↔ hitH N h6 b i h act p ∨ p = nP N c s := by
  by_cases q : s = z c
  · exact (gd_w3 (g9 := upd f9 c (f9 c &&& (b4I day ^^^ (-1)))) hN hH hz ha hk hb hi hc hs e hI hd h0 (Or.inr ⟨q, rfl⟩)).2
  · exact (gd_w3 (g9 := f9) hN hH hz ha hk hb hi hc hs e hI hd h0 (Or.inl ⟨q, rfl⟩)).2
theorem rch_more (hN : wfN N) (hc : c < nK N) (hs : s < nS N c) (hR : rchB x5 (fun p => R p ∨ hitH N h6 b i h act p)) (hh : ∀ p, hitH N h6 b (i + 1) h act p ↔ hitH N h6 b i h act p ∨ p = nP N c s) (hp : pl.toInt = nP N c s) (e : y5 = (x5 ||| pBI pl)) : rchB y5 (fun p => R p ∨ hitH N h6 b (i + 1) h act p) := fun p hp9 => by
  have h1 := (((hN.2 c hc).2.2.2.1) s hs).1
  have h2 := cl_eq (j := pl) (by omega)
  have h3 : pl.toNatClampNeg = nP N c s := by omega
  show _ ↔ (R p ∨ hitH N h6 b (i + 1) h act p)
  rw [e, bw_or (by omega) (pB_at (by omega) (by omega)).1, hR p hp9, hh p, h3]
  constructor
  · rintro ((y | y) | y)
    · exact Or.inl y
    · exact Or.inr (Or.inl y)
    · exact Or.inr (Or.inr y)
  · rintro (y | (y | y))
    · exact Or.inl (Or.inl y)
    · exact Or.inl (Or.inr y)
    · exact Or.inr y
/-- the halt number i: whose it is -/
theorem halt_at (hN : wfN N) (hH : HalC h6 h7 N) {q : Nat} (hq : q < 24) (h1 : (h7 q).toInt ≤ i) (h2 : i < (h7 (q + 1)).toInt) (hk : (k : Int) = i) : ∃ c s, c < nK N ∧ s < nS N c ∧ (h6 k).toInt = hvN N c s ∧ ((h6 k >>> ((3 : Int32) &&& 31)) &&& 15) = nI c ∧ ((7 : Int32) - (h6 k &&& 7)) = nI s ∧ (nH N c + nO N c s) % 24 = q := by
  obtain ⟨c, s, a1, a2, a3⟩ := pr_at hH hq (i := k) (by omega) (by omega)
  have a4 := hv_of hN a1 a2 a3
  refine ⟨c, s, a1, a2, a3, a4.1, a4.2, ?_⟩
  exact ((pr_all hN hH hq).mp ⟨a1, a2, k, by omega, by omega, a3⟩).2.2
theorem go_w (hN : wfN N) (hk : (k : Int) = i) (hb : b ≤ i) (hc : c < nK N) (hs : s < nS N c) (e : (h6 k).toInt = hvN N c s) (hI : goI N h6 b i h act Q f9) (hd : 24 * day.toInt + nH N c + nO N c s = h) (h3 : Q c s) (h4 : ∃ d : Nat, (d : Int) = day.toInt ∧ runN N c d) (hg : g9 = upd f9 c (f9 c ||| b4I day)) : goI N h6 b (i + 1) h act Q g9 := by
  obtain ⟨d, d1, d2⟩ := h4
  refine go_yes hN hk hb hc hs e hI (d := d) (by unfold htN; omega) h3 d2 (fun c9 hc9 r hr => ?_)
  rw [hg]
  unfold upd
  by_cases q : c9 = c
  · subst q
    rw [if_pos rfl, bw_or (by omega) (b4_at day).1]
    have : (day.toInt % 4).toNat = d % 4 := by omega
    rw [this]
    exact ⟨fun y => y.elim Or.inl (fun y => Or.inr ⟨rfl, y⟩), fun y => y.elim Or.inl (fun y => Or.inr y.2)⟩
  · rw [if_neg q]
    exact ⟨fun y => Or.inl y, fun y => y.elim id (fun y => absurd y.1 q)⟩
theorem go_wn (hN : wfN N) (hk : (k : Int) = i) (hb : b ≤ i) (hc : c < nK N) (hs : s < nS N c) (e : (h6 k).toInt = hvN N c s) (hI : goI N h6 b i h act Q f9) (hd : 24 * day.toInt + nH N c + nO N c s = h) (h4 : ¬ ∃ d : Nat, (d : Int) = day.toInt ∧ runN N c d) : goI N h6 b (i + 1) h act Q f9 :=
  go_no hN hk hb hc hs e hI (fun _ d hd9 hr => h4 ⟨d, by unfold htN at hd9; omega, hr⟩)
end GW
theorem rch_0 {N : Net} {h6 : Nat → Int32} {b h : Int} {act : Nat → Nat → Prop} {R : Nat → Prop} {x5 : Int32} (hR : rchB x5 R) : rchB x5 (fun p => R p ∨ hitH N h6 b b h act p) := fun p hp => by
  rw [hR p hp]
  exact ⟨fun y => Or.inl y, fun y => y.elim id (fun y => (hit_0 y).elim)⟩
theorem hal_mono {N : Net} {h6 h7 : Nat → Int32} (hH : HalC h6 h7 N) {q : Nat} (hq : q < 24) : (h7 q).toInt ≤ (h7 (q + 1)).toInt := by
  have f1 := hH.1 q (by omega)
  have f2 := hH.1 (q + 1) (by omega)
  rcases Int.lt_or_le (h7 (q + 1)).toInt (h7 q).toInt with y | y
  · exfalso
    have g1 := hH.2.2.2.2 q (h7 (q + 1)).toInt.toNat (by omega) (by omega)
    have g2 := hH.2.2.2.2 (q + 1) (h7 (q + 1)).toInt.toNat (by omega) (by omega)
    have g3 := g1.mp (by omega)
    have g4 := g2.mpr (by omega)
    omega
  · exact y
theorem cl_mod24 {h v : Int32} (e : v.toInt = h.toInt % 24) : v.toNatClampNeg = (h.toInt % 24).toNat := by
  show v.toInt.toNat = _
  rw [e]
theorem cl_mod24b {h v u o : Int32} (e : v.toInt = h.toInt % 24) (e2 : u.toInt = v.toInt + o.toInt) (ho : o.toInt = 1) : u.toNatClampNeg = (h.toInt % 24).toNat + 1 := by
  show u.toInt.toNat = _
  omega
theorem pl_bit {N : Net} (hN : wfN N) {c s : Nat} (hc : c < nK N) (hs : s < nS N c) {x5 pl : Int32} {R : Nat → Prop} (hR : rchB x5 R) (hp : pl.toInt = nP N c s) : ((x5 >>> (pl &&& 31)) &&& 1 ≠ 0) ↔ R (nP N c s) := by
  have h1 := (((hN.2 c hc).2.2.2.1) s hs).1
  have h2 := cl_eq (j := pl) (by omega)
  rw [(pB_at (p := pl) (by omega) (by omega)).2, ← hR _ h1]
  have h3 : pl = nI (nP N c s) := by
    rw [nI_at (x := pl) (by omega)]
    congr 1
    omega
  rw [h3]
  exact sn_bit x5 (by omega)
