/-! runs as bits by their day modulo 4; places as bits -/
theorem and3 (x : Int32) : (x &&& 3).toInt = x.toInt % 4 ∧ 0 ≤ (x &&& 3).toInt ∧ (x &&& 3).toInt ≤ 3 := by
  have h1 := i_andr (z := x &&& 3) rfl (by decide)
  have h2 : (3 : Int32).toInt = 3 := by decide
  have h3 := i_nn h1.1
  have h4 : (x &&& 3).toBitVec.toNat = x.toBitVec.toNat % 4 := by
    rw [Int32.toBitVec_and, BitVec.toNat_and, show (3 : Int32).toBitVec.toNat = 2 ^ 2 - 1 by decide, Nat.and_two_pow_sub_one_eq_mod]
  have h5 : x.toInt = x.toBitVec.toInt := rfl
  rw [BitVec.toInt_eq_toNat_cond] at h5
  refine ⟨?_, by omega⟩
  split at h5 <;> omega
def b4I (day : Int32) : Int32 := (1 : Int32) <<< ((day &&& 3) &&& 31)
theorem b4_all : ∀ k : Fin 4, ((1 : Int32) <<< (nI k.val &&& 31)).toBitVec = BitVec.twoPow 32 k.val ∧ (((1 : Int32) <<< (nI k.val &&& 31)) ^^^ (-1)).toBitVec = ~~~ (BitVec.twoPow 32 k.val) := by decide +kernel
theorem b4_at (day : Int32) : (b4I day).toBitVec = BitVec.twoPow 32 (day.toInt % 4).toNat ∧ (b4I day ^^^ (-1)).toBitVec = ~~~ (BitVec.twoPow 32 (day.toInt % 4).toNat) := by
  have h := and3 day
  have h2 := cl_eq h.2.1
  have h3 := b4_all ⟨(day &&& 3).toNatClampNeg, by omega⟩
  simp only at h3
  rw [← nI_at h.2.1] at h3
  have h4 : (day &&& 3).toNatClampNeg = (day.toInt % 4).toNat := by omega
  rw [h4] at h3
  exact h3
theorem bw_and {x y : Int32} {i : Nat} (hi : i < 32) (hy : y.toBitVec = BitVec.twoPow 32 i) : (x &&& y ≠ 0) ↔ hasB x i := by
  have h4 : (x &&& y = 0) ↔ (x &&& y).toBitVec = (0 : Int32).toBitVec := ⟨fun h => by rw [h], fun h => Int32.toBitVec_inj.mp h⟩
  unfold hasB
  rw [ne_eq, h4, Int32.toBitVec_and, hy, BitVec.and_twoPow]
  split
  · rename_i h
    refine ⟨fun _ => h, fun _ h9 => ?_⟩
    have h8 : (BitVec.twoPow 32 i).getLsbD i = true := by
      rw [BitVec.getLsbD_twoPow]
      simp [hi]
    rw [h9] at h8
    exact absurd h8 (by show ¬ (BitVec.getLsbD (0#32) _ = true); simp)
  · rename_i h
    exact ⟨fun h9 => absurd rfl h9, fun h9 => absurd h9 h⟩
theorem bw_or {x y : Int32} {i r : Nat} (hi : i < 32) (hy : y.toBitVec = BitVec.twoPow 32 i) : hasB (x ||| y) r ↔ hasB x r ∨ r = i := by
  unfold hasB
  rw [Int32.toBitVec_or, hy, BitVec.getLsbD_or, BitVec.getLsbD_twoPow]
  by_cases h : r = i
  · subst h
    simp [hi]
  · have h4 : ¬ (i = r) := fun e => h e.symm
    simp [h, h4]
theorem bw_rm {x z : Int32} {i r : Nat} (hr : r < 32) (hz : z.toBitVec = ~~~ (BitVec.twoPow 32 i)) (hi : i < 32) : hasB (x &&& z) r ↔ hasB x r ∧ r ≠ i := by
  unfold hasB
  rw [Int32.toBitVec_and, hz, BitVec.getLsbD_and, BitVec.getLsbD_not, BitVec.getLsbD_twoPow]
  by_cases h : r = i
  · subst h
    simp [hi]
  · have h4 : ¬ (i = r) := fun e => h e.symm
    simp [h, h4, hr]
def pBI (p : Int32) : Int32 := (1 : Int32) <<< (p &&& 31)
theorem pB_all : ∀ k : Fin 12, (pBI (nI k.val)).toBitVec = BitVec.twoPow 32 k.val ∧ (nI k.val &&& 31) = nI k.val := by decide +kernel
theorem pB_at {p : Int32} (h0 : 0 ≤ p.toInt) (h1 : p.toInt ≤ 11) : (pBI p).toBitVec = BitVec.twoPow 32 p.toNatClampNeg ∧ (p &&& 31) = p := by
  have h2 := cl_eq h0
  have h3 := pB_all ⟨p.toNatClampNeg, by omega⟩
  simp only at h3
  rw [← nI_at h0] at h3
  exact h3
theorem hasB_0 (r : Nat) : ¬ hasB 0 r := by
  show ¬ (BitVec.getLsbD (0#32) _ = true)
  simp
section GD
variable {N : Net} {h6 h7 f9 g9 : Nat → Int32} {b i h : Int} {act : Nat → Nat → Prop} {Q : Nat → Nat → Prop} {z : Nat → Nat} {k c s : Nat}
def actOk (N : Net) (h : Int) (act : Nat → Nat → Prop) : Prop := ∀ c d, act c d → c < nK N ∧ (∃ s0, s0 < nS N c ∧ htN N c d s0 ≤ h) ∧ h ≤ htN N c d (lastS N c)
/-- the places at which a run that one may be on stops at the hour h, of the halts gone through -/
def hitH (N : Net) (h6 : Nat → Int32) (b i h : Int) (act : Nat → Nat → Prop) (p : Nat) : Prop := ∃ c d s, PrH N h6 b i c s ∧ act c d ∧ htN N c d s = h ∧ nP N c s = p
def rdI (N : Net) (h6 : Nat → Int32) (b i h : Int) (act : Nat → Nat → Prop) (z : Nat → Nat) (f9 : Nat → Int32) : Prop := ridB N f9 (fun c d => act c d ∧ ¬ (PrH N h6 b i c (z c) ∧ htN N c d (z c) = h))
theorem rd_0 (h1 : ridB N f9 act) : rdI N h6 b b h act z f9 := fun c hc r hr => by
  rw [h1 c hc r hr]
  exact ⟨fun ⟨d, a1, a2⟩ => ⟨d, a1, a2, fun y => pr_none y.1⟩, fun ⟨d, a1, a2, _⟩ => ⟨d, a1, a2⟩⟩
theorem hit_0 {p : Nat} : ¬ hitH N h6 b b h act p := fun ⟨_, _, _, a, _⟩ => pr_none a
theorem ht_same (hN : wfN N) {d s' : Nat} (hc : c < nK N) (hs : s < nS N c) (hs' : s' < nS N c) (e : htN N c d s = htN N c d s') : s = s' := by
  rcases Nat.lt_trichotomy s s' with q | q | q
  · have := ((hN.2 c hc).2.2.2.2) s s' q hs'
    unfold htN at *
    omega
  · exact q
  · have := ((hN.2 c hc).2.2.2.2) s' s q hs
    unfold htN at *
    omega
/-- no run that one may be on is at this halt now -/
theorem rd_no (hN : wfN N) (hH : HalC h6 h7 N) (hz : ∀ c, c < nK N → z c < nS N c) (hk : (k : Int) = i) (hb : b ≤ i) (hi : i < (h7 24).toInt) (hc : c < nK N) (hs : s < nS N c) (e : (h6 k).toInt = hvN N c s) (hI : rdI N h6 b i h act z f9)
    (hn : ∀ d, htN N c d s = h → ¬ (act c d ∧ ¬ (PrH N h6 b i c (z c) ∧ htN N c d (z c) = h))) : rdI N h6 b (i + 1) h act z f9 ∧ ∀ p, hitH N h6 b (i + 1) h act p ↔ hitH N h6 b i h act p := by
  have hnew := pr_new (b := b) hH hk hi e
  have hno : ∀ d, act c d → htN N c d s = h → False := by
    intro d a1 a2
    refine hn d a2 ⟨a1, fun y => ?_⟩
    have hl : s = z c := ht_same hN (d := d) hc hs (hz c hc) (by rw [a2, y.2])
    rw [← hl] at y
    exact hnew y.1
  refine ⟨fun c9 hc9 r hr => ?_, fun p => ?_⟩
  · rw [hI c9 hc9 r hr]
    constructor
    · rintro ⟨d, a1, a2, a3⟩
      refine ⟨d, a1, a2, fun y => ?_⟩
      rcases (pr_step hN hk hb hc hs e).mp y.1 with x | ⟨rfl, x⟩
      · exact a3 ⟨x, y.2⟩
      · exact hno d a2 (by rw [← x]; exact y.2)
    · rintro ⟨d, a1, a2, a3⟩
      exact ⟨d, a1, a2, fun y => a3 ⟨(pr_step hN hk hb hc hs e).mpr (Or.inl y.1), y.2⟩⟩
  · constructor
    · rintro ⟨c9, d, s9, a1, a2, a3, a4⟩
      rcases (pr_step hN hk hb hc hs e).mp a1 with x | ⟨rfl, rfl⟩
      · exact ⟨c9, d, s9, x, a2, a3, a4⟩
      · exact (hno d a2 a3).elim
    · rintro ⟨c9, d, s9, a1, a2⟩
      exact ⟨c9, d, s9, (pr_step hN hk hb hc hs e).mpr (Or.inl a1), a2⟩
/-- one may be on the run of day d at this halt -/
theorem rd_yes (hN : wfN N) (hH : HalC h6 h7 N) (hz : ∀ c, c < nK N → z c < nS N c) (ha : actOk N h act) (hk : (k : Int) = i) (hb : b ≤ i) (hi : i < (h7 24).toInt) (hc : c < nK N) (hs : s < nS N c) (e : (h6 k).toInt = hvN N c s) (hI : rdI N h6 b i h act z f9) {d : Nat} (h1 : act c d) (h2 : htN N c d s = h)
    (h4 : ∀ c9, c9 < nK N → ∀ r, r < 4 → (hasB (g9 c9) r ↔ hasB (f9 c9) r ∧ ¬ (s = z c ∧ c9 = c ∧ r = d % 4))) : rdI N h6 b (i + 1) h act z g9 ∧ ∀ p, hitH N h6 b (i + 1) h act p ↔ hitH N h6 b i h act p ∨ p = nP N c s := by
  refine ⟨fun c9 hc9 r hr => ?_, fun p => ?_⟩
  · rw [h4 c9 hc9 r hr, hI c9 hc9 r hr]
    constructor
    · rintro ⟨⟨d9, a1, a2, a3⟩, a4⟩
      refine ⟨d9, a1, a2, fun y => ?_⟩
      rcases (pr_step hN hk hb hc hs e).mp y.1 with x | ⟨rfl, x⟩
      · exact a3 ⟨x, y.2⟩
      · have hd : d9 = d := by
          have h9 : htN N c9 d9 s = htN N c9 d s := by rw [h2, ← x]; exact y.2
          unfold htN at h9
          omega
        exact a4 ⟨x.symm, rfl, by rw [← hd]; exact a1.symm⟩
    · rintro ⟨d9, a1, a2, a3⟩
      refine ⟨⟨d9, a1, a2, fun y => a3 ⟨(pr_step hN hk hb hc hs e).mpr (Or.inl y.1), y.2⟩⟩, ?_⟩
      rintro ⟨z1, rfl, z3⟩
      have b1 := ha _ _ a2
      obtain ⟨s0, b3, b4⟩ := b1.2.1
      have hd : (d9 : Int) = (d : Int) := sw_one hN (day := (d : Int)) hc b3 b4 b1.2.2 hs (by unfold htN at h2; exact h2) (by omega)
      have hd : d9 = d := by omega
      subst hd
      exact a3 ⟨(pr_step hN hk hb hc hs e).mpr (Or.inr ⟨rfl, z1.symm⟩), by rw [← z1]; exact h2⟩
  · constructor
    · rintro ⟨c9, d9, s9, a1, a2, a3, a4⟩
      rcases (pr_step hN hk hb hc hs e).mp a1 with x | ⟨rfl, rfl⟩
      · exact Or.inl ⟨c9, d9, s9, x, a2, a3, a4⟩
      · exact Or.inr a4.symm
    · rintro (⟨c9, d9, s9, a1, a2⟩ | x)
      · exact ⟨c9, d9, s9, (pr_step hN hk hb hc hs e).mpr (Or.inl a1), a2⟩
      · exact ⟨c, d, s, (pr_step hN hk hb hc hs e).mpr (Or.inr ⟨rfl, rfl⟩), h1, h2, x.symm⟩
/-- a set bit says which run it is -/
theorem rd_bit (hN : wfN N) (ha : actOk N h act) (hc : c < nK N) (hs : s < nS N c) (hI : rdI N h6 b i h act z f9) {day : Int} (hd : 24 * day + nH N c + nO N c s = h) : (hasB (f9 c) (day % 4).toNat → ∃ d : Nat, (d : Int) = day ∧ act c d ∧ htN N c d s = h) ∧ (¬ hasB (f9 c) (day % 4).toNat → ∀ d, htN N c d s = h → ¬ (act c d ∧ ¬ (PrH N h6 b i c (z c) ∧ htN N c d (z c) = h))) := by
  have hr := hI c hc (day % 4).toNat (by omega)
  constructor
  · intro y
    obtain ⟨d, a1, a2, a3⟩ := hr.mp y
    have b1 := ha _ _ a2
    obtain ⟨s0, b3, b4⟩ := b1.2.1
    have h9 : (d : Int) = day := sw_one hN hc b3 b4 b1.2.2 hs hd (by omega)
    exact ⟨d, h9, a2, by unfold htN; rw [h9]; exact hd⟩
  · intro y d a1 a2
    refine y (hr.mpr ⟨d, ?_, a2⟩)
    unfold htN at a1
    have : (d : Int) = day := by omega
    omega
theorem rd_end (hN : wfN N) (hH : HalC h6 h7 N) (hz : ∀ c, c < nK N → z c < nS N c) {q : Nat} (hq : q < 24) (hm : h % 24 = q) (hI : rdI N h6 (h7 q).toInt (h7 (q + 1)).toInt h act z f9) : ridB N f9 (fun c d => act c d ∧ htN N c d (z c) ≠ h) ∧ ∀ p, hitH N h6 (h7 q).toInt (h7 (q + 1)).toInt h act p ↔ ∃ c d s, c < nK N ∧ s < nS N c ∧ act c d ∧ htN N c d s = h ∧ nP N c s = p := by
  have hp : ∀ c d s, c < nK N → s < nS N c → htN N c d s = h → PrH N h6 (h7 q).toInt (h7 (q + 1)).toInt c s := fun c d s h1 h2 h3 => (pr_all hN hH hq).mpr ⟨h1, h2, by unfold htN at h3; omega⟩
  refine ⟨fun c hc r hr => ?_, fun p => ?_⟩
  · rw [hI c hc r hr]
    constructor
    · rintro ⟨d, a1, a2, a3⟩
      exact ⟨d, a1, a2, fun y => a3 ⟨hp c d _ hc (hz c hc) y, y⟩⟩
    · rintro ⟨d, a1, a2, a3⟩
      exact ⟨d, a1, a2, fun y => a3 y.2⟩
  · constructor
    · rintro ⟨c, d, s, a1, a2⟩
      exact ⟨c, d, s, a1.1, a1.2.1, a2⟩
    · rintro ⟨c, d, s, a1, a2, a3, a4⟩
      exact ⟨c, d, s, hp c d s a1 a2 a4.1, a3, a4⟩
/-! getting on -/
def goI (N : Net) (h6 : Nat → Int32) (b i h : Int) (act : Nat → Nat → Prop) (Q : Nat → Nat → Prop) (f9 : Nat → Int32) : Prop :=
  ridB N f9 (fun c d => act c d ∨ (runN N c d ∧ ∃ s, s < nS N c ∧ Q c s ∧ htN N c d s = h ∧ PrH N h6 b i c s))
theorem go_0 (h1 : ridB N f9 act) : goI N h6 b b h act Q f9 := fun c hc r hr => by
  rw [h1 c hc r hr]
  exact ⟨fun ⟨d, a1, a2⟩ => ⟨d, a1, Or.inl a2⟩, fun ⟨d, a1, a2⟩ => ⟨d, a1, a2.elim id (fun ⟨_, _, _, _, _, y⟩ => (pr_none y).elim)⟩⟩
theorem go_no (hN : wfN N) (hk : (k : Int) = i) (hb : b ≤ i) (hc : c < nK N) (hs : s < nS N c) (e : (h6 k).toInt = hvN N c s) (hI : goI N h6 b i h act Q f9) (hn : Q c s → ∀ d, htN N c d s = h → ¬ runN N c d) : goI N h6 b (i + 1) h act Q f9 := fun c9 hc9 r hr => by
  rw [hI c9 hc9 r hr]
  constructor
  · rintro ⟨d, a1, a2 | ⟨a2, s9, a3, a4, a5, a6⟩⟩
    · exact ⟨d, a1, Or.inl a2⟩
    · exact ⟨d, a1, Or.inr ⟨a2, s9, a3, a4, a5, (pr_step hN hk hb hc hs e).mpr (Or.inl a6)⟩⟩
  · rintro ⟨d, a1, a2 | ⟨a2, s9, a3, a4, a5, a6⟩⟩
    · exact ⟨d, a1, Or.inl a2⟩
    · rcases (pr_step hN hk hb hc hs e).mp a6 with x | ⟨rfl, rfl⟩
      · exact ⟨d, a1, Or.inr ⟨a2, s9, a3, a4, a5, x⟩⟩
      · exact absurd a2 (hn a4 d a5)
theorem go_yes (hN : wfN N) (hk : (k : Int) = i) (hb : b ≤ i) (hc : c < nK N) (hs : s < nS N c) (e : (h6 k).toInt = hvN N c s) (hI : goI N h6 b i h act Q f9) {d : Nat} (h2 : htN N c d s = h) (h3 : Q c s) (h4 : runN N c d) (h5 : ∀ c9, c9 < nK N → ∀ r, r < 4 → (hasB (g9 c9) r ↔ hasB (f9 c9) r ∨ (c9 = c ∧ r = d % 4))) : goI N h6 b (i + 1) h act Q g9 := fun c9 hc9 r hr => by
  rw [h5 c9 hc9 r hr, hI c9 hc9 r hr]
  constructor
  · rintro (⟨d9, a1, a2 | ⟨a2, s9, a3, a4, a5, a6⟩⟩ | ⟨rfl, a1⟩)
    · exact ⟨d9, a1, Or.inl a2⟩
    · exact ⟨d9, a1, Or.inr ⟨a2, s9, a3, a4, a5, (pr_step hN hk hb hc hs e).mpr (Or.inl a6)⟩⟩
    · exact ⟨d, a1.symm, Or.inr ⟨h4, s, hs, h3, h2, (pr_step hN hk hb hc hs e).mpr (Or.inr ⟨rfl, rfl⟩)⟩⟩
  · rintro ⟨d9, a1, a2 | ⟨a2, s9, a3, a4, a5, a6⟩⟩
    · exact Or.inl ⟨d9, a1, Or.inl a2⟩
    · rcases (pr_step hN hk hb hc hs e).mp a6 with x | ⟨rfl, rfl⟩
      · exact Or.inl ⟨d9, a1, Or.inr ⟨a2, s9, a3, a4, a5, x⟩⟩
      · refine Or.inr ⟨rfl, ?_⟩
        unfold htN at h2 a5
        omega
theorem go_end (hN : wfN N) (hH : HalC h6 h7 N) {q : Nat} (hq : q < 24) (hm : h % 24 = q) (hI : goI N h6 (h7 q).toInt (h7 (q + 1)).toInt h act Q f9) : ridB N f9 (fun c d => act c d ∨ (c < nK N ∧ runN N c d ∧ ∃ s, s < nS N c ∧ Q c s ∧ htN N c d s = h)) := fun c hc r hr => by
  rw [hI c hc r hr]
  constructor
  · rintro ⟨d, a1, a2 | ⟨a2, s, a3, a4, a5, a6⟩⟩
    · exact ⟨d, a1, Or.inl a2⟩
    · exact ⟨d, a1, Or.inr ⟨hc, a2, s, a3, a4, a5⟩⟩
  · rintro ⟨d, a1, a2 | ⟨_, a2, s, a3, a4, a5⟩⟩
    · exact ⟨d, a1, Or.inl a2⟩
    · exact ⟨d, a1, Or.inr ⟨a2, s, a3, a4, a5, (pr_all hN hH hq).mpr ⟨hc, a3, by unfold htN at a5; omega⟩⟩⟩
theorem ridB_iff {act' : Nat → Nat → Prop} (h1 : ridB N f9 act) (h2 : ∀ c d, c < nK N → (act c d ↔ act' c d)) : ridB N f9 act' := fun c hc r hr => by
  rw [h1 c hc r hr]
  exact ⟨fun ⟨d, a, y⟩ => ⟨d, a, (h2 c d hc).mp y⟩, fun ⟨d, a, y⟩ => ⟨d, a, (h2 c d hc).mpr y⟩⟩
end GD
