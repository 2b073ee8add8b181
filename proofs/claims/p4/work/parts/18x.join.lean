/-! runs as bits by their day modulo 4; places as bits -/
theorem and3 (x : Int32) : (x &&& 3).toInt = x.toInt % 4 ∧ 0 ≤ (x &&& 3).toInt ∧ (x &&& 3).toInt ≤ 3 := by
  have h1 := i_andr (z := x &&& 3) rfl (by decide)
  have h2 : (3 : Int32).toInt = 3 := by decide
  have h3 := i_nn h1.1
  have h4 : (x &&& 3).toBitVec.toNat = x.toBitVec.toNat % 4 := by
    rw [Int32.toBitVec_and, BitVec.toNat_and, show (3 : Int32).toBitVec.toNat = 2 ^ 2 - 1 by decide, Nat.and_two_pow_sub_one_eq_mod]
  have h5 : x.toInt = x.toBitVec.toInt := rfl
  rw [BitVec.toInt_eq_toNat_cond] at h5
  refine ⟨?_, by omega⟩
  split at h5 <;> omega
def b4I (day : Int32) : Int32 := (1 : Int32) <<< ((day &&& 3) &&& 31)
theorem b4_all : ∀ k : Fin 4, ((1 : Int32) <<< (nI k.val &&& 31)).toBitVec = BitVec.twoPow 32 k.val ∧ (((1 : Int32) <<< (nI k.val &&& 31)) ^^^ (-1)).toBitVec = ~~~ (BitVec.twoPow 32 k.val) := by decide +kernel
theorem b4_at (day : Int32) : (b4I day).toBitVec = BitVec.twoPow 32 (day.toInt % 4).toNat ∧ (b4I day ^^^ (-1)).toBitVec = ~~~ (BitVec.twoPow 32 (day.toInt % 4).toNat) := by
  have h := and3 day
  have h2 := cl_eq h.2.1
  have h3 := b4_all ⟨(day &&& 3).toNatClampNeg, by omega⟩
  simp only at h3
  rw [← nI_at h.2.1] at h3
  have h4 : (day &&& 3).toNatClampNeg = (day.toInt % 4).toNat := by omega
  rw [h4] at h3
  exact h3
theorem bw_and {x y : Int32} {i : Nat} (hi : i < 32) (hy : y.toBitVec = BitVec.twoPow 32 i) : (x &&& y ≠ 0) ↔ hasB x i := by
  have h4 : (x &&& y = 0) ↔ (x &&& y).toBitVec = (0 : Int32).toBitVec := ⟨fun h => by rw [h], fun h => Int32.toBitVec_inj.mp h⟩
  unfold hasB
  rw [ne_eq, h4, Int32.toBitVec_and, hy, BitVec.and_twoPow]
  split
  · rename_i h
    refine ⟨fun _ => h, fun _ h9 => ?_⟩
    have h8 : (BitVec.twoPow 32 i).getLsbD i = true := by
      rw [BitVec.getLsbD_twoPow]
      simp [hi]
    rw [h9] at h8
    exact absurd h8 (by show ¬ (BitVec.getLsbD (0#32) _ = true); simp)
  · rename_i h
    exact ⟨fun h9 => absurd rfl h9, fun h9 => absurd h9 h⟩
theorem bw_or {x y : Int32} {i r : Nat} (hi : i < 32) (hy : y.toBitVec = BitVec.twoPow 32 i) : hasB (x ||| y) r ↔ hasB x r ∨ r = i := by
  unfold hasB
  rw [Int32.toBitVec_or, hy, BitVec.getLsbD_or, BitVec.getLsbD_twoPow]
  by_cases h : r = i
  · subst h
    simp [hi]
  · have h4 : ¬ (i = r) := fun e => h e.symm
    simp [h, h4]
theorem bw_rm {x z : Int32} {i r : Nat} (hr : r < 32) (hz : z.toBitVec = ~~~ (BitVec.twoPow 32 i)) (hi : i < 32) : hasB (x &&& z) r ↔ hasB x r ∧ r ≠ i := by
  unfold hasB
  rw [Int32.toBitVec_and, hz, BitVec.getLsbD_and, BitVec.getLsbD_not, BitVec.getLsbD_twoPow]
  by_cases h : r = i
  · subst h
    simp [hi]
  · have h4 : ¬ (i = r) := fun e => h e.symm
    simp [h, h4, hr]
def pBI (p : Int32) : Int32 := (1 : Int32) <<< (p &&& 31)
theorem pB_all : ∀ k : Fin 12, (pBI (nI k.val)).toBitVec = BitVec.twoPow 32 k.val ∧ (nI k.val &&& 31) = nI k.val := by decide +kernel
theorem pB_at {p : Int32} (h0 : 0 ≤ p.toInt) (h1 : p.toInt ≤ 11) : (pBI p).toBitVec = BitVec.twoPow 32 p.toNatClampNeg ∧ (p &&& 31) = p := by
  have h2 := cl_eq h0
  have h3 := pB_all ⟨p.toNatClampNeg, by omega⟩
  simp only at h3
  rw [← nI_at h0] at h3
  exact h3
theorem hasB_0 (r : Nat) : ¬ hasB 0 r := by
  show ¬ (BitVec.getLsbD (0#32) _ = true)
  simp
section GD
variable {N : Net} {h6 h7 f9 g9 : Nat → Int32} {b i h : Int} {act : Nat → Nat → Prop} {Q : Nat → Nat → Prop} {z : Nat → Nat} {k c s : Nat}
def actOk (N : Net) (h : Int) (act : Nat → Nat → Prop) : Prop := ∀ c d, act c d → c < nK N ∧ (∃ s0, s0 < nS N c ∧ htN N c d s0 ≤ h) ∧ h ≤ htN N c d (lastS N c)
/-- the places at which a run that one may be on stops at the hour h, of the halts gone through -/
def hitH (N : Net) (h6 : Nat → Int32) (b i h : Int) (act : Nat → Nat → Prop) (p : Nat) : Prop := ∃ c d s, PrH N h6 b i c s ∧ act c d ∧ htN N c d s = h ∧ nP N c s = p
def rdI (N : Net) (h6 : Nat → Int32) (b i h : Int) (act : Nat → Nat → Prop) (z : Nat → Nat) (f9 : Nat → Int32) : Prop := ridB N f9 (fun c d => act c d ∧ ¬ (PrH N h6 b i c (z c) ∧ htN N c d (z c) = h))
theorem rd_0 (h1 : ridB N f9 act) : rdI N h6 b b h act z f9 := fun c hc r hr => by
  rw [h1 c hc r hr]
  exact ⟨fun ⟨d, a1, a2⟩ => ⟨d, a1, a2, fun y => pr_none y.1⟩, fun ⟨d, a1, a2, _⟩ => ⟨d, a1, a2⟩⟩
theorem hit_0 {p : Nat} : ¬ hitH N h6 b b h act p := fun ⟨_, _, _, a, _⟩ => pr_none a
theorem ht_same (hN : wfN N) {d s' : Nat} (hc : c < nK N) (hs : s < nS N c) (hs' : s' < nS N c) (e : htN N c d s = htN N c d s') : s = s' := by
  rcases Nat.lt_trichotomy s s' with q | q | q
  · have := ((hN.2 c hc).2.2.2.2) s s' q hs'
    unfold htN at *
    omega
  · exact q
  · have := ((hN.2 c hc).2.2.2.2) s' s q hs
    unfold htN at *
    omega
/-- no run that one may be on is at this halt now -/
theorem rd_no (hN : wfN N) (hH : HalC h6 h7 N) (hz : ∀ c, c < nK N → z c < nS N c) (hk : (k : Int) = i) (hb : b ≤ i) (hi : i < (h7 24).toInt) (hc : c < nK N) (hs : s < nS N c) (e : (h6 k).toInt = hvN N c s) (hI : rdI N h6 b i h act z f9)
    (hn : ∀ d, htN N c d s = h → ¬ (act c d ∧ ¬ (PrH N h6 b i c (z c) ∧ htN N c d (z c) = h))) : rdI N h6 b (i + 1) h act z f9 ∧ ∀ p, hitH N h6 b (i + 1) h act p ↔ hitH N h6 b i h act p := by
  have hnew := pr_new (b := b) hH hk hi e
  have hno : ∀ d, act c d → htN N c d s = h → False := by
    intro d a1 a2
    refine hn d a2 ⟨a1, fun y => ?_⟩
    have hl : s = z c := ht_same hN (d := d) hc hs (hz c hc) (by rw [a2, y.2])
    rw [← hl] at y
    exact hnew y.1
  refine ⟨fun c9 hc9 r hr => ?_, fun p => ?_⟩
  · rw [hI c9 hc9 r hr]
    constructor
    · rintro ⟨d, a1, a2, a3⟩
      refine ⟨d, a1, a2, fun y => ?_⟩
      rcases (pr_step hN hk hb hc hs e).mp y.1 with x | ⟨rfl, x⟩
      · exact a3 ⟨x, y.2⟩
      · exact hno d a2 (by rw [← x]; exact y.2)
    · rintro ⟨d, a1, a2, a3⟩
      exact ⟨d, a1, a2, fun y => a3 ⟨(pr_step hN hk hb hc hs e).mpr (Or.inl y.1), y.2⟩⟩
  · constructor
    · rintro ⟨c9, d, s9, a1, a2, a3, a4⟩
      rcases (pr_step hN hk hb hc hs e).mp a1 with x | ⟨rfl, rfl⟩
      · exact ⟨c9, d, s9, x, a2, a3, a4⟩
      · exact (hno d a2 a3).elim
    · rintro ⟨c9, d, s9, a1, a2⟩
      exact ⟨c9, d, s9, (pr_step hN hk hb hc hs e).mpr (Or.inl a1), a2⟩
/-- one may be on the run of day d at this halt -/
theorem rd_yes (hN : wfN N) (hH : HalC h6 h7 N) (hz : ∀ c, c < nK N → z c < nS N c) (ha : actOk N h act) (hk : (k : Int) = i) (hb : b ≤ i) (hi : i < (h7 24).toInt) (hc : c < nK N) (hs : s < nS N c) (e : (h6 k).toInt = hvN N c s) (hI : rdI N h6 b i h act z f9) {d : Nat} (h1 : act c d) (h2 : htN N c d s = h)
    (h4 : ∀ c9, c9 < nK N → ∀ r, r < 4 → (hasB (g9 c9) r ↔ hasB (f9 c9) r ∧ ¬ (s = z c ∧ c9 = c ∧ r = d % 4))) : rdI N h6 b (i + 1) h act z g9 ∧ ∀ p, hitH N h6 b (i + 1) h act p ↔ hitH N h6 b i h act p ∨ p = nP N c s := by
  refine ⟨fun c9 hc9 r hr => ?_, fun p => ?_⟩
  · rw [h4 c9 hc9 r hr, hI c9 hc9 r hr]
    constructor
    · rintro ⟨⟨d9, a1, a2, a3⟩, a4⟩
      refine ⟨d9, a1, a2, fun y => ?_⟩
      rcases (pr_step hN hk hb hc hs e).mp y.1 with x | ⟨rfl, x⟩
      · exact a3 ⟨x, y.2⟩
      · have hd : d9 = d := by
          have h9 : htN N c9 d9 s = htN N c9 d s := by rw [h2, ← x]; exact y.2
          unfold htN at h9
          omega
        exact a4 ⟨x.symm, rfl, by rw [← hd]; exact a1.symm⟩
    · rintro ⟨d9, a1, a2, a3⟩
      refine ⟨⟨d9, a1, a2, fun y => a3 ⟨(pr_step hN hk hb hc hs e).mpr (Or.inl y.1), y.2⟩⟩, ?_⟩
      rintro ⟨z1, rfl, z3⟩
      have b1 := ha _ _ a2
      obtain ⟨s0, b3, b4⟩ := b1.2.1
      have hd : (d9 : Int) = (d : Int) := sw_one hN (day := (d : Int)) hc b3 b4 b1.2.2 hs (by unfold htN at h2; exact h2) (by omega)
      have hd : d9 = d := by omega
      subst hd
      exact a3 ⟨(pr_step hN hk hb hc hs e).mpr (Or.inr ⟨rfl, z1.symm⟩), by rw [← z1]; exact h2⟩
  · constructor
    · rintro ⟨c9, d9, s9, a1, a2, a3, a4⟩
      rcases (pr_step hN hk hb hc hs e).mp a1 with x | ⟨rfl, rfl⟩
      · exact Or.inl ⟨c9, d9, s9, x, a2, a3, a4⟩
      · exact Or.inr a4.symm
    · rintro (⟨c9, d9, s9, a1, a2⟩ | x)
      · exact ⟨c9, d9, s9, (pr_step hN hk hb hc hs e).mpr (Or.inl a1), a2⟩
      · exact ⟨c, d, s, (pr_step hN hk hb hc hs e).mpr (Or.inr ⟨rfl, rfl⟩), h1, h2, x.symm⟩
/-- a set bit says which run it is -/
theorem rd_bit (hN : wfN N) (ha : actOk N h act) (hc : c < nK N) (hs : s < nS N c) (hI : rdI N h6 b i h act z f9) {day : Int} (hd : 24 * day + nH N c + nO N c s = h) : (hasB (f9 c) (day % 4).toNat → ∃ d : Nat, (d : Int) = day ∧ act c d ∧ htN N c d s = h) ∧ (¬ hasB (f9 c) (day % 4).toNat → ∀ d, htN N c d s = h → ¬ (act c d ∧ ¬ (PrH N h6 b i c (z c) ∧ htN N c d (z c) = h))) := by
  have hr := hI c hc (day % 4).toNat (by omega)
  constructor
  · intro y
    obtain ⟨d, a1, a2, a3⟩ := hr.mp y
    have b1 := ha _ _ a2
    obtain ⟨s0, b3, b4⟩ := b1.2.1
    have h9 : (d : Int) = day := sw_one hN hc b3 b4 b1.2.2 hs hd (by omega)
    exact ⟨d, h9, a2, by unfold htN; rw [h9]; exact hd⟩
  · intro y d a1 a2
    refine y (hr.mpr ⟨d, ?_, a2⟩)
    unfold htN at a1
    have : (d : Int) = day := by omega
    omega
theorem rd_end (hN : wfN N) (hH : HalC h6 h7 N) (hz : ∀ c, c < nK N → z c < nS N c) {q : Nat} (hq : q < 24) (hm : h % 24 = q) (hI : rdI N h6 (h7 q).toInt (h7 (q + 1)).toInt h act z f9) : ridB N f9 (fun c d => act c d ∧ htN N c d (z c) ≠ h) ∧ ∀ p, hitH N h6 (h7 q).toInt (h7 (q + 1)).toInt h act p ↔ ∃ c d s, c < nK N ∧ s < nS N c ∧ act c d ∧ htN N c d s = h ∧ nP N c s = p := by
  have hp : ∀ c d s, c < nK N → s < nS N c → htN N c d s = h → PrH N h6 (h7 q).toInt (h7 (q + 1)).toInt c s := fun c d s h1 h2 h3 => (pr_all hN hH hq).mpr ⟨h1, h2, by unfold htN at h3; omega⟩
  refine ⟨fun c hc r hr => ?_, fun p => ?_⟩
  · rw [hI c hc r hr]
    constructor
    · rintro ⟨d, a1, a2, a3⟩
      exact ⟨d, a1, a2, fun y => a3 ⟨hp c d _ hc (hz c hc) y, y⟩⟩
    · rintro ⟨d, a1, a2, a3⟩
      exact ⟨d, a1, a2, fun y => a3 y.2⟩
  · constructor
    · rintro ⟨c, d, s, a1, a2⟩
      exact ⟨c, d, s, a1.1, a1.2.1, a2⟩
    · rintro ⟨c, d, s, a1, a2, a3, a4⟩
      exact ⟨c, d, s, hp c d s a1 a2 a4.1, a3, a4⟩
/-! getting on -/
def goI (N : Net) (h6 : Nat → Int32) (b i h : Int) (act : Nat → Nat → Prop) (Q : Nat → Nat → Prop) (f9 : Nat → Int32) : Prop :=
  ridB N f9 (fun c d => act c d ∨ (runN N c d ∧ ∃ s, s < nS N c ∧ Q c s ∧ htN N c d s = h ∧ PrH N h6 b i c s))
theorem go_0 (h1 : ridB N f9 act) : goI N h6 b b h act Q f9 := fun c hc r hr => by
  rw [h1 c hc r hr]
  exact ⟨fun ⟨d, a1, a2⟩ => ⟨d, a1, Or.inl a2⟩, fun ⟨d, a1, a2⟩ => ⟨d, a1, a2.elim id (fun ⟨_, _, _, _, _, y⟩ => (pr_none y).elim)⟩⟩
theorem go_no (hN : wfN N) (hk : (k : Int) = i) (hb : b ≤ i) (hc : c < nK N) (hs : s < nS N c) (e : (h6 k).toInt = hvN N c s) (hI : goI N h6 b i h act Q f9) (hn : Q c s → ∀ d, htN N c d s = h → ¬ runN N c d) : goI N h6 b (i + 1) h act Q f9 := fun c9 hc9 r hr => by
  rw [hI c9 hc9 r hr]
  constructor
  · rintro ⟨d, a1, a2 | ⟨a2, s9, a3, a4, a5, a6⟩⟩
    · exact ⟨d, a1, Or.inl a2⟩
    · exact ⟨d, a1, Or.inr ⟨a2, s9, a3, a4, a5, (pr_step hN hk hb hc hs e).mpr (Or.inl a6)⟩⟩
  · rintro ⟨d, a1, a2 | ⟨a2, s9, a3, a4, a5, a6⟩⟩
    · exact ⟨d, a1, Or.inl a2⟩
    · rcases (pr_step hN hk hb hc hs e).mp a6 with x | ⟨rfl, rfl⟩
      · exact ⟨d, a1, Or.inr ⟨a2, s9, a3, a4, a5, x⟩⟩
      · exact absurd a2 (hn a4 d a5)
theorem go_yes (hN : wfN N) (hk : (k : Int) = i) (hb : b ≤ i) (hc : c < nK N) (hs : s < nS N c) (e : (h6 k).toInt = hvN N c s) (hI : goI N h6 b i h act Q f9) {d : Nat} (h2 : htN N c d s = h) (h3 : Q c s) (h4 : runN N c d) (h5 : ∀ c9, c9 < nK N → ∀ r, r < 4 → (hasB (g9 c9) r ↔ hasB (f9 c9) r ∨ (c9 = c ∧ r = d % 4))) : goI N h6 b (i + 1) h act Q g9 := fun c9 hc9 r hr => by
  rw [h5 c9 hc9 r hr, hI c9 hc9 r hr]
  constructor
  · rintro (⟨d9, a1, a2 | ⟨a2, s9, a3, a4, a5, a6⟩⟩ | ⟨rfl, a1⟩)
    · exact ⟨d9, a1, Or.inl a2⟩
    · exact ⟨d9, a1, Or.inr ⟨a2, s9, a3, a4, a5, (pr_step hN hk hb hc hs e).mpr (Or.inl a6)⟩⟩
    · exact ⟨d, a1.symm, Or.inr ⟨h4, s, hs, h3, h2, (pr_step hN hk hb hc hs e).mpr (Or.inr ⟨rfl, rfl⟩)⟩⟩
  · rintro ⟨d9, a1, a2 | ⟨a2, s9, a3, a4, a5, a6⟩⟩
    · exact Or.inl ⟨d9, a1, Or.inl a2⟩
    · rcases (pr_step hN hk hb hc hs e).mp a6 with x | ⟨rfl, rfl⟩
      · exact Or.inl ⟨d9, a1, Or.inr ⟨a2, s9, a3, a4, a5, x⟩⟩
      · refine Or.inr ⟨rfl, ?_⟩
        unfold htN at h2 a5
        omega
theorem go_end (hN : wfN N) (hH : HalC h6 h7 N) {q : Nat} (hq : q < 24) (hm : h % 24 = q) (hI : goI N h6 (h7 q).toInt (h7 (q + 1)).toInt h act Q f9) : ridB N f9 (fun c d => act c d ∨ (c < nK N ∧ runN N c d ∧ ∃ s, s < nS N c ∧ Q c s ∧ htN N c d s = h)) := fun c hc r hr => by
  rw [hI c hc r hr]
  constructor
  · rintro ⟨d, a1, a2 | ⟨a2, s, a3, a4, a5, a6⟩⟩
    · exact ⟨d, a1, Or.inl a2⟩
    · exact ⟨d, a1, Or.inr ⟨hc, a2, s, a3, a4, a5⟩⟩
  · rintro ⟨d, a1, a2 | ⟨_, a2, s, a3, a4, a5⟩⟩
    · exact ⟨d, a1, Or.inl a2⟩
    · exact ⟨d, a1, Or.inr ⟨a2, s, a3, a4, a5, (pr_all hN hH hq).mpr ⟨hc, a3, by unfold htN at a5; omega⟩⟩⟩
theorem ridB_iff {act' : Nat → Nat → Prop} (h1 : ridB N f9 act) (h2 : ∀ c d, c < nK N → (act c d ↔ act' c d)) : ridB N f9 act' := fun c hc r hr => by
  rw [h1 c hc r hr]
  exact ⟨fun ⟨d, a, y⟩ => ⟨d, a, (h2 c d hc).mp y⟩, fun ⟨d, a, y⟩ => ⟨d, a, (h2 c d hc).mpr y⟩⟩
end GD
/-! which places one could ever come to, whatever the hour -/
def lnk (N : Net) (p q : Nat) : Prop := ∃ c s s', c < nK N ∧ nW N c ≠ 0 ∧ s < s' ∧ s' < nS N c ∧ nP N c s = p ∧ nP N c s' = q
def lkN (N : Net) : Nat → Nat → Nat → Prop
  | 0, p, q => p = q
  | n + 1, p, q => lkN N n p q ∨ ∃ r, lnk N p r ∧ lkN N n r q
def lkL (N : Net) : Nat → Nat → Nat → Prop
  | 0, p, q => p = q
  | n + 1, p, q => lkL N n p q ∨ ∃ r, lkL N n p r ∧ lnk N r q
section LK
variable {N : Net}
theorem lkL_cons {p r : Nat} (h : lnk N p r) : ∀ (n q : Nat), lkL N n r q → lkL N (n + 1) p q
  | 0, q, a => by
    have a : r = q := a
    subst a
    exact Or.inr ⟨p, rfl, h⟩
  | n + 1, q, a => by
    rcases a with a | ⟨t, a, b⟩
    · exact Or.inl (lkL_cons h n q a)
    · exact Or.inr ⟨t, lkL_cons h n t a, b⟩
theorem lkN_snoc {r q : Nat} (h : lnk N r q) : ∀ (n p : Nat), lkN N n p r → lkN N (n + 1) p q
  | 0, p, a => by
    have a : p = r := a
    subst a
    exact Or.inr ⟨q, h, rfl⟩
  | n + 1, p, a => by
    rcases a with a | ⟨t, a, b⟩
    · exact Or.inl (lkN_snoc h n p a)
    · exact Or.inr ⟨t, a, lkN_snoc h n t b⟩
theorem lkL_of : ∀ (n p q : Nat), lkN N n p q → lkL N n p q
  | 0, _, _, a => a
  | n + 1, p, q, a => by
    rcases a with a | ⟨r, a, b⟩
    · exact Or.inl (lkL_of n p q a)
    · exact lkL_cons a n q (lkL_of n r q b)
theorem lkN_of : ∀ (n p q : Nat), lkL N n p q → lkN N n p q
  | 0, _, _, a => a
  | n + 1, p, q, a => by
    rcases a with a | ⟨r, a, b⟩
    · exact Or.inl (lkN_of n p q a)
    · exact lkN_snoc b n p (lkN_of n p r a)
/-- how many of the first n have P -/
noncomputable def cnP (P : Nat → Prop) : Nat → Nat
  | 0 => 0
  | n + 1 => cnP P n + @ite Nat (P n) (Classical.propDecidable (P n)) 1 0
theorem cnP_le (P : Nat → Prop) : ∀ n, cnP P n ≤ n
  | 0 => Nat.le_refl _
  | n + 1 => by
    have := cnP_le P n
    unfold cnP
    split <;> omega
theorem cnP_mono {P P' : Nat → Prop} (h : ∀ q, P q → P' q) : ∀ n, cnP P n ≤ cnP P' n
  | 0 => Nat.le_refl _
  | n + 1 => by
    have ih := cnP_mono h n
    unfold cnP
    by_cases a : P n
    · rw [if_pos a, if_pos (h n a)]
      omega
    · rw [if_neg a]
      omega
theorem cnP_lt {P P' : Nat → Prop} (h : ∀ q, P q → P' q) {q : Nat} (h1 : P' q) (h2 : ¬ P q) : ∀ n, q < n → cnP P n < cnP P' n
  | 0, hq => absurd hq (Nat.not_lt_zero _)
  | n + 1, hq => by
    unfold cnP
    by_cases e : q = n
    · subst e
      have ih := cnP_mono h q
      rw [if_neg h2, if_pos h1]
      omega
    · have ih := cnP_lt h h1 h2 n (by omega)
      by_cases a : P n
      · rw [if_pos a, if_pos (h n a)]
        omega
      · rw [if_neg a]
        omega
theorem lkL_up {p q n : Nat} (a : lkL N n p q) : ∀ m, lkL N (n + m) p q
  | 0 => a
  | m + 1 => Or.inl (lkL_up a m)
theorem lkL_st {p n : Nat} (h : ∀ q, lkL N (n + 1) p q → lkL N n p q) : ∀ m q, lkL N (n + m) p q → lkL N n p q
  | 0, _, a => a
  | m + 1, q, a => by
    rcases a with a | ⟨r, a, b⟩
    · exact lkL_st h m q a
    · exact h q (Or.inr ⟨r, lkL_st h m r a, b⟩)
theorem lkL_cnt (hN : wfN N) {p : Nat} (hp : p < 12) : ∀ n, (∃ k, k ≤ n ∧ ∀ q, lkL N (k + 1) p q → lkL N k p q) ∨ n + 1 ≤ cnP (lkL N n p) 12
  | 0 => by
    refine Or.inr ?_
    have := cnP_lt (P := fun _ => False) (P' := lkL N 0 p) (fun _ h => h.elim) (q := p) rfl (fun h => h) 12 hp
    omega
  | n + 1 => by
    rcases lkL_cnt hN hp n with ⟨k, h1, h2⟩ | h
    · exact Or.inl ⟨k, by omega, h2⟩
    · by_cases st : ∀ q, lkL N (n + 1) p q → lkL N n p q
      · exact Or.inl ⟨n, by omega, st⟩
      · refine Or.inr ?_
        obtain ⟨q, hq⟩ := Classical.not_forall.mp st
        have hq1 : lkL N (n + 1) p q := Classical.byContradiction fun z => hq (fun y => absurd y z)
        have hq2 : ¬ lkL N n p q := fun z => hq (fun _ => z)
        have hq12 : q < 12 := by
          rcases hq1 with a | ⟨r, a, c, s, s', b1, b2, b3, b4, b5, b6⟩
          · exact absurd a hq2
          · rw [← b6]
            exact (((hN.2 c b1).2.2.2.1) s' b4).1
        have := cnP_lt (P := lkL N n p) (P' := lkL N (n + 1) p) (fun _ z => Or.inl z) hq1 hq2 12 hq12
        omega
/-- twelve passes are enough -/
theorem lk_12 (hN : wfN N) {p q m : Nat} (hp : p < 12) (a : lkN N m p q) : lkN N 12 p q := by
  have h := lkL_cnt hN hp 12
  have h9 := cnP_le (lkL N 12 p) 12
  rcases h with ⟨k, h1, h2⟩ | h
  · have a1 := lkL_up (lkL_of m p q a) k
    rw [Nat.add_comm] at a1
    have a2 := lkL_st h2 m q a1
    have a3 := lkL_up a2 (12 - k)
    rw [show k + (12 - k) = 12 by omega] at a3
    exact lkN_of 12 p q a3
  · omega
theorem lk_bw {w : Int} {g : Nat} {e : Int} : ∀ (n p : Nat) (h : Int), bwN N w g e n p h → lkN N n p g
  | 0, _, _, a => a.1
  | n + 1, p, h, a => by
    rcases a with a | ⟨c, d, s, s', a1, a2, a3, a4⟩
    · exact Or.inl (lk_bw n p h a)
    · refine Or.inr ⟨nP N c s', ⟨c, s, s', a1.1, fun z => ?_, a1.2.2.2.1, a1.2.2.2.2, a2, rfl⟩, lk_bw n _ _ a4⟩
      have h1 := a1.2.2.1.1
      rw [z] at h1
      simp at h1
def lkAt (N : Net) (k : Nat) (f : Nat → Int32) : Prop := ∀ p q, p < 12 → q < 12 → lkN N k p q → hasB (f p) q
def LnkC (f : Nat → Int32) (N : Net) : Prop := ∀ k, lkAt N k f
theorem lnk_12 (hN : wfN N) {p q : Nat} (h : lnk N p q) : p < 12 ∧ q < 12 := by
  obtain ⟨c, s, s', b1, b2, b3, b4, b5, b6⟩ := h
  have h1 := (((hN.2 c b1).2.2.2.1) s (by omega)).1
  have h2 := (((hN.2 c b1).2.2.2.1) s' b4).1
  omega
theorem lk_pass (hN : wfN N) {k : Nat} {f f' : Nat → Int32} (h : lkAt N k f) (h1 : ∀ p q, p < 12 → q < 12 → hasB (f p) q → hasB (f' p) q) (h2 : ∀ p r q, lnk N p r → q < 12 → hasB (f r) q → hasB (f' p) q) : lkAt N (k + 1) f' := by
  intro p q hp hq a
  rcases a with a | ⟨r, a, b⟩
  · exact h1 p q hp hq (h p q hp hq a)
  · exact h2 p r q a hq (h r q (lnk_12 hN a).2 hq b)
theorem lk_closed (hN : wfN N) {f : Nat → Int32} (h : lkAt N 0 f) (h2 : ∀ p r q, lnk N p r → q < 12 → hasB (f r) q → hasB (f p) q) : LnkC f N := by
  intro k
  induction k with
  | zero => exact h
  | succ k ih =>
    intro p q hp hq a
    rcases a with a | ⟨r, a, b⟩
    · exact ih p q hp hq a
    · exact h2 p r q a hq (ih r q (lnk_12 hN a).2 hq b)
theorem lk_full (hN : wfN N) {f : Nat → Int32} (h : lkAt N 12 f) : LnkC f N := fun _ p q hp hq a => h p q hp hq (lk_12 hN hp a)
end LK
/-! one more halt -/
section HI
variable {N M : Net} {h6 h7 g6 g7 : Nat → Int32} {c s : Nat}
/-- M is N with one more stop, s of c -/
def moreS (N M : Net) (c s : Nat) : Prop := ∀ c9 s9, (c9 < nK M ∧ s9 < nS M c9) ↔ ((c9 < nK N ∧ s9 < nS N c9) ∨ (c9 = c ∧ s9 = s))
theorem hal_ins (hM : wfN M) (hH : HalC h6 h7 N) (hm : moreS N M c s) (hv : ∀ c9 s9, c9 < nK N → s9 < nS N c9 → hvN M c9 s9 = hvN N c9 s9) (hn : ¬ (c < nK N ∧ s < nS N c)) {a : Nat} {v : Int32} {q : Int} (ev : v.toInt = hvN M c s) (eq : q = (nH M c + nO M c s) % 24)
    (ha : (a : Int) ≤ (h7 24).toInt) (h1 : ∀ j : Nat, j < a → g6 j = h6 j) (h2 : g6 a = v) (h3 : ∀ j : Nat, a ≤ j → (j : Int) < (h7 24).toInt → g6 (j + 1) = h6 j) (h4 : ∀ j : Nat, a ≤ j → (j : Int) < (h7 24).toInt → v.toInt < (h6 j).toInt) (h5 : ∀ j : Nat, j < a → (h6 j).toInt ≤ v.toInt)
    (h8 : ∀ k : Nat, k ≤ 24 → (g7 k).toInt = (h7 k).toInt + (if q < (k : Int) then 1 else 0)) : HalC g6 g7 M := by
  obtain ⟨b1, b2, b3, b4, b5⟩ := hH
  have hcs : c < nK M ∧ s < nS M c := (hm c s).mpr (Or.inr ⟨rfl, rfl⟩)
  have hb := hv_b hM hcs.1 hcs.2
  have h24 : (g7 24).toInt = (h7 24).toInt + 1 := by
    rw [h8 24 (by omega), if_pos (by omega)]
  have hlow : ∀ j : Nat, j < a → (h6 j).toInt < v.toInt := by
    intro j hj
    rcases Int.lt_or_eq_of_le (h5 j hj) with z | z
    · exact z
    · exfalso
      obtain ⟨c9, s9, d1, d2, d3⟩ := b2 j (by omega)
      have d4 := (hm c9 s9).mpr (Or.inl ⟨d1, d2⟩)
      have d5 := hv_inj hM d4.1 d4.2 hcs.1 hcs.2 (by rw [hv c9 s9 d1 d2, ← d3, ← ev, z])
      rw [d5.1] at d1
      rw [d5.1, d5.2] at d2
      exact hn ⟨d1, d2⟩
  have hall : ∀ i : Nat, (i : Int) < (g7 24).toInt → (i < a ∧ g6 i = h6 i) ∨ (i = a ∧ g6 i = v) ∨ (∃ j : Nat, i = j + 1 ∧ a ≤ j ∧ (j : Int) < (h7 24).toInt ∧ g6 i = h6 j) := by
    intro i hi
    rcases Nat.lt_trichotomy i a with z | z | z
    · exact Or.inl ⟨z, h1 i z⟩
    · exact Or.inr (Or.inl ⟨z, by rw [z]; exact h2⟩)
    · obtain ⟨j, rfl⟩ : ∃ j, i = j + 1 := ⟨i - 1, by omega⟩
      exact Or.inr (Or.inr ⟨j, rfl, by omega, by omega, h3 j (by omega) (by omega)⟩)
  have vv : v.toInt = 128 * q + 8 * (c : Int) + 7 - (s : Int) := by rw [ev]; unfold hvN; rw [eq]
  refine ⟨fun k hk => ?_, fun i hi => ?_, fun c9 s9 d1 d2 => ?_, fun i j hij hj => ?_, fun k i hk hi => ?_⟩
  · have d1 := b1 k hk
    have d2 := h8 k hk
    have d3 : (if q < (k : Int) then (1 : Int) else 0) = 0 ∨ (if q < (k : Int) then (1 : Int) else 0) = 1 := by split <;> omega
    omega
  · rcases hall i hi with ⟨_, z⟩ | ⟨_, z⟩ | ⟨j, _, z2, z3, z⟩
    · obtain ⟨c9, s9, d1, d2, d3⟩ := b2 i (by omega)
      have d4 := (hm c9 s9).mpr (Or.inl ⟨d1, d2⟩)
      exact ⟨c9, s9, d4.1, d4.2, by rw [z, hv c9 s9 d1 d2]; exact d3⟩
    · exact ⟨c, s, hcs.1, hcs.2, by rw [z]; exact ev⟩
    · obtain ⟨c9, s9, d1, d2, d3⟩ := b2 j z3
      have d4 := (hm c9 s9).mpr (Or.inl ⟨d1, d2⟩)
      exact ⟨c9, s9, d4.1, d4.2, by rw [z, hv c9 s9 d1 d2]; exact d3⟩
  · rcases (hm c9 s9).mp ⟨d1, d2⟩ with ⟨e1, e2⟩ | ⟨rfl, rfl⟩
    · obtain ⟨i, e3, e4⟩ := b3 c9 s9 e1 e2
      rcases Nat.lt_or_ge i a with z | z
      · exact ⟨i, by omega, by rw [h1 i z, hv c9 s9 e1 e2]; exact e4⟩
      · exact ⟨i + 1, by omega, by rw [h3 i z e3, hv c9 s9 e1 e2]; exact e4⟩
    · exact ⟨a, by omega, by rw [h2]; exact ev⟩
  · rcases hall i (by omega) with ⟨z1, z⟩ | ⟨z1, z⟩ | ⟨i', z1, z2, z3, z⟩ <;> rcases hall j hj with ⟨y1, y⟩ | ⟨y1, y⟩ | ⟨j', y1, y2, y3, y⟩
    · rw [z, y]; exact b4 i j hij (by omega)
    · rw [z, y]; exact hlow i z1
    · rw [z, y]
      have := hlow i z1
      have := h4 j' y2 y3
      omega
    · omega
    · omega
    · rw [z, y]; exact h4 j' y2 y3
    · omega
    · omega
    · rw [z, y]; exact b4 i' j' (by omega) y3
  · rw [h8 k hk]
    rcases hall i hi with ⟨z1, z⟩ | ⟨z1, z⟩ | ⟨i', z1, z2, z3, z⟩
    · rw [z, ← b5 k i hk (by omega)]
      by_cases w : q < (k : Int)
      · rw [if_pos w]
        refine ⟨fun x => ?_, fun x => by omega⟩
        rw [b5 k i hk (by omega)]
        have := hlow i z1
        omega
      · rw [if_neg w]
        omega
    · rw [z]
      by_cases w : q < (k : Int)
      · rw [if_pos w]
        refine ⟨fun _ => by omega, fun _ => ?_⟩
        have hk1 := b1 k hk
        rcases Nat.lt_or_ge 0 a with y | y
        · have e1 := hlow (a - 1) (by omega)
          have e2 := (b5 k (a - 1) hk (by omega)).mpr (by omega)
          omega
        · omega
      · rw [if_neg w]
        refine ⟨fun x => ?_, fun x => by omega⟩
        exfalso
        rcases Int.lt_or_le (a : Int) (h7 24).toInt with y | y
        · have e1 := (b5 k a hk y).mp (by omega)
          have e2 := h4 a (Nat.le_refl _) y
          omega
        · have := b1 k hk
          omega
    · rw [z, ← b5 k i' hk z3]
      have e2 := h4 i' z2 z3
      by_cases w : q < (k : Int)
      · rw [if_pos w]
        omega
      · rw [if_neg w]
        have e3 : ¬ (i' : Int) < (h7 k).toInt := fun x => by have := (b5 k i' hk z3).mp x; omega
        omega
end HI
/-! the class's carts stand for a net -/
def RepC (σ : QS) (N : Net) : Prop := wfN N ∧ (σ 3 0 0).toInt = nK N ∧ ∀ c, c < nK N → ((σ 26 c 0).toInt = nS N c ∧ (σ 22 c 0).toInt = nH N c ∧ (σ 21 c 0).toInt = nW N c ∧ nW N c < 128) ∧ (∀ s, s < nS N c → (σ 27 c s).toInt = nP N c s ∧ (σ 28 c s).toInt = nO N c s) ∧ ∀ d, d ≤ 300 → (snB (σ 29 c) (nI d) ≠ 0 ↔ nN N c d)
theorem RepC_of {σ σ' : QS} {N : Net} (h : RepC σ N) (hd : ∀ v ∈ [3, 21, 22, 26, 27, 28, 29], σ' v = σ v) : RepC σ' N := by
  unfold RepC at h ⊢
  rw [hd 3 (by decide), hd 21 (by decide), hd 22 (by decide), hd 26 (by decide), hd 27 (by decide), hd 28 (by decide), hd 29 (by decide)]
  exact h
def gOn (w : Int32) (f : Nat → Int32) (day : Int32) : Prop := 0 ≤ day.toInt ∧ ((w >>> ((day - day / 7 * 7) &&& 31)) &&& 1) ≠ 0 ∧ (300 < day.toInt ∨ snB f day = 0)
theorem and31 : ∀ k : Fin 7, (nI k.val &&& 31) = nI k.val := by decide +kernel
theorem gOn_run {σ : QS} {N : Net} {c : Nat} {day : Int32} (hR : RepC σ N) (hc : c < nK N) : gOn (σ 21 c 0) (σ 29 c) day ↔ ∃ d : Nat, (d : Int) = day.toInt ∧ runN N c d := by
  obtain ⟨h1, h2, h3⟩ := hR
  obtain ⟨⟨a1, a2, a3, a4⟩, -, b2⟩ := h3 c hc
  have hw : (σ 21 c 0).toBitVec.toNat = nW N c := by
    have := i_nn (x := σ 21 c 0) (by omega)
    omega
  have key : ∀ d : Nat, (d : Int) = day.toInt → (((σ 21 c 0) >>> ((day - day / 7 * 7) &&& 31)) &&& 1 ≠ 0 ↔ (nW N c).testBit (d % 7) = true) := by
    intro d hd
    have e1 := i_rem (x := day) (y := 7) (z := day - day / 7 * 7) (n := 7) rfl (by decide) (by decide) (by omega)
    have e2 : day - day / 7 * 7 = nI (d % 7) := by
      apply Int32.toInt_inj.mp
      rw [nI_toInt (by omega), e1, ← hd]
      omega
    have e3 := and31 ⟨d % 7, by omega⟩
    simp only at e3
    rw [e2, e3, sn_bit _ (by omega)]
    show (σ 21 c 0).toBitVec.toNat.testBit (d % 7) = true ↔ _
    rw [hw]
  constructor
  · rintro ⟨g1, g2, g3⟩
    have hd : ((day.toInt.toNat : Nat) : Int) = day.toInt := by omega
    refine ⟨day.toInt.toNat, hd, (key _ hd).mp g2, fun h300 => ?_⟩
    rcases g3 with g3 | g3
    · omega
    · have g4 := b2 day.toInt.toNat h300
      have g5 : nI day.toInt.toNat = day := by
        apply Int32.toInt_inj.mp
        rw [nI_toInt (by omega), hd]
      rw [g5] at g4
      exact fun z => (g4.mpr z) g3
  · rintro ⟨d, hd, r1, r2⟩
    refine ⟨by omega, (key d hd).mpr r1, ?_⟩
    by_cases h300 : d ≤ 300
    · right
      have g4 := b2 d h300
      have g5 : nI d = day := by
        apply Int32.toInt_inj.mp
        rw [nI_toInt (by omega), hd]
      rw [g5] at g4
      exact Classical.byContradiction fun z => (r2 h300) (g4.mp z)
    · left
      omega
theorem i_div24 {x z : Int32} {k : Int} (e : z = x / 24) (hx : x.toInt = 24 * k) : z.toInt = k := by
  have h1 := any32 x
  rw [e, Int32.toInt_div, show (24 : Int32).toInt = 24 by decide, hx, Int.mul_tdiv_cancel_left k (by decide), i_bmod (by omega) (by omega)]
/-- the day of the run that is at a halt now -/
theorem day_of {N : Net} (hN : wfN N) {c s : Nat} {h : Int} (hc : c < nK N) (hs : s < nS N c) (hm : (nH N c + nO N c s) % 24 = h % 24) : ∃ k : Int, h - nH N c - nO N c s = 24 * k ∧ 24 * k + nH N c + nO N c s = h :=
  ⟨(h - nH N c - nO N c s) / 24, by omega, by omega⟩
def at2 (g f : Nat → Nat → Int32) (i q : Nat) (x : Int32) : Prop := g i q = x ∧ ∀ c r, ¬ (c = i ∧ r = q) → g c r = f c r
theorem at2_w {σ σ' : QS} {v i q : Nat} {x : Int32} (e : σ' = rs σ v i (upd (σ v i) q x)) : at2 (σ' v) (σ v) i q x := by
  subst e
  refine ⟨by rw [rs_self]; unfold upd; rw [if_pos rfl], fun c r h => ?_⟩
  by_cases hc : c = i
  · subst hc
    rw [rs_self]
    unfold upd
    rw [if_neg (fun z => h ⟨rfl, z⟩)]
  · rw [rs_i hc]
theorem upd_self {f : Nat → Int32} {q : Nat} {x : Int32} : upd f q x q = x := by unfold upd; rw [if_pos rfl]
theorem at2_ww {σ σ1 : QS} {v i q : Nat} {x y : Int32} (h : σ1 v = σ v) : at2 (rs (rs σ1 v i (upd (σ1 v i) q y)) v i (upd (upd (σ1 v i) q y) q x) v) (σ v) i q x := by
  refine ⟨by rw [rs_self]; exact upd_self, fun c r hn => ?_⟩
  by_cases hc : c = i
  · subst hc
    rw [rs_self]
    unfold upd
    rw [if_neg (fun z => hn ⟨rfl, z⟩), if_neg (fun z => hn ⟨rfl, z⟩), h]
  · rw [rs_i hc, rs_i hc, h]
theorem cl_mod4 {x y : Int32} (h : y.toInt = x.toInt % 4) (hx : 0 ≤ x.toInt) : y.toNatClampNeg = x.toNatClampNeg % 4 := by
  have h1 := cl_eq hx
  have h2 := cl_eq (j := y) (by omega)
  omega
theorem cl_m1 {x y o : Int32} (h : y.toInt = x.toInt - o.toInt) (h1 : o.toInt = 1 ∧ 1 ≤ x.toInt) : y.toNatClampNeg = x.toNatClampNeg - 1 := by
  have h3 := cl_eq (j := x) (by omega)
  have h2 := cl_eq (j := y) (by omega)
  omega
theorem cl_same {x y : Int32} (h : x.toInt = y.toInt) : x.toNatClampNeg = y.toNatClampNeg := by rw [Int32.toInt_inj.mp h]
def inT (σ : QS) (i : Nat) (day : Int) (lat : Nat → Int32) (s : Nat) : Prop := 24 * day + (σ 22 i 0).toInt + (σ 28 i s).toInt ≤ (lat (σ 27 i s).toNatClampNeg).toInt
def lsT (σ : QS) (i : Nat) (stop day : Int) (lat : Nat → Int32) (x : Int32) : Prop := (x.toInt = -1 ∧ ∀ s : Nat, stop < (s : Int) → (s : Int) < (σ 26 i 0).toInt → ¬ inT σ i day lat s) ∨ (stop < x.toInt ∧ x.toInt < (σ 26 i 0).toInt ∧ inT σ i day lat x.toNatClampNeg ∧ ∀ s : Nat, x.toInt < (s : Int) → (s : Int) < (σ 26 i 0).toInt → ¬ inT σ i day lat s)
def ldn (f : Nat → Int32) : Prop := ∃ q : Nat, q < 4 ∧ 0 < (f q).toInt
theorem i_div24b {x z : Int32} (e : z = x / 24) (h1 : -100100 ≤ x.toInt) (h2 : x.toInt ≤ 100100) : -4171 ≤ z.toInt ∧ z.toInt ≤ 4171 := by
  have h3 : z.toInt = x.toInt.tdiv 24 := by
    have h4 : -100100 ≤ x.toInt.tdiv 24 ∧ x.toInt.tdiv 24 ≤ 100100 := by
      rcases Int.le_total 0 x.toInt with q | q
      · rw [Int.tdiv_eq_ediv_of_nonneg q]
        omega
      · have : x.toInt.tdiv 24 = -((-x.toInt).tdiv 24) := by rw [Int.neg_tdiv, Int.neg_neg]
        rw [this, Int.tdiv_eq_ediv_of_nonneg (by omega)]
        omega
    rw [e, Int32.toInt_div, show (24 : Int32).toInt = 24 by decide, i_bmod (by omega) (by omega)]
  rcases Int.le_total 0 x.toInt with q | q
  · rw [h3, Int.tdiv_eq_ediv_of_nonneg q]
    omega
  · have : x.toInt.tdiv 24 = -((-x.toInt).tdiv 24) := by rw [Int.neg_tdiv, Int.neg_neg]
    rw [h3, this, Int.tdiv_eq_ediv_of_nonneg (by omega)]
    omega
theorem dayW {σ : QS} {N : Net} {c s : Nat} {h : Int} {x : Int32} (hR : RepC σ N) (hc : c < nK N) (hs : s < nS N c) (hm : (nH N c + nO N c s) % 24 = h % 24) (hx : ∀ k : Int, h - (σ 22 c 0).toInt - (σ 28 c s).toInt = 24 * k → x.toInt = k) : 24 * x.toInt + nH N c + nO N c s = h := by
  obtain ⟨k, h1, h2⟩ := day_of hR.1 hc hs hm
  have h3 := hx k (by rw [((hR.2.2 c hc).1).2.1, ((hR.2.2 c hc).2.1 s hs).2]; exact h1)
  rw [h3]
  exact h2
/-! one halt of the hour, in the words of the walk -/
section GW
variable {N : Net} {h6 h7 f9 g9 : Nat → Int32} {b i h : Int} {act : Nat → Nat → Prop} {Q : Nat → Nat → Prop} {R : Nat → Prop} {z : Nat → Nat} {k c s : Nat} {x5 y5 day pl : Int32}
theorem rch_same (hR : rchB x5 (fun p => R p ∨ hitH N h6 b i h act p)) (hh : ∀ p, hitH N h6 b (i + 1) h act p ↔ hitH N h6 b i h act p) : rchB x5 (fun p => R p ∨ hitH N h6 b (i + 1) h act p) := fun p hp => by
  show _ ↔ (R p ∨ hitH N h6 b (i + 1) h act p)
  rw [hR p hp, hh p]
theorem rd_zero (hc : c < nK N) (hI : rdI N h6 b i h act z f9) (hz : f9 c = 0) : ∀ d, ¬ (act c d ∧ ¬ (PrH N h6 b i c (z c) ∧ htN N c d (z c) = h)) := by
  intro d a
  have := (hI c hc (d % 4) (by omega)).mpr ⟨d, rfl, a⟩
  rw [hz] at this
  exact hasB_0 _ this
theorem gd_w1 (hN : wfN N) (hH : HalC h6 h7 N) (hz : ∀ c, c < nK N → z c < nS N c) (hk : (k : Int) = i) (hb : b ≤ i) (hi : i < (h7 24).toInt) (hc : c < nK N) (hs : s < nS N c) (e : (h6 k).toInt = hvN N c s) (hI : rdI N h6 b i h act z f9) (h0 : f9 c = 0) : rdI N h6 b (i + 1) h act z f9 ∧ ∀ p, hitH N h6 b (i + 1) h act p ↔ hitH N h6 b i h act p :=
  rd_no hN hH hz hk hb hi hc hs e hI (fun d _ => rd_zero hc hI h0 d)
theorem gd_w2 (hN : wfN N) (hH : HalC h6 h7 N) (hz : ∀ c, c < nK N → z c < nS N c) (ha : actOk N h act) (hk : (k : Int) = i) (hb : b ≤ i) (hi : i < (h7 24).toInt) (hc : c < nK N) (hs : s < nS N c) (e : (h6 k).toInt = hvN N c s) (hI : rdI N h6 b i h act z f9) (hd : 24 * day.toInt + nH N c + nO N c s = h) (h0 : f9 c &&& b4I day = 0) : rdI N h6 b (i + 1) h act z f9 ∧ ∀ p, hitH N h6 b (i + 1) h act p ↔ hitH N h6 b i h act p :=
  rd_no hN hH hz hk hb hi hc hs e hI ((rd_bit hN ha hc hs hI hd).2 (fun y => (bw_and (by omega) (b4_at day).1).mpr y h0))
theorem gd_w3 (hN : wfN N) (hH : HalC h6 h7 N) (hz : ∀ c, c < nK N → z c < nS N c) (ha : actOk N h act) (hk : (k : Int) = i) (hb : b ≤ i) (hi : i < (h7 24).toInt) (hc : c < nK N) (hs : s < nS N c) (e : (h6 k).toInt = hvN N c s) (hI : rdI N h6 b i h act z f9) (hd : 24 * day.toInt + nH N c + nO N c s = h) (h0 : f9 c &&& b4I day ≠ 0)
    (hg : (s ≠ z c ∧ g9 = f9) ∨ (s = z c ∧ g9 = upd f9 c (f9 c &&& (b4I day ^^^ (-1))))) : rdI N h6 b (i + 1) h act z g9 ∧ ∀ p, hitH N h6 b (i + 1) h act p ↔ hitH N h6 b i h act p ∨ p = nP N c s := by
  obtain ⟨d, d1, d2, d3⟩ := (rd_bit hN ha hc hs hI hd).1 ((bw_and (by omega) (b4_at day).1).mp h0)
  refine rd_yes hN hH hz ha hk hb hi hc hs e hI d2 d3 (fun c9 hc9 r hr => ?_)
  rcases hg with ⟨g1, g2⟩ | ⟨g1, g2⟩
  · rw [g2]
    exact ⟨fun y => ⟨y, fun x => g1 x.1⟩, fun y => y.1⟩
  · rw [g2]
    unfold upd
    by_cases q : c9 = c
    · subst q
      rw [if_pos rfl, bw_rm (by omega) (b4_at day).2 (by omega)]
      have : (day.toInt % 4).toNat = d % 4 := by omega
      rw [this]
      exact ⟨fun y => ⟨y.1, fun x => y.2 x.2.2⟩, fun y => ⟨y.1, fun x => y.2 ⟨g1, rfl, x⟩⟩⟩
    · rw [if_neg q]
      exact ⟨fun y => ⟨y, fun x => q x.2.1⟩, fun y => y.1⟩
theorem gd_hit (hN : wfN N) (hH : HalC h6 h7 N) (hz : ∀ c, c < nK N → z c < nS N c) (ha : actOk N h act) (hk : (k : Int) = i) (hb : b ≤ i) (hi : i < (h7 24).toInt) (hc : c < nK N) (hs : s < nS N c) (e : (h6 k).toInt = hvN N c s) (hI : rdI N h6 b i h act z f9) (hd : 24 * day.toInt + nH N c + nO N c s = h) (h0 : f9 c &&& b4I day ≠ 0) : ∀ p, hitH N h6 b (i + 1) h act p ↔ hitH N h6 b i h act p ∨ p = nP N c s := by
  by_cases q : s = z c
  · exact (gd_w3 (g9 := upd f9 c (f9 c &&& (b4I day ^^^ (-1)))) hN hH hz ha hk hb hi hc hs e hI hd h0 (Or.inr ⟨q, rfl⟩)).2
  · exact (gd_w3 (g9 := f9) hN hH hz ha hk hb hi hc hs e hI hd h0 (Or.inl ⟨q, rfl⟩)).2
theorem rch_more (hN : wfN N) (hc : c < nK N) (hs : s < nS N c) (hR : rchB x5 (fun p => R p ∨ hitH N h6 b i h act p)) (hh : ∀ p, hitH N h6 b (i + 1) h act p ↔ hitH N h6 b i h act p ∨ p = nP N c s) (hp : pl.toInt = nP N c s) (e : y5 = (x5 ||| pBI pl)) : rchB y5 (fun p => R p ∨ hitH N h6 b (i + 1) h act p) := fun p hp9 => by
  have h1 := (((hN.2 c hc).2.2.2.1) s hs).1
  have h2 := cl_eq (j := pl) (by omega)
  have h3 : pl.toNatClampNeg = nP N c s := by omega
  show _ ↔ (R p ∨ hitH N h6 b (i + 1) h act p)
  rw [e, bw_or (by omega) (pB_at (by omega) (by omega)).1, hR p hp9, hh p, h3]
  constructor
  · rintro ((y | y) | y)
    · exact Or.inl y
    · exact Or.inr (Or.inl y)
    · exact Or.inr (Or.inr y)
  · rintro (y | (y | y))
    · exact Or.inl (Or.inl y)
    · exact Or.inl (Or.inr y)
    · exact Or.inr y
/-- the halt number i: whose it is -/
theorem halt_at (hN : wfN N) (hH : HalC h6 h7 N) {q : Nat} (hq : q < 24) (h1 : (h7 q).toInt ≤ i) (h2 : i < (h7 (q + 1)).toInt) (hk : (k : Int) = i) : ∃ c s, c < nK N ∧ s < nS N c ∧ (h6 k).toInt = hvN N c s ∧ ((h6 k >>> ((3 : Int32) &&& 31)) &&& 15) = nI c ∧ ((7 : Int32) - (h6 k &&& 7)) = nI s ∧ (nH N c + nO N c s) % 24 = q := by
  obtain ⟨c, s, a1, a2, a3⟩ := pr_at hH hq (i := k) (by omega) (by omega)
  have a4 := hv_of hN a1 a2 a3
  refine ⟨c, s, a1, a2, a3, a4.1, a4.2, ?_⟩
  exact ((pr_all hN hH hq).mp ⟨a1, a2, k, by omega, by omega, a3⟩).2.2
theorem go_w (hN : wfN N) (hk : (k : Int) = i) (hb : b ≤ i) (hc : c < nK N) (hs : s < nS N c) (e : (h6 k).toInt = hvN N c s) (hI : goI N h6 b i h act Q f9) (hd : 24 * day.toInt + nH N c + nO N c s = h) (h3 : Q c s) (h4 : ∃ d : Nat, (d : Int) = day.toInt ∧ runN N c d) (hg : g9 = upd f9 c (f9 c ||| b4I day)) : goI N h6 b (i + 1) h act Q g9 := by
  obtain ⟨d, d1, d2⟩ := h4
  refine go_yes hN hk hb hc hs e hI (d := d) (by unfold htN; omega) h3 d2 (fun c9 hc9 r hr => ?_)
  rw [hg]
  unfold upd
  by_cases q : c9 = c
  · subst q
    rw [if_pos rfl, bw_or (by omega) (b4_at day).1]
    have : (day.toInt % 4).toNat = d % 4 := by omega
    rw [this]
    exact ⟨fun y => y.elim Or.inl (fun y => Or.inr ⟨rfl, y⟩), fun y => y.elim Or.inl (fun y => Or.inr y.2)⟩
  · rw [if_neg q]
    exact ⟨fun y => Or.inl y, fun y => y.elim id (fun y => absurd y.1 q)⟩
theorem go_wn (hN : wfN N) (hk : (k : Int) = i) (hb : b ≤ i) (hc : c < nK N) (hs : s < nS N c) (e : (h6 k).toInt = hvN N c s) (hI : goI N h6 b i h act Q f9) (hd : 24 * day.toInt + nH N c + nO N c s = h) (h4 : ¬ ∃ d : Nat, (d : Int) = day.toInt ∧ runN N c d) : goI N h6 b (i + 1) h act Q f9 :=
  go_no hN hk hb hc hs e hI (fun _ d hd9 hr => h4 ⟨d, by unfold htN at hd9; omega, hr⟩)
end GW
theorem rch_0 {N : Net} {h6 : Nat → Int32} {b h : Int} {act : Nat → Nat → Prop} {R : Nat → Prop} {x5 : Int32} (hR : rchB x5 R) : rchB x5 (fun p => R p ∨ hitH N h6 b b h act p) := fun p hp => by
  rw [hR p hp]
  exact ⟨fun y => Or.inl y, fun y => y.elim id (fun y => (hit_0 y).elim)⟩
theorem hal_mono {N : Net} {h6 h7 : Nat → Int32} (hH : HalC h6 h7 N) {q : Nat} (hq : q < 24) : (h7 q).toInt ≤ (h7 (q + 1)).toInt := by
  have f1 := hH.1 q (by omega)
  have f2 := hH.1 (q + 1) (by omega)
  rcases Int.lt_or_le (h7 (q + 1)).toInt (h7 q).toInt with y | y
  · exfalso
    have g1 := hH.2.2.2.2 q (h7 (q + 1)).toInt.toNat (by omega) (by omega)
    have g2 := hH.2.2.2.2 (q + 1) (h7 (q + 1)).toInt.toNat (by omega) (by omega)
    have g3 := g1.mp (by omega)
    have g4 := g2.mpr (by omega)
    omega
  · exact y
theorem cl_mod24 {h v : Int32} (e : v.toInt = h.toInt % 24) : v.toNatClampNeg = (h.toInt % 24).toNat := by
  show v.toInt.toNat = _
  rw [e]
theorem cl_mod24b {h v u o : Int32} (e : v.toInt = h.toInt % 24) (e2 : u.toInt = v.toInt + o.toInt) (ho : o.toInt = 1) : u.toNatClampNeg = (h.toInt % 24).toNat + 1 := by
  show u.toInt.toNat = _
  omega
theorem pl_bit {N : Net} (hN : wfN N) {c s : Nat} (hc : c < nK N) (hs : s < nS N c) {x5 pl : Int32} {R : Nat → Prop} (hR : rchB x5 R) (hp : pl.toInt = nP N c s) : ((x5 >>> (pl &&& 31)) &&& 1 ≠ 0) ↔ R (nP N c s) := by
  have h1 := (((hN.2 c hc).2.2.2.1) s hs).1
  have h2 := cl_eq (j := pl) (by omega)
  rw [(pB_at (p := pl) (by omega) (by omega)).2, ← hR _ h1]
  have h3 : pl = nI (nP N c s) := by
    rw [nI_at (x := pl) (by omega)]
    congr 1
    omega
  rw [h3]
  exact sn_bit x5 (by omega)
/-! the search hour by hour -/
def allW (w : Int32) (R : Nat → Prop) : Prop := ∀ p, p < 12 → hasB w p → R p
theorem hasB_12 {w : Int32} (h0 : 0 ≤ w.toInt) (h1 : w.toInt ≤ 4095) {p : Nat} (h : hasB w p) : p < 12 := by
  have h2 := i_nn h0
  rcases Nat.lt_or_ge p 12 with q | q
  · exact q
  · exfalso
    have h3 : w.toBitVec.toNat < 2 ^ p := Nat.lt_of_lt_of_le (show w.toBitVec.toNat < 2 ^ 12 by omega) (Nat.pow_le_pow_right (by decide) q)
    have h4 : w.toBitVec.toNat.testBit p = true := h
    rw [Nat.testBit_lt_two_pow h3] at h4
    exact Bool.noConfusion h4
theorem b_ext {x y : Int32} (h : ∀ p, p < 32 → (hasB x p ↔ hasB y p)) : x = y := by
  apply Int32.toBitVec_inj.mp
  apply BitVec.eq_of_getLsbD_eq
  intro i hi
  have h1 := h i hi
  unfold hasB at h1
  cases h2 : x.toBitVec.getLsbD i <;> cases h3 : y.toBitVec.getLsbD i <;> simp_all
theorem hb_and {x y : Int32} {p : Nat} : hasB (x &&& y) p ↔ hasB x p ∧ hasB y p := by
  unfold hasB
  rw [Int32.toBitVec_and, BitVec.getLsbD_and, Bool.and_eq_true]
theorem hb_not {x : Int32} {p : Nat} (hp : p < 32) : hasB (x ^^^ (-1)) p ↔ ¬ hasB x p := by
  unfold hasB
  rw [Int32.toBitVec_xor, show (-1 : Int32).toBitVec = BitVec.allOnes 32 by decide, BitVec.getLsbD_xor, BitVec.getLsbD_allOnes]
  simp [hp]
theorem all_and {x w : Int32} {R : Nat → Prop} (h0 : 0 ≤ w.toInt) (h1 : w.toInt ≤ 4095) (hx : rchB x R) : (x &&& w = w) ↔ allW w R := by
  constructor
  · intro h p hp hw
    rw [← h] at hw
    exact (hx p hp).mp (hb_and.mp hw).1
  · intro h
    apply b_ext
    intro p _
    rw [hb_and]
    exact ⟨fun y => y.2, fun y => ⟨(hx p (hasB_12 h0 h1 y)).mpr (h p (hasB_12 h0 h1 y) y), y⟩⟩
theorem all_not {w l : Int32} (h0 : 0 ≤ w.toInt) (h1 : w.toInt ≤ 4095) : (w &&& (l ^^^ (-1)) = 0) ↔ allW w (hasB l) := by
  constructor
  · intro h p hp hw
    refine Classical.byContradiction fun z => ?_
    have := hb_and.mpr ⟨hw, (hb_not (x := l) (show p < 32 by omega)).mpr z⟩
    rw [h] at this
    exact hasB_0 _ this
  · intro h
    apply b_ext
    intro p hp
    refine ⟨fun y => ?_, fun y => (hasB_0 _ y).elim⟩
    have y := hb_and.mp y
    exact absurd (h p (hasB_12 h0 h1 y.1) y.1) ((hb_not hp).mp y.2)
section SO
variable {N : Net} {f p : Nat} {t h : Int}
theorem so_link {l : Nat → Int32} (hL : LnkC l N) (hf : f < 12) (hp : p < 12) (a : rchF N f t h p) : hasB (l f) p := by
  rcases a with a | a
  · exact hL 0 f p hf hp a.symm
  · obtain ⟨n, a⟩ := (fw_eq_bw N (-1) f p t h).mp a
    exact hL n f p hf hp (lk_bw n f t a)
theorem so_ok : actOk N h (actF N f t (h - 1)) := fun c d a => ⟨a.1, (by obtain ⟨s, b1, b2, -⟩ := a.2.2.1; exact ⟨s, by omega, by omega⟩), by have := a.2.2.2; omega⟩
theorem so_ok2 {z : Nat → Nat} : actOk N h (fun c d => actF N f t (h - 1) c d ∧ htN N c d (z c) ≠ h) := fun c d a => so_ok c d a.1
theorem so_down (hN : wfN N) (ht : t ≤ h) {x : Int32} (a : rchB x (fun p => rchF N f t (h - 1) p ∨ ∃ c d s, c < nK N ∧ s < nS N c ∧ actF N f t (h - 1) c d ∧ htN N c d s = h ∧ nP N c s = p)) : rchB x (rchF N f t h) := fun p hp => by
  rw [a p hp]
  exact sw_down hN ht
theorem so_on (hN : wfN N) (ht : t ≤ h) {g : Nat → Int32} (a : ridB N g (fun c d => (actF N f t (h - 1) c d ∧ htN N c d (lastS N c) ≠ h) ∨ (c < nK N ∧ runN N c d ∧ ∃ s, s < nS N c ∧ (s + 1 < nS N c ∧ rchF N f t h (nP N c s)) ∧ htN N c d s = h))) : ridB N g (actF N f t h) := by
  refine ridB_iff a (fun c d _ => ?_)
  rw [← sw_on hN ht]
  constructor
  · rintro (y | ⟨y1, y2, s, _, ⟨y4, y5⟩, y6⟩)
    · exact Or.inl y
    · exact Or.inr ⟨y1, y2, s, y4, y6, y5⟩
  · rintro (y | ⟨y1, y2, s, y4, y6, y5⟩)
    · exact Or.inl y
    · exact Or.inr ⟨y1, y2, s, by omega, ⟨y4, y5⟩, y6⟩
theorem so_rid0 (hN : wfN N) {g : Nat → Int32} (hg : ∀ j : Nat, j < 12 → g j = 0) : ridB N g (actF N f t (t - 1)) := fun c hc r _ => by
  rw [hg c (by have := hN.1; omega)]
  exact ⟨fun y => (hasB_0 _ y).elim, fun ⟨_, _, y⟩ => (sw_none hN y).elim⟩
theorem so_rch0 (hN : wfN N) {x u : Int32} (hu : 0 ≤ u.toInt ∧ u.toInt ≤ 11) (hx : x = pBI u) : rchB x (rchF N u.toNatClampNeg t (t - 1)) := fun p hp => by
  have h2 := cl_eq hu.1
  rw [sw_first hN, hx]
  unfold hasB
  rw [(pB_at hu.1 hu.2).1, BitVec.getLsbD_twoPow]
  constructor
  · intro y
    simp at y
    omega
  · intro y
    subst y
    simp
    omega
/-- what the search answers -/
def sooP (N : Net) (f : Nat) (a b : Int) (w x : Int32) : Prop := 0 ≤ w.toInt → w.toInt ≤ 4095 → ((x.toInt = -1 ∧ ∀ k : Int, a ≤ k → k ≤ b → ¬ allW w (rchF N f a k)) ∨ ((a ≤ x.toInt ∧ x.toInt ≤ b) ∧ allW w (rchF N f a x.toInt) ∧ ∀ k : Int, a ≤ k → k < x.toInt → ¬ allW w (rchF N f a k)))
def sooI (N : Net) (f : Nat) (a h : Int) (w : Int32) : Prop := 0 ≤ w.toInt → w.toInt ≤ 4095 → ∀ k : Int, a ≤ k → k < h → ¬ allW w (rchF N f a k)
theorem so_i0 {w : Int32} {a : Int} : sooI N f a a w := fun _ _ k h1 h2 => by omega
theorem so_is {w x : Int32} {a : Int} (hI : sooI N f a h w) (hx : rchB x (rchF N f a h)) (hn : ¬ (x &&& w = w)) : sooI N f a (h + 1) w := fun w0 w1 k h1 h2 => by
  by_cases q : k = h
  · subst q
    exact fun z => hn ((all_and w0 w1 hx).mpr z)
  · exact hI w0 w1 k h1 (by omega)
theorem so_no {w x : Int32} {a b : Int} {l : Nat → Int32} (hL : LnkC l N) (hf : f < 12) (hn : ¬ (w &&& (l f ^^^ (-1)) = 0)) (hx : x.toInt = -1) : sooP N f a b w x := fun w0 w1 => Or.inl ⟨hx, fun k _ _ z => hn ((all_not w0 w1).mpr fun p hp hw => so_link hL hf hp (z p hp hw))⟩
theorem so_end {w x : Int32} {a b : Int} (hI : sooI N f a h w) (hh : b < h) (hx : x.toInt = -1) : sooP N f a b w x := fun w0 w1 => Or.inl ⟨hx, fun k h1 h2 => hI w0 w1 k h1 (by omega)⟩
theorem so_hit {w x y : Int32} {a b : Int} (hI : sooI N f a y.toInt w) (ha : a ≤ y.toInt) (hb : y.toInt ≤ b) (hx : rchB x (rchF N f a y.toInt)) (hn : x &&& w = w) : sooP N f a b w y := fun w0 w1 => Or.inr ⟨⟨ha, hb⟩, (all_and w0 w1 hx).mp hn, fun k h1 h2 => hI w0 w1 k h1 h2⟩
theorem rch_mono {k : Int} (hk : h ≤ k) (a : rchF N f t h p) : rchF N f t k p := a.elim Or.inl (fun a => Or.inr (fw_mono a hk))
end SO
theorem fill_s {σ σ' : QS} {v i : Nat} {z x y : Int32} (e : σ' = rs σ v i (upd (σ v i) x.toNatClampNeg z)) (h : ∀ j : Nat, (j : Int) < x.toInt → σ v i j = z) (hy : y.toInt = x.toInt + 1) (hx : 0 ≤ x.toInt) : ∀ j : Nat, (j : Int) < y.toInt → σ' v i j = z := by
  intro j hj
  have h2 := cl_eq hx
  rw [e, rs_self]
  unfold upd
  by_cases q : j = x.toNatClampNeg
  · rw [if_pos q]
  · rw [if_neg q]
    exact h j (by omega)
