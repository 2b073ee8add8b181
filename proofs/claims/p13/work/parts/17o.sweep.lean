/-! hour by hour: what is come to, which runs one may be on; and backward -/
def lastS (N : Net) (c : Nat) : Nat := nS N c - 1
def actF (N : Net) (f : Nat) (t h : Int) (c d : Nat) : Prop := c < nK N ∧ runN N c d ∧ (∃ s, s + 1 < nS N c ∧ htN N c d s ≤ h ∧ fwR N (-1) f t (nP N c s) (htN N c d s)) ∧ h + 1 ≤ htN N c d (lastS N c)
def rchF (N : Net) (f : Nat) (t h : Int) (p : Nat) : Prop := p = f ∨ fwR N (-1) f t p h
section SW
variable {N : Net} {f g : Nat} {t e w : Int}
theorem ht_mono (hN : wfN N) {c d s s' : Nat} (hc : c < nK N) (hs : s' < nS N c) (h : s ≤ s') : htN N c d s ≤ htN N c d s' := by
  rcases Nat.lt_or_ge s s' with q | q
  · have := ((hN.2 c hc).2.2.2.2) s s' q hs
    unfold htN
    omega
  · have : s = s' := by omega
    rw [this]
    exact Int.le_refl _
theorem ht_inv (hN : wfN N) {c d s s' : Nat} (hc : c < nK N) (hs : s < nS N c) (h : htN N c d s < htN N c d s') : s < s' := by
  rcases Nat.lt_or_ge s s' with q | q
  · exact q
  · have := ht_mono hN (d := d) hc hs q
    omega
theorem ht_dur (hN : wfN N) {c d s : Nat} (hc : c < nK N) (hs : s < nS N c) : 24 * (d : Int) + nH N c ≤ htN N c d s ∧ htN N c d s ≤ 24 * (d : Int) + nH N c + 60 := by
  have := ((hN.2 c hc).2.2.2.1) s hs
  unfold htN
  omega
theorem last_lt (hN : wfN N) {c : Nat} (hc : c < nK N) : lastS N c < nS N c := by
  have := (hN.2 c hc).1
  unfold lastS
  omega
theorem sw_down (hN : wfN N) {h : Int} (ht : t ≤ h) {p : Nat} : (rchF N f t (h - 1) p ∨ ∃ c d s, c < nK N ∧ s < nS N c ∧ actF N f t (h - 1) c d ∧ htN N c d s = h ∧ nP N c s = p) ↔ rchF N f t h p := by
  constructor
  · rintro ((h1 | h1) | ⟨c, d, s, c1, c2, ⟨-, a1, ⟨s0, b1, b2, b3⟩, -⟩, c4, rfl⟩)
    · exact Or.inl h1
    · exact Or.inr (fw_mono h1 (by omega))
    · have h5 : s0 < s := ht_inv hN (d := d) c1 (by omega) (by omega)
      have := fw_ride (s := s0) (s' := s) ⟨c1, by omega, a1, h5, c2⟩ b3
      rw [c4] at this
      exact Or.inr this
  · rintro (h1 | h1)
    · exact Or.inl (Or.inl h1)
    · rcases fw_iff.mp h1 with ⟨h2, -⟩ | ⟨c, d, s, s', r, rfl, h3, h4⟩
      · exact Or.inl (Or.inl h2)
      · rcases Int.lt_or_eq_of_le h3 with h5 | h5
        · exact Or.inl (Or.inr (fw_mono (fw_ride r h4) (by omega)))
        · refine Or.inr ⟨c, d, s', r.1, r.2.2.2.2, ⟨r.1, r.2.2.1, ⟨s, ?_, ?_, h4⟩, ?_⟩, h5, rfl⟩
          · have := r.2.2.2.1; have := r.2.2.2.2; omega
          · have := ht_lt hN r; omega
          · have := ht_mono hN (d := d) r.1 (last_lt hN r.1) (show s' ≤ lastS N c by unfold lastS; have := r.2.2.2.2; omega)
            omega
theorem sw_on (hN : wfN N) {h : Int} (ht : t ≤ h) {c d : Nat} : ((actF N f t (h - 1) c d ∧ htN N c d (lastS N c) ≠ h) ∨ (c < nK N ∧ runN N c d ∧ ∃ s, s + 1 < nS N c ∧ htN N c d s = h ∧ rchF N f t h (nP N c s))) ↔ actF N f t h c d := by
  constructor
  · rintro (⟨⟨a1, a2, ⟨s, b1, b2, b3⟩, a4⟩, a5⟩ | ⟨a1, a2, s, b1, b2, b3⟩)
    · exact ⟨a1, a2, ⟨s, b1, by omega, b3⟩, by omega⟩
    · refine ⟨a1, a2, ⟨s, b1, by omega, ?_⟩, ?_⟩
      · rw [b2]
        rcases b3 with b3 | b3
        · rw [b3]
          exact fw_here ht
        · exact b3
      · have := ((hN.2 c a1).2.2.2.2) s (lastS N c) (by unfold lastS; omega) (last_lt hN a1)
        unfold htN at *
        omega
  · rintro ⟨a1, a2, ⟨s, b1, b2, b3⟩, a4⟩
    rcases Int.lt_or_eq_of_le b2 with h5 | h5
    · exact Or.inl ⟨⟨a1, a2, ⟨s, b1, by omega, b3⟩, by omega⟩, by omega⟩
    · exact Or.inr ⟨a1, a2, s, b1, h5, Or.inr (by rw [h5] at b3; exact b3)⟩
theorem sw_none (hN : wfN N) {c d : Nat} : ¬ actF N f t (t - 1) c d := by
  rintro ⟨-, -, ⟨s, -, b2, b3⟩, -⟩
  have := fw_ge hN b3
  omega
theorem sw_first (hN : wfN N) {p : Nat} : rchF N f t (t - 1) p ↔ p = f := by
  constructor
  · rintro (h | h)
    · exact h
    · have := fw_ge hN h
      omega
  · exact fun h => Or.inl h
/-- runs under way four days apart are never together -/
theorem sw_one (hN : wfN N) {h day : Int} {c d s s0 : Nat} (hc : c < nK N) (h1 : s0 < nS N c) (h2 : htN N c d s0 ≤ h) (h3 : h ≤ htN N c d (lastS N c)) (h4 : s < nS N c) (h5 : 24 * day + nH N c + nO N c s = h) (h6 : (d : Int) % 4 = day % 4) : (d : Int) = day := by
  have a1 := ht_dur hN (d := d) hc h1
  have a2 := ht_dur hN (d := d) hc (last_lt hN hc)
  have a3 := ((hN.2 c hc).2.2.2.1) s h4
  omega
def actB (N : Net) (w : Int) (g : Nat) (e h : Int) (c d : Nat) : Prop := c < nK N ∧ (c : Int) ≠ w ∧ runN N c d ∧ (∃ s, 0 < s ∧ s < nS N c ∧ h ≤ htN N c d s ∧ bwR N w g e (nP N c s) (htN N c d s)) ∧ htN N c d 0 ≤ h - 1
def latB (N : Net) (w : Int) (g : Nat) (e h : Int) (p : Nat) (v : Int) : Prop := (v = -1 ∧ ∀ k, h ≤ k → ¬ bwR N w g e p k) ∨ (h ≤ v ∧ bwR N w g e p v ∧ ∀ k, v < k → ¬ bwR N w g e p k)
theorem sw_by (hN : wfN N) {h : Int} {p : Nat} (hp : p ≠ g) : bwR N w g e p h ↔ bwR N w g e p (h + 1) ∨ ∃ c d s, c < nK N ∧ s < nS N c ∧ actB N w g e (h + 1) c d ∧ htN N c d s = h ∧ nP N c s = p := by
  constructor
  · intro a
    rcases bw_iff.mp a with ⟨a1, -⟩ | ⟨c, d, s, s', r, rfl, h3, h4⟩
    · exact absurd a1 hp
    · rcases Int.lt_or_eq_of_le h3 with h5 | h5
      · exact Or.inl (bw_mono (bw_ride r h4) (by omega))
      · have := ht_lt hN r
        have h6 := r.2.2.2.1
        have h7 := r.2.2.2.2
        have h8 := ht_mono hN (d := d) r.1 (show s < nS N c by omega) (Nat.zero_le s)
        exact Or.inr ⟨c, d, s, r.1, by omega, ⟨r.1, r.2.1, r.2.2.1, ⟨s', by omega, h7, by omega, h4⟩, by omega⟩, h5.symm, rfl⟩
  · rintro (a | ⟨c, d, s, c1, c2, ⟨-, a2, a3, ⟨s', b1, b2, b3, b4⟩, -⟩, c4, rfl⟩)
    · exact bw_mono a (by omega)
    · have h5 : s < s' := ht_inv hN (d := d) c1 c2 (by omega)
      have := bw_ride (s := s) (s' := s') ⟨c1, a2, a3, h5, b2⟩ b4
      rw [c4] at this
      exact this
theorem sw_comes (hN : wfN N) {h : Int} {c d : Nat} : ((actB N w g e (h + 1) c d ∧ htN N c d 0 ≠ h) ∨ (c < nK N ∧ (c : Int) ≠ w ∧ runN N c d ∧ ∃ s, 0 < s ∧ s < nS N c ∧ htN N c d s = h ∧ bwR N w g e (nP N c s) h)) ↔ actB N w g e h c d := by
  constructor
  · rintro (⟨⟨a1, a2, a3, ⟨s, b1, b2, b3, b4⟩, a5⟩, a6⟩ | ⟨a1, a2, a3, s, b1, b2, b3, b4⟩)
    · exact ⟨a1, a2, a3, ⟨s, b1, b2, by omega, b4⟩, by omega⟩
    · refine ⟨a1, a2, a3, ⟨s, b1, b2, by omega, by rw [b3]; exact b4⟩, ?_⟩
      have := ((hN.2 c a1).2.2.2.2) 0 s b1 b2
      unfold htN at *
      omega
  · rintro ⟨a1, a2, a3, ⟨s, b1, b2, b3, b4⟩, a5⟩
    rcases Int.lt_or_eq_of_le b3 with h5 | h5
    · exact Or.inl ⟨⟨a1, a2, a3, ⟨s, b1, b2, by omega, b4⟩, by omega⟩, by omega⟩
    · exact Or.inr ⟨a1, a2, a3, s, b1, b2, h5.symm, by rw [h5]; exact b4⟩
theorem sw_noB (hN : wfN N) {c d : Nat} : ¬ actB N w g e (e + 1) c d := by
  rintro ⟨-, -, -, ⟨s, -, -, b3, b4⟩, -⟩
  have := bw_le hN b4
  omega
theorem sw_lat {h v : Int} {p : Nat} (hh : 0 ≤ h) (a : latB N w g e (h + 1) p v) (b : ¬ (bwR N w g e p h ∧ ¬ bwR N w g e p (h + 1))) : latB N w g e h p v := by
  rcases a with ⟨a1, a2⟩ | ⟨a1, a2, a3⟩
  · refine Or.inl ⟨a1, fun k hk z => ?_⟩
    rcases Int.lt_or_eq_of_le hk with q | q
    · exact a2 k (by omega) z
    · subst q
      exact b ⟨z, a2 _ (Int.le_refl _)⟩
  · exact Or.inr ⟨by omega, a2, a3⟩
end SW
