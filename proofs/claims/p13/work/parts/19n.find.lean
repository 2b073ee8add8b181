/-! the reference's search -/
def isSV (N : Net) (w : Int) (f : Nat) (a : Int) (p : Nat) (v : Int) : Prop := (v = 1000000 ∧ ∀ u, fwR N w f a p u → a + 336 < u) ∨ (fwR N w f a p v ∧ v ≤ a + 336 ∧ ∀ u, fwR N w f a p u → v ≤ u)
def fdS (N : Net) (w : Int) (f : Nat) (a : Int) (g : Nat → Int32) : Prop := (g f).toInt = a ∧ ∀ p, p < 12 → (g p).toInt = 1000000 ∨ (fwR N w f a p (g p).toInt ∧ (g p).toInt ≤ a + 336)
def fdD (a : Int) (d : Nat) : Prop := a / 24 - 4 ≤ (d : Int) ∧ 24 * (d : Int) ≤ a + 336
def fdC (N : Net) (w : Int) (a : Int) (g : Nat → Int32) (Q : Nat → Nat → Nat → Prop) : Prop := ∀ c d s s', rideN N w c d s s' → fdD a d → Q c d s' → (g (nP N c s)).toInt ≤ htN N c d s → htN N c d s' ≤ a + 336 → (g (nP N c s')).toInt ≤ htN N c d s'
def q49 (c : Nat) : Nat → Nat → Nat → Prop := fun c' _ _ => c' < c
def q79 (c d : Nat) : Nat → Nat → Nat → Prop := fun c' d' _ => c' < c ∨ (c' = c ∧ d' < d)
def q12 (c d s : Nat) : Nat → Nat → Nat → Prop := fun c' d' s' => c' < c ∨ (c' = c ∧ (d' < d ∨ (d' = d ∧ s' < s)))
section FD
variable {N : Net} {w a : Int} {f c d s p : Nat} {g g' : Nat → Int32} {Q Q' : Nat → Nat → Nat → Prop}
theorem fdC_of (h : fdC N w a g Q) (hq : ∀ c d s s', rideN N w c d s s' → fdD a d → Q' c d s' → Q c d s') : fdC N w a g Q' := fun c d s s' h1 h2 h3 => h c d s s' h1 h2 (hq c d s s' h1 h2 h3)
theorem fd_end (hN : wfN N) (h0 : 0 ≤ a ∧ a ≤ 6399) (hS : fdS N w f a g) (hC : fdC N w a g (fun _ _ _ => True)) : ∀ p, p < 12 → isSV N w f a p (g p).toInt := by
  have key : ∀ n p h, fwN N w f a n p h → h ≤ a + 336 → (g p).toInt ≤ h := by
    intro n
    induction n with
    | zero =>
      intro p h y hh
      rw [y.1, hS.1]
      exact y.2
    | succ n ih =>
      intro p h y hh
      rcases y with y | ⟨c, d, s, s', hr, rfl, hh2, y⟩
      · exact ih p h y hh
      · have hlt := ht_lt hN hr
        have hge := fw_ge hN ⟨n, y⟩
        have h1 := ih _ _ y (by omega)
        have hdu := ht_dur hN (d := d) hr.1 (s := s) (by have := hr.2.2.2; omega)
        have hH := (hN.2 c hr.1).2.1
        have := hC c d s s' hr ⟨by omega, by omega⟩ trivial h1 (by omega)
        omega
  intro p hp
  rcases hS.2 p hp with y | ⟨y1, y2⟩
  · refine Or.inl ⟨y, fun u hu => Classical.byContradiction (fun z => ?_)⟩
    obtain ⟨n, hu⟩ := hu
    have := key n p u hu (by omega)
    omega
  · refine Or.inr ⟨y1, y2, fun u hu => ?_⟩
    rcases Int.lt_or_le (a + 336) u with z | z
    · omega
    · obtain ⟨n, hu⟩ := hu
      exact key n p u hu z
theorem fd_up {x : Int32} (hN : wfN N) (hr : ∃ s0, s0 < s ∧ fwR N w f a (nP N c s0) (htN N c d s0)) (hc : c < nK N) (hs : s < nS N c) (hd : runN N c d) (hw : (c : Int) ≠ w) (hS : fdS N w f a g) (hx : x.toInt = htN N c d s) (h1 : htN N c d s ≤ a + 336) (h2 : htN N c d s < (g (nP N c s)).toInt) (e : g' = upd g (nP N c s) x) : fdS N w f a g' := by
  obtain ⟨s0, z1, z2⟩ := hr
  have hf := fw_ride ⟨hc, hw, hd, z1, hs⟩ z2
  have hge := fw_ge hN hf
  rw [e]
  refine ⟨?_, fun p hp => ?_⟩
  · unfold upd
    by_cases y : f = nP N c s
    · rw [y] at hS
      have := hS.1
      omega
    · rw [if_neg y]; exact hS.1
  · unfold upd
    by_cases y : p = nP N c s
    · rw [if_pos y, y, hx]
      exact Or.inr ⟨hf, h1⟩
    · rw [if_neg y]; exact hS.2 p hp
theorem fd_nc (h : fdC N w a g (q12 c d s)) (hoff : (∀ s0, s0 < s → htN N c d s0 < (g (nP N c s0)).toInt) ∨ ¬ (htN N c d s ≤ a + 336 ∧ htN N c d s < (g (nP N c s)).toInt)) : fdC N w a g (q12 c d (s + 1)) := fun c' d' s0 s' h1 h2 h3 h4 h5 => by
  rcases Classical.em (q12 c d s c' d' s') with y | y
  · exact h c' d' s0 s' h1 h2 y h4 h5
  · have e : c' = c ∧ d' = d ∧ s' = s := by unfold q12 at h3 y; omega
    obtain ⟨rfl, rfl, rfl⟩ := e
    rcases hoff with z | z
    · have := z s0 h1.2.2.2.1
      omega
    · omega
theorem fd_on (hN : wfN N) (hS : fdS N w f a g) (hp : nP N c s < 12) (hh : htN N c d s < 1000000) (h : (g (nP N c s)).toInt ≤ htN N c d s) : ∃ s0, s0 < s + 1 ∧ fwR N w f a (nP N c s0) (htN N c d s0) := by
  refine ⟨s, by omega, ?_⟩
  rcases hS.2 _ hp with y | y
  · omega
  · exact fw_mono y.1 h
theorem fd_on1 (h : ∃ s0, s0 < s ∧ fwR N w f a (nP N c s0) (htN N c d s0)) : ∃ s0, s0 < s + 1 ∧ fwR N w f a (nP N c s0) (htN N c d s0) := by
  obtain ⟨s0, z1, z2⟩ := h
  exact ⟨s0, by omega, z2⟩
theorem fd_off (h : ∀ s0, s0 < s → htN N c d s0 < (g (nP N c s0)).toInt) (h2 : htN N c d s < (g (nP N c s)).toInt) : ∀ s0, s0 < s + 1 → htN N c d s0 < (g (nP N c s0)).toInt := fun s0 hs => by
  rcases Nat.lt_or_eq_of_le (Nat.le_of_lt_succ hs) with y | y
  · exact h s0 y
  · rw [y]; exact h2
theorem fd_0 {f9 : Int32} (hf : ∀ p : Nat, p < 12 → (g p).toInt = (if (p : Int) = f9.toInt then a else 1000000)) (h9 : 0 ≤ f9.toInt ∧ f9.toInt ≤ 11) : fdS N w f9.toNatClampNeg a g := by
  have e := cl_eq h9.1
  refine ⟨?_, fun p hp => ?_⟩
  · rw [hf _ (by omega), if_pos e]
  · rw [hf p hp]
    by_cases y : (p : Int) = f9.toInt
    · rw [if_pos y, show p = f9.toNatClampNeg by omega]
      exact Or.inr ⟨fw_here (Int.le_refl _), by omega⟩
    · rw [if_neg y]; exact Or.inl rfl
end FD
/-! what is kept of it -/
def KepM (σ : QS) (N : Net) : Prop := ∀ f a : Nat, f < 12 → a < 6400 → (σ 15 0 (6400 * f + a)).toInt ≤ (σ 17 0 0).toInt ∧ (σ 15 0 (6400 * f + a) = σ 17 0 0 → ∀ p, p < 12 → isSV N (-1) f a p (σ 14 0 (12 * (6400 * f + a) + p)).toInt)
section KM
variable {σ σ' : QS} {N M : Net} {f a p c : Nat}
theorem KepM_of (h : KepM σ N) (hk : ∀ v ∈ [14, 15, 17], σ' v = σ v) : KepM σ' N := by
  unfold KepM at h ⊢
  rw [hk 14 (by decide), hk 15 (by decide), hk 17 (by decide)]
  exact h
theorem kp_ver (h : KepM σ N) (h1 : (σ' 17 0 0).toInt = (σ 17 0 0).toInt + 1) (h2 : σ' 15 = σ 15) : KepM σ' M := fun f a hf ha => by
  have := (h f a hf ha).1
  rw [h2]
  exact ⟨by omega, fun e => by rw [e] at this; omega⟩
theorem kp_new (h : KepM σ N) (hf : f < 12) (ha : a < 6400) (e17 : σ' 17 = σ 17) (e15 : σ' 15 0 = upd (σ 15 0) (6400 * f + a) (σ 17 0 0)) (e14 : ∀ j : Nat, (j < 12 * (6400 * f + a) ∨ 12 * (6400 * f + a) + 12 ≤ j) → σ' 14 0 j = σ 14 0 j) (hv : ∀ p, p < 12 → isSV N (-1) f a p (σ' 14 0 (12 * (6400 * f + a) + p)).toInt) : KepM σ' N := fun f9 a9 hf9 ha9 => by
  rw [e17, e15]
  unfold upd
  by_cases y : 6400 * f9 + a9 = 6400 * f + a
  · have e1 : f9 = f := by omega
    have e2 : a9 = a := by omega
    subst e1; subst e2
    rw [if_pos rfl]
    exact ⟨Int.le_refl _, fun _ => hv⟩
  · rw [if_neg y]
    refine ⟨(h f9 a9 hf9 ha9).1, fun e p hp => ?_⟩
    rw [e14 _ (by omega)]
    exact (h f9 a9 hf9 ha9).2 e p hp
theorem sv_never {w a : Int} {v : Int} (ha : a ≤ 6399) (h : isSV N w f a p v) : v = 1000000 ↔ ¬ bwR N w p (a + 336) f a := by
  rw [← fw_eq_bw]
  rcases h with ⟨h1, h2⟩ | ⟨h1, h2, h3⟩
  · exact ⟨fun _ z => by have := h2 _ z; omega, fun _ => h1⟩
  · exact ⟨fun z => by omega, fun z => absurd (fw_mono h1 h2) z⟩
theorem sv_soo (hN : wfN N) {a : Int} {v x : Int32} (ha : 0 ≤ a ∧ a ≤ 6399) (h : isSV N (-1) f a p v.toInt) (hx : (v.toInt = 1000000 ∧ x.toInt = -1) ∨ (v.toInt ≠ 1000000 ∧ x.toInt = v.toInt)) : sooQ N f a (a + 336) p x := by
  rcases h with ⟨h1, h2⟩ | ⟨h1, h2, h3⟩
  · exact Or.inl ⟨by omega, h2⟩
  · have := fw_ge hN h1
    have e : x.toInt = v.toInt := by omega
    exact Or.inr ⟨⟨by omega, by omega⟩, by rw [e]; exact h1, by rw [e]; exact h3⟩
theorem sooQ_1 {a b : Int} {x y : Int32} (h : sooQ N f a b p x) (h' : sooQ N f a b p y) : x.toInt = y.toInt := by
  rcases h with ⟨h1, h2⟩ | ⟨h1, h2, h3⟩ <;> rcases h' with ⟨k1, k2⟩ | ⟨k1, k2, k3⟩
  · omega
  · have := h2 _ k2; omega
  · have := k2 _ h2; omega
  · have := h3 _ k2
    have := k3 _ h2
    omega
theorem sv_soon {a : Int} {v : Int} (h : isSV N (-1) f a p v) (hv : v ≠ 1000000) : isSoon N f a p v := by
  rcases h with ⟨h1, h2⟩ | ⟨h1, h2, h3⟩
  · exact absurd h1 hv
  · exact ⟨h1, h2, h3⟩
theorem sv_none {now : Int} {v : Int} (ha : now ≤ 6399) (h : isSV N (-1) f now p v) (hv : v = 1000000) : ∀ c d s', ¬ goodK N now f p c d s' := by
  rintro c d s' ⟨u, z1, z2⟩
  rcases h with ⟨h1, h2⟩ | ⟨h1, h2, h3⟩
  · have := h2 _ z1.1
    have := z1.2.1
    omega
  · omega
/-- the reference's test of a stop is the class's -/
theorem sv_good {now : Int} {v x : Int} {g d s' : Nat} (hN : wfN N) (hv : isSoon N f now g v) (hr : fwR N (-1) f now (nP N c s') (htN N c d s')) (hx : isSV N (-1) (nP N c s') (htN N c d s') g x) (hx9 : htN N c d s' ≤ 6399) : x = v ↔ goodK N now f g c d s' := by
  have hge := fw_ge hN hr
  constructor
  · intro e
    subst e
    refine ⟨x, hv, ?_⟩
    rcases hx with ⟨h1, h2⟩ | ⟨h1, h2, h3⟩
    · have := hv.2.1
      omega
    · exact (fw_eq_bw N (-1) _ _ _ _).mp h1
  · rintro ⟨u, z1, z2⟩
    obtain rfl := soon_1 hv z1
    have hf := (fw_eq_bw N (-1) _ _ _ _).mpr z2
    rcases hx with ⟨h1, h2⟩ | ⟨h1, h2, h3⟩
    · have := h2 _ hf
      have := hv.2.1
      omega
    · have y1 := h3 _ hf
      have y2 := hv.2.2 _ (fw_trans hr h1)
      omega
end KM
/-! the reference seeks -/
def skC (N : Net) (now : Int) (C : Nat → Int) (A : PS) (k : Nat) (Q : Nat → Nat → Prop) : Prop := ∀ c d s s', Q c d → ¬ takeK N now C A k c d s s'
def r30 (c : Nat) : Nat → Nat → Prop := fun c' _ => c' < c
def r53 (c d : Nat) : Nat → Nat → Prop := fun c' d' => c' < c ∨ (c' = c ∧ d' < d)
def maK (N : Net) (now : Int) (A : PS) (k c d s : Nat) : Prop := s + 1 < nS N c ∧ ((nP N c s : Nat) : Int) = (A k 2).toInt ∧ htN N c d s = now
def heI (N : Net) (now : Int) (A : PS) (k c d : Nat) (e s : Int) : Prop := (e = -1 ∧ ∀ s0 : Nat, (s0 : Int) < s → ¬ maK N now A k c d s0) ∨ (0 ≤ e ∧ e < s ∧ maK N now A k c d e.toNat)
section RS
variable {N : Net} {now : Int} {C : Nat → Int} {A : PS} {k c d : Nat} {Q Q' : Nat → Nat → Prop} {e s : Int}
theorem skC_of (h : skC N now C A k Q) (hq : ∀ c d s s', takeK N now C A k c d s s' → Q' c d → Q c d) : skC N now C A k Q' := fun c d s s' h1 h2 => h c d s s' (hq c d s s' h2 h1) h2
theorem sit_d (hN : wfN N) {c d s s' : Nat} (h : takeK N now C A k c d s s') : c < nK N ∧ now / 24 - 4 ≤ (d : Int) ∧ 24 * (d : Int) ≤ now := by
  obtain ⟨⟨a1, a2, a3, a4, a5, a6⟩, -⟩ := h
  have hdu := ht_dur hN (d := d) a1 (s := s) (by omega)
  have hH := (hN.2 c a1).2.1
  exact ⟨a1, by omega, by omega⟩
theorem he_0 : heI N now A k c d (-1) 0 := Or.inl ⟨rfl, fun s0 h => by omega⟩
theorem he_y (hs : 0 ≤ s) (h : maK N now A k c d s.toNat) : heI N now A k c d s (s + 1) := Or.inr ⟨hs, by omega, h⟩
theorem he_n (hI : heI N now A k c d e s) (hs : 0 ≤ s) (h : ¬ maK N now A k c d s.toNat) : heI N now A k c d e (s + 1) := by
  rcases hI with ⟨h1, h2⟩ | ⟨h1, h2, h3⟩
  · refine Or.inl ⟨h1, fun s0 hs0 => ?_⟩
    rcases Int.lt_or_le (s0 : Int) s with y | y
    · exact h2 s0 y
    · rw [show s0 = s.toNat by omega]; exact h
  · exact Or.inr ⟨h1, by omega, h3⟩
theorem he_none (hI : heI N now A k c d e s) (he : e = -1) (hs : (nS N c : Int) - 1 ≤ s) : ∀ s0 s', ¬ takeK N now C A k c d s0 s' := by
  intro s0 s' h
  rcases hI with ⟨h1, h2⟩ | ⟨h1, h2, h3⟩
  · exact h2 s0 (by have := h.1.2.2.1; omega) ⟨h.1.2.2.1, h.1.2.2.2.1, h.1.2.2.2.2.1⟩
  · omega
theorem he_same (hN : wfN N) (hc : c < nK N) (hI : heI N now A k c d e s) (he : e ≠ -1) {s0 s' : Nat} (h : takeK N now C A k c d s0 s') : (s0 : Int) = e := by
  rcases hI with ⟨h1, h2⟩ | ⟨h1, h2, h3⟩
  · omega
  · have h4 := h.1.2.2.1
    have h5 := h3.1
    have := ht_same hN hc (s := s0) (s' := e.toNat) (by omega) (by omega) (h.1.2.2.2.2.1.trans h3.2.2.symm)
    omega
theorem rs_best {s0 s' : Nat} (h : skC N now C A k (r53 c d)) (hT : takeK N now C A k c d s0 s') : bestK N now C A k c d s0 s' := ⟨hT, fun c1 d1 s1 s2 h' => by
  refine Classical.byContradiction (fun y => h c1 d1 s1 s2 ?_ h')
  unfold r53
  omega⟩
end RS
