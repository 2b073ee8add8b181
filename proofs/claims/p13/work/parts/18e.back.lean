/-! the search backward -/
section BA
variable {N : Net} {h6 h7 f9 g9 L0 u v : Nat → Int32} {b i h e w : Int} {act : Nat → Nat → Prop} {z : Nat → Nat} {k c s g : Nat} {day pl : Int32}
/-- the row of latest hours while the halts of the hour h are gone through -/
def ltI (N : Net) (h6 : Nat → Int32) (b i h : Int) (act : Nat → Nat → Prop) (L0 u : Nat → Int32) : Prop := ∀ p, p < 12 → (¬ hitH N h6 b i h act p → u p = L0 p) ∧ (hitH N h6 b i h act p → (L0 p).toInt ≤ (u p).toInt ∧ h ≤ (u p).toInt ∧ ((u p).toInt = (L0 p).toInt ∨ (u p).toInt = h))
theorem ltI_0 : ltI N h6 b b h act L0 L0 := fun _ _ => ⟨fun _ => rfl, fun y => (hit_0 y).elim⟩
theorem lt_same (hI : ltI N h6 b i h act L0 u) (hh : ∀ p, hitH N h6 b (i + 1) h act p ↔ hitH N h6 b i h act p) : ltI N h6 b (i + 1) h act L0 u := fun p hp => by
  rw [hh p]
  exact hI p hp
theorem lt_more (hN : wfN N) (hc : c < nK N) (hs : s < nS N c) (hI : ltI N h6 b i h act L0 u) (hh : ∀ p, hitH N h6 b (i + 1) h act p ↔ hitH N h6 b i h act p ∨ p = nP N c s) {x : Int32} (hx : ((u (nP N c s)).toInt ≤ x.toInt ∧ h ≤ x.toInt ∧ (x.toInt = (u (nP N c s)).toInt ∨ x.toInt = h))) (ev : v = upd u (nP N c s) x) : ltI N h6 b (i + 1) h act L0 v := fun p hp => by
  rw [hh p, ev]
  unfold upd
  by_cases q : p = nP N c s
  · subst q
    rw [if_pos rfl]
    refine ⟨fun y => absurd (Or.inr rfl) y, fun _ => ?_⟩
    have h1 := hI _ hp
    by_cases y : hitH N h6 b i h act (nP N c s)
    · have h2 := h1.2 y
      omega
    · rw [h1.1 y] at hx
      omega
  · rw [if_neg q]
    have h1 := hI p hp
    exact ⟨fun y => h1.1 (fun x => y (Or.inl x)), fun y => h1.2 (y.resolve_right q)⟩
def LatI (N : Net) (w : Int) (g : Nat) (e h : Int) (u : Nat → Int32) : Prop := (u g).toInt = e ∧ ∀ p, p < 12 → p ≠ g → latB N w g e h p (u p).toInt
theorem la_0 (hN : wfN N) (h1 : (u g).toInt = e) (h2 : ∀ p, p < 12 → p ≠ g → (u p).toInt = -1) : LatI N w g e (e + 1) u := ⟨h1, fun p hp q => Or.inl ⟨h2 p hp q, fun k hk y => by have := bw_le hN y; omega⟩⟩
theorem la_by (hN : wfN N) (hg : g < 12) (h0 : 0 ≤ h) (he : h ≤ e) (hL : LatI N w g e (h + 1) L0) (hu : ∀ p, p < 12 → (¬ (∃ c d s, c < nK N ∧ s < nS N c ∧ actB N w g e (h + 1) c d ∧ htN N c d s = h ∧ nP N c s = p) → u p = L0 p) ∧ ((∃ c d s, c < nK N ∧ s < nS N c ∧ actB N w g e (h + 1) c d ∧ htN N c d s = h ∧ nP N c s = p) → (L0 p).toInt ≤ (u p).toInt ∧ h ≤ (u p).toInt ∧ ((u p).toInt = (L0 p).toInt ∨ (u p).toInt = h))) : LatI N w g e h u := by
  refine ⟨?_, fun p hp q => ?_⟩
  · have h1 := hu g hg
    have h2 := hL.1
    by_cases y : ∃ c d s, c < nK N ∧ s < nS N c ∧ actB N w g e (h + 1) c d ∧ htN N c d s = h ∧ nP N c s = g
    · have h3 := h1.2 y
      clear h1 hu y
      omega
    · rw [h1.1 y]
      exact h2
  · have h1 := hu p hp
    have h2 := hL.2 p hp q
    have h3 := sw_by (w := w) (e := e) hN (h := h) q
    by_cases y : ∃ c d s, c < nK N ∧ s < nS N c ∧ actB N w g e (h + 1) c d ∧ htN N c d s = h ∧ nP N c s = p
    · have h4 := h1.2 y
      have h5 : bwR N w g e p h := h3.mpr (Or.inr y)
      clear h1 hu h3 y
      rcases h2 with ⟨a1, a2⟩ | ⟨a1, a2, a3⟩
      · have h6 : (u p).toInt = h := by omega
        rw [h6]
        exact Or.inr ⟨Int.le_refl _, h5, fun k hk => a2 k (by omega)⟩
      · have h6 : (u p).toInt = (L0 p).toInt := by omega
        rw [h6]
        exact Or.inr ⟨by omega, a2, a3⟩
    · rw [h1.1 y]
      refine sw_lat h0 h2 (fun x => ?_)
      rcases h3.mp x.1 with x1 | x1
      · exact x.2 x1
      · exact y x1
theorem la_none (hL : LatI N w g e h u) (h0 : 0 ≤ h) (he : h ≤ e) {p : Nat} (hp : p < 12) : (u p).toInt = -1 ↔ ¬ bwR N w g e p h := by
  by_cases q : p = g
  · subst q
    have h1 := hL.1
    exact ⟨fun x => by omega, fun x => absurd (bw_here he) x⟩
  · rcases hL.2 p hp q with ⟨a1, a2⟩ | ⟨a1, a2, a3⟩
    · exact ⟨fun _ => a2 h (Int.le_refl _), fun _ => a1⟩
    · exact ⟨fun x => by omega, fun x => absurd (bw_mono a2 a1) x⟩
theorem ba_ok (hN : wfN N) : actOk N h (actB N w g e (h + 1)) := fun c d a => by
  obtain ⟨a1, -, -, ⟨s, b1, b2, b3, -⟩, a5⟩ := a
  have h1 := ht_mono hN (d := d) a1 (last_lt hN a1) (show s ≤ lastS N c by unfold lastS; omega)
  exact ⟨a1, ⟨0, by omega, by omega⟩, by omega⟩
theorem ba_rid0 (hN : wfN N) {q : Nat → Int32} (hg : ∀ j : Nat, j < 12 → q j = 0) : ridB N q (actB N w g e (e + 1)) := fun c hc r _ => by
  rw [hg c (by have := hN.1; omega)]
  exact ⟨fun y => (hasB_0 _ y).elim, fun ⟨_, _, y⟩ => (sw_noB hN y).elim⟩
theorem ba_on (hN : wfN N) {q : Nat → Int32} (a : ridB N q (fun c d => (actB N w g e (h + 1) c d ∧ htN N c d 0 ≠ h) ∨ (c < nK N ∧ runN N c d ∧ ∃ s, s < nS N c ∧ ((c : Int) ≠ w ∧ 0 < s ∧ bwR N w g e (nP N c s) h) ∧ htN N c d s = h))) : ridB N q (actB N w g e h) := by
  refine ridB_iff a (fun c d _ => Iff.trans ?_ (sw_comes hN))
  constructor
  · rintro (y | ⟨y1, y2, s, y3, ⟨y4, y5, y7⟩, y6⟩)
    · exact Or.inl y
    · exact Or.inr ⟨y1, y4, y2, s, y5, y3, y6, y7⟩
  · rintro (y | ⟨y1, y4, y2, s, y5, y3, y6, y7⟩)
    · exact Or.inl y
    · exact Or.inr ⟨y1, y2, s, y3, ⟨y4, y5, y7⟩, y6⟩
end BA
def ltE (N : Net) (h : Int) (act : Nat → Nat → Prop) (L0 u : Nat → Int32) : Prop := ∀ p, p < 12 → (¬ (∃ c d s, c < nK N ∧ s < nS N c ∧ act c d ∧ htN N c d s = h ∧ nP N c s = p) → u p = L0 p) ∧ ((∃ c d s, c < nK N ∧ s < nS N c ∧ act c d ∧ htN N c d s = h ∧ nP N c s = p) → (L0 p).toInt ≤ (u p).toInt ∧ h ≤ (u p).toInt ∧ ((u p).toInt = (L0 p).toInt ∨ (u p).toInt = h))
theorem lt_end {N : Net} {h6 L0 u : Nat → Int32} {b i h : Int} {act : Nat → Nat → Prop} (hI : ltI N h6 b i h act L0 u) (hh : ∀ p, hitH N h6 b i h act p ↔ ∃ c d s, c < nK N ∧ s < nS N c ∧ act c d ∧ htN N c d s = h ∧ nP N c s = p) : ltE N h act L0 u := fun p hp => by
  rw [← hh p]
  exact hI p hp
theorem la_by2 {N : Net} {L0 u : Nat → Int32} {h e w : Int} {g : Nat} (hN : wfN N) (hg : g < 12) (h0 : 0 ≤ h) (he : h ≤ e) (hL : LatI N w g e (h + 1) L0) (hu : ltE N h (actB N w g e (h + 1)) L0 u) : LatI N w g e h u := la_by hN hg h0 he hL (fun p hp => hu p hp)
theorem RepC_k {σ σ' : QS} {N : Net} {ms : List Nat} (h : RepC σ N) (k : Keep ms σ σ') (hd : ∀ v ∈ [3, 21, 22, 26, 27, 28, 29], v ∉ ms) : RepC σ' N := RepC_of h (fun v hv => k v (hd v hv))
theorem la_fin {N : Net} {σ : QS} {w : Int} {g v i : Nat} {e x : Int32} {u : Nat → Int32} (hN : wfN N) (hu : u = upd (σ v i) g e) (hx : x.toInt = -1) (hf : ∀ j : Nat, j < 12 → σ v i j = x) : LatI N w g e.toInt (e.toInt + 1) u := by
  refine la_0 hN ?_ (fun p hp q => ?_)
  · rw [hu]
    unfold upd
    rw [if_pos rfl]
  · rw [hu]
    unfold upd
    rw [if_neg q, hf p hp, hx]
