/-! nets and parcels at the start -/
theorem f9c {f : Nat} : f = 0 ∨ f = 1 ∨ f = 2 ∨ f = 3 ∨ f = 4 ∨ f = 5 ∨ f = 6 ∨ f = 7 ∨ f = 8 ∨ 8 < f := by omega
theorem pC_0 (u : tN) : pC (sN u) = fun _ f => dfl f := by
  funext i f
  unfold pC
  rcases f9c (f := f) with rfl | rfl | rfl | rfl | rfl | rfl | rfl | rfl | rfl | y
  any_goals rfl
  rw [if_neg (by omega)]
theorem pM_0 (v : (Nat → Nat) × (Nat → Int32)) : pM (sM v) = fun _ f => dfl f := by
  funext i f
  exact pM_out (σ := sM v) (by show (0 : Int32).toInt ≤ (i : Int); rw [show (0 : Int32).toInt = 0 by decide]; omega)
theorem wf_0 : wfN net0 := ⟨by decide, fun c hc => absurd hc (Nat.not_lt_zero c)⟩
theorem TNk_0 (u : tN) (v : (Nat → Nat) × (Nat → Int32)) (hu : okT u.2.1.2.2.2) : TNk (sN u) (sM v) 0 := by
  have z0 : (0 : Int32).toInt = 0 := by decide
  have hlk := lk_init (N := net0) (g := sN u 8 0) (fun j hj => by
    show u.2.1.2.2.2 j = _
    rw [hu j hj]; rfl)
  refine ⟨net0, 0, ⟨⟨⟨wf_0, rfl, fun c hc => absurd hc (Nat.not_lt_zero c)⟩, ?_, ?_, hlk.2, rfl, fun c _ _ => rfl⟩, ⟨wf_0, rfl, fun c hc => absurd hc (Nat.not_lt_zero c)⟩, ?_⟩, ?_, rfl, ⟨by rw [pC_0, pM_0], rfl, rfl, rfl⟩, fun i _ _ => rfl, ?_, ?_⟩
  · refine ⟨fun k hk => ⟨?_, ?_⟩, fun i hi => ?_, fun c s hc => absurd hc (Nat.not_lt_zero c), fun i j h1 h2 => ?_, fun k i hk hi => ?_⟩
    · show 0 ≤ (0 : Int32).toInt; decide
    · show (0 : Int32).toInt ≤ (0 : Int32).toInt; decide
    · have hi : (i : Int) < (0 : Int32).toInt := hi
      omega
    · have h2 : (j : Int) < (0 : Int32).toInt := h2
      omega
    · have hi : (i : Int) < (0 : Int32).toInt := hi
      omega
  · refine lk_closed wf_0 hlk.1 (fun p r q hl => ?_)
    obtain ⟨c, s, s', hc, -⟩ := hl
    exact absurd hc (Nat.not_lt_zero c)
  · intro f a hf ha
    refine ⟨?_, fun e => ?_⟩
    · show (0 : Int32).toInt ≤ (1 : Int32).toInt; decide
    · have e : (0 : Int32) = 1 := e
      exact absurd e (by decide)
  · unfold PaC
    rw [pC_0]
    refine ⟨⟨by decide, fun i hi => absurd hi (Nat.not_lt_zero i), fun i _ f => rfl⟩, fun c q hc hq => ⟨?_, fun i h1 => ?_⟩, fun i hi => ⟨?_, fun e => ?_⟩, fun i _ _ => ?_, ?_⟩
    · have e : slP (fun _ f => dfl f) c q = 0 := sumP_0 (fun i _ y => by
        have y1 : (dfl 3).toInt = (c : Int) := y.1
        rw [show (dfl 3).toInt = -1 by decide] at y1
        omega)
      rw [e]
      show (0 : Int32).toInt = 0
      exact z0
    · have h1 : (dfl 3).toInt = (c : Int) := h1
      rw [show (dfl 3).toInt = -1 by decide] at h1
      omega
    · show (-1 : Int32).toInt ≤ (0 : Int32).toInt; decide
    · have e : (-1 : Int32) = 0 := e
      exact absurd e (by decide)
    · show (-1 : Int32).toInt = -1; decide
    · show 0 ≤ (0 : Int32).toInt; decide
  · show (0 : Int32).toInt ≤ ((0 : Nat) : Int); decide
  · show 0 ≤ (1 : Int32).toInt ∧ (1 : Int32).toInt ≤ ((0 : Nat) : Int) + 1; decide
