/-! sets of shops as bits; the least way through a set -/
def hasS (n : Int32) (s : Nat) : Prop := n.toBitVec.getLsbD (s - 1) = true
def bI (s : Int32) : Int32 := (1 : Int32) <<< ((s - 1) &&& 31)
def rmS (n s : Int32) : Int32 := n &&& (bI s ^^^ (-1))
theorem bI_pow : ∀ k : Fin 8, (bI (nI (k.val + 1))).toBitVec = BitVec.twoPow 32 k.val ∧ (bI (nI (k.val + 1)) ^^^ (-1)).toBitVec = ~~~ (BitVec.twoPow 32 k.val) := by decide +kernel
theorem bI_at {s : Int32} (h1 : 1 ≤ s.toInt) (h2 : s.toInt ≤ 8) : (bI s).toBitVec = BitVec.twoPow 32 (s.toNatClampNeg - 1) ∧ (bI s ^^^ (-1)).toBitVec = ~~~ (BitVec.twoPow 32 (s.toNatClampNeg - 1)) := by
  have h3 := cl_eq (j := s) (by omega)
  have h := bI_pow ⟨s.toNatClampNeg - 1, by omega⟩
  simp only at h
  rw [show s.toNatClampNeg - 1 + 1 = s.toNatClampNeg by omega, ← nI_at (by omega)] at h
  exact h
theorem has_bI {n s : Int32} (h1 : 1 ≤ s.toInt) (h2 : s.toInt ≤ 8) : (n &&& bI s ≠ 0) ↔ hasS n s.toNatClampNeg := by
  have h3 := cl_eq (j := s) (by omega)
  have h4 : (n &&& bI s = 0) ↔ (n &&& bI s).toBitVec = (0 : Int32).toBitVec := ⟨fun h => by rw [h], fun h => Int32.toBitVec_inj.mp h⟩
  unfold hasS
  rw [ne_eq, h4, Int32.toBitVec_and, (bI_at h1 h2).1, BitVec.and_twoPow]
  split
  · rename_i h
    refine ⟨fun _ => h, fun _ h9 => ?_⟩
    have h8 : (BitVec.twoPow 32 (s.toNatClampNeg - 1)).getLsbD (s.toNatClampNeg - 1) = true := by
      rw [BitVec.getLsbD_twoPow]
      simp
      omega
    rw [h9] at h8
    exact absurd h8 (by show ¬ (BitVec.getLsbD (0#32) _ = true); simp)
  · rename_i h
    exact ⟨fun h9 => absurd rfl h9, fun h9 => absurd h9 h⟩
theorem has_rm {n s : Int32} {t : Nat} (h1 : 1 ≤ s.toInt) (h2 : s.toInt ≤ 8) (ht : 1 ≤ t) (ht8 : t ≤ 8) : hasS (rmS n s) t ↔ hasS n t ∧ t ≠ s.toNatClampNeg := by
  have h3 := cl_eq (j := s) (by omega)
  unfold hasS rmS
  rw [Int32.toBitVec_and, (bI_at h1 h2).2, BitVec.getLsbD_and, BitVec.getLsbD_not, BitVec.getLsbD_twoPow]
  by_cases h : t = s.toNatClampNeg
  · subst h
    simp <;> omega
  · have h4 : ¬ (s.toNatClampNeg - 1 = t - 1) := by omega
    have h5 : t - 1 < 32 := by omega
    simp [h, h4, h5]
theorem rm_lt {n s : Int32} (hn : 0 ≤ n.toInt) (h1 : 1 ≤ s.toInt) (h2 : s.toInt ≤ 8) (hs : hasS n s.toNatClampNeg) : 0 ≤ (rmS n s).toInt ∧ (rmS n s).toInt < n.toInt := by
  have h3 := cl_eq (j := s) (by omega)
  have h4 := i_andl (z := rmS n s) rfl hn
  have h5 := (has_rm (n := n) (t := s.toNatClampNeg) h1 h2 (by omega) (by omega))
  refine ⟨h4.1, ?_⟩
  rcases Int.lt_or_eq_of_le h4.2 with h | h
  · exact h
  · have h6 : rmS n s = n := Int32.toInt_inj.mp h
    rw [h6] at h5
    exact absurd rfl (h5.mp hs).2
theorem has_out {n : Int32} (h0 : 0 ≤ n.toInt) (h1 : n.toInt ≤ 255) {i : Nat} (hi : 8 ≤ i) : n.toBitVec.getLsbD i = false := by
  have h2 := i_nn h0
  have h3 : n.toBitVec.toNat < 2 ^ 8 := by omega
  have h4 : n.toBitVec.getLsbD i = n.toBitVec.toNat.testBit i := rfl
  rw [h4]
  exact Nat.testBit_lt_two_pow (Nat.lt_of_lt_of_le h3 (Nat.pow_le_pow_right (by decide) hi))
theorem has_sub {n m : Int32} (h0 : 0 ≤ n.toInt) (h1 : n.toInt ≤ 255) : (n &&& (m ^^^ (-1)) = 0) ↔ ∀ s, 1 ≤ s → s ≤ 8 → hasS n s → hasS m s := by
  have h4 : (n &&& (m ^^^ (-1)) = 0) ↔ (n &&& (m ^^^ (-1))).toBitVec = (0 : Int32).toBitVec := ⟨fun h => by rw [h], fun h => Int32.toBitVec_inj.mp h⟩
  have h5 : (n &&& (m ^^^ (-1))).toBitVec = n.toBitVec &&& ~~~ m.toBitVec := by
    rw [Int32.toBitVec_and, Int32.toBitVec_xor, show (-1 : Int32).toBitVec = BitVec.allOnes 32 by decide, BitVec.xor_allOnes]
  rw [h4, h5]
  unfold hasS
  constructor
  · intro h s h1 h2 hs
    have h6 : (n.toBitVec &&& ~~~ m.toBitVec).getLsbD (s - 1) = false := by rw [h]; show BitVec.getLsbD (0#32) _ = false; simp
    rw [BitVec.getLsbD_and, BitVec.getLsbD_not, hs] at h6
    have h7 : s - 1 < 32 := by omega
    simpa [h7] using h6
  · intro h
    apply BitVec.eq_of_getLsbD_eq
    intro i hi
    show _ = BitVec.getLsbD (0#32) i
    rw [BitVec.getLsbD_and, BitVec.getLsbD_not, BitVec.getLsbD_zero]
    rcases Nat.lt_or_ge i 8 with q | q
    · have h8 := h (i + 1) (by omega) (by omega)
      rw [Nat.add_sub_cancel] at h8
      cases hb : n.toBitVec.getLsbD i
      · simp
      · rw [h8 hb]
        simp
    · rw [has_out h0 h1 q]
      simp
theorem has_diff {n m s : Int32} (h1 : 1 ≤ s.toInt) (h2 : s.toInt ≤ 8) : (m &&& (n ^^^ (-1)) &&& bI s ≠ 0) ↔ hasS m s.toNatClampNeg ∧ ¬ hasS n s.toNatClampNeg := by
  have h3 := cl_eq (j := s) (by omega)
  rw [has_bI h1 h2]
  unfold hasS
  rw [Int32.toBitVec_and, Int32.toBitVec_xor, show (-1 : Int32).toBitVec = BitVec.allOnes 32 by decide, BitVec.xor_allOnes, BitVec.getLsbD_and, BitVec.getLsbD_not]
  have h7 : s.toNatClampNeg - 1 < 32 := by omega
  simp [h7]
theorem has_or {n s : Int32} {t : Nat} (h1 : 1 ≤ s.toInt) (h2 : s.toInt ≤ 8) (ht : 1 ≤ t) (ht8 : t ≤ 8) : hasS (n ||| bI s) t ↔ hasS n t ∨ t = s.toNatClampNeg := by
  have h3 := cl_eq (j := s) (by omega)
  unfold hasS
  rw [Int32.toBitVec_or, (bI_at h1 h2).1, BitVec.getLsbD_or, BitVec.getLsbD_twoPow]
  by_cases h : t = s.toNatClampNeg
  · subst h
    simp
    omega
  · have h4 : ¬ (s.toNatClampNeg - 1 = t - 1) := by omega
    simp [h, h4]
theorem has_0 (t : Nat) : ¬ hasS 0 t := by
  show ¬ (BitVec.getLsbD (0#32) _ = true)
  simp
theorem or_255 {n s : Int32} (h0 : 0 ≤ n.toInt) (h9 : n.toInt ≤ 255) (h1 : 1 ≤ s.toInt) (h2 : s.toInt ≤ 8) : 0 ≤ (n ||| bI s).toInt ∧ (n ||| bI s).toInt ≤ 255 := by
  have h3 := cl_eq (j := s) (by omega)
  have h4 := i_nn h0
  have h5 : (n ||| bI s).toBitVec.toNat < 2 ^ 8 := by
    rw [Int32.toBitVec_or, BitVec.toNat_or, (bI_at h1 h2).1, BitVec.toNat_twoPow]
    refine Nat.or_lt_two_pow (by omega) ?_
    have h6 : 2 ^ (s.toNatClampNeg - 1) < 2 ^ 8 := Nat.pow_lt_pow_right (by decide) (by omega)
    exact Nat.lt_of_le_of_lt (Nat.mod_le _ _) h6
  have h7 := i_small (x := n ||| bI s) (by omega)
  omega
theorem has_none {n : Int32} (h0 : 0 ≤ n.toInt) (h1 : n.toInt ≤ 255) (h : ∀ s, 1 ≤ s → s ≤ 8 → ¬ hasS n s) : n = 0 := by
  apply Int32.toBitVec_inj.mp
  apply BitVec.eq_of_getLsbD_eq
  intro i hi
  show _ = BitVec.getLsbD (0#32) i
  rw [BitVec.getLsbD_zero]
  rcases Nat.lt_or_ge i 8 with q | q
  · have h8 := h (i + 1) (by omega) (by omega)
    unfold hasS at h8
    rw [Nat.add_sub_cancel] at h8
    simpa using h8
  · exact has_out h0 h1 q
/-- q goes to the shops of n, once each -/
def isP (n : Int32) (q : List Nat) : Prop := q.Nodup ∧ (∀ s ∈ q, 1 ≤ s ∧ s ≤ 8) ∧ ∀ s, 1 ≤ s → s ≤ 8 → (hasS n s ↔ s ∈ q)
theorem nI_cl {s : Nat} (h : s < 2147483648) : (nI s).toNatClampNeg = s ∧ (nI s).toInt = s := by
  have h1 := nI_toInt (n := s) (by omega)
  have h2 := cl_eq (j := nI s) (by omega)
  exact ⟨by omega, h1⟩
theorem isP_cons {n : Int32} {s : Nat} {q : List Nat} (h : isP n (s :: q)) : (1 ≤ s ∧ s ≤ 8) ∧ hasS n s ∧ isP (rmS n (nI s)) q := by
  obtain ⟨h1, h2, h3⟩ := h
  have hs := h2 s List.mem_cons_self
  have hc := nI_cl (s := s) (by omega)
  have hd := List.nodup_cons.mp h1
  refine ⟨hs, (h3 s hs.1 hs.2).mpr List.mem_cons_self, hd.2, fun t ht => h2 t (List.mem_cons_of_mem _ ht), fun t ht ht8 => ?_⟩
  rw [has_rm (by omega) (by omega) ht ht8, h3 t ht ht8, hc.1, List.mem_cons]
  constructor
  · rintro ⟨h | h, g⟩
    · exact absurd h g
    · exact h
  · intro h
    exact ⟨Or.inr h, fun g => hd.1 (by rw [← g]; exact h)⟩
theorem isP_of {n : Int32} {s : Nat} {q : List Nat} (h1 : 1 ≤ s) (h8 : s ≤ 8) (hn : hasS n s) (h : isP (rmS n (nI s)) q) : isP n (s :: q) := by
  obtain ⟨g1, g2, g3⟩ := h
  have hc := nI_cl (s := s) (by omega)
  have hr : ∀ t, 1 ≤ t → t ≤ 8 → (hasS (rmS n (nI s)) t ↔ hasS n t ∧ t ≠ s) := fun t a b => by rw [has_rm (by omega) (by omega) a b, hc.1]
  refine ⟨List.nodup_cons.mpr ⟨fun h => ((hr s h1 h8).mp ((g3 s h1 h8).mpr h)).2 rfl, g1⟩, fun t ht => ?_, fun t a b => ?_⟩
  · rcases List.mem_cons.mp ht with h | h
    · subst h
      exact ⟨h1, h8⟩
    · exact g2 t h
  · rw [List.mem_cons, ← g3 t a b, hr t a b]
    by_cases h : t = s
    · subst h
      exact ⟨fun _ => Or.inl rfl, fun _ => hn⟩
    · exact ⟨fun z => Or.inr ⟨z, h⟩, fun z => z.elim (fun z => absurd z h) (fun z => z.1)⟩
theorem isP_nil {n : Int32} : isP n [] ↔ ∀ s, 1 ≤ s → s ≤ 8 → ¬ hasS n s := by
  constructor
  · intro h s a b c
    exact absurd ((h.2.2 s a b).mp c) List.not_mem_nil
  · intro h
    exact ⟨List.Pairwise.nil, fun s hs => absurd hs List.not_mem_nil, fun s a b => ⟨fun c => absurd c (h s a b), fun c => absurd c List.not_mem_nil⟩⟩
theorem isP_set : ∀ q : List Nat, q.Nodup → (∀ s ∈ q, 1 ≤ s ∧ s ≤ 8) → ∃ n : Int32, (0 ≤ n.toInt ∧ n.toInt ≤ 255) ∧ isP n q
  | [], _, _ => ⟨0, by decide, isP_nil.mpr (fun s _ _ => has_0 s)⟩
  | s :: q, h, g => by
    have hd := List.nodup_cons.mp h
    obtain ⟨n, hn, hp⟩ := isP_set q hd.2 (fun t ht => g t (List.mem_cons_of_mem _ ht))
    have hs := g s List.mem_cons_self
    have hc := nI_cl (s := s) (by omega)
    refine ⟨n ||| bI (nI s), or_255 hn.1 hn.2 (by omega) (by omega), h, g, fun t a b => ?_⟩
    rw [has_or (by omega) (by omega) a b, hc.1, hp.2.2 t a b, List.mem_cons]
    exact or_comm
def isMin (wk : Nat → Nat → Int) (mn : Nat → Int) (a : Nat) (n : Int32) (v : Int) : Prop := (∃ q, isP n q ∧ ezT wk mn a q = v) ∧ ∀ q, isP n q → v ≤ ezT wk mn a q
theorem isP_len : ∀ (q : List Nat), q.Nodup → (∀ s ∈ q, 1 ≤ s ∧ s ≤ 8) → ∀ m, (∀ s ∈ q, s ≤ m) → q.length ≤ m := by
  intro q hq h8 m
  induction m generalizing q with
  | zero =>
    intro h
    cases q with
    | nil => exact Nat.le_refl _
    | cons s q =>
      have := h s List.mem_cons_self
      have := h8 s List.mem_cons_self
      omega
  | succ m ih =>
    intro h
    have h1 : (q.erase (m + 1)).Nodup := List.Nodup.erase (m + 1) hq
    have h2 : ∀ s ∈ q.erase (m + 1), s ∈ q ∧ s ≠ m + 1 := fun s hs => ⟨List.mem_of_mem_erase hs, (List.Nodup.mem_erase_iff hq).mp hs |>.1⟩
    have h3 := ih (q.erase (m + 1)) h1 (fun s hs => h8 s (h2 s hs).1) (fun s hs => by have := h s (h2 s hs).1; have := (h2 s hs).2; omega)
    have h4 : q.length ≤ (q.erase (m + 1)).length + 1 := by
      rw [List.length_erase]
      split <;> omega
    omega
theorem ezT_le {wk : Nat → Nat → Int} {mn : Nat → Int} (h1 : ∀ a b, wk a b ≤ 60) (h2 : ∀ s, mn s ≤ 60) : ∀ (a : Nat) (p : List Nat), ezT wk mn a p ≤ 60 + 120 * p.length
  | a, [] => by have := h1 a 0; simp [ezT]; omega
  | a, s :: q => by
    have := ezT_le h1 h2 s q
    have := h1 a s
    have := h2 s
    simp only [ezT, List.length_cons]
    omega
/-- the least way from a through n, out of the least ways behind its first shop -/
theorem isMin_step {wk : Nat → Nat → Int} {mn : Nat → Int} {a : Nat} {n : Int32} {x : Int} {w : Nat → Int} (b1 : ∀ a b, wk a b ≤ 60) (b2 : ∀ s, mn s ≤ 60) (hn : 0 ≤ n.toInt ∧ n.toInt ≤ 255) (h0 : n ≠ 0)
    (hw : ∀ s, 1 ≤ s → s ≤ 8 → hasS n s → isMin wk mn s (rmS n (nI s)) (w s))
    (h1 : ∀ s, 1 ≤ s → s ≤ 8 → hasS n s → x ≤ wk a s + mn s + w s) (h2 : x = 1000000 ∨ ∃ s, 1 ≤ s ∧ s ≤ 8 ∧ hasS n s ∧ x = wk a s + mn s + w s) : isMin wk mn a n x := by
  refine ⟨?_, fun q hq => ?_⟩
  · rcases h2 with h2 | ⟨s, a1, a2, a3, a4⟩
    · exfalso
      apply h0
      refine has_none hn.1 hn.2 (fun s a1 a2 a3 => ?_)
      obtain ⟨⟨q, q1, q2⟩, -⟩ := hw s a1 a2 a3
      have e1 := h1 s a1 a2 a3
      have e2 := ezT_le b1 b2 s q
      have e3 := isP_len q q1.1 q1.2.1 8 (fun t ht => (q1.2.1 t ht).2)
      have e4 := b1 a s
      have e5 := b2 s
      omega
    · obtain ⟨⟨q, q1, q2⟩, -⟩ := hw s a1 a2 a3
      exact ⟨s :: q, isP_of a1 a2 a3 q1, by rw [a4, ← q2]; rfl⟩
  · cases q with
    | nil => exact absurd (has_none hn.1 hn.2 (isP_nil.mp hq)) h0
    | cons s q =>
      obtain ⟨c1, c2, c3⟩ := isP_cons hq
      have := h1 s c1.1 c1.2 c2
      have := (hw s c1.1 c1.2 c2).2 q c3
      show x ≤ wk a s + mn s + ezT wk mn s q
      omega
theorem isMin_0 {wk : Nat → Nat → Int} {mn : Nat → Int} {a : Nat} : isMin wk mn a 0 (wk a 0) := by
  refine ⟨⟨[], isP_nil.mpr (fun s _ _ => has_0 s), rfl⟩, fun q hq => ?_⟩
  cases q with
  | nil => exact Int.le_refl _
  | cons s q => exact absurd (isP_cons hq).2.1 (has_0 s)
/-! worth and number of the shops of a set -/
def wsK (f : Nat → Int) (n : Int32) : Nat → Int
  | 0 => 0
  | k + 1 => wsK f n k + (if n.toBitVec.getLsbD k = true then f (k + 1) else 0)
theorem wsK_rm (f : Nat → Int) (n : Int32) {s : Nat} (h1 : 1 ≤ s) (h8 : s ≤ 8) (hs : hasS n s) : ∀ k, k ≤ 8 → wsK f n k = wsK f (rmS n (nI s)) k + (if s ≤ k then f s else 0)
  | 0, _ => by
    rw [if_neg (by omega)]
    rfl
  | k + 1, hk => by
    have ih := wsK_rm f n h1 h8 hs k (by omega)
    have hc := nI_cl (s := s) (by omega)
    have h3 : hasS (rmS n (nI s)) (k + 1) ↔ hasS n (k + 1) ∧ k + 1 ≠ s := by rw [has_rm (by omega) (by omega) (by omega) (by omega), hc.1]
    unfold hasS at h3
    rw [Nat.add_sub_cancel] at h3
    rw [wsK, wsK, ih]
    by_cases e : k + 1 = s
    · subst e
      unfold hasS at hs
      rw [Nat.add_sub_cancel] at hs
      rw [if_pos hs, if_neg (by omega), if_neg (fun z => (h3.mp z).2 rfl), if_pos (Nat.le_refl _)]
    · by_cases b : n.toBitVec.getLsbD k = true
      · rw [if_pos b, if_pos (h3.mpr ⟨b, e⟩)]
        by_cases c : s ≤ k
        · rw [if_pos c, if_pos (by omega)]; omega
        · rw [if_neg c, if_neg (by omega)]; omega
      · rw [if_neg b, if_neg (fun z => b (h3.mp z).1)]
        by_cases c : s ≤ k
        · rw [if_pos c, if_pos (by omega)]; omega
        · rw [if_neg c, if_neg (by omega)]
theorem wsK_0 (f : Nat → Int) (n : Int32) (h : ∀ s, 1 ≤ s → s ≤ 8 → ¬ hasS n s) : ∀ k, k ≤ 8 → wsK f n k = 0
  | 0, _ => rfl
  | k + 1, hk => by
    have h9 := h (k + 1) (by omega) (by omega)
    unfold hasS at h9
    rw [Nat.add_sub_cancel] at h9
    rw [wsK, wsK_0 f n h k (by omega), if_neg h9]
    rfl
theorem wsK_P (f : Nat → Int) : ∀ (q : List Nat) (n : Int32), isP n q → wsK f n 8 = ezW f q
  | [], n, h => wsK_0 f n (isP_nil.mp h) 8 (Nat.le_refl _)
  | s :: q, n, h => by
    obtain ⟨c1, c2, c3⟩ := isP_cons h
    rw [wsK_rm f n c1.1 c1.2 c2 8 (Nat.le_refl _), if_pos c1.2, wsK_P f q _ c3]
    show _ = f s + ezW f q
    omega
theorem ezW_1 : ∀ q : List Nat, ezW (fun _ => 1) q = q.length
  | [] => rfl
  | s :: q => by
    rw [ezW, ezW_1 q, List.length_cons]
    omega
