/-! parcels: what an hour does to them -/
abbrev PS : Type := Nat → Nat → Int32
/-- sizes of what is on a cart on days of a kind: of the first n parcels -/
def sumP (A : PS) (c : Int) (Q : Int → Bool) : Nat → Int
  | 0 => 0
  | n + 1 => sumP A c Q n + (if (A n 3).toInt = c ∧ Q (A n 4).toInt = true then (A n 1).toInt else 0)
abbrev onP (A : PS) (c d : Int) : Int := sumP A c (fun x => decide (x = d)) 60
abbrev slP (A : PS) (c q : Int) : Int := sumP A c (fun x => decide (x % 4 = q)) 60
def dfl (f : Nat) : Int32 := if f = 1 ∨ 8 ≤ f then 0 else -1
def lvA (A : PS) (k : Nat) (now : Int32) : PS := fun i f => if i = k then (if f = 2 then A k 6 else if f = 3 ∨ f = 4 ∨ f = 5 ∨ f = 6 then -1 else if f = 7 ∧ A k 6 = A k 0 then now else A k f) else A i f
def bdA (A : PS) (k : Nat) (c d u p : Int32) : PS := fun i f => if i = k then (if f = 2 then -1 else if f = 3 then c else if f = 4 then d else if f = 5 then u else if f = 6 then p else if f = 8 then A k 8 + 1 else A k f) else A i f
abbrev SE : Type := PS × (Nat → Int32)
def un1 (F : Nat → Int32) (now : Int32) (S : SE) (k : Nat) : SE := if (S.1 k 3).toInt ≠ -1 ∧ S.1 k 5 = now then (lvA S.1 k now, upd S.2 (S.1 k 3).toNatClampNeg (S.2 (S.1 k 3).toNatClampNeg + S.1 k 1 * F (S.1 k 3).toNatClampNeg)) else S
def unN (F : Nat → Int32) (now : Int32) (S : SE) : Nat → SE
  | 0 => S
  | k + 1 => un1 F now (unN F now S k) k
section PA
variable {A B : PS} {c d : Int} {Q : Int → Bool} {k n : Nat}
theorem sumP_out (h : ∀ i, i ≠ k → ∀ f, B i f = A i f) : ∀ n, n ≤ k → sumP B c Q n = sumP A c Q n
  | 0, _ => rfl
  | n + 1, hn => by
    have h1 := sumP_out h n (by omega)
    simp only [sumP, h1, h n (by omega)]
abbrev cpP (A : PS) (c : Int) (Q : Int → Bool) (k : Nat) : Int := if (A k 3).toInt = c ∧ Q (A k 4).toInt = true then (A k 1).toInt else 0
theorem sumP_at (h : ∀ i, i ≠ k → ∀ f, B i f = A i f) : ∀ n, k < n → sumP B c Q n = sumP A c Q n - cpP A c Q k + cpP B c Q k
  | 0, hn => by omega
  | n + 1, hn => by
    by_cases e : n = k
    · have h1 := sumP_out (c := c) (Q := Q) h n (by omega)
      subst e
      simp only [sumP, h1]
      show _ + cpP B c Q n = _ + cpP A c Q n - _ + _
      omega
    · have h1 := sumP_at h n (by omega)
      simp only [sumP, h1, h n e]
      omega
theorem sumP_b (h : ∀ i, i < n → 0 ≤ (A i 1).toInt ∧ (A i 1).toInt ≤ 20) : 0 ≤ sumP A c Q n ∧ sumP A c Q n ≤ 20 * n := by
  induction n with
  | zero => exact ⟨Int.le_refl _, Int.le_refl _⟩
  | succ n ih =>
    have h1 := ih (fun i hi => h i (by omega))
    have h2 := h n (by omega)
    simp only [sumP]
    by_cases y : (A n 3).toInt = c ∧ Q (A n 4).toInt = true
    · rw [if_pos y]; omega
    · rw [if_neg y]; omega
theorem sumP_0 (h : ∀ i, i < n → ¬ ((A i 3).toInt = c ∧ Q (A i 4).toInt = true)) : sumP A c Q n = 0 := by
  induction n with
  | zero => rfl
  | succ n ih =>
    simp only [sumP, ih (fun i hi => h i (by omega)), if_neg (h n (by omega))]
    rfl
theorem sumP_pos (h : ∀ i, i < n → 0 ≤ (A i 1).toInt ∧ (A i 1).toInt ≤ 20) {i : Nat} (hi : i < n) (hs : 1 ≤ (A i 1).toInt) (h1 : (A i 3).toInt = c ∧ Q (A i 4).toInt = true) : 1 ≤ sumP A c Q n := by
  induction n with
  | zero => omega
  | succ n ih =>
    simp only [sumP]
    have h0 := sumP_b (A := A) (c := c) (Q := Q) (n := n) (fun i hi => h i (by omega))
    by_cases e : i = n
    · subst e; rw [if_pos h1]; omega
    · have h2 := ih (fun i hi => h i (by omega)) (by omega)
      have h3 := h n (by omega)
      by_cases y : (A n 3).toInt = c ∧ Q (A n 4).toInt = true
      · rw [if_pos y]; omega
      · rw [if_neg y]; omega
theorem sumP_ext {Q' : Int → Bool} (h : ∀ i, i < n → (A i 3).toInt = c → (Q (A i 4).toInt = true ↔ Q' (A i 4).toInt = true)) : sumP A c Q n = sumP A c Q' n := by
  induction n with
  | zero => rfl
  | succ n ih =>
    simp only [sumP, ih (fun i hi => h i (by omega))]
    by_cases y : (A n 3).toInt = c
    · simp only [y, true_and, h n (by omega) y]
    · simp only [y, false_and]
theorem sumP_up {m : Nat} (h : ∀ i, n ≤ i → ¬ ((A i 3).toInt = c ∧ Q (A i 4).toInt = true)) : sumP A c Q (n + m) = sumP A c Q n := by
  induction m with
  | zero => rfl
  | succ m ih =>
    have e : cpP A c Q (n + m) = 0 := if_neg (h (n + m) (Nat.le_add_right n m))
    show sumP A c Q (n + m) + cpP A c Q (n + m) = _
    rw [ih, e, Int.add_zero]
end PA
/-! a parcel seeks its ride -/
def isSoon (N : Net) (p : Nat) (t : Int) (g : Nat) (v : Int) : Prop := fwR N (-1) p t g v ∧ v ≤ t + 336 ∧ ∀ u, fwR N (-1) p t g u → v ≤ u
theorem soon_1 {N : Net} {p g : Nat} {t v v' : Int} (h : isSoon N p t g v) (h' : isSoon N p t g v') : v = v' := by
  have h1 := h.2.2 v' h'.1
  have h2 := h'.2.2 v h.1
  omega
def goodK (N : Net) (now : Int) (p g c d s' : Nat) : Prop := ∃ v, isSoon N p now g v ∧ bwR N (-1) g v (nP N c s') (htN N c d s')
def sitK (N : Net) (now : Int) (C : Nat → Int) (A : PS) (k c d s : Nat) : Prop := c < nK N ∧ runN N c d ∧ s + 1 < nS N c ∧ ((nP N c s : Nat) : Int) = (A k 2).toInt ∧ htN N c d s = now ∧ (A k 1).toInt ≤ C c - onP A c d
def takeK (N : Net) (now : Int) (C : Nat → Int) (A : PS) (k c d s s' : Nat) : Prop := sitK N now C A k c d s ∧ (s < s' ∧ s' < nS N c) ∧ goodK N now (A k 2).toNatClampNeg (A k 0).toNatClampNeg c d s' ∧ ∀ s9, s' < s9 → s9 < nS N c → ¬ goodK N now (A k 2).toNatClampNeg (A k 0).toNatClampNeg c d s9
def bestK (N : Net) (now : Int) (C : Nat → Int) (A : PS) (k c d s s' : Nat) : Prop := takeK N now C A k c d s s' ∧ ∀ c1 d1 s1 s2, takeK N now C A k c1 d1 s1 s2 → c < c1 ∨ (c = c1 ∧ d ≤ d1)
def seek1 (N : Net) (now : Int) (C : Nat → Int) (A : PS) (k : Nat) (A' : PS) : Prop :=
  (∃ c d s s', bestK N now C A k c d s s' ∧ A' = bdA A k (nI c) (nI d) (Int32.ofInt (htN N c d s')) (nI (nP N c s'))) ∨ ((∀ c d s s', ¬ takeK N now C A k c d s s') ∧ A' = A)
def wts (A : PS) (k : Nat) : Prop := (A k 3).toInt = -1 ∧ (A k 7).toInt = -1
def skN (N : Net) (now : Int) (C : Nat → Int) (A : PS) : Nat → PS → Prop
  | 0, A' => A' = A
  | k + 1, A' => ∃ B, skN N now C A k B ∧ ((wts B k ∧ seek1 N now C B k A') ∨ (¬ wts B k ∧ A' = B))
/-- an hour of n parcels -/
def hrR (N : Net) (C : Nat → Int) (F : Nat → Int32) (n : Nat) (now : Int32) (S S' : SE) : Prop := S'.2 = (unN F now S n).2 ∧ skN N now.toInt C (unN F now S n).1 n S'.1
def tkR (N : Net) (C : Nat → Int) (F : Nat → Int32) (n : Nat) (now : Int) (S : SE) : Nat → SE → Prop
  | 0, S' => S' = S
  | j + 1, S' => ∃ T, tkR N C F n now S j T ∧ hrR N C F n (Int32.ofInt (now + j + 1)) T S'
section SK
variable {N : Net} {now : Int} {C : Nat → Int} {F : Nat → Int32} {A A1 A2 : PS} {k n : Nat}
theorem take_1 (hN : wfN N) {c d s s1 s' s2 : Nat} (h : takeK N now C A k c d s s') (h' : takeK N now C A k c d s1 s2) : s = s1 ∧ s' = s2 := by
  obtain ⟨⟨a1, a2, a3, a4, a5, a6⟩, a7, a8, a9⟩ := h
  obtain ⟨⟨b1, b2, b3, b4, b5, b6⟩, b7, b8, b9⟩ := h'
  refine ⟨ht_same hN a1 (by omega) (by omega) (a5.trans b5.symm), ?_⟩
  rcases Nat.lt_trichotomy s' s2 with h | h | h
  · exact absurd b8 (a9 _ h b7.2)
  · exact h
  · exact absurd a8 (b9 _ h a7.2)
theorem seek_1 (hN : wfN N) (h1 : seek1 N now C A k A1) (h2 : seek1 N now C A k A2) : A1 = A2 := by
  rcases h1 with ⟨c, d, s, s', h1, e1⟩ | ⟨h1, e1⟩ <;> rcases h2 with ⟨c2, d2, s2, s2', h2, e2⟩ | ⟨h2, e2⟩
  · have x1 := h1.2 _ _ _ _ h2.1
    have x2 := h2.2 _ _ _ _ h1.1
    have ec : c = c2 := by omega
    subst ec
    have ed : d = d2 := by omega
    subst ed
    obtain ⟨es, et⟩ := take_1 hN h1.1 h2.1
    subst es; subst et
    rw [e1, e2]
  · exact absurd h1.1 (h2 _ _ _ _)
  · exact absurd h2.1 (h1 _ _ _ _)
  · rw [e1, e2]
theorem sk_1 (hN : wfN N) : ∀ n A1 A2, skN N now C A n A1 → skN N now C A n A2 → A1 = A2
  | 0, _, _, h1, h2 => h1.trans h2.symm
  | n + 1, A1, A2, ⟨B1, h1, g1⟩, ⟨B2, h2, g2⟩ => by
    have e := sk_1 hN n B1 B2 h1 h2
    subst e
    rcases g1 with ⟨w1, g1⟩ | ⟨w1, g1⟩ <;> rcases g2 with ⟨w2, g2⟩ | ⟨w2, g2⟩
    · exact seek_1 hN g1 g2
    · exact absurd w1 w2
    · exact absurd w2 w1
    · rw [g1, g2]
theorem hr_1 (hN : wfN N) {m : Int32} {S S1 S2 : SE} (h1 : hrR N C F n m S S1) (h2 : hrR N C F n m S S2) : S1 = S2 :=
  Prod.ext (sk_1 hN n _ _ h1.2 h2.2) (h1.1.trans h2.1.symm)
theorem tk_1 (hN : wfN N) {S : SE} : ∀ j S1 S2, tkR N C F n now S j S1 → tkR N C F n now S j S2 → S1 = S2
  | 0, _, _, h1, h2 => h1.trans h2.symm
  | j + 1, S1, S2, ⟨B1, h1, g1⟩, ⟨B2, h2, g2⟩ => by
    have e := tk_1 hN j B1 B2 h1 h2
    subst e
    exact hr_1 hN g1 g2
end SK
