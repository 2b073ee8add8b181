/-! the order of a round as a number; the first of the least ways; the best of all sets -/
def encL : Nat → List Nat → Int
  | 0, _ => 0
  | _ + 1, [] => 0
  | k + 1, s :: q => (s : Int) * 16 ^ k + encL k q
theorem p16 (k : Nat) : (0 : Int) < 16 ^ k := Int.pow_pos (by decide)
theorem encL_nil (k : Nat) : encL k [] = 0 := by cases k <;> rfl
theorem encL_b : ∀ (k : Nat) (q : List Nat), (∀ s ∈ q, s ≤ 15) → 0 ≤ encL k q ∧ encL k q < 16 ^ k
  | 0, q, _ => by simp [encL]
  | k + 1, [], _ => by
    have := p16 (k + 1)
    simp only [encL]
    omega
  | k + 1, s :: q, h => by
    have ih := encL_b k q (fun t ht => h t (List.mem_cons_of_mem _ ht))
    have hs := h s List.mem_cons_self
    have hp := p16 k
    have h1 : (s : Int) * 16 ^ k ≤ 15 * 16 ^ k := Int.mul_le_mul_of_nonneg_right (by omega) (by omega)
    have h2 : 0 ≤ (s : Int) * 16 ^ k := Int.mul_nonneg (by omega) (by omega)
    have h3 : (16 : Int) ^ (k + 1) = 16 * 16 ^ k := by rw [Int.pow_succ]; omega
    simp only [encL]
    omega
theorem encL_lt : ∀ (k : Nat) (p q : List Nat), p.length ≤ k → q.length ≤ k → (∀ s ∈ p, s ≤ 15) → (∀ s ∈ q, 1 ≤ s ∧ s ≤ 15) → ezLt p q → encL k p < encL k q
  | k, p, [], _, _, _, _, h => (ezLt_nil p h).elim
  | 0, p, b :: q, _, h, _, _, _ => by simp at h
  | k + 1, [], b :: q, _, _, _, hb, _ => by
    have hs := hb b List.mem_cons_self
    have ih := encL_b k q (fun t ht => (hb t (List.mem_cons_of_mem _ ht)).2)
    have hp := p16 k
    have h1 : 1 * 16 ^ k ≤ (b : Int) * 16 ^ k := Int.mul_le_mul_of_nonneg_right (by omega) (by omega)
    simp only [encL]
    omega
  | k + 1, a :: p, b :: q, hl1, hl2, ha, hb, h => by
    have h15 := encL_b k p (fun t ht => ha t (List.mem_cons_of_mem _ ht))
    have h16 := encL_b k q (fun t ht => (hb t (List.mem_cons_of_mem _ ht)).2)
    have hp := p16 k
    simp only [encL]
    rcases h with h | ⟨h, h2⟩
    · have h1 : ((a : Int) + 1) * 16 ^ k ≤ (b : Int) * 16 ^ k := Int.mul_le_mul_of_nonneg_right (by omega) (by omega)
      rw [Int.add_mul] at h1
      omega
    · subst h
      have ih := encL_lt k p q (by simpa using hl1) (by simpa using hl2) (fun t ht => ha t (List.mem_cons_of_mem _ ht)) (fun t ht => hb t (List.mem_cons_of_mem _ ht)) h2
      omega
theorem encL_snoc : ∀ (p : List Nat) (s : Nat), encL (p.length + 1) (p ++ [s]) = 16 * encL p.length p + s
  | [], s => by simp [encL]
  | a :: p, s => by
    have ih := encL_snoc p s
    simp only [List.cons_append, List.length_cons, encL, ih, Int.pow_succ]
    have h : (a : Int) * (16 ^ p.length * 16) = 16 * (a * 16 ^ p.length) := by
      rw [← Int.mul_assoc, Int.mul_comm]
    rw [h]
    omega
theorem encL_pad : ∀ (k : Nat) (p : List Nat), p.length ≤ k → encL (k + 1) p = 16 * encL k p
  | k, [], _ => by rw [encL_nil, encL_nil]; rfl
  | 0, a :: p, h => by simp at h
  | k + 1, a :: p, h => by
    have ih := encL_pad k p (by simpa using h)
    have h9 : (a : Int) * (16 ^ k * 16) = 16 * (a * 16 ^ k) := by
      rw [← Int.mul_assoc, Int.mul_comm]
    rw [encL, encL, ih, Int.pow_succ, h9]
    omega
theorem ezLt_trans : ∀ p q r : List Nat, ezLt p q → ezLt q r → ezLt p r
  | p, q, [], _, h => (ezLt_nil q h).elim
  | p, [], _ :: _, h, _ => (ezLt_nil p h).elim
  | [], _ :: _, _ :: _, _, _ => trivial
  | a :: p, b :: q, c :: r, h, g => by
    rcases h with h | ⟨h, h2⟩ <;> rcases g with g | ⟨g, g2⟩
    · exact Or.inl (by omega)
    · exact Or.inl (by omega)
    · exact Or.inl (by omega)
    · exact Or.inr ⟨by omega, ezLt_trans p q r h2 g2⟩
theorem ezGe_trans {wk : Nat → Nat → Int} {mn wr : Nat → Int} {p q r : List Nat} (h : ezGe wk mn wr p q) (g : ezGe wk mn wr q r) : ezGe wk mn wr p r := by
  unfold ezGe at *
  rcases h with h | ⟨h1, h | ⟨h2, h | h⟩⟩ <;> rcases g with g | ⟨g1, g | ⟨g2, g | g⟩⟩ <;>
    first
    | (left; omega)
    | (right; refine ⟨by omega, ?_⟩; left; omega)
    | (right; refine ⟨by omega, Or.inr ⟨by omega, Or.inl (h.trans g)⟩⟩)
    | (right; refine ⟨by omega, Or.inr ⟨by omega, Or.inr (by rw [h]; exact g)⟩⟩)
    | (right; refine ⟨by omega, Or.inr ⟨by omega, Or.inr (by rw [← g]; exact h)⟩⟩)
    | (right; refine ⟨by omega, Or.inr ⟨by omega, Or.inr (ezLt_trans _ _ _ h g)⟩⟩)
theorem ezLt_app : ∀ (p x y : List Nat), ezLt (p ++ x) (p ++ y) ↔ ezLt x y
  | [], _, _ => Iff.rfl
  | a :: p, x, y => by
    have := ezLt_app p x y
    simp only [List.cons_append, ezLt, Nat.lt_irrefl, false_or, true_and, this]
/-- the least ways of all sets below N, of shops that are listed -/
def waysOk (wk : Nat → Nat → Int) (mn : Nat → Int) (ls : Int32) (g : Nat → Int32) (N : Int) : Prop :=
  ∀ n : Int32, 0 ≤ n.toInt → n.toInt < N → (∀ s, 1 ≤ s → s ≤ 8 → hasS n s → hasS ls s) → ∀ a : Nat, (a = 0 ∨ (1 ≤ a ∧ a ≤ 8 ∧ hasS ls a ∧ ¬ hasS n a)) → isMin wk mn a n (g (9 * n.toNatClampNeg + a)).toInt
def wyG (g : Nat → Int32) (a : Nat) (n : Int32) : Int := (g (9 * n.toNatClampNeg + a)).toInt
/-- how far the order of a set has come: p is gone, rest is left -/
def ordI (wk : Nat → Nat → Int) (mn : Nat → Int) (ls : Int32) (g : Nat → Int32) (set : Int32) (i : Nat) (od : Int) (rest : Int32) (stand : Nat) : Prop :=
  ∃ p : List Nat, od = encL i p ∧ p.length ≤ i ∧ (p.length < i → isP rest []) ∧ stand = ezE 0 p ∧ (∀ s ∈ p, 1 ≤ s ∧ s ≤ 8 ∧ hasS ls s ∧ ¬ hasS rest s) ∧ (∀ q, isP rest q ↔ isP set (p ++ q)) ∧ (0 ≤ rest.toInt ∧ rest.toInt ≤ 255) ∧ (∀ s, 1 ≤ s → s ≤ 8 → hasS rest s → hasS ls s) ∧
    ezP wk mn 0 p + wyG g stand rest = wyG g 0 set ∧ ∀ r, isP set r → ezT wk mn 0 r = wyG g 0 set → p <+: r ∨ ∀ x, ezLt (p ++ x) r
section OR
variable {wk : Nat → Nat → Int} {mn wr : Nat → Int} {ls : Int32} {g : Nat → Int32} {set rest : Int32} {i stand : Nat} {od : Int}
theorem ordI_0 (h0 : 0 ≤ set.toInt ∧ set.toInt ≤ 255) (hs : ∀ s, 1 ≤ s → s ≤ 8 → hasS set s → hasS ls s) : ordI wk mn ls g set 0 0 set 0 :=
  ⟨[], rfl, Nat.le_refl _, fun h => absurd h (Nat.not_lt_zero _), rfl, fun s hs => absurd hs List.not_mem_nil, fun q => Iff.rfl, h0, hs, by simp [ezP], fun r _ _ => Or.inl (List.nil_prefix)⟩
theorem ordI_s (hw : waysOk wk mn ls g 256) (h : ordI wk mn ls g set i od rest stand) {s : Nat} (h1 : 1 ≤ s) (h8 : s ≤ 8) (hs : hasS rest s) (he : wk stand s + mn s + wyG g s (rmS rest (nI s)) = wyG g stand rest) (hf : ∀ t, 1 ≤ t → t < s → hasS rest t → wk stand t + mn t + wyG g t (rmS rest (nI t)) ≠ wyG g stand rest) :
    ordI wk mn ls g set (i + 1) (16 * od + s) (rmS rest (nI s)) s := by
  obtain ⟨p, a1, a2, a3, a4, a5, a6, a7, a8, a9, a10⟩ := h
  have hc := nI_cl (s := s) (by omega)
  have hr : ∀ t, 1 ≤ t → t ≤ 8 → (hasS (rmS rest (nI s)) t ↔ hasS rest t ∧ t ≠ s) := fun t x y => by rw [has_rm (by omega) (by omega) x y, hc.1]
  have hl : p.length = i := by
    rcases Nat.lt_or_ge p.length i with h | h
    · exact absurd hs (isP_nil.mp (a3 h) s h1 h8)
    · omega
  have hst : stand = 0 ∨ (1 ≤ stand ∧ stand ≤ 8 ∧ hasS ls stand ∧ ¬ hasS rest stand) := by
    rcases ezE_in 0 p with h | h
    · exact Or.inl (a4.trans h)
    · rw [← a4] at h
      exact Or.inr (a5 stand h)
  have hlt := rm_lt (n := rest) (s := nI s) a7.1 (by omega) (by omega) (by rw [hc.1]; exact hs)
  have hsub : ∀ t, 1 ≤ t → t ≤ 8 → hasS (rmS rest (nI s)) t → hasS ls t := fun t x y z => a8 t x y ((hr t x y).mp z).1
  refine ⟨p ++ [s], ?_, by simp; omega, fun h => absurd h (by simp; omega), (ezE_snoc 0 p s).symm, ?_, ?_, by omega, hsub, ?_, ?_⟩
  · rw [a1, ← hl, encL_snoc]
  · intro t ht
    rcases List.mem_append.mp ht with h | h
    · have h9 := a5 t h
      exact ⟨h9.1, h9.2.1, h9.2.2.1, fun z => h9.2.2.2 ((hr t h9.1 h9.2.1).mp z).1⟩
    · have h9 : t = s := by simpa using h
      subst h9
      exact ⟨h1, h8, a8 t h1 h8 hs, fun z => ((hr t h1 h8).mp z).2 rfl⟩
  · intro q
    rw [List.append_assoc, List.singleton_append, ← a6 (s :: q)]
    exact ⟨fun z => isP_of h1 h8 hs z, fun z => (isP_cons z).2.2⟩
  · rw [ezP_snoc, ← a4, ← a9, ← he]
    omega
  · intro r hr1 hr2
    rcases a10 r hr1 hr2 with h | h
    · obtain ⟨y, rfl⟩ := h
      have hy : isP rest y := (a6 y).mpr hr1
      cases y with
      | nil => exact absurd hs (isP_nil.mp hy s h1 h8)
      | cons b y =>
        obtain ⟨c1, c2, c3⟩ := isP_cons hy
        have hcb := nI_cl (s := b) (by omega)
        rw [ezT_app, ← a4] at hr2
        have hrb : ∀ t, 1 ≤ t → t ≤ 8 → (hasS (rmS rest (nI b)) t ↔ hasS rest t ∧ t ≠ b) := fun t x y => by rw [has_rm (by omega) (by omega) x y, hcb.1]
        have hltb := rm_lt (n := rest) (s := nI b) a7.1 (by omega) (by omega) (by rw [hcb.1]; exact c2)
        have m1 := (hw rest a7.1 (by omega) a8 stand hst).2 (b :: y) hy
        have m2 := (hw (rmS rest (nI b)) hltb.1 (by omega) (fun t x y z => a8 t x y ((hrb t x y).mp z).1) b (Or.inr ⟨c1.1, c1.2, a8 b c1.1 c1.2 c2, fun z => ((hrb b c1.1 c1.2).mp z).2 rfl⟩))
        have m3 := m2.2 y c3
        obtain ⟨q9, q10, q11⟩ := m2.1
        have m4 := (hw rest a7.1 (by omega) a8 stand hst).2 (b :: q9) (isP_of c1.1 c1.2 c2 q10)
        have e1 : ezT wk mn stand (b :: y) = wk stand b + mn b + ezT wk mn b y := rfl
        have e2 : ezT wk mn stand (b :: q9) = wk stand b + mn b + ezT wk mn b q9 := rfl
        have hb : wk stand b + mn b + wyG g b (rmS rest (nI b)) = wyG g stand rest := by
          unfold wyG at hr2 a9 ⊢
          omega
        rcases Nat.lt_trichotomy b s with h | h | h
        · exact absurd hb (hf b c1.1 h c2)
        · subst h
          exact Or.inl ⟨y, by simp⟩
        · refine Or.inr (fun x => ?_)
          rw [List.append_assoc, ezLt_app]
          exact Or.inl h
    · exact Or.inr (fun x => by rw [List.append_assoc]; exact h _)
theorem ordI_z (hw : waysOk wk mn ls g 256) (h : ordI wk mn ls g set i od rest stand) (hf : ∀ t, 1 ≤ t → t ≤ 8 → hasS rest t → wk stand t + mn t + wyG g t (rmS rest (nI t)) ≠ wyG g stand rest) : ordI wk mn ls g set (i + 1) (16 * od) rest stand := by
  obtain ⟨p, a1, a2, a3, a4, a5, a6, a7, a8, a9, a10⟩ := h
  have hst : stand = 0 ∨ (1 ≤ stand ∧ stand ≤ 8 ∧ hasS ls stand ∧ ¬ hasS rest stand) := by
    rcases ezE_in 0 p with h | h
    · exact Or.inl (a4.trans h)
    · rw [← a4] at h
      exact Or.inr (a5 stand h)
  refine ⟨p, by rw [a1, encL_pad i p a2], by omega, fun _ => ?_, a4, a5, a6, a7, a8, a9, a10⟩
  obtain ⟨⟨q, q1, q2⟩, q3⟩ := hw rest a7.1 (by omega) a8 stand hst
  cases q with
  | nil => exact q1
  | cons b y =>
    exfalso
    obtain ⟨c1, c2, c3⟩ := isP_cons q1
    have hcb := nI_cl (s := b) (by omega)
    have hrb : ∀ t, 1 ≤ t → t ≤ 8 → (hasS (rmS rest (nI b)) t ↔ hasS rest t ∧ t ≠ b) := fun t x y => by rw [has_rm (by omega) (by omega) x y, hcb.1]
    have hltb := rm_lt (n := rest) (s := nI b) a7.1 (by omega) (by omega) (by rw [hcb.1]; exact c2)
    have m2 := (hw (rmS rest (nI b)) hltb.1 (by omega) (fun t x y z => a8 t x y ((hrb t x y).mp z).1) b (Or.inr ⟨c1.1, c1.2, a8 b c1.1 c1.2 c2, fun z => ((hrb b c1.1 c1.2).mp z).2 rfl⟩))
    have m3 := m2.2 y c3
    obtain ⟨q9, q10, q11⟩ := m2.1
    have m4 := q3 (b :: q9) (isP_of c1.1 c1.2 c2 q10)
    have e1 : ezT wk mn stand (b :: y) = wk stand b + mn b + ezT wk mn b y := rfl
    have e2 : ezT wk mn stand (b :: q9) = wk stand b + mn b + ezT wk mn b q9 := rfl
    refine hf b c1.1 c1.2 c2 ?_
    unfold wyG
    omega
theorem isP_app_nil {p x : List Nat} (h1 : isP set p) (h2 : isP set (p ++ x)) : x = [] := by
  cases x with
  | nil => rfl
  | cons b x =>
    exfalso
    have hb := h2.2.1 b (List.mem_append_right _ List.mem_cons_self)
    have h3 := (h1.2.2 b hb.1 hb.2).mp ((h2.2.2 b hb.1 hb.2).mpr (List.mem_append_right _ List.mem_cons_self))
    exact (List.pairwise_append.mp h2.1).2.2 b h3 b List.mem_cons_self rfl
/-- the order of a set: its first least way -/
def isOrd (wk : Nat → Nat → Int) (mn : Nat → Int) (g : Nat → Int32) (set : Int32) (od : Int) : Prop := ∃ p, isP set p ∧ ezT wk mn 0 p = wyG g 0 set ∧ od = encL 8 p ∧ ∀ r, isP set r → ezT wk mn 0 r = wyG g 0 set → p = r ∨ ezLt p r
theorem ordI_8 (hw : waysOk wk mn ls g 256) (h : ordI wk mn ls g set 8 od rest stand) : isOrd wk mn g set od := by
  obtain ⟨p, a1, a2, a3, a4, a5, a6, a7, a8, a9, a10⟩ := h
  have hst : stand = 0 ∨ (1 ≤ stand ∧ stand ≤ 8 ∧ hasS ls stand ∧ ¬ hasS rest stand) := by
    rcases ezE_in 0 p with h | h
    · exact Or.inl (a4.trans h)
    · rw [← a4] at h
      exact Or.inr (a5 stand h)
  obtain ⟨⟨q, q1, q2⟩, q3⟩ := hw rest a7.1 (by omega) a8 stand hst
  have hq : q = [] := by
    have h1 := (a6 q).mp q1
    have h2 := isP_len _ h1.1 h1.2.1 8 (fun t ht => (h1.2.1 t ht).2)
    rw [List.length_append] at h2
    rcases Nat.lt_or_ge p.length 8 with h | h
    · exact isP_app_nil (p := []) (a3 h) q1
    · exact List.length_eq_zero_iff.mp (by omega)
  subst hq
  have hp := (a6 []).mp q1
  rw [List.append_nil] at hp
  refine ⟨p, hp, ?_, a1, fun r h1 h2 => ?_⟩
  · have := ezT_app wk mn 0 p []
    rw [List.append_nil] at this
    rw [this, ← a4, q2]
    exact a9
  · rcases a10 r h1 h2 with h | h
    · obtain ⟨x, rfl⟩ := h
      rw [isP_app_nil hp h1, List.append_nil]
      exact Or.inl rfl
    · have := h []
      rw [List.append_nil] at this
      exact Or.inr this
end OR
/-- what is chosen, of all sets below N -/
def chRec (wk : Nat → Nat → Int) (mn wr : Nat → Int) (ls : Int32) (W N : Int) (ch : Int32) (cw cm od : Int) : Prop :=
  ∃ r, ezOk (hasS ls) r ∧ ezTot wk mn r ≤ W ∧ isP ch r ∧ (0 ≤ ch.toInt ∧ ch.toInt ≤ 255) ∧ cw = ezW wr r ∧ cm = ezTot wk mn r ∧ od = encL 8 r ∧ ∀ q, ezOk (hasS ls) q → ezTot wk mn q ≤ W → ∀ m : Int32, 0 ≤ m.toInt → m.toInt < N → isP m q → ezGe wk mn wr r q
section CH
variable {wk : Nat → Nat → Int} {mn wr : Nat → Int} {ls : Int32} {g : Nat → Int32} {W : Int} {n ch : Int32} {cw cm od : Int}
theorem chRec_0 (hW : 0 ≤ W) : chRec wk mn wr ls W 1 0 0 0 0 := by
  refine ⟨[], ⟨List.Pairwise.nil, fun s h => absurd h List.not_mem_nil⟩, hW, isP_nil.mpr (fun s _ _ => has_0 s), by decide, rfl, rfl, rfl, fun q _ _ m h1 h2 h3 => ?_⟩
  have h4 : m = 0 := Int32.toInt_inj.mp (by rw [show (0 : Int32).toInt = 0 by decide]; omega)
  subst h4
  cases q with
  | nil => exact ezGe_refl _ _ _ _
  | cons s q => exact absurd (isP_cons h3).2.1 (has_0 s)
theorem tot_T {s : Nat} {q : List Nat} : ezTot wk mn (s :: q) = ezT wk mn 0 (s :: q) := rfl
theorem tot_P (h0 : 1 ≤ n.toInt) (h9 : n.toInt ≤ 255) {q : List Nat} (h : isP n q) : ezTot wk mn q = ezT wk mn 0 q := by
  cases q with
  | nil =>
    exfalso
    have h1 := has_none (by omega) h9 (isP_nil.mp h)
    rw [h1] at h0
    exact absurd h0 (by decide)
  | cons s q => rfl
theorem chRec_skip (hw : waysOk wk mn ls g 256) (h0 : 1 ≤ n.toInt) (h9 : n.toInt ≤ 255) (h : chRec wk mn wr ls W n.toInt ch cw cm od) (hc : (¬ ∀ s, 1 ≤ s → s ≤ 8 → hasS n s → hasS ls s) ∨ W < wyG g 0 n) : chRec wk mn wr ls W (n.toInt + 1) ch cw cm od := by
  obtain ⟨r, a1, a2, a3, a4, a5, a6, a7, a8⟩ := h
  refine ⟨r, a1, a2, a3, a4, a5, a6, a7, fun q hq ht m h1 h2 h3 => ?_⟩
  rcases Int.lt_or_eq_of_le (show m.toInt ≤ n.toInt by omega) with z | z
  · exact a8 q hq ht m h1 z h3
  · have z : m = n := Int32.toInt_inj.mp z
    subst z
    exfalso
    have hsub : ∀ s, 1 ≤ s → s ≤ 8 → hasS m s → hasS ls s := fun s x y z => (hq.2 s ((h3.2.2 s x y).mp z)).2.2
    rcases hc with hc | hc
    · exact hc hsub
    · have h4 := (hw m h1 (by omega) hsub 0 (Or.inl rfl)).2 q h3
      rw [tot_P h0 h9 h3] at ht
      unfold wyG at hc
      omega
/-- the set n is weighed: it stays, or n is taken -/
theorem chRec_weigh {od9 : Int} (hw : waysOk wk mn ls g 256) (h0 : 1 ≤ n.toInt) (h9 : n.toInt ≤ 255) (hsub : ∀ s, 1 ≤ s → s ≤ 8 → hasS n s → hasS ls s) (h : chRec wk mn wr ls W n.toInt ch cw cm od) (hW : wyG g 0 n ≤ W) :
    ((wsK wr n 8 < cw ∨ (wsK wr n 8 = cw ∧ cm < wyG g 0 n)) → chRec wk mn wr ls W (n.toInt + 1) ch cw cm od) ∧
    (isOrd wk mn g n od9 → ¬ wsK wr n 8 < cw → ¬ (wsK wr n 8 = cw ∧ cm < wyG g 0 n) → (cw < wsK wr n 8 ∨ wyG g 0 n < cm ∨ od9 < od) → chRec wk mn wr ls W (n.toInt + 1) n (wsK wr n 8) (wyG g 0 n) od9) ∧
    (isOrd wk mn g n od9 → ¬ wsK wr n 8 < cw → ¬ (wsK wr n 8 = cw ∧ cm < wyG g 0 n) → ¬ (cw < wsK wr n 8 ∨ wyG g 0 n < cm ∨ od9 < od) → chRec wk mn wr ls W (n.toInt + 1) ch cw cm od) := by
  obtain ⟨r, a1, a2, a3, a4, a5, a6, a7, a8⟩ := h
  have hmin := hw n (by omega) (by omega) hsub 0 (Or.inl rfl)
  have hWq : ∀ q, isP n q → ezW wr q = wsK wr n 8 := fun q hq => (wsK_P wr q n hq).symm
  have hTq : ∀ q, isP n q → wyG g 0 n ≤ ezTot wk mn q := fun q hq => by rw [tot_P h0 h9 hq]; exact hmin.2 q hq
  have hlen : ∀ q : List Nat, q.Nodup → (∀ s ∈ q, 1 ≤ s ∧ s ≤ 8) → q.length ≤ 8 := fun q x y => isP_len q x y 8 (fun t ht => (y t ht).2)
  have hall : ∀ {r' : List Nat}, (∀ q, isP n q → ezGe wk mn wr r' q) → (∀ q, ezGe wk mn wr r q → ezGe wk mn wr r' q) → ∀ q, ezOk (hasS ls) q → ezTot wk mn q ≤ W → ∀ m : Int32, 0 ≤ m.toInt → m.toInt < n.toInt + 1 → isP m q → ezGe wk mn wr r' q := by
    intro r' g1 g2 q hq ht m h1 h2 h3
    rcases Int.lt_or_eq_of_le (show m.toInt ≤ n.toInt by omega) with z | z
    · exact g2 q (a8 q hq ht m h1 z h3)
    · have z : m = n := Int32.toInt_inj.mp z
      subst z
      exact g1 q h3
  refine ⟨fun hc => ?_, fun ho hc1 hc2 hc3 => ?_, fun ho hc1 hc2 hc3 => ?_⟩
  · refine ⟨r, a1, a2, a3, a4, a5, a6, a7, hall (fun q hq => ?_) (fun q z => z)⟩
    have e1 := hWq q hq
    have e2 := hTq q hq
    unfold ezGe
    rcases hc with hc | hc
    · left
      omega
    · right
      refine ⟨by omega, Or.inl (by omega)⟩
  · obtain ⟨p, p1, p2, p3, p4⟩ := ho
    have e1 := hWq p p1
    have e2 : ezTot wk mn p = wyG g 0 n := by rw [tot_P h0 h9 p1]; exact p2
    have hpok : ezOk (hasS ls) p := ⟨p1.1, fun s hs => ⟨(p1.2.1 s hs).1, (p1.2.1 s hs).2, hsub s (p1.2.1 s hs).1 (p1.2.1 s hs).2 ((p1.2.2 s (p1.2.1 s hs).1 (p1.2.1 s hs).2).mpr hs)⟩⟩
    have hpq : ∀ q, isP n q → ezGe wk mn wr p q := fun q hq => by
      have e3 := hWq q hq
      have e4 := hTq q hq
      unfold ezGe
      right
      refine ⟨by omega, ?_⟩
      by_cases z : ezTot wk mn p < ezTot wk mn q
      · exact Or.inl z
      · refine Or.inr ⟨by omega, p4 q hq ?_⟩
        rw [← tot_P h0 h9 hq]
        omega
    have hpr : ezGe wk mn wr p r := by
      unfold ezGe
      by_cases z : cw < wsK wr n 8
      · left
        omega
      · right
        refine ⟨by omega, ?_⟩
        by_cases y : wyG g 0 n < cm
        · left
          omega
        · right
          refine ⟨by omega, ?_⟩
          have ho9 : od9 < od := by omega
          rcases ezLt_tri p r with t | t | t
          · exact Or.inl t
          · exact Or.inr t
          · exfalso
            have := encL_lt 8 r p (hlen r a1.1 (fun s hs => ⟨(a1.2 s hs).1, (a1.2 s hs).2.1⟩)) (hlen p p1.1 p1.2.1) (fun s hs => by have := (a1.2 s hs).2.1; omega) (fun s hs => by have := p1.2.1 s hs; omega) t
            omega
    exact ⟨p, hpok, by omega, p1, by omega, e1.symm, e2.symm, p3, hall hpq (fun q z => ezGe_trans hpr z)⟩
  · obtain ⟨p, p1, p2, p3, p4⟩ := ho
    have e1 := hWq p p1
    have e2 : ezTot wk mn p = wyG g 0 n := by rw [tot_P h0 h9 p1]; exact p2
    have hrp : ezGe wk mn wr r p := by
      unfold ezGe
      right
      refine ⟨by omega, Or.inr ⟨by omega, ?_⟩⟩
      rcases ezLt_tri r p with t | t | t
      · exact Or.inl t
      · exact Or.inr t
      · exfalso
        have := encL_lt 8 p r (hlen p p1.1 p1.2.1) (hlen r a1.1 (fun s hs => ⟨(a1.2 s hs).1, (a1.2 s hs).2.1⟩)) (fun s hs => by have := p1.2.1 s hs; omega) (fun s hs => by have := (a1.2 s hs); omega) t
        omega
    refine ⟨r, a1, a2, a3, a4, a5, a6, a7, hall (fun q hq => ezGe_trans hrp ?_) (fun q z => z)⟩
    have e3 := hWq q hq
    have e4 := hTq q hq
    unfold ezGe
    right
    refine ⟨by omega, ?_⟩
    by_cases z : ezTot wk mn p < ezTot wk mn q
    · exact Or.inl z
    · refine Or.inr ⟨by omega, p4 q hq ?_⟩
      rw [← tot_P h0 h9 hq]
      omega
theorem chRec_best (h : chRec wk mn wr ls W 256 ch cw cm od) : ∃ r, ezBest wk mn wr (hasS ls) W r ∧ isP ch r ∧ (0 ≤ ch.toInt ∧ ch.toInt ≤ 255) ∧ cw = ezW wr r ∧ cm = ezTot wk mn r ∧ od = encL 8 r := by
  obtain ⟨r, a1, a2, a3, a4, a5, a6, a7, a8⟩ := h
  refine ⟨r, ⟨a1, a2, fun q hq ht => ?_⟩, a3, a4, a5, a6, a7⟩
  obtain ⟨m, m1, m2⟩ := isP_set q hq.1 (fun s hs => ⟨(hq.2 s hs).1, (hq.2 s hs).2.1⟩)
  exact a8 q hq ht m m1.1 (by omega) m2
end CH
