/-! rounds: their minutes, their worth, their order -/
def ezT (wk : Nat → Nat → Int) (mn : Nat → Int) : Nat → List Nat → Int
  | a, [] => wk a 0
  | a, s :: q => wk a s + mn s + ezT wk mn s q
def ezTot (wk : Nat → Nat → Int) (mn : Nat → Int) : List Nat → Int
  | [] => 0
  | s :: q => ezT wk mn 0 (s :: q)
def ezP (wk : Nat → Nat → Int) (mn : Nat → Int) : Nat → List Nat → Int
  | _, [] => 0
  | a, s :: q => wk a s + mn s + ezP wk mn s q
def ezE : Nat → List Nat → Nat
  | a, [] => a
  | _, s :: q => ezE s q
def ezW (wr : Nat → Int) : List Nat → Int
  | [] => 0
  | s :: q => wr s + ezW wr q
def ezLt : List Nat → List Nat → Prop
  | _, [] => False
  | [], _ :: _ => True
  | a :: p, b :: q => a < b ∨ (a = b ∧ ezLt p q)
def ezOk (L : Nat → Prop) (q : List Nat) : Prop := q.Nodup ∧ ∀ s ∈ q, 1 ≤ s ∧ s ≤ 8 ∧ L s
def ezGe (wk : Nat → Nat → Int) (mn wr : Nat → Int) (r q : List Nat) : Prop := ezW wr q < ezW wr r ∨ (ezW wr q = ezW wr r ∧ (ezTot wk mn r < ezTot wk mn q ∨ (ezTot wk mn r = ezTot wk mn q ∧ (r = q ∨ ezLt r q))))
/-- the best round: there is none that is ahead of it -/
def ezBest (wk : Nat → Nat → Int) (mn wr : Nat → Int) (L : Nat → Prop) (W : Int) (r : List Nat) : Prop := ezOk L r ∧ ezTot wk mn r ≤ W ∧ ∀ q, ezOk L q → ezTot wk mn q ≤ W → ezGe wk mn wr r q
theorem ezLt_nil (p : List Nat) : ¬ ezLt p [] := by cases p <;> exact fun h => h
theorem ezLt_irr : ∀ p : List Nat, ¬ ezLt p p
  | [] => fun h => h
  | a :: p => fun h => by
    rcases h with h | h
    · exact Nat.lt_irrefl _ h
    · exact ezLt_irr p h.2
theorem ezLt_asym : ∀ p q : List Nat, ezLt p q → ¬ ezLt q p
  | [], q => fun _ h => ezLt_nil q h
  | a :: p, [] => fun h => (ezLt_nil _ h).elim
  | a :: p, b :: q => fun h g => by
    rcases h with h | h <;> rcases g with g | g
    · omega
    · omega
    · omega
    · exact ezLt_asym p q h.2 g.2
theorem ezLt_tri : ∀ p q : List Nat, p = q ∨ ezLt p q ∨ ezLt q p
  | [], [] => Or.inl rfl
  | [], _ :: _ => Or.inr (Or.inl trivial)
  | _ :: _, [] => Or.inr (Or.inr trivial)
  | a :: p, b :: q => by
    rcases Nat.lt_trichotomy a b with h | h | h
    · exact Or.inr (Or.inl (Or.inl h))
    · subst h
      rcases ezLt_tri p q with g | g | g
      · exact Or.inl (by rw [g])
      · exact Or.inr (Or.inl (Or.inr ⟨rfl, g⟩))
      · exact Or.inr (Or.inr (Or.inr ⟨rfl, g⟩))
    · exact Or.inr (Or.inr (Or.inl h))
theorem ezGe_refl (wk : Nat → Nat → Int) (mn wr : Nat → Int) (r : List Nat) : ezGe wk mn wr r r := Or.inr ⟨rfl, Or.inr ⟨rfl, Or.inl rfl⟩⟩
theorem ezGe_anti {wk : Nat → Nat → Int} {mn wr : Nat → Int} {r q : List Nat} (h : ezGe wk mn wr r q) (g : ezGe wk mn wr q r) : r = q := by
  rcases h with h | ⟨h1, h | ⟨h2, h | h⟩⟩ <;> rcases g with g | ⟨g1, g | ⟨g2, g | g⟩⟩ <;> first | omega | exact h | exact g.symm | exact absurd g (ezLt_asym _ _ h)
theorem ezBest_one {wk : Nat → Nat → Int} {mn wr : Nat → Int} {L : Nat → Prop} {W : Int} {r q : List Nat} (h : ezBest wk mn wr L W r) (g : ezBest wk mn wr L W q) : r = q := ezGe_anti (h.2.2 q g.1 g.2.1) (g.2.2 r h.1 h.2.1)
theorem ezT_app (wk : Nat → Nat → Int) (mn : Nat → Int) : ∀ (a : Nat) (p r : List Nat), ezT wk mn a (p ++ r) = ezP wk mn a p + ezT wk mn (ezE a p) r
  | a, [], r => by simp [ezP, ezE]
  | a, s :: p, r => by
    have := ezT_app wk mn s p r
    simp only [List.cons_append, ezT, ezP, ezE, this]
    omega
theorem ezP_snoc (wk : Nat → Nat → Int) (mn : Nat → Int) : ∀ (a : Nat) (p : List Nat) (s : Nat), ezP wk mn a (p ++ [s]) = ezP wk mn a p + wk (ezE a p) s + mn s
  | a, [], s => by simp [ezP, ezE]
  | a, t :: p, s => by
    have := ezP_snoc wk mn t p s
    simp only [List.cons_append, ezP, ezE, this]
    omega
theorem ezE_snoc : ∀ (a : Nat) (p : List Nat) (s : Nat), ezE a (p ++ [s]) = s
  | _, [], _ => rfl
  | _, t :: p, s => ezE_snoc t p s
theorem ezE_in : ∀ (a : Nat) (p : List Nat), ezE a p = a ∨ ezE a p ∈ p
  | _, [] => Or.inl rfl
  | _, t :: p => by
    rcases ezE_in t p with h | h
    · exact Or.inr (by show ezE t p ∈ t :: p; rw [h]; exact List.mem_cons_self)
    · exact Or.inr (List.mem_cons_of_mem _ h)
theorem ezW_snoc (wr : Nat → Int) : ∀ (p : List Nat) (s : Nat), ezW wr (p ++ [s]) = ezW wr p + wr s
  | [], s => by simp [ezW]
  | t :: p, s => by
    have := ezW_snoc wr p s
    simp only [List.cons_append, ezW, this]
    omega
theorem ezTot_eq (wk : Nat → Nat → Int) (mn : Nat → Int) (p : List Nat) : ezTot wk mn p = if p = [] then 0 else ezP wk mn 0 p + wk (ezE 0 p) 0 := by
  cases p with
  | nil => rfl
  | cons s q =>
    rw [if_neg (by simp)]
    have := ezT_app wk mn 0 (s :: q) []
    rw [List.append_nil] at this
    exact this
theorem ezT_nn {wk : Nat → Nat → Int} {mn : Nat → Int} (h1 : ∀ a b, 0 ≤ wk a b) (h2 : ∀ s, 0 ≤ mn s) : ∀ (a : Nat) (p : List Nat), 0 ≤ ezT wk mn a p
  | a, [] => h1 a 0
  | a, s :: q => by
    have := ezT_nn h1 h2 s q
    have := h1 a s
    have := h2 s
    show 0 ≤ wk a s + mn s + ezT wk mn s q
    omega
theorem ezLt_next : ∀ (p q : List Nat) (s : Nat), ezLt q (p ++ [s + 1]) ↔ ezLt q (p ++ [s]) ∨ (p ++ [s]) <+: q
  | [], [], s => by simp [ezLt]
  | [], b :: q, s => by
    simp only [List.nil_append, ezLt, ezLt_nil, and_false, or_false, List.cons_prefix_cons, List.nil_prefix, and_true]
    omega
  | a :: p, [], s => by simp [ezLt]
  | a :: p, b :: q, s => by
    have := ezLt_next p q s
    simp only [List.cons_append, ezLt, List.cons_prefix_cons, this]
    constructor
    · rintro (h | ⟨h, h2 | h2⟩)
      · exact Or.inl (Or.inl h)
      · exact Or.inl (Or.inr ⟨h, h2⟩)
      · exact Or.inr ⟨h.symm, h2⟩
    · rintro ((h | ⟨h, h2⟩) | ⟨h, h2⟩)
      · exact Or.inl h
      · exact Or.inr ⟨h, Or.inl h2⟩
      · exact Or.inr ⟨h.symm, Or.inr h2⟩
theorem ezLt_first : ∀ (p q : List Nat), (∀ s ∈ q, 1 ≤ s) → (ezLt q (p ++ [1]) ↔ ezLt q p ∨ q = p)
  | [], [], _ => by simp [ezLt]
  | [], b :: q, h => by
    have hb := h b List.mem_cons_self
    refine ⟨fun z => ?_, fun z => ?_⟩
    · have z : b < 1 ∨ (b = 1 ∧ ezLt q []) := z
      rcases z with z | z
      · omega
      · exact (ezLt_nil _ z.2).elim
    · rcases z with z | z
      · exact (ezLt_nil _ z).elim
      · exact absurd z (by simp)
  | a :: p, [], _ => by simp [ezLt]
  | a :: p, b :: q, h => by
    have := ezLt_first p q (fun s hs => h s (List.mem_cons_of_mem _ hs))
    simp only [List.cons_append, ezLt, List.cons.injEq, this]
    constructor
    · rintro (h | ⟨h, h2 | h2⟩)
      · exact Or.inl (Or.inl h)
      · exact Or.inl (Or.inr ⟨h, h2⟩)
      · exact Or.inr ⟨h, h2⟩
    · rintro ((h | ⟨h, h2⟩) | ⟨h, h2⟩)
      · exact Or.inl h
      · exact Or.inr ⟨h, Or.inl h2⟩
      · exact Or.inr ⟨h, Or.inr h2⟩
theorem ezLt_9 : ∀ q : List Nat, (∀ s ∈ q, s ≤ 8) → ezLt q [9]
  | [], _ => trivial
  | b :: q, h => Or.inl (by have := h b List.mem_cons_self; omega)
theorem ezLt_nine : ∀ (p q : List Nat) (s : Nat), (∀ t ∈ q, t ≤ 8) → (ezLt q ((p ++ [s]) ++ [9]) ↔ ezLt q (p ++ [s + 1]))
  | [], [], s, _ => by simp [ezLt]
  | [], b :: q, s, h => by
    have := ezLt_9 q (fun t ht => h t (List.mem_cons_of_mem _ ht))
    simp only [List.nil_append, List.cons_append, ezLt, this, and_true, ezLt_nil, and_false, or_false]
    omega
  | a :: p, [], s, _ => by simp [ezLt]
  | a :: p, b :: q, s, h => by
    have := ezLt_nine p q s (fun t ht => h t (List.mem_cons_of_mem _ ht))
    simp only [List.cons_append, ezLt]
    rw [this]
/-- what is held as the best so far, of the rounds in S -/
def ezRec (wk : Nat → Nat → Int) (mn wr : Nat → Int) (L : Nat → Prop) (W bm bw bt : Int) (be : Nat → Int) (S : List Nat → Prop) : Prop :=
  (bm = -1 ∧ ∀ q, ezOk L q → ezTot wk mn q ≤ W → ¬ S q) ∨ ∃ r, ezOk L r ∧ ezTot wk mn r ≤ W ∧ S r ∧ bm = r.length ∧ bw = ezW wr r ∧ bt = ezTot wk mn r ∧ (∀ k, ∀ h : k < r.length, be k = (r[k] : Nat)) ∧ ∀ q, ezOk L q → ezTot wk mn q ≤ W → S q → ezGe wk mn wr r q
section EZ
variable {wk : Nat → Nat → Int} {mn wr : Nat → Int} {L : Nat → Prop} {W bm bw bt : Int} {be : Nat → Int} {S T : List Nat → Prop} {p : List Nat}
theorem ezRec_iff (h : ezRec wk mn wr L W bm bw bt be S) (hS : ∀ q, ezOk L q → ezTot wk mn q ≤ W → (S q ↔ T q)) : ezRec wk mn wr L W bm bw bt be T := by
  rcases h with ⟨h1, h2⟩ | ⟨r, h1, h2, h3, h4, h5, h6, h7, h8⟩
  · exact Or.inl ⟨h1, fun q hq ht hs => h2 q hq ht ((hS q hq ht).mpr hs)⟩
  · exact Or.inr ⟨r, h1, h2, (hS r h1 h2).mp h3, h4, h5, h6, h7, fun q hq ht hs => h8 q hq ht ((hS q hq ht).mpr hs)⟩
/-- the round p itself is ahead of what is held -/
theorem ezRec_new {be' : Nat → Int} (h : ezRec wk mn wr L W bm bw bt be (fun q => ezLt q p)) (hp : ezOk L p) (ht : ezTot wk mn p ≤ W) (hc : bm = -1 ∨ bw < ezW wr p ∨ (ezW wr p = bw ∧ ezTot wk mn p < bt)) (hb : ∀ k, ∀ h : k < p.length, be' k = (p[k] : Nat)) : ezRec wk mn wr L W p.length (ezW wr p) (ezTot wk mn p) be' (fun q => ezLt q (p ++ [1])) := by
  refine ezRec_iff (S := fun q => ezLt q p ∨ q = p) (Or.inr ⟨p, hp, ht, Or.inr rfl, rfl, rfl, rfl, hb, fun q hq hqt hs => ?_⟩) (fun q hq _ => (ezLt_first p q (fun s hs => (hq.2 s hs).1)).symm)
  rcases hs with hs | hs
  · rcases h with ⟨h1, h2⟩ | ⟨r, h1, h2, h3, h4, h5, h6, h7, h8⟩
    · exact absurd hs (h2 q hq hqt)
    · have h9 := h8 q hq hqt hs
      have hbm : bm ≠ -1 := by omega
      unfold ezGe at h9 ⊢
      rcases hc with hc | hc | hc
      · exact absurd hc hbm
      · left
        omega
      · rcases h9 with h9 | ⟨h9, h10⟩
        · left
          omega
        · right
          refine ⟨by omega, Or.inl ?_⟩
          omega
  · subst hs
    exact ezGe_refl _ _ _ _
/-- it is not -/
theorem ezRec_old (h : ezRec wk mn wr L W bm bw bt be (fun q => ezLt q p)) (hc : W < ezTot wk mn p ∨ (bm ≠ -1 ∧ ¬ bw < ezW wr p ∧ ¬ (ezW wr p = bw ∧ ezTot wk mn p < bt))) : ezRec wk mn wr L W bm bw bt be (fun q => ezLt q (p ++ [1])) := by
  rcases hc with hc | ⟨c1, c2, c3⟩
  · refine ezRec_iff h (fun q hq hqt => ?_)
    rw [ezLt_first p q (fun s hs => (hq.2 s hs).1)]
    refine ⟨fun z => Or.inl z, fun z => z.resolve_right (fun e => ?_)⟩
    subst e
    omega
  · refine ezRec_iff (S := fun q => ezLt q p ∨ q = p) ?_ (fun q hq _ => (ezLt_first p q (fun s hs => (hq.2 s hs).1)).symm)
    rcases h with ⟨h1, h2⟩ | ⟨r, h1, h2, h3, h4, h5, h6, h7, h8⟩
    · exact absurd h1 c1
    · refine Or.inr ⟨r, h1, h2, Or.inl h3, h4, h5, h6, h7, fun q hq hqt hs => ?_⟩
      rcases hs with hs | hs
      · exact h8 q hq hqt hs
      · subst hs
        unfold ezGe
        by_cases z : ezW wr q < ezW wr r
        · exact Or.inl z
        · refine Or.inr ⟨by omega, ?_⟩
          by_cases y : ezTot wk mn r < ezTot wk mn q
          · exact Or.inl y
          · exact Or.inr ⟨by omega, Or.inr h3⟩
/-- no round goes on with s -/
theorem ezRec_skip {s : Nat} (w1 : ∀ a b, 0 ≤ wk a b) (w2 : ∀ s, 0 ≤ mn s) (h : ezRec wk mn wr L W bm bw bt be (fun q => ezLt q (p ++ [s]))) (hc : ¬ L s ∨ s ∈ p ∨ W < ezP wk mn 0 p + wk (ezE 0 p) s + mn s) : ezRec wk mn wr L W bm bw bt be (fun q => ezLt q (p ++ [s + 1])) := by
  refine ezRec_iff h (fun q hq hqt => ?_)
  rw [ezLt_next p q s]
  refine ⟨fun z => Or.inl z, fun z => z.resolve_right ?_⟩
  rintro ⟨r, rfl⟩
  have hs : s ∈ (p ++ [s]) ++ r := List.mem_append_left _ (List.mem_append_right _ List.mem_cons_self)
  rcases hc with hc | hc | hc
  · exact hc (hq.2 s hs).2.2
  · have h1 := (List.pairwise_append.mp hq.1).1
    exact (List.pairwise_append.mp h1).2.2 s hc s List.mem_cons_self rfl
  · have h1 : ezTot wk mn ((p ++ [s]) ++ r) = ezT wk mn 0 ((p ++ [s]) ++ r) := by cases p <;> rfl
    rw [h1, ezT_app, ezP_snoc] at hqt
    have := ezT_nn w1 w2 (ezE 0 (p ++ [s])) r
    omega
theorem ezRec_went {s : Nat} (h : ezRec wk mn wr L W bm bw bt be (fun q => ezLt q ((p ++ [s]) ++ [9]))) : ezRec wk mn wr L W bm bw bt be (fun q => ezLt q (p ++ [s + 1])) :=
  ezRec_iff h (fun q hq _ => ezLt_nine p q s (fun t ht => (hq.2 t ht).2.1))
theorem ezRec_none : ezRec wk mn wr L W (-1) bw bt be (fun q => ezLt q []) := Or.inl ⟨rfl, fun q _ _ => ezLt_nil q⟩
theorem ezRec_best (hW : 0 ≤ W) (h : ezRec wk mn wr L W bm bw bt be (fun q => ezLt q ([] ++ [9]))) : ∃ r, ezBest wk mn wr L W r ∧ bm = r.length ∧ bw = ezW wr r ∧ bt = ezTot wk mn r ∧ ∀ k, ∀ h : k < r.length, be k = (r[k] : Nat) := by
  rcases h with ⟨h1, h2⟩ | ⟨r, h1, h2, h3, h4, h5, h6, h7, h8⟩
  · exact absurd (ezLt_9 [] (fun _ h => absurd h (List.not_mem_nil))) (h2 [] ⟨List.Pairwise.nil, fun _ h => absurd h (List.not_mem_nil)⟩ hW)
  · exact ⟨r, ⟨h1, h2, fun q hq hqt => h8 q hq hqt (ezLt_9 q (fun t ht => (hq.2 t ht).2.1))⟩, h4, h5, h6, h7⟩
end EZ
