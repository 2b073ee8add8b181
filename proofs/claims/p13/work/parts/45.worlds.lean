/-! the cells that the constructors left are the worlds that the methods speak of -/
theorem key_inj {α : Type} {f : α → Nat} {l : List α} (h : (l.map f).Nodup) : ∀ x ∈ l, ∀ y ∈ l, f x = f y → x = y := by
  intro x hx y hy hxy
  rw [List.nodup_iff_pairwise_ne, List.pairwise_map, List.pairwise_iff_getElem] at h
  obtain ⟨i, hi, ei⟩ := List.getElem_of_mem hx
  obtain ⟨j, hj, ej⟩ := List.getElem_of_mem hy
  rcases Nat.lt_trichotomy i j with hij | hij | hij
  · exact absurd (by rw [ei, ej]; exact hxy) (h i j hi hj hij)
  · subst hij
    rw [← ei, ← ej]
  · exact absurd (by rw [ei, ej]; exact hxy.symm) (h j i hj hi hij)
/-- worlds out of a list of cells by keys -/
theorem key_world {D : va_G} {cnt : Nat → Nat} {L : QL} {G : Nat → Nat → va_E} {ks : List (Nat × Nat)} {ws : va_W} {A : Nat → Prop} {H : Heap} (e : ws = ks.map (fun k => (L k.1 k.2, G k.1 k.2))) (hk : ∀ k i, i < cnt k → (k, i) ∈ ks) (h64 : ∀ k, 0 < cnt k → k < 64) (hP : va_P D vwCl ws H) (hD : va_D A ws) : qh D vwCl cnt L G H ∧ qj cnt L A := by
  have hD2 := vd_nd.mp hD
  have e2 : ws.map Prod.fst = ks.map (fun k => L k.1 k.2) := by rw [e, List.map_map]; rfl
  have hm : ∀ k i, i < cnt k → (L k i, G k i) ∈ ws := fun k i hi => by rw [e]; exact List.mem_map.mpr ⟨(k, i), hk k i hi, rfl⟩
  refine ⟨fun k i hi => ?_, fun k i k' i' hi hi' hq => ?_, fun k i hi => hD2.2 _ (hm k i hi), h64⟩
  · obtain ⟨n, hn⟩ := List.getElem?_of_mem (hm k i hi)
    exact hP n _ hn
  · have h9 := hD2.1
    rw [e2] at h9
    have h8 := key_inj h9 (k, i) (hk k i hi) (k', i') (hk k' i' hi') hq
    exact ⟨congrArg Prod.fst h8, congrArg Prod.snd h8⟩
theorem at_upto {D : va_G} {cl : List vw_C} {a n : Nat} {cA : ClassId} {cs : Nat → Nat} {H : Heap} (h : va_at D cl (a, .inl (cA, n, .inr (.inr (.inr (.inr (uptoN cs n)))))) H) : va_at D cl (a, .inl (cA, n, .inr (.inr (.inr (.inr (fun j => some (cs j))))))) H := by
  have h1 : H[a]? = some (vp_cell cA (n, .inr (.inr (.inr (.inr (uptoN cs n)))))) := h
  have h2 : vp_cell cA (n, .inr (.inr (.inr (.inr (uptoN cs n))))) = vp_cell cA (n, .inr (.inr (.inr (.inr (fun j => some (cs j)))))) := by
    rw [vp_cell_q, vp_cell_q]
    unfold arrV
    congr 2
    funext j
    show va_rf (uptoN cs n j.val) = va_rf (some (cs j.val))
    have h9 : uptoN cs n j.val = some (cs j.val) := by unfold uptoN; rw [if_pos j.isLt]
    rw [h9]
  rw [h2] at h1
  exact h1
def LN (h : Nat) (u : tN) : QL := fun k i => match k with
  | 0 => h | 1 => u.2.2.2.2.1 | 2 => u.1 | 3 => u.2.1.1.1 | 4 => u.2.1.1.2.1 | 5 => u.2.1.1.2.2.1 | 6 => u.2.1.1.2.2.2.1 | 7 => u.2.1.1.2.2.2.2.1 | 8 => u.2.1.1.2.2.2.2.2
  | 9 => u.2.2.1 | 10 => u.2.2.2.1.1.1 | 11 => u.2.2.2.1.1.2.1 | 12 => u.2.2.2.1.1.2.2.1 | 13 => u.2.2.2.1.1.2.2.2
  | 14 => u.2.1.2.1 i | 15 => (u.2.1.2.2.1 i).1 | 16 => (u.2.1.2.2.1 i).2.1 | 17 => (u.2.1.2.2.1 i).2.2.1 | 18 => (u.2.1.2.2.1 i).2.2.2.1 | 19 => (u.2.1.2.2.1 i).2.2.2.2
  | 20 => u.2.2.2.2.2.1 i | _ => u.2.2.2.2.2.2 i
def sN (u : tN) : QS := fun v _ j => match v with
  | 8 => u.2.1.2.2.2 j | 11 => u.2.2.2.1.2 j | 17 => -1 | 32 => -1 | 34 => -1 | 35 => -1 | 36 => -1 | 37 => -1 | 38 => -1 | 39 => -1 | 41 => -1
  | _ => 0
def GN (B : Nat → ClassId) (h : Nat) (u : tN) : Nat → Nat → va_E := fun k i => match k with
  | 1 => .inl (B 3, 60, .inr (.inr (.inr (.inr (uptoN u.2.2.2.2.2.1 60)))))
  | 3 => .inl (B 2, 12, .inr (.inr (.inr (.inr (uptoN u.2.1.2.1 12)))))
  | k => gC B (LN h u) (sN u) 0 k i
def keysC : List (Nat × Nat) := [(0, 0), (1, 0)] ++ ((([(2, 0), (3, 0), (4, 0), (5, 0), (6, 0), (7, 0), (8, 0)] ++ (List.range 12).flatMap (fun j => [(14, j), (15, j), (16, j), (17, j), (18, j), (19, j)])) ++ [(9, 0), (10, 0), (11, 0), (12, 0), (13, 0)]) ++ (List.range 60).flatMap (fun j => [(20, j), (21, j)]))
set_option maxRecDepth 20000 in
theorem keysC_ok : ∀ k i, i < cntC k → (k, i) ∈ keysC := by
  have h : ∀ k : Fin 22, ∀ i : Fin 60, i.val < cntC k.val → (k.val, i.val) ∈ keysC := by decide +kernel
  intro k i hi
  have hk : k < 22 := by
    rcases Nat.lt_or_ge k 22 with q | q
    · exact q
    · exfalso
      have : cntC k = 0 := by
        unfold cntC
        split <;> first | omega | rfl
      omega
  have hi60 : i < 60 := by
    have : ∀ k : Fin 22, cntC k.val ≤ 60 := by decide
    have := this ⟨k, hk⟩
    simp only at this
    omega
  exact h ⟨k, hk⟩ ⟨i, hi60⟩ hi
theorem cntC_64 : ∀ k, 0 < cntC k → k < 64 := by
  intro k hk
  rcases Nat.lt_or_ge k 64 with q | q
  · exact q
  · exfalso
    have : cntC k = 0 := by
      unfold cntC
      split <;> first | omega | rfl
    omega
theorem wNet_keys (B : Nat → ClassId) (h : Nat) (u : tN) : wNet B h u = keysC.map (fun k => (LN h u k.1 k.2, GN B h u k.1 k.2)) := by
  unfold wNet wTT xC xP keysC
  simp only [List.map_append, List.map_flatMap, List.map_cons, List.map_nil]
  rfl
theorem u010 {x : Int32} {hi : Int} (h : x = 0 ∨ x = 10) (hh : 10 ≤ hi) : 0 ≤ x.toInt ∧ x.toInt ≤ hi := by
  rcases h with h | h
  · rw [h, show (0 : Int32).toInt = 0 by decide]; omega
  · rw [h, show (10 : Int32).toInt = 10 by decide]; omega
theorem sN_inv (u : tN) (hu : okE u.2.2.2.1.2) : InvC (sN u) := by
  refine ⟨fun v i j => ?_, fun h _ => Int.le_refl _, fun j hj => ?_, fun i hi => ?_, fun i hi => ?_⟩
  · unfold ivC
    split <;> first | exact any32 _ | exact u010 (hu.1 j) (by decide) | (show _ ≤ (0 : Int32).toInt ∧ (0 : Int32).toInt ≤ _; decide) | (show _ ≤ (-1 : Int32).toInt ∧ (-1 : Int32).toInt ≤ _; decide)
  · exact absurd hj (by show ¬ (j : Int) < (0 : Int32).toInt; rw [show (0 : Int32).toInt = 0 by decide]; omega)
  · exact absurd hi (by show ¬ (i : Int) < (0 : Int32).toInt; rw [show (0 : Int32).toInt = 0 by decide]; omega)
  · exact absurd hi (by show ¬ (0 : Int) ≤ (-1 : Int32).toInt; decide)
theorem net_world {D : va_G} {B : Nat → ClassId} {h : Nat} {u : tN} {A : Nat → Prop} {H : Heap} (hP : va_P D vwCl (wNet B h u) H) (hD : va_D A (wNet B h u)) : hW cntC gC D B (LN h u) (sN u) 0 H ∧ qj cntC (LN h u) A := by
  obtain ⟨h1, h2⟩ := key_world (wNet_keys B h u) keysC_ok cntC_64 hP hD
  refine ⟨fun k i hi => ?_, h2⟩
  have h3 := h1 k i hi
  by_cases k1 : k = 1
  · subst k1
    exact at_upto h3
  · by_cases k3 : k = 3
    · subst k3
      exact at_upto h3
    · have h4 : GN B h u k i = gC B (LN h u) (sN u) 0 k i := by
        unfold GN
        split
        · exact absurd rfl k1
        · exact absurd rfl k3
        · rfl
      rw [h4] at h3
      exact h3
def LM (h : Nat) (u : (Nat → Nat) × (Nat → Int32)) : QL := fun k _ => match k with
  | 0 => h
  | 5 => u.1 0
  | 6 => u.1 1
  | 7 => u.1 2
  | 8 => u.1 3
  | 9 => u.1 4
  | 10 => u.1 5
  | 11 => u.1 6
  | 12 => u.1 7
  | 13 => u.1 8
  | 14 => u.1 9
  | 15 => u.1 10
  | 16 => u.1 11
  | 18 => u.1 12
  | 19 => u.1 13
  | 20 => u.1 14
  | 21 => u.1 15
  | 22 => u.1 16
  | 23 => u.1 17
  | 24 => u.1 18
  | 25 => u.1 19
  | 26 => u.1 20
  | 27 => u.1 21
  | 28 => u.1 22
  | 29 => u.1 23
  | 30 => u.1 24
  | 31 => u.1 25
  | 32 => u.1 26
  | 33 => u.1 27
  | _ => 0
def sM (u : (Nat → Nat) × (Nat → Int32)) : QS := fun v _ j => match v with
  | 27 => u.2 j | 17 => 1
  | _ => 0
def keysM : List (Nat × Nat) := [(0, 0), (5, 0), (6, 0), (7, 0), (8, 0), (9, 0), (10, 0), (11, 0), (12, 0), (13, 0), (14, 0), (15, 0), (16, 0), (18, 0), (19, 0), (20, 0), (21, 0), (22, 0), (23, 0), (24, 0), (25, 0), (26, 0), (27, 0), (28, 0), (29, 0), (30, 0), (31, 0), (32, 0), (33, 0)]
theorem keysM_ok : ∀ k i, i < cntM k → (k, i) ∈ keysM := by
  have h : ∀ k : Fin 34, ∀ i : Fin 1, i.val < cntM k.val → (k.val, i.val) ∈ keysM := by decide +kernel
  intro k i hi
  have hk : k < 34 := by
    rcases Nat.lt_or_ge k 34 with q | q
    · exact q
    · exfalso
      have : cntM k = 0 := by
        unfold cntM
        split <;> first | omega | rfl
      omega
  have hi1 : i < 1 := by
    have : ∀ k : Fin 34, cntM k.val ≤ 1 := by decide
    have := this ⟨k, hk⟩
    simp only at this
    omega
  exact h ⟨k, hk⟩ ⟨i, hi1⟩ hi
theorem cntM_64 : ∀ k, 0 < cntM k → k < 64 := by
  intro k hk
  rcases Nat.lt_or_ge k 64 with q | q
  · exact q
  · exfalso
    have : cntM k = 0 := by
      unfold cntM
      split <;> first | omega | rfl
    omega
theorem wMod_keys (B : Nat → ClassId) (h : Nat) (u : (Nat → Nat) × (Nat → Int32)) : wMod B h u = keysM.map (fun k => (LM h u k.1 k.2, gM B (LM h u) (sM u) 0 k.1 k.2)) := by
  unfold wMod keysM
  simp only [List.map_cons, List.map_nil]
  rfl
theorem mod_world {D : va_G} {B : Nat → ClassId} {h : Nat} {u : (Nat → Nat) × (Nat → Int32)} {A : Nat → Prop} {H : Heap} (hP : va_P D vwCl (wMod B h u) H) (hD : va_D A (wMod B h u)) : hW cntM gM D B (LM h u) (sM u) 0 H ∧ qj cntM (LM h u) A :=
  key_world (wMod_keys B h u) keysM_ok cntM_64 hP hD
theorem sM_inv (u : (Nat → Nat) × (Nat → Int32)) (hu : okM u.2) : InvM (sM u) ∧ ∀ s : Nat, sM u 33 0 s = 0 := by
  refine ⟨⟨fun v i j => ?_, fun i hi => ?_⟩, fun s => rfl⟩
  · unfold ivM
    split <;> first | exact any32 _ | exact u010 (hu.1 j) (by decide) | (show _ ≤ (0 : Int32).toInt ∧ (0 : Int32).toInt ≤ _; decide) | (show _ ≤ (1 : Int32).toInt ∧ (1 : Int32).toInt ≤ _; decide)
  · exact absurd hi (by show ¬ (i : Int) < (0 : Int32).toInt; rw [show (0 : Int32).toInt = 0 by decide]; omega)
