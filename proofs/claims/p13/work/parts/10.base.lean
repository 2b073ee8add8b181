/-! cells by kind and number; numbers by variable, object and place -/
abbrev QL : Type := Nat → Nat → Nat
abbrev QS : Type := Nat → Nat → Nat → Int32
def qh (D : va_G) (cl : List vw_C) (cnt : Nat → Nat) (L : QL) (G : Nat → Nat → va_E) (H : Heap) : Prop := ∀ k i, i < cnt k → va_at D cl (L k i, G k i) H
def qj (cnt : Nat → Nat) (L : QL) (A : Nat → Prop) : Prop := (∀ k i k' i', i < cnt k → i' < cnt k' → L k i = L k' i' → k = k' ∧ i = i') ∧ (∀ k i, i < cnt k → A (L k i)) ∧ ∀ k, 0 < cnt k → k < 64
def q2 (G : Nat → Nat → va_E) (k i : Nat) (e : va_E) : Nat → Nat → va_E := fun a b => if a = k ∧ b = i then e else G a b
def rs (σ : QS) (v i : Nat) (f : Nat → Int32) : QS := fun a b => if a = v ∧ b = i then f else σ a b
theorem rs_self (σ : QS) (v i : Nat) (f : Nat → Int32) : rs σ v i f v i = f := by simp [rs]
theorem rs_v {σ : QS} {v i a : Nat} {f : Nat → Int32} (h : a ≠ v) : rs σ v i f a = σ a := by funext b; simp [rs, h]
theorem rs_i {σ : QS} {v i b : Nat} {f : Nat → Int32} (h : b ≠ i) : rs σ v i f v b = σ v b := by simp [rs, h]
def ql (cnt : Nat → Nat) (L : QL) (G : Nat → Nat → va_E) : va_W := (List.range 64).flatMap fun k => (List.range (cnt k)).map fun i => (L k i, G k i)
theorem ql_in {cnt : Nat → Nat} {L : QL} {G : Nat → Nat → va_E} {k i : Nat} (hk : k < 64) (hi : i < cnt k) : (L k i, G k i) ∈ ql cnt L G :=
  List.mem_flatMap.mpr ⟨k, List.mem_range.mpr hk, List.mem_map.mpr ⟨i, List.mem_range.mpr hi, rfl⟩⟩
theorem ql_of {cnt : Nat → Nat} {L : QL} {G : Nat → Nat → va_E} {q : Nat × va_E} (h : q ∈ ql cnt L G) : ∃ k i, i < cnt k ∧ q = (L k i, G k i) := by
  obtain ⟨k, -, h⟩ := List.mem_flatMap.mp h
  obtain ⟨i, hi, h⟩ := List.mem_map.mp h
  exact ⟨k, i, List.mem_range.mp hi, h.symm⟩
theorem ql_P {D : va_G} {cl : List vw_C} {cnt : Nat → Nat} {L : QL} {G : Nat → Nat → va_E} {H : Heap} (h : qh D cl cnt L G H) : va_P D cl (ql cnt L G) H := fun k q hk => by
  obtain ⟨k', i, hi, rfl⟩ := ql_of (List.mem_of_getElem? hk)
  exact h k' i hi
theorem ql_pw {cnt : Nat → Nat} {L : QL} {G : Nat → Nat → va_E} {A : Nat → Prop} (h : qj cnt L A) : (ql cnt L G).Pairwise (fun p q => p.1 ≠ q.1) := by
  unfold ql
  rw [List.pairwise_flatMap]
  constructor
  · intro k _
    rw [List.pairwise_map]
    refine List.Pairwise.imp_of_mem ?_ (List.pairwise_lt_range (n := cnt k))
    intro a b ha hb hab hq
    have := (h.1 k a k b (List.mem_range.mp ha) (List.mem_range.mp hb) hq).2
    omega
  · refine List.Pairwise.imp_of_mem ?_ (List.pairwise_lt_range (n := 64))
    intro a b _ _ hab x hx y hy hq
    obtain ⟨i, hi, rfl⟩ := List.mem_map.mp hx
    obtain ⟨j, hj, rfl⟩ := List.mem_map.mp hy
    have := (h.1 a i b j (List.mem_range.mp hi) (List.mem_range.mp hj) hq).1
    omega
theorem ql_D {cnt : Nat → Nat} {L : QL} {G : Nat → Nat → va_E} {A : Nat → Prop} (h : qj cnt L A) : va_D A (ql cnt L G) := by
  have hp := List.pairwise_iff_getElem.mp (ql_pw (G := G) h)
  refine ⟨fun i j p q hi hj hpq => ?_, fun k q hk => ?_⟩
  · obtain ⟨li, ei⟩ := List.getElem?_eq_some_iff.mp hi
    obtain ⟨lj, ej⟩ := List.getElem?_eq_some_iff.mp hj
    rcases Nat.lt_trichotomy i j with hij | hij | hij
    · exact absurd (by rw [ei, ej]; exact hpq) (hp i j li lj hij)
    · exact hij
    · exact absurd (by rw [ei, ej]; exact hpq.symm) (hp j i lj li hij)
  · obtain ⟨k', i, hi, rfl⟩ := ql_of (List.mem_of_getElem? hk)
    exact h.2.1 k' i hi
theorem q_set {D : va_G} {cl : List vw_C} {cnt : Nat → Nat} {L : QL} {G : Nat → Nat → va_E} {A : Nat → Prop} {H1 : Heap} {k i p : Nat} {e : va_E} (hJ : qj cnt L A) (hi : i < cnt k) (hp : (ql cnt L G)[p]? = some (L k i, G k i)) (h : va_P D cl ((ql cnt L G).set p (L k i, e)) H1) : qh D cl cnt L (q2 G k i e) H1 := by
  have hl := (List.getElem?_eq_some_iff.mp hp).1
  intro a b hb
  by_cases hq : a = k ∧ b = i
  · obtain ⟨rfl, rfl⟩ := hq
    have := h p (L a b, e) (List.getElem?_set_self hl)
    simpa [q2] using this
  · obtain ⟨n, hn⟩ := List.getElem?_of_mem (ql_in (L := L) (G := G) (hJ.2.2 a (by omega)) hb)
    have hne : n ≠ p := by
      intro z
      subst z
      have e9 : (L a b, G a b) = (L k i, G k i) := Option.some.inj (hn.symm.trans hp)
      exact hq (hJ.1 a b k i hb hi (congrArg Prod.fst e9))
    have := h n (L a b, G a b) (by rw [List.getElem?_set_ne (Ne.symm hne)]; exact hn)
    simpa [q2, hq] using this
theorem q_one {D : va_G} {cl : List vw_C} {a : Nat} {e : va_E} {H : Heap} (h : va_at D cl (a, e) H) : va_P D cl [(a, e)] H := fun k q hk => by
  cases k with
  | zero => cases hk; exact h
  | succ k => cases hk
theorem q_kept {D : va_G} {cl : List vw_C} {cnt : Nat → Nat} {L : QL} {G : Nat → Nat → va_E} {H H1 : Heap} (h : qh D cl cnt L G H) (hk : ∀ k i, i < cnt k → H1[L k i]? = H[L k i]?) : qh D cl cnt L G H1 := fun k i hi => (h k i hi).kept (hk k i hi)
section QR
variable {p : Program} {l : Launch} {e : Env} {R : Room} {s : State} {m : MethodId} {args : Array Value} {below : List Frame} {meth : Method} {c : Code} {H : Heap} {locs : List Loc} {cells slots : Nat} {Q : State → Prop}
variable {cc : ByteArray} {pc nL : Nat} {ls : Array Slot} {rest : List Value} {D : va_G} {cl : List vw_C} {A : Nat → Prop} {tys : List (ClassId × FieldType)} {H0 : Heap} {cnt : Nat → Nat} {L : QL} {G : Nat → Nat → va_E} {Ts : List Cond} {own : String}
theorem q_get (S : CallFix p m c cc nL s args Ts own) {C : String} {T : u_T} {N ci index : Nat} (hin : ∀ w ∈ u_ws C T N, w ∈ Ts) (hK : va_K D cl tys s) (hQ : qh D cl cnt L G H) (k i : Nat) (hi : i < cnt k) {fs : List Value} (hG : G k i = .inr (ci, fs)) (hc : cl[ci]? = some (C, T, N)) (j : Nat) (hj : j < N) (hlink : Cond.fieldLink own index (T j).1 (T j).2.1 (T j).2.2.1 ∈ Ts) {v : Value} (hv : fs[j]? = some v) (hdg : decode cc pc = .ok (.getfield index, 3))
    (kk : W p l e R s m args below meth c H locs cells slots Q (F0 m (pc + 3) ls (v :: rest))) : W p l e R s m args below meth c H locs cells slots Q (F0 m pc ls (.ref (L k i) :: rest)) :=
  va_get S.1 S.2.1 S.2.2.2.2 hin S.2.2.2.1 hK (q_one (by rw [← hG]; exact hQ k i hi)) 0 rfl hc j hj (S.2.2.2.2 _ hlink) (fun _ h => h) hv hdg kk
theorem q_put (S : CallFix p m c cc nL s args Ts own) {C : String} {T : u_T} {N ci index : Nat} (hin : ∀ w ∈ u_ws C T N, w ∈ Ts) (ty0 : Nat → FieldType) (hty : ∀ k, k < N → parseFieldDescriptor (T k).2.2.1 = some (ty0 k)) (hnm : ∀ a, a < N → ∀ b, b < N → a ≠ b → (T a).2.1 ≠ (T b).2.1) (hK : va_K D cl tys s) (hJ : qj cnt L A) (hQ : qh D cl cnt L G H) (hS : va_S A H0 H locs) (k i : Nat) (hi : i < cnt k) {fs : List Value} (hG : G k i = .inr (ci, fs)) (hc : cl[ci]? = some (C, T, N)) (j : Nat) (hj : j < N) (hlink : Cond.fieldLink own index (T j).1 (T j).2.1 (T j).2.2.1 ∈ Ts) (hfin : (T j).2.2.2 = false) {ty : FieldType} {v : Value} (hd : parseFieldDescriptor (T j).2.2.1 = some ty) (hn : narrow ty v = v) (hfit : fits ty v = true) (hl : j < fs.length) (hdg : decode cc pc = .ok (.putfield index, 3))
    (kk : ∀ (H1 : Heap) (locs1 : List Loc), qh D cl cnt L (q2 G k i (.inr (ci, fs.set j v))) H1 → va_S A H0 H1 locs1 → W p l e R s m args below meth c H1 locs1 cells slots Q (F0 m (pc + 3) ls rest)) : W p l e R s m args below meth c H locs cells slots Q (F0 m pc ls (v :: .ref (L k i) :: rest)) := by
  obtain ⟨n, hn9⟩ := List.getElem?_of_mem (ql_in (L := L) (G := G) (hJ.2.2 k (by omega)) hi)
  refine va_put S.1 S.2.1 S.2.2.2.2 hin ty0 hty hnm S.2.2.2.1 hK (ql_P hQ) (ql_D hJ) hS n (by rw [← hG]; exact hn9) hc j hj (S.2.2.2.2 _ hlink) (fun _ h => h) hfin hd hn hfit hl hdg (fun H1 locs1 hP _ hS1 => ?_)
  exact kk H1 locs1 (q_set hJ hi hn9 hP) hS1
theorem q_iald (S : CallFix p m c cc nL s args Ts own) (hK : va_K D cl tys s) (hQ : qh D cl cnt L G H) (k i : Nat) (hi : i < cnt k) (t0 : Nat) {cA : ClassId} {n : Nat} {f : Nat → Int32} (hG : G k i = .inl (cA, n, .inl f)) (ht : tys[t0]? = some (cA, .int)) {j : Int32} (hin : vp_in j n) (hdg : decode cc pc = .ok (.iaload, 1))
    (kk : W p l e R s m args below meth c H locs cells slots Q (F0 m (pc + 1) ls (.int (f j.toNatClampNeg) :: rest))) : W p l e R s m args below meth c H locs cells slots Q (F0 m pc ls (.int j :: .ref (L k i) :: rest)) :=
  va_iald S.1 S.2.1 hK (q_one (by rw [← hG]; exact hQ k i hi)) 0 t0 rfl ht hin hdg kk
theorem q_zald (S : CallFix p m c cc nL s args Ts own) (hK : va_K D cl tys s) (hQ : qh D cl cnt L G H) (k i : Nat) (hi : i < cnt k) (t0 : Nat) {cA : ClassId} {n : Nat} {f : Nat → Int32} (hG : G k i = .inl (cA, n, .inl f)) (ht : tys[t0]? = some (cA, .boolean)) {j : Int32} (hin : vp_in j n) (hdg : decode cc pc = .ok (.baload, 1))
    (kk : W p l e R s m args below meth c H locs cells slots Q (F0 m (pc + 1) ls (.int (f j.toNatClampNeg) :: rest))) : W p l e R s m args below meth c H locs cells slots Q (F0 m pc ls (.int j :: .ref (L k i) :: rest)) :=
  va_zald S.1 S.2.1 hK (q_one (by rw [← hG]; exact hQ k i hi)) 0 t0 rfl ht hin hdg kk
theorem q_aald (S : CallFix p m c cc nL s args Ts own) (hK : va_K D cl tys s) (hQ : qh D cl cnt L G H) (k i : Nat) (hi : i < cnt k) (t0 : Nat) {cA : ClassId} {C : String} {n : Nat} {f : Nat → Nat} (hG : G k i = .inl (cA, n, .inr (.inr (.inr (.inr (fun j => some (f j))))))) (ht : tys[t0]? = some (cA, .object C)) {j : Int32} (hin : vp_in j n) (hdg : decode cc pc = .ok (.aaload, 1))
    (kk : W p l e R s m args below meth c H locs cells slots Q (F0 m (pc + 1) ls (.ref (f j.toNatClampNeg) :: rest))) : W p l e R s m args below meth c H locs cells slots Q (F0 m pc ls (.int j :: .ref (L k i) :: rest)) :=
  va_aldq (f := fun j => some (f j)) S.1 S.2.1 hK (q_one (by rw [← hG]; exact hQ k i hi)) 0 t0 rfl ht hin hdg kk
theorem q_alen (S : CallFix p m c cc nL s args Ts own) (hK : va_K D cl tys s) (hQ : qh D cl cnt L G H) (k i : Nat) (hi : i < cnt k) (t0 : Nat) {cA : ClassId} {n : Nat} {f : Nat → Int32} (hG : G k i = .inl (cA, n, .inl f)) (ht : tys[t0]? = some (cA, .int)) {v : Int32} (hv : Int32.ofNat n = v) (hdg : decode cc pc = .ok (.arraylength, 1))
    (kk : W p l e R s m args below meth c H locs cells slots Q (F0 m (pc + 1) ls (.int v :: rest))) : W p l e R s m args below meth c H locs cells slots Q (F0 m pc ls (.ref (L k i) :: rest)) :=
  va_alen S.1 S.2.1 hK (q_one (by rw [← hG]; exact hQ k i hi)) 0 t0 rfl ht hv hdg kk
theorem q_iast (S : CallFix p m c cc nL s args Ts own) (hK : va_K D cl tys s) (hJ : qj cnt L A) (hQ : qh D cl cnt L G H) (hS : va_S A H0 H locs) (k i : Nat) (hi : i < cnt k) (t0 : Nat) {cA : ClassId} {n : Nat} {f : Nat → Int32} (hG : G k i = .inl (cA, n, .inl f)) (ht : tys[t0]? = some (cA, .int)) {j x : Int32} (hin : vp_in j n) (hdg : decode cc pc = .ok (.iastore, 1))
    (kk : ∀ (H1 : Heap) (locs1 : List Loc), qh D cl cnt L (q2 G k i (.inl (cA, n, .inl (upd f j.toNatClampNeg x)))) H1 → va_S A H0 H1 locs1 → W p l e R s m args below meth c H1 locs1 cells slots Q (F0 m (pc + 1) ls rest)) : W p l e R s m args below meth c H locs cells slots Q (F0 m pc ls (.int x :: .int j :: .ref (L k i) :: rest)) := by
  obtain ⟨q, hn9⟩ := List.getElem?_of_mem (ql_in (L := L) (G := G) (hJ.2.2 k (by omega)) hi)
  refine va_iast S.1 S.2.1 hK (ql_P hQ) (ql_D hJ) hS q t0 (by rw [← hG]; exact hn9) ht hin hdg (fun H1 locs1 hP _ hS1 => ?_)
  exact kk H1 locs1 (q_set hJ hi hn9 hP) hS1
theorem q_zast (S : CallFix p m c cc nL s args Ts own) (hK : va_K D cl tys s) (hJ : qj cnt L A) (hQ : qh D cl cnt L G H) (hS : va_S A H0 H locs) (k i : Nat) (hi : i < cnt k) (t0 : Nat) {cA : ClassId} {n : Nat} {f : Nat → Int32} (hG : G k i = .inl (cA, n, .inl f)) (ht : tys[t0]? = some (cA, .boolean)) {j x : Int32} (hin : vp_in j n) (hdg : decode cc pc = .ok (.bastore, 1))
    (kk : ∀ (H1 : Heap) (locs1 : List Loc), qh D cl cnt L (q2 G k i (.inl (cA, n, .inl (upd f j.toNatClampNeg (vp_nar .boolean x))))) H1 → va_S A H0 H1 locs1 → W p l e R s m args below meth c H1 locs1 cells slots Q (F0 m (pc + 1) ls rest)) : W p l e R s m args below meth c H locs cells slots Q (F0 m pc ls (.int x :: .int j :: .ref (L k i) :: rest)) := by
  obtain ⟨q, hn9⟩ := List.getElem?_of_mem (ql_in (L := L) (G := G) (hJ.2.2 k (by omega)) hi)
  refine va_zast S.1 S.2.1 hK (ql_P hQ) (ql_D hJ) hS q t0 (by rw [← hG]; exact hn9) ht hin hdg (fun H1 locs1 hP _ hS1 => ?_)
  exact kk H1 locs1 (q_set hJ hi hn9 hP) hS1
end QR
