section
/-! cells by kind and number; numbers by variable, object and place -/
abbrev QL : Type := Nat → Nat → Nat
abbrev QS : Type := Nat → Nat → Nat → Int32
def qh (D : va_G) (cl : List vw_C) (cnt : Nat → Nat) (L : QL) (G : Nat → Nat → va_E) (H : Heap) : Prop := ∀ k i, i < cnt k → va_at D cl (L k i, G k i) H
def qj (cnt : Nat → Nat) (L : QL) (A : Nat → Prop) : Prop := (∀ k i k' i', i < cnt k → i' < cnt k' → L k i = L k' i' → k = k' ∧ i = i') ∧ (∀ k i, i < cnt k → A (L k i)) ∧ ∀ k, 0 < cnt k → k < 64
def q2 (G : Nat → Nat → va_E) (k i : Nat) (e : va_E) : Nat → Nat → va_E := fun a b => if a = k ∧ b = i then e else G a b
def rs (σ : QS) (v i : Nat) (f : Nat → Int32) : QS := fun a b => if a = v ∧ b = i then f else σ a b
theorem rs_self (σ : QS) (v i : Nat) (f : Nat → Int32) : rs σ v i f v i = f := by simp [rs]
theorem rs_v {σ : QS} {v i a : Nat} {f : Nat → Int32} (h : a ≠ v) : rs σ v i f a = σ a := by funext b; simp [rs, h]
theorem rs_i {σ : QS} {v i b : Nat} {f : Nat → Int32} (h : b ≠ i) : rs σ v i f v b = σ v b := by simp [rs, h]
def ql (cnt : Nat → Nat) (L : QL) (G : Nat → Nat → va_E) : va_W := (List.range 64).flatMap fun k => (List.range (cnt k)).map fun i => (L k i, G k i)
theorem ql_in {cnt : Nat → Nat} {L : QL} {G : Nat → Nat → va_E} {k i : Nat} (hk : k < 64) (hi : i < cnt k) : (L k i, G k i) ∈ ql cnt L G :=
  List.mem_flatMap.mpr ⟨k, List.mem_range.mpr hk, List.mem_map.mpr ⟨i, List.mem_range.mpr hi, rfl⟩⟩
theorem ql_of {cnt : Nat → Nat} {L : QL} {G : Nat → Nat → va_E} {q : Nat × va_E} (h : q ∈ ql cnt L G) : ∃ k i, i < cnt k ∧ q = (L k i, G k i) := by
  obtain ⟨k, -, h⟩ := List.mem_flatMap.mp h
  obtain ⟨i, hi, h⟩ := List.mem_map.mp h
  exact ⟨k, i, List.mem_range.mp hi, h.symm⟩
theorem ql_P {D : va_G} {cl : List vw_C} {cnt : Nat → Nat} {L : QL} {G : Nat → Nat → va_E} {H : Heap} (h : qh D cl cnt L G H) : va_P D cl (ql cnt L G) H := fun k q hk => by
  obtain ⟨k', i, hi, rfl⟩ := ql_of (List.mem_of_getElem? hk)
  exact h k' i hi
theorem ql_pw {cnt : Nat → Nat} {L : QL} {G : Nat → Nat → va_E} {A : Nat → Prop} (h : qj cnt L A) : (ql cnt L G).Pairwise (fun p q => p.1 ≠ q.1) := by
  unfold ql
  rw [List.pairwise_flatMap]
  constructor
  · intro k _
    rw [List.pairwise_map]
    refine List.Pairwise.imp_of_mem ?_ (List.pairwise_lt_range (n := cnt k))
    intro a b ha hb hab hq
    have := (h.1 k a k b (List.mem_range.mp ha) (List.mem_range.mp hb) hq).2
    omega
  · refine List.Pairwise.imp_of_mem ?_ (List.pairwise_lt_range (n := 64))
    intro a b _ _ hab x hx y hy hq
    obtain ⟨i, hi, rfl⟩ := List.mem_map.mp hx
    obtain ⟨j, hj, rfl⟩ := List.mem_map.mp hy
    have := (h.1 a i b j (List.mem_range.mp hi) (List.mem_range.mp hj) hq).1
    omega
theorem ql_D {cnt : Nat → Nat} {L : QL} {G : Nat → Nat → va_E} {A : Nat → Prop} (h : qj cnt L A) : va_D A (ql cnt L G) := by
  have hp := List.pairwise_iff_getElem.mp (ql_pw (G := G) h)
  refine ⟨fun i j p q hi hj hpq => ?_, fun k q hk => ?_⟩
  · obtain ⟨li, ei⟩ := List.getElem?_eq_some_iff.mp hi
    obtain ⟨lj, ej⟩ := List.getElem?_eq_some_iff.mp hj
    rcases Nat.lt_trichotomy i j with hij | hij | hij
    · exact absurd (by rw [ei, ej]; exact hpq) (hp i j li lj hij)
    · exact hij
    · exact absurd (by rw [ei, ej]; exact hpq.symm) (hp j i lj li hij)
  · obtain ⟨k', i, hi, rfl⟩ := ql_of (List.mem_of_getElem? hk)
    exact h.2.1 k' i hi
theorem q_set {D : va_G} {cl : List vw_C} {cnt : Nat → Nat} {L : QL} {G : Nat → Nat → va_E} {A : Nat → Prop} {H1 : Heap} {k i p : Nat} {e : va_E} (hJ : qj cnt L A) (hi : i < cnt k) (hp : (ql cnt L G)[p]? = some (L k i, G k i)) (h : va_P D cl ((ql cnt L G).set p (L k i, e)) H1) : qh D cl cnt L (q2 G k i e) H1 := by
  have hl := (List.getElem?_eq_some_iff.mp hp).1
  intro a b hb
  by_cases hq : a = k ∧ b = i
  · obtain ⟨rfl, rfl⟩ := hq
    have := h p (L a b, e) (List.getElem?_set_self hl)
    simpa [q2] using this
  · obtain ⟨n, hn⟩ := List.getElem?_of_mem (ql_in (L := L) (G := G) (hJ.2.2 a (by omega)) hb)
    have hne : n ≠ p := by
      intro z
      subst z
      have e9 : (L a b, G a b) = (L k i, G k i) := Option.some.inj (hn.symm.trans hp)
      exact hq (hJ.1 a b k i hb hi (congrArg Prod.fst e9))
    have := h n (L a b, G a b) (by rw [List.getElem?_set_ne (Ne.symm hne)]; exact hn)
    simpa [q2, hq] using this
theorem q_one {D : va_G} {cl : List vw_C} {a : Nat} {e : va_E} {H : Heap} (h : va_at D cl (a, e) H) : va_P D cl [(a, e)] H := fun k q hk => by
  cases k with
  | zero => cases hk; exact h
  | succ k => cases hk
theorem q_kept {D : va_G} {cl : List vw_C} {cnt : Nat → Nat} {L : QL} {G : Nat → Nat → va_E} {H H1 : Heap} (h : qh D cl cnt L G H) (hk : ∀ k i, i < cnt k → H1[L k i]? = H[L k i]?) : qh D cl cnt L G H1 := fun k i hi => (h k i hi).kept (hk k i hi)
section QR
variable {p : Program} {l : Launch} {e : Env} {R : Room} {s : State} {m : MethodId} {args : Array Value} {below : List Frame} {meth : Method} {c : Code} {H : Heap} {locs : List Loc} {cells slots : Nat} {Q : State → Prop}
variable {cc : ByteArray} {pc nL : Nat} {ls : Array Slot} {rest : List Value} {D : va_G} {cl : List vw_C} {A : Nat → Prop} {tys : List (ClassId × FieldType)} {H0 : Heap} {cnt : Nat → Nat} {L : QL} {G : Nat → Nat → va_E} {Ts : List Cond} {own : String}
theorem q_get (S : CallFix p m c cc nL s args Ts own) {C : String} {T : u_T} {N ci index : Nat} (hin : ∀ w ∈ u_ws C T N, w ∈ Ts) (hK : va_K D cl tys s) (hQ : qh D cl cnt L G H) (k i : Nat) (hi : i < cnt k) {fs : List Value} (hG : G k i = .inr (ci, fs)) (hc : cl[ci]? = some (C, T, N)) (j : Nat) (hj : j < N) (hlink : Cond.fieldLink own index (T j).1 (T j).2.1 (T j).2.2.1 ∈ Ts) {v : Value} (hv : fs[j]? = some v) (hdg : decode cc pc = .ok (.getfield index, 3))
    (kk : W p l e R s m args below meth c H locs cells slots Q (F0 m (pc + 3) ls (v :: rest))) : W p l e R s m args below meth c H locs cells slots Q (F0 m pc ls (.ref (L k i) :: rest)) :=
  va_get S.1 S.2.1 S.2.2.2.2 hin S.2.2.2.1 hK (q_one (by rw [← hG]; exact hQ k i hi)) 0 rfl hc j hj (S.2.2.2.2 _ hlink) (fun _ h => h) hv hdg kk
theorem q_put (S : CallFix p m c cc nL s args Ts own) {C : String} {T : u_T} {N ci index : Nat} (hin : ∀ w ∈ u_ws C T N, w ∈ Ts) (ty0 : Nat → FieldType) (hty : ∀ k, k < N → parseFieldDescriptor (T k).2.2.1 = some (ty0 k)) (hnm : ∀ a, a < N → ∀ b, b < N → a ≠ b → (T a).2.1 ≠ (T b).2.1) (hK : va_K D cl tys s) (hJ : qj cnt L A) (hQ : qh D cl cnt L G H) (hS : va_S A H0 H locs) (k i : Nat) (hi : i < cnt k) {fs : List Value} (hG : G k i = .inr (ci, fs)) (hc : cl[ci]? = some (C, T, N)) (j : Nat) (hj : j < N) (hlink : Cond.fieldLink own index (T j).1 (T j).2.1 (T j).2.2.1 ∈ Ts) (hfin : (T j).2.2.2 = false) {ty : FieldType} {v : Value} (hd : parseFieldDescriptor (T j).2.2.1 = some ty) (hn : narrow ty v = v) (hfit : fits ty v = true) (hl : j < fs.length) (hdg : decode cc pc = .ok (.putfield index, 3))
    (kk : ∀ (H1 : Heap) (locs1 : List Loc), qh D cl cnt L (q2 G k i (.inr (ci, fs.set j v))) H1 → va_S A H0 H1 locs1 → W p l e R s m args below meth c H1 locs1 cells slots Q (F0 m (pc + 3) ls rest)) : W p l e R s m args below meth c H locs cells slots Q (F0 m pc ls (v :: .ref (L k i) :: rest)) := by
  obtain ⟨n, hn9⟩ := List.getElem?_of_mem (ql_in (L := L) (G := G) (hJ.2.2 k (by omega)) hi)
  refine va_put S.1 S.2.1 S.2.2.2.2 hin ty0 hty hnm S.2.2.2.1 hK (ql_P hQ) (ql_D hJ) hS n (by rw [← hG]; exact hn9) hc j hj (S.2.2.2.2 _ hlink) (fun _ h => h) hfin hd hn hfit hl hdg (fun H1 locs1 hP _ hS1 => ?_)
  exact kk H1 locs1 (q_set hJ hi hn9 hP) hS1
theorem q_iald (S : CallFix p m c cc nL s args Ts own) (hK : va_K D cl tys s) (hQ : qh D cl cnt L G H) (k i : Nat) (hi : i < cnt k) (t0 : Nat) {cA : ClassId} {n : Nat} {f : Nat → Int32} (hG : G k i = .inl (cA, n, .inl f)) (ht : tys[t0]? = some (cA, .int)) {j : Int32} (hin : vp_in j n) (hdg : decode cc pc = .ok (.iaload, 1))
    (kk : W p l e R s m args below meth c H locs cells slots Q (F0 m (pc + 1) ls (.int (f j.toNatClampNeg) :: rest))) : W p l e R s m args below meth c H locs cells slots Q (F0 m pc ls (.int j :: .ref (L k i) :: rest)) :=
  va_iald S.1 S.2.1 hK (q_one (by rw [← hG]; exact hQ k i hi)) 0 t0 rfl ht hin hdg kk
theorem q_zald (S : CallFix p m c cc nL s args Ts own) (hK : va_K D cl tys s) (hQ : qh D cl cnt L G H) (k i : Nat) (hi : i < cnt k) (t0 : Nat) {cA : ClassId} {n : Nat} {f : Nat → Int32} (hG : G k i = .inl (cA, n, .inl f)) (ht : tys[t0]? = some (cA, .boolean)) {j : Int32} (hin : vp_in j n) (hdg : decode cc pc = .ok (.baload, 1))
    (kk : W p l e R s m args below meth c H locs cells slots Q (F0 m (pc + 1) ls (.int (f j.toNatClampNeg) :: rest))) : W p l e R s m args below meth c H locs cells slots Q (F0 m pc ls (.int j :: .ref (L k i) :: rest)) :=
  va_zald S.1 S.2.1 hK (q_one (by rw [← hG]; exact hQ k i hi)) 0 t0 rfl ht hin hdg kk
theorem q_aald (S : CallFix p m c cc nL s args Ts own) (hK : va_K D cl tys s) (hQ : qh D cl cnt L G H) (k i : Nat) (hi : i < cnt k) (t0 : Nat) {cA : ClassId} {C : String} {n : Nat} {f : Nat → Nat} (hG : G k i = .inl (cA, n, .inr (.inr (.inr (.inr (fun j => some (f j))))))) (ht : tys[t0]? = some (cA, .object C)) {j : Int32} (hin : vp_in j n) (hdg : decode cc pc = .ok (.aaload, 1))
    (kk : W p l e R s m args below meth c H locs cells slots Q (F0 m (pc + 1) ls (.ref (f j.toNatClampNeg) :: rest))) : W p l e R s m args below meth c H locs cells slots Q (F0 m pc ls (.int j :: .ref (L k i) :: rest)) :=
  va_aldq (f := fun j => some (f j)) S.1 S.2.1 hK (q_one (by rw [← hG]; exact hQ k i hi)) 0 t0 rfl ht hin hdg kk
theorem q_alen (S : CallFix p m c cc nL s args Ts own) (hK : va_K D cl tys s) (hQ : qh D cl cnt L G H) (k i : Nat) (hi : i < cnt k) (t0 : Nat) {cA : ClassId} {n : Nat} {f : Nat → Int32} (hG : G k i = .inl (cA, n, .inl f)) (ht : tys[t0]? = some (cA, .int)) {v : Int32} (hv : Int32.ofNat n = v) (hdg : decode cc pc = .ok (.arraylength, 1))
    (kk : W p l e R s m args below meth c H locs cells slots Q (F0 m (pc + 1) ls (.int v :: rest))) : W p l e R s m args below meth c H locs cells slots Q (F0 m pc ls (.ref (L k i) :: rest)) :=
  va_alen S.1 S.2.1 hK (q_one (by rw [← hG]; exact hQ k i hi)) 0 t0 rfl ht hv hdg kk
theorem q_iast (S : CallFix p m c cc nL s args Ts own) (hK : va_K D cl tys s) (hJ : qj cnt L A) (hQ : qh D cl cnt L G H) (hS : va_S A H0 H locs) (k i : Nat) (hi : i < cnt k) (t0 : Nat) {cA : ClassId} {n : Nat} {f : Nat → Int32} (hG : G k i = .inl (cA, n, .inl f)) (ht : tys[t0]? = some (cA, .int)) {j x : Int32} (hin : vp_in j n) (hdg : decode cc pc = .ok (.iastore, 1))
    (kk : ∀ (H1 : Heap) (locs1 : List Loc), qh D cl cnt L (q2 G k i (.inl (cA, n, .inl (upd f j.toNatClampNeg x)))) H1 → va_S A H0 H1 locs1 → W p l e R s m args below meth c H1 locs1 cells slots Q (F0 m (pc + 1) ls rest)) : W p l e R s m args below meth c H locs cells slots Q (F0 m pc ls (.int x :: .int j :: .ref (L k i) :: rest)) := by
  obtain ⟨q, hn9⟩ := List.getElem?_of_mem (ql_in (L := L) (G := G) (hJ.2.2 k (by omega)) hi)
  refine va_iast S.1 S.2.1 hK (ql_P hQ) (ql_D hJ) hS q t0 (by rw [← hG]; exact hn9) ht hin hdg (fun H1 locs1 hP _ hS1 => ?_)
  exact kk H1 locs1 (q_set hJ hi hn9 hP) hS1
theorem q_zast (S : CallFix p m c cc nL s args Ts own) (hK : va_K D cl tys s) (hJ : qj cnt L A) (hQ : qh D cl cnt L G H) (hS : va_S A H0 H locs) (k i : Nat) (hi : i < cnt k) (t0 : Nat) {cA : ClassId} {n : Nat} {f : Nat → Int32} (hG : G k i = .inl (cA, n, .inl f)) (ht : tys[t0]? = some (cA, .boolean)) {j x : Int32} (hin : vp_in j n) (hdg : decode cc pc = .ok (.bastore, 1))
    (kk : ∀ (H1 : Heap) (locs1 : List Loc), qh D cl cnt L (q2 G k i (.inl (cA, n, .inl (upd f j.toNatClampNeg (vp_nar .boolean x))))) H1 → va_S A H0 H1 locs1 → W p l e R s m args below meth c H1 locs1 cells slots Q (F0 m (pc + 1) ls rest)) : W p l e R s m args below meth c H locs cells slots Q (F0 m pc ls (.int x :: .int j :: .ref (L k i) :: rest)) := by
  obtain ⟨q, hn9⟩ := List.getElem?_of_mem (ql_in (L := L) (G := G) (hJ.2.2 k (by omega)) hi)
  refine va_zast S.1 S.2.1 hK (ql_P hQ) (ql_D hJ) hS q t0 (by rw [← hG]; exact hn9) ht hin hdg (fun H1 locs1 hP _ hS1 => ?_)
  exact kk H1 locs1 (q_set hJ hi hn9 hP) hS1
end QR
end
section
/-! numbers as Int -/
theorem t_lt {x y : Int32} (h : x < y) : x.toInt < y.toInt := Int32.lt_iff_toInt_lt.mp h
theorem t_nlt {x y : Int32} (h : ¬ x < y) : y.toInt ≤ x.toInt := by rw [Int32.lt_iff_toInt_lt] at h; omega
theorem t_le {x y : Int32} (h : x ≤ y) : x.toInt ≤ y.toInt := Int32.le_iff_toInt_le.mp h
theorem t_nle {x y : Int32} (h : ¬ x ≤ y) : y.toInt < x.toInt := by rw [Int32.le_iff_toInt_le] at h; omega
theorem t_eq {x y : Int32} (h : x = y) : x.toInt = y.toInt := by rw [h]
theorem t_neq {x y : Int32} (h : ¬ x = y) : x.toInt ≠ y.toInt := fun q => h (Int32.toInt_inj.mp q)
theorem any32 (x : Int32) : (-2147483648 : Int) ≤ x.toInt ∧ x.toInt ≤ 2147483647 := by
  have h1 := Int32.le_toInt x
  have h2 := Int32.toInt_lt x
  omega
theorem i_bmod {z : Int} (h1 : -2147483648 ≤ z) (h2 : z ≤ 2147483647) : z.bmod (2 ^ 32) = z := Int.bmod_eq_of_le (by omega) (by omega)
theorem i_add {x y z : Int32} (e : z = x + y) (h1 : -2147483648 ≤ x.toInt + y.toInt) (h2 : x.toInt + y.toInt ≤ 2147483647) : z.toInt = x.toInt + y.toInt := by rw [e, Int32.toInt_add, i_bmod h1 h2]
theorem i_sub {x y z : Int32} (e : z = x - y) (h1 : -2147483648 ≤ x.toInt - y.toInt) (h2 : x.toInt - y.toInt ≤ 2147483647) : z.toInt = x.toInt - y.toInt := by rw [e, Int32.toInt_sub, i_bmod h1 h2]
theorem i_addc {x k z : Int32} {n : Int} (e : z = x + k) (hk : k.toInt = n) (h1 : -2147483648 ≤ x.toInt + n) (h2 : x.toInt + n ≤ 2147483647) : z.toInt = x.toInt + n := by rw [← hk] at h1 h2 ⊢; exact i_add e h1 h2
theorem i_mulcr {x k z : Int32} {n : Int} (e : z = x * k) (hk : k.toInt = n) (h1 : -2147483648 ≤ n * x.toInt) (h2 : n * x.toInt ≤ 2147483647) : z.toInt = n * x.toInt := by rw [e, Int32.toInt_mul, hk, Int.mul_comm, i_bmod h1 h2]
theorem i_mulcl {x k z : Int32} {n : Int} (e : z = k * x) (hk : k.toInt = n) (h1 : -2147483648 ≤ n * x.toInt) (h2 : n * x.toInt ≤ 2147483647) : z.toInt = n * x.toInt := by rw [e, Int32.toInt_mul, hk, i_bmod h1 h2]
theorem i_div {x y z : Int32} {n : Int} (e : z = x / y) (hy : y.toInt = n) (hn : 0 < n) (hx : 0 ≤ x.toInt) : z.toInt = x.toInt / n := by
  have h1 := any32 x
  have h2 : x.toInt / n ≤ x.toInt := Int.ediv_le_self _ hx
  have h3 : 0 ≤ x.toInt / n := Int.ediv_nonneg hx (by omega)
  rw [e, Int32.toInt_div, hy, Int.tdiv_eq_ediv_of_nonneg hx, i_bmod (by omega) (by omega)]
theorem i_rem {x y z : Int32} {n : Int} (e : z = x - x / y * y) (hy : y.toInt = n) (hn : 0 < n) (hx : 0 ≤ x.toInt) : z.toInt = x.toInt % n := by
  have h1 := any32 x
  have hd := i_div (z := x / y) rfl hy hn hx
  have h4 := Int.mul_ediv_add_emod x.toInt n
  have h5 := Int.emod_nonneg x.toInt (show n ≠ 0 by omega)
  have h6 : 0 ≤ x.toInt / n := Int.ediv_nonneg hx (by omega)
  have h7 : 0 ≤ n * (x.toInt / n) := Int.mul_nonneg (by omega) h6
  have hm : (x / y * y).toInt = n * (x.toInt / n) := by
    rw [Int32.toInt_mul, hd, hy, Int.mul_comm, i_bmod (by omega) (by omega)]
  rw [i_sub e (by rw [hm]; omega) (by rw [hm]; omega), hm]
  omega
theorem i_nn {x : Int32} (h : 0 ≤ x.toInt) : x.toInt = (x.toBitVec.toNat : Int) := by
  have h1 : x.toInt = x.toBitVec.toInt := rfl
  have h2 := x.toBitVec.isLt
  rw [h1] at h ⊢
  rw [BitVec.toInt_eq_toNat_cond] at h ⊢
  split at h
  · rename_i q
    rw [if_pos q]
  · omega
theorem i_small {x : Int32} (h : x.toBitVec.toNat < 2147483648) : x.toInt = (x.toBitVec.toNat : Int) := by
  have h1 : x.toInt = x.toBitVec.toInt := rfl
  rw [h1, BitVec.toInt_eq_toNat_cond, if_pos (by omega)]
theorem i_andr {x y z : Int32} (e : z = x &&& y) (hy : 0 ≤ y.toInt) : 0 ≤ z.toInt ∧ z.toInt ≤ y.toInt := by
  have h1 := i_nn hy
  have h2 := (any32 y).2
  have h3 : z.toBitVec.toNat ≤ y.toBitVec.toNat := by rw [e, Int32.toBitVec_and, BitVec.toNat_and]; exact Nat.and_le_right
  have h4 := i_small (x := z) (by omega)
  omega
theorem i_andl {x y z : Int32} (e : z = x &&& y) (hy : 0 ≤ x.toInt) : 0 ≤ z.toInt ∧ z.toInt ≤ x.toInt := by
  have h1 := i_nn hy
  have h2 := (any32 x).2
  have h3 : z.toBitVec.toNat ≤ x.toBitVec.toNat := by rw [e, Int32.toBitVec_and, BitVec.toNat_and]; exact Nat.and_le_left
  have h4 := i_small (x := z) (by omega)
  omega
theorem i_mmax {x y z : Int32} (e : z = if x < y then y else x) : (z.toInt = x.toInt ∨ z.toInt = y.toInt) ∧ x.toInt ≤ z.toInt ∧ y.toInt ≤ z.toInt := by
  by_cases h : x < y
  · rw [if_pos h] at e
    have := t_lt h
    subst e
    omega
  · rw [if_neg h] at e
    have := t_nlt h
    subst e
    omega
theorem i_mmin {x y z : Int32} (e : z = if y < x then y else x) : (z.toInt = x.toInt ∨ z.toInt = y.toInt) ∧ x.toInt ≥ z.toInt ∧ y.toInt ≥ z.toInt := by
  by_cases h : y < x
  · rw [if_pos h] at e
    have := t_lt h
    subst e
    omega
  · rw [if_neg h] at e
    have := t_nlt h
    subst e
    omega
theorem vin {j : Int32} {n : Nat} (h1 : 0 ≤ j.toInt) (h2 : j.toInt < n) : vp_in j n := vp_in_iff.mpr ⟨h1, h2⟩
theorem cl_eq {j : Int32} (h : 0 ≤ j.toInt) : (j.toNatClampNeg : Int) = j.toInt := by
  have : j.toNatClampNeg = j.toInt.toNat := rfl
  omega
theorem cl_lt {j : Int32} {n : Nat} (h1 : 0 ≤ j.toInt) (h2 : j.toInt < n) : j.toNatClampNeg < n := by
  have := cl_eq h1
  omega
theorem sw_in (x : Int32) (lo hi : Int) : (x.toInt < lo ∨ hi < x.toInt) ∨ (¬ x.toInt < lo ∧ ¬ hi < x.toInt) := by omega
theorem i_01 {x : Int32} (h : x.toInt = 0 ∨ x.toInt = 1) : x = 0 ∨ x = 1 := by
  rcases h with h | h
  · exact Or.inl (Int32.toInt_inj.mp (by rw [h]; decide))
  · exact Or.inr (Int32.toInt_inj.mp (by rw [h]; decide))
theorem nz {x : Int32} (h : x.toInt = 0 ∨ x.toInt = 1) : narrow .boolean (.int x) = .int x := by
  rcases i_01 h with rfl | rfl <;> decide
theorem nzf {x : Int32} (h : x.toInt = 0 ∨ x.toInt = 1) : fits .boolean (.int x) = true := by
  rcases i_01 h with rfl | rfl <;> decide
/-! which variables a method may change -/
def Keep (S : List Nat) (σ σ' : QS) : Prop := ∀ v, v ∉ S → σ' v = σ v
theorem Keep_r {S : List Nat} {σ : QS} : Keep S σ σ := fun _ _ => rfl
theorem Keep_w {S : List Nat} {σ0 σ σ' : QS} {v i : Nat} {f : Nat → Int32} (e : σ' = rs σ v i f) (h : Keep S σ0 σ) (hv : v ∈ S) : Keep S σ0 σ' := fun a ha => by
  rw [e, rs_v (fun q => ha (by rw [q]; exact hv))]; exact h a ha
theorem Keep_t {S T : List Nat} {σ0 σ σ' : QS} (h : Keep S σ0 σ) (h2 : Keep T σ σ') (hs : ∀ v ∈ T, v ∈ S) : Keep S σ0 σ' := fun a ha => by
  rw [h2 a (fun q => ha (hs a q)), h a ha]
theorem Keep_m {S T : List Nat} {σ0 σ : QS} (h : Keep S σ0 σ) (hs : ∀ v ∈ S, v ∈ T) : Keep T σ0 σ := fun a ha => h a (fun q => ha (hs a q))
theorem rs_b {σ σ' : QS} {v i : Nat} {f : Nat → Int32} (e : σ' = rs σ v i f) {lo hi : Nat → Int} (h : ∀ a b c, lo a ≤ (σ a b c).toInt ∧ (σ a b c).toInt ≤ hi a) (hf : ∀ c, lo v ≤ (f c).toInt ∧ (f c).toInt ≤ hi v) : ∀ a b c, lo a ≤ (σ' a b c).toInt ∧ (σ' a b c).toInt ≤ hi a := by
  intro a b c
  rw [e]
  unfold rs
  by_cases q : a = v ∧ b = i
  · rw [if_pos q, q.1]; exact hf c
  · rw [if_neg q]; exact h a b c
theorem upd_b {f : Nat → Int32} {j : Nat} {x : Int32} {lo hi : Int} (hf : ∀ c, lo ≤ (f c).toInt ∧ (f c).toInt ≤ hi) (hx : lo ≤ x.toInt ∧ x.toInt ≤ hi) : ∀ c, lo ≤ (upd f j x c).toInt ∧ (upd f j x c).toInt ≤ hi := by
  intro c
  unfold upd
  by_cases q : c = j
  · rw [if_pos q]; exact hx
  · rw [if_neg q]; exact hf c
/-! what every state of the class keeps: bounds of single variables, and what ties some together -/
def ivC : Nat → Int × Int := fun v => match v with
  | 0 => (0, 60) | 1 => (0, 5000) | 2 => (0, 100) | 3 => (0, 12) | 7 => (0, 72) | 11 => (0, 60) | 12 => (0, 60) | 13 => (0, 100) | 14 => (0, 1000000) | 15 => (0, 255) | 22 => (0, 23) | 26 => (0, 6) | 27 => (0, 11) | 28 => (0, 60) | 32 => (-1, 11) | 34 => (-1, 11) | 35 => (-1, 11) | 38 => (-1, 11)
  | _ => (-2147483648, 2147483647)
def IvC (σ : QS) : Prop := ∀ v i j, (ivC v).1 ≤ (σ v i j).toInt ∧ (σ v i j).toInt ≤ (ivC v).2
def hok (x : Int32) : Prop := (x >>> ((3 : Int32) &&& 31) &&& 15).toInt ≤ 11 ∧ 2 ≤ (x &&& 7).toInt
def XC (σ : QS) : Prop := (∀ h, h ≤ 24 → (σ 7 0 h).toInt ≤ (σ 7 0 24).toInt) ∧ (∀ j : Nat, (j : Int) < (σ 7 0 24).toInt → hok (σ 6 0 j)) ∧ (∀ i : Nat, (i : Int) < (σ 0 0 0).toInt → 0 ≤ (σ 32 i 0).toInt) ∧ (∀ i : Nat, 0 ≤ (σ 35 i 0).toInt → 0 ≤ (σ 36 i 0).toInt)
def InvC (σ : QS) : Prop := IvC σ ∧ XC σ
abbrev depC : List Nat := [0, 6, 7, 32, 35, 36]
theorem XC_of {σ σ' : QS} (h : XC σ) (hd : ∀ v ∈ depC, σ' v = σ v) : XC σ' := by
  unfold XC at h ⊢
  rw [hd 0 (by decide), hd 6 (by decide), hd 7 (by decide), hd 32 (by decide), hd 35 (by decide), hd 36 (by decide)]
  exact h
theorem XC_w {σ σ' : QS} {v i : Nat} {f : Nat → Int32} (e : σ' = rs σ v i f) (h : XC σ) (hv : v ∉ depC) : XC σ' := XC_of h (fun a ha => by rw [e]; exact rs_v (fun q => hv (by rw [← q]; exact ha)))
theorem InvC_f {σ σ' : QS} {v i : Nat} {x : Int32} (e : σ' = rs σ v i (fun _ => x)) (h : InvC σ) (hv : v ∉ depC) (hb : (ivC v).1 ≤ x.toInt ∧ x.toInt ≤ (ivC v).2) : InvC σ' :=
  ⟨rs_b e (lo := fun v => (ivC v).1) (hi := fun v => (ivC v).2) h.1 (fun _ => hb), XC_w e h.2 hv⟩
theorem InvC_a {σ σ' : QS} {v i j : Nat} {x : Int32} (e : σ' = rs σ v i (upd (σ v i) j x)) (h : InvC σ) (hv : v ∉ depC) (hb : (ivC v).1 ≤ x.toInt ∧ x.toInt ≤ (ivC v).2) : InvC σ' :=
  ⟨rs_b e (lo := fun v => (ivC v).1) (hi := fun v => (ivC v).2) h.1 (upd_b (h.1 v i) hb), XC_w e h.2 hv⟩
/-! .. and of the reference -/
def ivM : Nat → Int × Int := fun v => match v with
  | 1 => (0, 5000) | 2 => (0, 12) | 3 => (0, 100) | 4 => (0, 60) | 6 => (0, 23) | 9 => (0, 6) | 11 => (0, 11) | 12 => (0, 60) | 16 => (0, 1000000) | 18 => (0, 11) | 20 => (-1, 11) | 21 => (-1, 11) | 24 => (0, 11) | 27 => (0, 60) | 28 => (0, 60) | 29 => (0, 100) | 34 => (-1, 8) | 37 => (0, 500)
  | _ => (-2147483648, 2147483647)
def IvM (σ : QS) : Prop := ∀ v i j, (ivM v).1 ≤ (σ v i j).toInt ∧ (σ v i j).toInt ≤ (ivM v).2
def XM (σ : QS) : Prop := ∀ c : Nat, (c : Int) < (σ 2 0 0).toInt → 1 ≤ (σ 9 0 c).toInt
def InvM (σ : QS) : Prop := IvM σ ∧ XM σ
abbrev depM : List Nat := [2, 9]
theorem XM_of {σ σ' : QS} (h : XM σ) (hd : ∀ v ∈ depM, σ' v = σ v) : XM σ' := by
  unfold XM at h ⊢
  rw [hd 2 (by decide), hd 9 (by decide)]
  exact h
theorem XM_w {σ σ' : QS} {v i : Nat} {f : Nat → Int32} (e : σ' = rs σ v i f) (h : XM σ) (hv : v ∉ depM) : XM σ' := XM_of h (fun a ha => by rw [e]; exact rs_v (fun q => hv (by rw [← q]; exact ha)))
theorem InvM_f {σ σ' : QS} {v i : Nat} {x : Int32} (e : σ' = rs σ v i (fun _ => x)) (h : InvM σ) (hv : v ∉ depM) (hb : (ivM v).1 ≤ x.toInt ∧ x.toInt ≤ (ivM v).2) : InvM σ' :=
  ⟨rs_b e (lo := fun v => (ivM v).1) (hi := fun v => (ivM v).2) h.1 (fun _ => hb), XM_w e h.2 hv⟩
theorem InvM_a {σ σ' : QS} {v i j : Nat} {x : Int32} (e : σ' = rs σ v i (upd (σ v i) j x)) (h : InvM σ) (hv : v ∉ depM) (hb : (ivM v).1 ≤ x.toInt ∧ x.toInt ≤ (ivM v).2) : InvM σ' :=
  ⟨rs_b e (lo := fun v => (ivM v).1) (hi := fun v => (ivM v).2) h.1 (upd_b (h.1 v i) hb), XM_w e h.2 hv⟩
theorem IvC_w {σ : QS} {v i : Nat} {f : Nat → Int32} (h : IvC σ) (hf : ∀ c, (ivC v).1 ≤ (f c).toInt ∧ (f c).toInt ≤ (ivC v).2) : IvC (rs σ v i f) := rs_b rfl (lo := fun v => (ivC v).1) (hi := fun v => (ivC v).2) h hf
theorem InvC_cart0 {σ σ' : QS} {i : Nat} {x : Int32} (e : σ' = rs σ 35 i (fun _ => x)) (h : InvC σ) (hx : x.toInt = -1) : InvC σ' := by
  subst e
  obtain ⟨h1, h2, h3, h4, h5⟩ := h
  refine ⟨IvC_w h1 (fun _ => show (-1 : Int) ≤ x.toInt ∧ x.toInt ≤ 11 by omega), ?_⟩
  refine ⟨by simpa [rs] using h2, by simpa [rs] using h3, by simpa [rs] using h4, fun q => ?_⟩
  by_cases hq : q = i
  · subst hq
    intro h9
    simp [rs] at h9
    omega
  · have := h5 q
    simpa [rs, hq] using this
theorem InvC_day {σ σ' : QS} {i : Nat} {x : Int32} (e : σ' = rs σ 36 i (fun _ => x)) (h : InvC σ) (hc : (σ 35 i 0).toInt < 0 ∨ 0 ≤ x.toInt) : InvC σ' := by
  subst e
  obtain ⟨h1, h2, h3, h4, h5⟩ := h
  refine ⟨IvC_w h1 (fun _ => any32 x), ?_⟩
  refine ⟨by simpa [rs] using h2, by simpa [rs] using h3, by simpa [rs] using h4, fun q => ?_⟩
  by_cases hq : q = i
  · subst hq
    intro h9
    simp [rs] at h9 ⊢
    omega
  · have := h5 q
    simpa [rs, hq] using this
theorem InvC_board {σ σ' : QS} {i : Nat} {c d u p : Int32} {f : Nat → Int32} (h : InvC σ) (e : σ' = rs (rs (rs (rs (rs (rs σ 34 i (fun _ => -1)) 35 i (fun _ => c)) 36 i (fun _ => d)) 37 i (fun _ => u)) 38 i (fun _ => p)) 40 i f) (hc : -1 ≤ c.toInt ∧ c.toInt ≤ 11) (hd : 0 ≤ d.toInt) (hp : -1 ≤ p.toInt ∧ p.toInt ≤ 11) : InvC σ' := by
  subst e
  obtain ⟨h1, h2, h3, h4, h5⟩ := h
  refine ⟨IvC_w (IvC_w (IvC_w (IvC_w (IvC_w (IvC_w h1 (fun _ => by decide)) (fun _ => hc)) (fun _ => any32 d)) (fun _ => any32 u)) (fun _ => hp)) (fun _ => any32 _), ?_⟩
  refine ⟨by simpa [rs] using h2, by simpa [rs] using h3, by simpa [rs] using h4, fun q => ?_⟩
  by_cases hq : q = i
  · subst hq
    intro h9
    simpa [rs] using hd
  · have := h5 q
    simpa [rs, hq] using this
theorem InvC_give {σ σ' : QS} {i : Nat} {n a b z : Int32} (h : InvC σ) (e : σ' = rs (rs (rs (rs σ 0 0 (fun _ => n)) 34 i (fun _ => a)) 32 i (fun _ => b)) 33 i (fun _ => z)) (hn : n.toInt = (σ 0 0 0).toInt + 1) (hn2 : n.toInt ≤ 60) (hi : (i : Int) = (σ 0 0 0).toInt) (ha : 0 ≤ a.toInt ∧ a.toInt ≤ 11) (hb : 0 ≤ b.toInt ∧ b.toInt ≤ 11) : InvC σ' := by
  subst e
  obtain ⟨h1, h2, h3, h4, h5⟩ := h
  have h9 := h1 0 0 0
  have h8 : (0 : Int) ≤ (σ 0 0 0).toInt := h9.1
  refine ⟨IvC_w (IvC_w (IvC_w (IvC_w h1 (fun _ => show (0 : Int) ≤ n.toInt ∧ n.toInt ≤ 60 by omega)) (fun _ => show (-1 : Int) ≤ a.toInt ∧ a.toInt ≤ 11 by omega)) (fun _ => show (-1 : Int) ≤ b.toInt ∧ b.toInt ≤ 11 by omega)) (fun _ => any32 _), ?_⟩
  refine ⟨by simpa [rs] using h2, by simpa [rs] using h3, fun q => ?_, by simpa [rs] using h5⟩
  by_cases hq : q = i
  · subst hq
    intro _
    simpa [rs] using hb.1
  · intro h7
    have h6 : (q : Int) < (σ 0 0 0).toInt := by
      simp [rs] at h7
      omega
    have := h4 q h6
    simpa [rs, hq] using this
theorem hok_all : ∀ h : Fin 24, ∀ n : Fin 12, ∀ t : Fin 6, hok ((((nI h.val <<< ((4 : Int32) &&& 31)) ||| nI n.val) <<< ((3 : Int32) &&& 31)) ||| ((7 : Int32) - nI t.val)) := by
  unfold hok
  decide +kernel
theorem nI_at {x : Int32} (h : 0 ≤ x.toInt) : x = nI x.toNatClampNeg := by
  apply Int32.toInt_inj.mp
  have h1 := cl_eq h
  have h2 := any32 x
  rw [nI_toInt (by omega)]
  omega
theorem hok_of {a b c x : Int32} (ha : 0 ≤ a.toInt ∧ a.toInt ≤ 23) (hb : 0 ≤ b.toInt ∧ b.toInt ≤ 11) (hc : 0 ≤ c.toInt ∧ c.toInt ≤ 5) (e : x = (((a <<< ((4 : Int32) &&& 31)) ||| b) <<< ((3 : Int32) &&& 31)) ||| ((7 : Int32) - c)) : hok x := by
  have := hok_all ⟨a.toNatClampNeg, cl_lt ha.1 (by omega)⟩ ⟨b.toNatClampNeg, cl_lt hb.1 (by omega)⟩ ⟨c.toNatClampNeg, cl_lt hc.1 (by omega)⟩
  simp only at this
  rw [← nI_at ha.1, ← nI_at hb.1, ← nI_at hc.1] at this
  rw [e]
  exact this
theorem IvM_w {σ : QS} {v i : Nat} {f : Nat → Int32} (h : IvM σ) (hf : ∀ c, (ivM v).1 ≤ (f c).toInt ∧ (f c).toInt ≤ (ivM v).2) : IvM (rs σ v i f) := rs_b rfl (lo := fun v => (ivM v).1) (hi := fun v => (ivM v).2) h hf
theorem InvM_stops {σ σ' : QS} {j : Nat} {x : Int32} (e : σ' = rs σ 9 0 (upd (σ 9 0) j x)) (h : InvM σ) (hx : 1 ≤ x.toInt ∧ x.toInt ≤ 6) : InvM σ' := by
  subst e
  refine ⟨IvM_w h.1 (upd_b (h.1 9 0) (show (0 : Int) ≤ x.toInt ∧ x.toInt ≤ 6 by omega)), fun c hc => ?_⟩
  rw [rs_v (by decide)] at hc
  rw [rs_self]
  unfold upd
  by_cases q : c = j
  · rw [if_pos q]; omega
  · rw [if_neg q]; exact h.2 c hc
theorem InvM_carts {σ σ' : QS} {x y c : Int32} (e : σ' = rs σ 2 0 (fun _ => x)) (h : InvM σ) (hy : y = σ 2 0 0) (hx : x.toInt = y.toInt + 1) (hb : x.toInt ≤ 12) (hc : c.toInt = y.toInt) (hs : (σ 9 0 c.toNatClampNeg).toInt = 1) : InvM σ' := by
  subst e
  have h0 : (0 : Int) ≤ (σ 2 0 0).toInt ∧ (σ 2 0 0).toInt ≤ 12 := h.1 2 0 0
  rw [← hy] at h0
  have h1 := cl_eq (j := c) (by omega)
  refine ⟨IvM_w h.1 (fun _ => show (0 : Int) ≤ x.toInt ∧ x.toInt ≤ 12 by omega), fun q hq => ?_⟩
  rw [rs_self] at hq
  rw [rs_v (by decide)]
  by_cases hqc : q = c.toNatClampNeg
  · rw [hqc, hs]; decide
  · exact h.2 q (by rw [← hy]; omega)
def sumN (f : Nat → Int32) : Nat → Int
  | 0 => 0
  | n + 1 => sumN f n + (f n).toInt
theorem sumN_out (f : Nat → Int32) (j : Nat) (x : Int32) : ∀ n, n ≤ j → sumN (upd f j x) n = sumN f n
  | 0, _ => rfl
  | n + 1, h => by
    have h1 : upd f j x n = f n := by unfold upd; rw [if_neg (by omega)]
    rw [sumN, sumN, sumN_out f j x n (by omega), h1]
theorem sumN_upd (f : Nat → Int32) (j : Nat) (x : Int32) : ∀ n, j < n → sumN (upd f j x) n = sumN f n - (f j).toInt + x.toInt
  | 0, h => absurd h (Nat.not_lt_zero _)
  | n + 1, h => by
    by_cases q : j = n
    · subst q
      have h1 : upd f j x j = x := by unfold upd; rw [if_pos rfl]
      rw [sumN, sumN, sumN_out f j x j (Nat.le_refl _), h1]
      omega
    · have h1 : upd f j x n = f n := by unfold upd; rw [if_neg (Ne.symm q)]
      rw [sumN, sumN, sumN_upd f j x n (by omega), h1]
      omega
theorem sumN_nn (f : Nat → Int32) (hf : ∀ c, 0 ≤ (f c).toInt) : ∀ n, 0 ≤ sumN f n
  | 0 => Int.le_refl 0
  | n + 1 => by
    have h1 := sumN_nn f hf n
    have h2 := hf n
    rw [sumN]
    omega
def sumS (σ : QS) : Int := sumN (σ 16 0) 12
theorem sumS_nn {σ : QS} (h : InvM σ) : 0 ≤ sumS σ := sumN_nn _ (fun c => (h.1 16 0 c).1) 12
theorem sumS_w {σ σ' : QS} {j x v : Int32} (e : σ' = rs σ 16 0 (upd (σ 16 0) j.toNatClampNeg x)) (hv : v = σ 16 0 j.toNatClampNeg) (h1 : 0 ≤ j.toInt) (h2 : j.toInt < 12) : sumS σ' = sumS σ - v.toInt + x.toInt := by
  unfold sumS
  rw [e, rs_self, hv]
  exact sumN_upd _ _ _ 12 (cl_lt h1 (by omega))
end
section
/-! a net of carts; where one can be by when -/
abbrev Net : Type := Nat × (Nat → Nat) × (Nat → Int) × (Nat → Nat) × (Nat → Nat → Nat) × (Nat → Nat → Int) × (Nat → Nat → Prop)
def nK (N : Net) : Nat := N.1
def nS (N : Net) (c : Nat) : Nat := N.2.1 c
def nH (N : Net) (c : Nat) : Int := N.2.2.1 c
def nW (N : Net) (c : Nat) : Nat := N.2.2.2.1 c
def nP (N : Net) (c s : Nat) : Nat := N.2.2.2.2.1 c s
def nO (N : Net) (c s : Nat) : Int := N.2.2.2.2.2.1 c s
def nN (N : Net) (c d : Nat) : Prop := N.2.2.2.2.2.2 c d
def wfN (N : Net) : Prop := nK N ≤ 12 ∧ ∀ c, c < nK N → (1 ≤ nS N c ∧ nS N c ≤ 6) ∧ (0 ≤ nH N c ∧ nH N c ≤ 23) ∧ nO N c 0 = 0 ∧ (∀ s, s < nS N c → nP N c s < 12 ∧ 0 ≤ nO N c s ∧ nO N c s ≤ 60) ∧ ∀ s s', s < s' → s' < nS N c → nO N c s < nO N c s'
def runN (N : Net) (c d : Nat) : Prop := (nW N c).testBit (d % 7) = true ∧ (d ≤ 300 → ¬ nN N c d)
def htN (N : Net) (c d s : Nat) : Int := 24 * (d : Int) + nH N c + nO N c s
def rideN (N : Net) (w : Int) (c d s s' : Nat) : Prop := c < nK N ∧ (c : Int) ≠ w ∧ runN N c d ∧ s < s' ∧ s' < nS N c
def fwN (N : Net) (w : Int) (f : Nat) (t : Int) : Nat → Nat → Int → Prop
  | 0, p, h => p = f ∧ t ≤ h
  | n + 1, p, h => fwN N w f t n p h ∨ ∃ c d s s', rideN N w c d s s' ∧ nP N c s' = p ∧ htN N c d s' ≤ h ∧ fwN N w f t n (nP N c s) (htN N c d s)
def bwN (N : Net) (w : Int) (g : Nat) (e : Int) : Nat → Nat → Int → Prop
  | 0, p, h => p = g ∧ h ≤ e
  | n + 1, p, h => bwN N w g e n p h ∨ ∃ c d s s', rideN N w c d s s' ∧ nP N c s = p ∧ h ≤ htN N c d s ∧ bwN N w g e n (nP N c s') (htN N c d s')
/-- one who is at f from t on can be at p from h on; one who is at p from h on can be at g by e -/
def fwR (N : Net) (w : Int) (f : Nat) (t : Int) (p : Nat) (h : Int) : Prop := ∃ n, fwN N w f t n p h
def bwR (N : Net) (w : Int) (g : Nat) (e : Int) (p : Nat) (h : Int) : Prop := ∃ n, bwN N w g e n p h
section NT
variable {N : Net} {w : Int} {f g : Nat} {t e : Int}
theorem ht_lt (hN : wfN N) {c d s s' : Nat} (hr : rideN N w c d s s') : htN N c d s < htN N c d s' := by
  have := ((hN.2 c hr.1).2.2.2.2) s s' hr.2.2.2.1 hr.2.2.2.2
  unfold htN
  omega
theorem fwN_mono : ∀ (n p : Nat) (h h' : Int), fwN N w f t n p h → h ≤ h' → fwN N w f t n p h'
  | 0, _, _, _, a, b => ⟨a.1, by have := a.2; omega⟩
  | n + 1, p, h, h', a, b => by
    rcases a with a | ⟨c, d, s, s', a1, a2, a3, a4⟩
    · exact Or.inl (fwN_mono n p h h' a b)
    · exact Or.inr ⟨c, d, s, s', a1, a2, by omega, a4⟩
theorem bwN_mono : ∀ (n p : Nat) (h h' : Int), bwN N w g e n p h → h' ≤ h → bwN N w g e n p h'
  | 0, _, _, _, a, b => ⟨a.1, by have := a.2; omega⟩
  | n + 1, p, h, h', a, b => by
    rcases a with a | ⟨c, d, s, s', a1, a2, a3, a4⟩
    · exact Or.inl (bwN_mono n p h h' a b)
    · exact Or.inr ⟨c, d, s, s', a1, a2, by omega, a4⟩
theorem fwN_up : ∀ (k n p : Nat) (h : Int), fwN N w f t n p h → fwN N w f t (n + k) p h
  | 0, _, _, _, a => a
  | k + 1, n, p, h, a => Or.inl (fwN_up k n p h a)
theorem bwN_up : ∀ (k n p : Nat) (h : Int), bwN N w g e n p h → bwN N w g e (n + k) p h
  | 0, _, _, _, a => a
  | k + 1, n, p, h, a => Or.inl (bwN_up k n p h a)
theorem fw_mono {p : Nat} {h h' : Int} (a : fwR N w f t p h) (b : h ≤ h') : fwR N w f t p h' := by
  obtain ⟨n, a⟩ := a
  exact ⟨n, fwN_mono n p h h' a b⟩
theorem bw_mono {p : Nat} {h h' : Int} (a : bwR N w g e p h) (b : h' ≤ h) : bwR N w g e p h' := by
  obtain ⟨n, a⟩ := a
  exact ⟨n, bwN_mono n p h h' a b⟩
theorem fw_here {h : Int} (a : t ≤ h) : fwR N w f t f h := ⟨0, rfl, a⟩
theorem bw_here {h : Int} (a : h ≤ e) : bwR N w g e g h := ⟨0, rfl, a⟩
theorem fw_ride {c d s s' : Nat} (r : rideN N w c d s s') (a : fwR N w f t (nP N c s) (htN N c d s)) : fwR N w f t (nP N c s') (htN N c d s') := by
  obtain ⟨n, a⟩ := a
  exact ⟨n + 1, Or.inr ⟨c, d, s, s', r, rfl, Int.le_refl _, a⟩⟩
theorem bw_ride {c d s s' : Nat} (r : rideN N w c d s s') (a : bwR N w g e (nP N c s') (htN N c d s')) : bwR N w g e (nP N c s) (htN N c d s) := by
  obtain ⟨n, a⟩ := a
  exact ⟨n + 1, Or.inr ⟨c, d, s, s', r, rfl, Int.le_refl _, a⟩⟩
theorem fw_ge (hN : wfN N) {p : Nat} {h : Int} (a : fwR N w f t p h) : t ≤ h := by
  obtain ⟨n, a⟩ := a
  induction n generalizing p h with
  | zero => exact a.2
  | succ n ih =>
    rcases a with a | ⟨c, d, s, s', a1, a2, a3, a4⟩
    · exact ih a
    · have h1 := ih a4
      have h2 := ht_lt hN a1
      omega
theorem bw_le (hN : wfN N) {p : Nat} {h : Int} (a : bwR N w g e p h) : h ≤ e := by
  obtain ⟨n, a⟩ := a
  induction n generalizing p h with
  | zero => exact a.2
  | succ n ih =>
    rcases a with a | ⟨c, d, s, s', a1, a2, a3, a4⟩
    · exact ih a
    · have h1 := ih a4
      have h2 := ht_lt hN a1
      omega
theorem fw_iff {p : Nat} {h : Int} : fwR N w f t p h ↔ (p = f ∧ t ≤ h) ∨ ∃ c d s s', rideN N w c d s s' ∧ nP N c s' = p ∧ htN N c d s' ≤ h ∧ fwR N w f t (nP N c s) (htN N c d s) := by
  constructor
  · rintro ⟨n, a⟩
    induction n generalizing p h with
    | zero => exact Or.inl a
    | succ n ih =>
      rcases a with a | ⟨c, d, s, s', a1, a2, a3, a4⟩
      · exact ih a
      · exact Or.inr ⟨c, d, s, s', a1, a2, a3, n, a4⟩
  · rintro (⟨rfl, a⟩ | ⟨c, d, s, s', a1, rfl, a3, a4⟩)
    · exact fw_here a
    · exact fw_mono (fw_ride a1 a4) a3
theorem bw_iff {p : Nat} {h : Int} : bwR N w g e p h ↔ (p = g ∧ h ≤ e) ∨ ∃ c d s s', rideN N w c d s s' ∧ nP N c s = p ∧ h ≤ htN N c d s ∧ bwR N w g e (nP N c s') (htN N c d s') := by
  constructor
  · rintro ⟨n, a⟩
    induction n generalizing p h with
    | zero => exact Or.inl a
    | succ n ih =>
      rcases a with a | ⟨c, d, s, s', a1, a2, a3, a4⟩
      · exact ih a
      · exact Or.inr ⟨c, d, s, s', a1, a2, a3, n, a4⟩
  · rintro (⟨rfl, a⟩ | ⟨c, d, s, s', a1, rfl, a3, a4⟩)
    · exact bw_here a
    · exact bw_mono (bw_ride a1 a4) a3
theorem fw_trans {p q : Nat} {h k : Int} (a : fwR N w f t p h) (b : fwR N w p h q k) : fwR N w f t q k := by
  obtain ⟨n, b⟩ := b
  induction n generalizing q k with
  | zero =>
    obtain ⟨rfl, b2⟩ := b
    exact fw_mono a b2
  | succ n ih =>
    rcases b with b | ⟨c, d, s, s', a1, a2, a3, a4⟩
    · exact ih b
    · rw [← a2]
      exact fw_mono (fw_ride a1 (ih a4)) a3
theorem fw_bw {p : Nat} {h : Int} (a : bwR N w g e p h) : fwR N w p h g e := by
  obtain ⟨n, a⟩ := a
  induction n generalizing p h with
  | zero =>
    obtain ⟨rfl, a2⟩ := a
    exact fw_here a2
  | succ n ih =>
    rcases a with a | ⟨c, d, s, s', a1, a2, a3, a4⟩
    · exact ih a
    · exact fw_trans (h := htN N c d s') (fw_ride a1 (by rw [a2]; exact fw_here a3)) (ih a4)
theorem bw_fw {p : Nat} {h : Int} (a : fwR N w f t p h) (ha : bwR N w g e p h) : bwR N w g e f t := by
  obtain ⟨n, a⟩ := a
  induction n generalizing p h with
  | zero =>
    obtain ⟨rfl, a2⟩ := a
    exact bw_mono ha a2
  | succ n ih =>
    rcases a with a | ⟨c, d, s, s', a1, a2, a3, a4⟩
    · exact ih ha a
    · exact ih (bw_ride a1 (bw_mono (by rw [a2]; exact ha) a3)) a4
/-- both ways of looking say the same -/
theorem fw_eq_bw (N : Net) (w : Int) (f g : Nat) (t e : Int) : fwR N w f t g e ↔ bwR N w g e f t := by
  constructor
  · intro a
    exact bw_fw a (bw_here (Int.le_refl _))
  · exact fun a => fw_bw a
end NT
end
section
/-! hour by hour: what is come to, which runs one may be on; and backward -/
def lastS (N : Net) (c : Nat) : Nat := nS N c - 1
def actF (N : Net) (f : Nat) (t h : Int) (c d : Nat) : Prop := c < nK N ∧ runN N c d ∧ (∃ s, s + 1 < nS N c ∧ htN N c d s ≤ h ∧ fwR N (-1) f t (nP N c s) (htN N c d s)) ∧ h + 1 ≤ htN N c d (lastS N c)
def rchF (N : Net) (f : Nat) (t h : Int) (p : Nat) : Prop := p = f ∨ fwR N (-1) f t p h
section SW
variable {N : Net} {f g : Nat} {t e w : Int}
theorem ht_mono (hN : wfN N) {c d s s' : Nat} (hc : c < nK N) (hs : s' < nS N c) (h : s ≤ s') : htN N c d s ≤ htN N c d s' := by
  rcases Nat.lt_or_ge s s' with q | q
  · have := ((hN.2 c hc).2.2.2.2) s s' q hs
    unfold htN
    omega
  · have : s = s' := by omega
    rw [this]
    exact Int.le_refl _
theorem ht_inv (hN : wfN N) {c d s s' : Nat} (hc : c < nK N) (hs : s < nS N c) (h : htN N c d s < htN N c d s') : s < s' := by
  rcases Nat.lt_or_ge s s' with q | q
  · exact q
  · have := ht_mono hN (d := d) hc hs q
    omega
theorem ht_dur (hN : wfN N) {c d s : Nat} (hc : c < nK N) (hs : s < nS N c) : 24 * (d : Int) + nH N c ≤ htN N c d s ∧ htN N c d s ≤ 24 * (d : Int) + nH N c + 60 := by
  have := ((hN.2 c hc).2.2.2.1) s hs
  unfold htN
  omega
theorem last_lt (hN : wfN N) {c : Nat} (hc : c < nK N) : lastS N c < nS N c := by
  have := (hN.2 c hc).1
  unfold lastS
  omega
theorem sw_down (hN : wfN N) {h : Int} (ht : t ≤ h) {p : Nat} : (rchF N f t (h - 1) p ∨ ∃ c d s, c < nK N ∧ s < nS N c ∧ actF N f t (h - 1) c d ∧ htN N c d s = h ∧ nP N c s = p) ↔ rchF N f t h p := by
  constructor
  · rintro ((h1 | h1) | ⟨c, d, s, c1, c2, ⟨-, a1, ⟨s0, b1, b2, b3⟩, -⟩, c4, rfl⟩)
    · exact Or.inl h1
    · exact Or.inr (fw_mono h1 (by omega))
    · have h5 : s0 < s := ht_inv hN (d := d) c1 (by omega) (by omega)
      have := fw_ride (s := s0) (s' := s) ⟨c1, by omega, a1, h5, c2⟩ b3
      rw [c4] at this
      exact Or.inr this
  · rintro (h1 | h1)
    · exact Or.inl (Or.inl h1)
    · rcases fw_iff.mp h1 with ⟨h2, -⟩ | ⟨c, d, s, s', r, rfl, h3, h4⟩
      · exact Or.inl (Or.inl h2)
      · rcases Int.lt_or_eq_of_le h3 with h5 | h5
        · exact Or.inl (Or.inr (fw_mono (fw_ride r h4) (by omega)))
        · refine Or.inr ⟨c, d, s', r.1, r.2.2.2.2, ⟨r.1, r.2.2.1, ⟨s, ?_, ?_, h4⟩, ?_⟩, h5, rfl⟩
          · have := r.2.2.2.1; have := r.2.2.2.2; omega
          · have := ht_lt hN r; omega
          · have := ht_mono hN (d := d) r.1 (last_lt hN r.1) (show s' ≤ lastS N c by unfold lastS; have := r.2.2.2.2; omega)
            omega
theorem sw_on (hN : wfN N) {h : Int} (ht : t ≤ h) {c d : Nat} : ((actF N f t (h - 1) c d ∧ htN N c d (lastS N c) ≠ h) ∨ (c < nK N ∧ runN N c d ∧ ∃ s, s + 1 < nS N c ∧ htN N c d s = h ∧ rchF N f t h (nP N c s))) ↔ actF N f t h c d := by
  constructor
  · rintro (⟨⟨a1, a2, ⟨s, b1, b2, b3⟩, a4⟩, a5⟩ | ⟨a1, a2, s, b1, b2, b3⟩)
    · exact ⟨a1, a2, ⟨s, b1, by omega, b3⟩, by omega⟩
    · refine ⟨a1, a2, ⟨s, b1, by omega, ?_⟩, ?_⟩
      · rw [b2]
        rcases b3 with b3 | b3
        · rw [b3]
          exact fw_here ht
        · exact b3
      · have := ((hN.2 c a1).2.2.2.2) s (lastS N c) (by unfold lastS; omega) (last_lt hN a1)
        unfold htN at *
        omega
  · rintro ⟨a1, a2, ⟨s, b1, b2, b3⟩, a4⟩
    rcases Int.lt_or_eq_of_le b2 with h5 | h5
    · exact Or.inl ⟨⟨a1, a2, ⟨s, b1, by omega, b3⟩, by omega⟩, by omega⟩
    · exact Or.inr ⟨a1, a2, s, b1, h5, Or.inr (by rw [h5] at b3; exact b3)⟩
theorem sw_none (hN : wfN N) {c d : Nat} : ¬ actF N f t (t - 1) c d := by
  rintro ⟨-, -, ⟨s, -, b2, b3⟩, -⟩
  have := fw_ge hN b3
  omega
theorem sw_first (hN : wfN N) {p : Nat} : rchF N f t (t - 1) p ↔ p = f := by
  constructor
  · rintro (h | h)
    · exact h
    · have := fw_ge hN h
      omega
  · exact fun h => Or.inl h
/-- runs under way four days apart are never together -/
theorem sw_one (hN : wfN N) {h day : Int} {c d s s0 : Nat} (hc : c < nK N) (h1 : s0 < nS N c) (h2 : htN N c d s0 ≤ h) (h3 : h ≤ htN N c d (lastS N c)) (h4 : s < nS N c) (h5 : 24 * day + nH N c + nO N c s = h) (h6 : (d : Int) % 4 = day % 4) : (d : Int) = day := by
  have a1 := ht_dur hN (d := d) hc h1
  have a2 := ht_dur hN (d := d) hc (last_lt hN hc)
  have a3 := ((hN.2 c hc).2.2.2.1) s h4
  omega
def actB (N : Net) (w : Int) (g : Nat) (e h : Int) (c d : Nat) : Prop := c < nK N ∧ (c : Int) ≠ w ∧ runN N c d ∧ (∃ s, 0 < s ∧ s < nS N c ∧ h ≤ htN N c d s ∧ bwR N w g e (nP N c s) (htN N c d s)) ∧ htN N c d 0 ≤ h - 1
def latB (N : Net) (w : Int) (g : Nat) (e h : Int) (p : Nat) (v : Int) : Prop := (v = -1 ∧ ∀ k, h ≤ k → ¬ bwR N w g e p k) ∨ (h ≤ v ∧ bwR N w g e p v ∧ ∀ k, v < k → ¬ bwR N w g e p k)
theorem sw_by (hN : wfN N) {h : Int} {p : Nat} (hp : p ≠ g) : bwR N w g e p h ↔ bwR N w g e p (h + 1) ∨ ∃ c d s, c < nK N ∧ s < nS N c ∧ actB N w g e (h + 1) c d ∧ htN N c d s = h ∧ nP N c s = p := by
  constructor
  · intro a
    rcases bw_iff.mp a with ⟨a1, -⟩ | ⟨c, d, s, s', r, rfl, h3, h4⟩
    · exact absurd a1 hp
    · rcases Int.lt_or_eq_of_le h3 with h5 | h5
      · exact Or.inl (bw_mono (bw_ride r h4) (by omega))
      · have := ht_lt hN r
        have h6 := r.2.2.2.1
        have h7 := r.2.2.2.2
        have h8 := ht_mono hN (d := d) r.1 (show s < nS N c by omega) (Nat.zero_le s)
        exact Or.inr ⟨c, d, s, r.1, by omega, ⟨r.1, r.2.1, r.2.2.1, ⟨s', by omega, h7, by omega, h4⟩, by omega⟩, h5.symm, rfl⟩
  · rintro (a | ⟨c, d, s, c1, c2, ⟨-, a2, a3, ⟨s', b1, b2, b3, b4⟩, -⟩, c4, rfl⟩)
    · exact bw_mono a (by omega)
    · have h5 : s < s' := ht_inv hN (d := d) c1 c2 (by omega)
      have := bw_ride (s := s) (s' := s') ⟨c1, a2, a3, h5, b2⟩ b4
      rw [c4] at this
      exact this
theorem sw_comes (hN : wfN N) {h : Int} {c d : Nat} : ((actB N w g e (h + 1) c d ∧ htN N c d 0 ≠ h) ∨ (c < nK N ∧ (c : Int) ≠ w ∧ runN N c d ∧ ∃ s, 0 < s ∧ s < nS N c ∧ htN N c d s = h ∧ bwR N w g e (nP N c s) h)) ↔ actB N w g e h c d := by
  constructor
  · rintro (⟨⟨a1, a2, a3, ⟨s, b1, b2, b3, b4⟩, a5⟩, a6⟩ | ⟨a1, a2, a3, s, b1, b2, b3, b4⟩)
    · exact ⟨a1, a2, a3, ⟨s, b1, b2, by omega, b4⟩, by omega⟩
    · refine ⟨a1, a2, a3, ⟨s, b1, b2, by omega, by rw [b3]; exact b4⟩, ?_⟩
      have := ((hN.2 c a1).2.2.2.2) 0 s b1 b2
      unfold htN at *
      omega
  · rintro ⟨a1, a2, a3, ⟨s, b1, b2, b3, b4⟩, a5⟩
    rcases Int.lt_or_eq_of_le b3 with h5 | h5
    · exact Or.inl ⟨⟨a1, a2, a3, ⟨s, b1, b2, by omega, b4⟩, by omega⟩, by omega⟩
    · exact Or.inr ⟨a1, a2, a3, s, b1, b2, h5.symm, by rw [h5]; exact b4⟩
theorem sw_noB (hN : wfN N) {c d : Nat} : ¬ actB N w g e (e + 1) c d := by
  rintro ⟨-, -, -, ⟨s, -, -, b3, b4⟩, -⟩
  have := bw_le hN b4
  omega
theorem sw_lat {h v : Int} {p : Nat} (hh : 0 ≤ h) (a : latB N w g e (h + 1) p v) (b : ¬ (bwR N w g e p h ∧ ¬ bwR N w g e p (h + 1))) : latB N w g e h p v := by
  rcases a with ⟨a1, a2⟩ | ⟨a1, a2, a3⟩
  · refine Or.inl ⟨a1, fun k hk z => ?_⟩
    rcases Int.lt_or_eq_of_le hk with q | q
    · exact a2 k (by omega) z
    · subst q
      exact b ⟨z, a2 _ (Int.le_refl _)⟩
  · exact Or.inr ⟨by omega, a2, a3⟩
end SW
end
section
/-! the halts of a day in the class's row -/
def hvN (N : Net) (c s : Nat) : Int := 128 * ((nH N c + nO N c s) % 24) + 8 * (c : Int) + 7 - (s : Int)
def HalC (h6 h7 : Nat → Int32) (N : Net) : Prop :=
  (∀ k : Nat, k ≤ 24 → 0 ≤ (h7 k).toInt ∧ (h7 k).toInt ≤ (h7 24).toInt) ∧
  (∀ i : Nat, (i : Int) < (h7 24).toInt → ∃ c s, c < nK N ∧ s < nS N c ∧ (h6 i).toInt = hvN N c s) ∧
  (∀ c s, c < nK N → s < nS N c → ∃ i : Nat, (i : Int) < (h7 24).toInt ∧ (h6 i).toInt = hvN N c s) ∧
  (∀ i j : Nat, i < j → (j : Int) < (h7 24).toInt → (h6 i).toInt < (h6 j).toInt) ∧
  (∀ k i : Nat, k ≤ 24 → (i : Int) < (h7 24).toInt → ((i : Int) < (h7 k).toInt ↔ (h6 i).toInt < 128 * (k : Int)))
theorem hv_dec : ∀ k : Fin 24, ∀ c : Fin 12, ∀ s : Fin 6, ((nI (128 * k.val + 8 * c.val + 7 - s.val) >>> ((3 : Int32) &&& 31)) &&& 15) = nI c.val ∧ ((7 : Int32) - (nI (128 * k.val + 8 * c.val + 7 - s.val) &&& 7)) = nI s.val := by decide +kernel
section HA
variable {N : Net} {h6 h7 : Nat → Int32}
theorem hv_b (hN : wfN N) {c s : Nat} (hc : c < nK N) (hs : s < nS N c) : c < 12 ∧ s < 6 ∧ 0 ≤ (nH N c + nO N c s) % 24 ∧ (nH N c + nO N c s) % 24 < 24 := by
  have h1 := hN.1
  have h2 := (hN.2 c hc).1
  omega
theorem hv_of (hN : wfN N) {c s : Nat} {x : Int32} (hc : c < nK N) (hs : s < nS N c) (e : x.toInt = hvN N c s) : ((x >>> ((3 : Int32) &&& 31)) &&& 15) = nI c ∧ ((7 : Int32) - (x &&& 7)) = nI s := by
  obtain ⟨h1, h2, h3, h4⟩ := hv_b hN hc hs
  have h := hv_dec ⟨((nH N c + nO N c s) % 24).toNat, by omega⟩ ⟨c, h1⟩ ⟨s, h2⟩
  simp only at h
  have e2 : x = nI (128 * ((nH N c + nO N c s) % 24).toNat + 8 * c + 7 - s) := by
    apply Int32.toInt_inj.mp
    rw [nI_toInt (by omega), e]
    unfold hvN
    omega
  rw [e2]
  exact h
theorem hv_inj (hN : wfN N) {c s c' s' : Nat} (hc : c < nK N) (hs : s < nS N c) (hc' : c' < nK N) (hs' : s' < nS N c') (e : hvN N c s = hvN N c' s') : c = c' ∧ s = s' := by
  have h1 := hv_b hN hc hs
  have h2 := hv_b hN hc' hs'
  unfold hvN at e
  omega
def PrH (N : Net) (h6 : Nat → Int32) (b i : Int) (c s : Nat) : Prop := c < nK N ∧ s < nS N c ∧ ∃ j : Nat, b ≤ (j : Int) ∧ (j : Int) < i ∧ (h6 j).toInt = hvN N c s
theorem pr_none {b : Int} {c s : Nat} : ¬ PrH N h6 b b c s := by
  rintro ⟨-, -, j, h1, h2, -⟩
  omega
theorem pr_step (hN : wfN N) {b i : Int} {k c0 s0 : Nat} (hi : (k : Int) = i) (hb : b ≤ i) (hc : c0 < nK N) (hs : s0 < nS N c0) (e : (h6 k).toInt = hvN N c0 s0) {c s : Nat} : PrH N h6 b (i + 1) c s ↔ PrH N h6 b i c s ∨ (c = c0 ∧ s = s0) := by
  constructor
  · rintro ⟨a1, a2, j, b1, b2, b3⟩
    by_cases q : j = k
    · subst q
      exact Or.inr (hv_inj hN a1 a2 hc hs (b3.symm.trans e))
    · exact Or.inl ⟨a1, a2, j, b1, by omega, b3⟩
  · rintro (⟨a1, a2, j, b1, b2, b3⟩ | ⟨rfl, rfl⟩)
    · exact ⟨a1, a2, j, b1, by omega, b3⟩
    · exact ⟨hc, hs, k, by omega, by omega, e⟩
theorem pr_new (hH : HalC h6 h7 N) {b i : Int} {k c0 s0 : Nat} (hi : (k : Int) = i) (hk : i < (h7 24).toInt) (e : (h6 k).toInt = hvN N c0 s0) : ¬ PrH N h6 b i c0 s0 := by
  rintro ⟨-, -, j, b1, b2, b3⟩
  have := hH.2.2.2.1 j k (by omega) (by omega)
  omega
theorem pr_all (hN : wfN N) (hH : HalC h6 h7 N) {k : Nat} (hk : k < 24) {c s : Nat} : PrH N h6 (h7 k).toInt (h7 (k + 1)).toInt c s ↔ c < nK N ∧ s < nS N c ∧ (nH N c + nO N c s) % 24 = k := by
  have f1 := hH.1 k (by omega)
  have f2 := hH.1 (k + 1) (by omega)
  constructor
  · rintro ⟨a1, a2, j, b1, b2, b3⟩
    have g1 := hH.2.2.2.2 k j (by omega) (by omega)
    have g2 := hH.2.2.2.2 (k + 1) j (by omega) (by omega)
    have g3 := hv_b hN a1 a2
    refine ⟨a1, a2, ?_⟩
    have g4 := g2.mp b2
    have g5 : ¬ (h6 j).toInt < 128 * (k : Int) := fun z => by have := g1.mpr z; omega
    rw [b3] at g4 g5
    unfold hvN at g4 g5
    omega
  · rintro ⟨a1, a2, a3⟩
    obtain ⟨j, b1, b2⟩ := hH.2.2.1 c s a1 a2
    have g1 := hH.2.2.2.2 k j (by omega) b1
    have g2 := hH.2.2.2.2 (k + 1) j (by omega) b1
    have g3 := hv_b hN a1 a2
    refine ⟨a1, a2, j, ?_, g2.mpr ?_, b2⟩
    · rcases Int.lt_or_le (j : Int) (h7 k).toInt with q | q
      · have := g1.mp q
        rw [b2] at this
        unfold hvN at this
        omega
      · exact q
    · rw [b2]
      unfold hvN
      omega
theorem pr_at (hH : HalC h6 h7 N) {k i : Nat} (hk : k < 24) (h1 : (h7 k).toInt ≤ (i : Int)) (h2 : (i : Int) < (h7 (k + 1)).toInt) : ∃ c s, c < nK N ∧ s < nS N c ∧ (h6 i).toInt = hvN N c s :=
  hH.2.1 i (by have := hH.1 (k + 1) (by omega); omega)
end HA
/-- bits of small numbers -/
def hasB (x : Int32) (r : Nat) : Prop := x.toBitVec.getLsbD r = true
def ridB (N : Net) (f : Nat → Int32) (act : Nat → Nat → Prop) : Prop := ∀ c, c < nK N → ∀ r, r < 4 → (hasB (f c) r ↔ ∃ d, d % 4 = r ∧ act c d)
def rchB (x : Int32) (R : Nat → Prop) : Prop := ∀ p, p < 12 → (hasB x p ↔ R p)
end
section
/-! days of snow: a bit a day in the class's row, a flag a day in the reference's -/
def snB (f : Nat → Int32) (d : Int32) : Int32 := (f (d / 32).toNatClampNeg >>> ((d - d / 32 * 32) &&& 31)) &&& 1
def snA (f : Nat → Int32) (d : Int32) : Nat → Int32 := upd f (d / 32).toNatClampNeg (f (d / 32).toNatClampNeg ||| ((1 : Int32) <<< ((d - d / 32 * 32) &&& 31)))
theorem sn_nat : ∀ n : Fin 301, (nI n.val / 32).toNatClampNeg = n.val / 32 ∧ ((nI n.val - nI n.val / 32 * 32) &&& 31) = nI (n.val % 32) := by decide +kernel
theorem sn_sm : ∀ k : Fin 32, ((nI k.val).toBitVec.smod 32) = BitVec.ofNat 32 k.val ∧ (BitVec.ofNat 32 k.val).toNat = k.val := by decide +kernel
theorem sn_bit (w : Int32) {j : Nat} (hj : j < 32) : ((w >>> nI j) &&& 1 ≠ 0) ↔ w.toBitVec.getLsbD j = true := by
  have h1 := sn_sm ⟨j, hj⟩
  simp only at h1
  have h2 : ((w >>> nI j) &&& 1 = 0) ↔ ((w >>> nI j) &&& 1).toBitVec = (0 : Int32).toBitVec := ⟨fun h => by rw [h], fun h => Int32.toBitVec_inj.mp h⟩
  have h3 : ((w >>> nI j) &&& 1).toBitVec = (w.toBitVec.sshiftRight j) &&& 1#32 := by
    rw [Int32.toBitVec_and, Int32.toBitVec_shiftRight, h1.1, BitVec.sshiftRight_eq', h1.2]
    rfl
  rw [ne_eq, h2, h3, BitVec.and_one_eq_setWidth_ofBool_getLsbD, BitVec.getLsbD_sshiftRight]
  simp only [Nat.add_zero, hj, if_true]
  cases w.toBitVec.getLsbD j <;> decide
theorem sn_or (w : Int32) {j k : Nat} (hj : j < 32) (hk : k < 32) : (w ||| ((1 : Int32) <<< nI k)).toBitVec.getLsbD j = (w.toBitVec.getLsbD j || decide (j = k)) := by
  have h1 := sn_sm ⟨k, hk⟩
  simp only at h1
  rw [Int32.toBitVec_or, BitVec.getLsbD_or, Int32.toBitVec_shiftLeft, h1.1, BitVec.shiftLeft_eq', h1.2, BitVec.getLsbD_shiftLeft]
  congr 1
  rw [show (1 : Int32).toBitVec = 1#32 from rfl, BitVec.getLsbD_one]
  by_cases h : j = k
  · subst h
    simp [hj]
  · have : decide (j = k) = false := by simp [h]
    rw [this]
    rcases Nat.lt_or_ge j k with q | q
    · simp [q]
    · have : ¬ (j - k = 0) := by omega
      simp [this]
theorem sn_at {f : Nat → Int32} {n : Nat} (hn : n ≤ 300) : (snB f (nI n) ≠ 0) ↔ (f (n / 32)).toBitVec.getLsbD (n % 32) = true := by
  have h := sn_nat ⟨n, by omega⟩
  simp only at h
  unfold snB
  rw [h.1, h.2]
  exact sn_bit _ (Nat.mod_lt _ (by decide))
theorem sn_add {f : Nat → Int32} {n k : Nat} (hn : n ≤ 300) (hk : k ≤ 300) : (snB (snA f (nI k)) (nI n) ≠ 0) ↔ n = k ∨ snB f (nI n) ≠ 0 := by
  rw [sn_at hn, sn_at hn]
  have h := sn_nat ⟨k, by omega⟩
  simp only at h
  unfold snA
  rw [h.1, h.2]
  unfold upd
  by_cases hq : n / 32 = k / 32
  · rw [if_pos hq, sn_or _ (Nat.mod_lt _ (by decide)) (Nat.mod_lt _ (by decide)), ← hq]
    have : (n % 32 = k % 32) ↔ n = k := by omega
    simp only [Bool.or_eq_true, decide_eq_true_eq, this]
    exact or_comm
  · rw [if_neg hq]
    have : n ≠ k := fun h => hq (by rw [h])
    simp [this]
theorem ix301 {a b u v : Int32} (hu : u.toInt = 301 * a.toInt) (hv : v.toInt = u.toInt + b.toInt) (ha : 0 ≤ a.toInt) (hb : 0 ≤ b.toInt) : v.toNatClampNeg = 301 * a.toNatClampNeg + b.toNatClampNeg := by
  have h1 := cl_eq ha
  have h2 := cl_eq hb
  have h3 := cl_eq (j := v) (by omega)
  omega
theorem rs_tw {σ σ1 : QS} {v i : Nat} {f : Nat → Int32} (h : σ1 v = σ v) : rs σ1 v i f v = rs σ v i f v := by
  funext b
  simp [rs, h]
end
section
/-! runs as bits by their day modulo 4; places as bits -/
theorem and3 (x : Int32) : (x &&& 3).toInt = x.toInt % 4 ∧ 0 ≤ (x &&& 3).toInt ∧ (x &&& 3).toInt ≤ 3 := by
  have h1 := i_andr (z := x &&& 3) rfl (by decide)
  have h2 : (3 : Int32).toInt = 3 := by decide
  have h3 := i_nn h1.1
  have h4 : (x &&& 3).toBitVec.toNat = x.toBitVec.toNat % 4 := by
    rw [Int32.toBitVec_and, BitVec.toNat_and, show (3 : Int32).toBitVec.toNat = 2 ^ 2 - 1 by decide, Nat.and_two_pow_sub_one_eq_mod]
  have h5 : x.toInt = x.toBitVec.toInt := rfl
  rw [BitVec.toInt_eq_toNat_cond] at h5
  refine ⟨?_, by omega⟩
  split at h5 <;> omega
def b4I (day : Int32) : Int32 := (1 : Int32) <<< ((day &&& 3) &&& 31)
theorem b4_all : ∀ k : Fin 4, ((1 : Int32) <<< (nI k.val &&& 31)).toBitVec = BitVec.twoPow 32 k.val ∧ (((1 : Int32) <<< (nI k.val &&& 31)) ^^^ (-1)).toBitVec = ~~~ (BitVec.twoPow 32 k.val) := by decide +kernel
theorem b4_at (day : Int32) : (b4I day).toBitVec = BitVec.twoPow 32 (day.toInt % 4).toNat ∧ (b4I day ^^^ (-1)).toBitVec = ~~~ (BitVec.twoPow 32 (day.toInt % 4).toNat) := by
  have h := and3 day
  have h2 := cl_eq h.2.1
  have h3 := b4_all ⟨(day &&& 3).toNatClampNeg, by omega⟩
  simp only at h3
  rw [← nI_at h.2.1] at h3
  have h4 : (day &&& 3).toNatClampNeg = (day.toInt % 4).toNat := by omega
  rw [h4] at h3
  exact h3
theorem bw_and {x y : Int32} {i : Nat} (hi : i < 32) (hy : y.toBitVec = BitVec.twoPow 32 i) : (x &&& y ≠ 0) ↔ hasB x i := by
  have h4 : (x &&& y = 0) ↔ (x &&& y).toBitVec = (0 : Int32).toBitVec := ⟨fun h => by rw [h], fun h => Int32.toBitVec_inj.mp h⟩
  unfold hasB
  rw [ne_eq, h4, Int32.toBitVec_and, hy, BitVec.and_twoPow]
  split
  · rename_i h
    refine ⟨fun _ => h, fun _ h9 => ?_⟩
    have h8 : (BitVec.twoPow 32 i).getLsbD i = true := by
      rw [BitVec.getLsbD_twoPow]
      simp [hi]
    rw [h9] at h8
    exact absurd h8 (by show ¬ (BitVec.getLsbD (0#32) _ = true); simp)
  · rename_i h
    exact ⟨fun h9 => absurd rfl h9, fun h9 => absurd h9 h⟩
theorem bw_or {x y : Int32} {i r : Nat} (hi : i < 32) (hy : y.toBitVec = BitVec.twoPow 32 i) : hasB (x ||| y) r ↔ hasB x r ∨ r = i := by
  unfold hasB
  rw [Int32.toBitVec_or, hy, BitVec.getLsbD_or, BitVec.getLsbD_twoPow]
  by_cases h : r = i
  · subst h
    simp [hi]
  · have h4 : ¬ (i = r) := fun e => h e.symm
    simp [h, h4]
theorem bw_rm {x z : Int32} {i r : Nat} (hr : r < 32) (hz : z.toBitVec = ~~~ (BitVec.twoPow 32 i)) (hi : i < 32) : hasB (x &&& z) r ↔ hasB x r ∧ r ≠ i := by
  unfold hasB
  rw [Int32.toBitVec_and, hz, BitVec.getLsbD_and, BitVec.getLsbD_not, BitVec.getLsbD_twoPow]
  by_cases h : r = i
  · subst h
    simp [hi]
  · have h4 : ¬ (i = r) := fun e => h e.symm
    simp [h, h4, hr]
def pBI (p : Int32) : Int32 := (1 : Int32) <<< (p &&& 31)
theorem pB_all : ∀ k : Fin 12, (pBI (nI k.val)).toBitVec = BitVec.twoPow 32 k.val ∧ (nI k.val &&& 31) = nI k.val := by decide +kernel
theorem pB_at {p : Int32} (h0 : 0 ≤ p.toInt) (h1 : p.toInt ≤ 11) : (pBI p).toBitVec = BitVec.twoPow 32 p.toNatClampNeg ∧ (p &&& 31) = p := by
  have h2 := cl_eq h0
  have h3 := pB_all ⟨p.toNatClampNeg, by omega⟩
  simp only at h3
  rw [← nI_at h0] at h3
  exact h3
theorem hasB_0 (r : Nat) : ¬ hasB 0 r := by
  show ¬ (BitVec.getLsbD (0#32) _ = true)
  simp
section GD
variable {N : Net} {h6 h7 f9 g9 : Nat → Int32} {b i h : Int} {act : Nat → Nat → Prop} {Q : Nat → Nat → Prop} {z : Nat → Nat} {k c s : Nat}
def actOk (N : Net) (h : Int) (act : Nat → Nat → Prop) : Prop := ∀ c d, act c d → c < nK N ∧ (∃ s0, s0 < nS N c ∧ htN N c d s0 ≤ h) ∧ h ≤ htN N c d (lastS N c)
/-- the places at which a run that one may be on stops at the hour h, of the halts gone through -/
def hitH (N : Net) (h6 : Nat → Int32) (b i h : Int) (act : Nat → Nat → Prop) (p : Nat) : Prop := ∃ c d s, PrH N h6 b i c s ∧ act c d ∧ htN N c d s = h ∧ nP N c s = p
def rdI (N : Net) (h6 : Nat → Int32) (b i h : Int) (act : Nat → Nat → Prop) (z : Nat → Nat) (f9 : Nat → Int32) : Prop := ridB N f9 (fun c d => act c d ∧ ¬ (PrH N h6 b i c (z c) ∧ htN N c d (z c) = h))
theorem rd_0 (h1 : ridB N f9 act) : rdI N h6 b b h act z f9 := fun c hc r hr => by
  rw [h1 c hc r hr]
  exact ⟨fun ⟨d, a1, a2⟩ => ⟨d, a1, a2, fun y => pr_none y.1⟩, fun ⟨d, a1, a2, _⟩ => ⟨d, a1, a2⟩⟩
theorem hit_0 {p : Nat} : ¬ hitH N h6 b b h act p := fun ⟨_, _, _, a, _⟩ => pr_none a
theorem ht_same (hN : wfN N) {d s' : Nat} (hc : c < nK N) (hs : s < nS N c) (hs' : s' < nS N c) (e : htN N c d s = htN N c d s') : s = s' := by
  rcases Nat.lt_trichotomy s s' with q | q | q
  · have := ((hN.2 c hc).2.2.2.2) s s' q hs'
    unfold htN at *
    omega
  · exact q
  · have := ((hN.2 c hc).2.2.2.2) s' s q hs
    unfold htN at *
    omega
/-- no run that one may be on is at this halt now -/
theorem rd_no (hN : wfN N) (hH : HalC h6 h7 N) (hz : ∀ c, c < nK N → z c < nS N c) (hk : (k : Int) = i) (hb : b ≤ i) (hi : i < (h7 24).toInt) (hc : c < nK N) (hs : s < nS N c) (e : (h6 k).toInt = hvN N c s) (hI : rdI N h6 b i h act z f9)
    (hn : ∀ d, htN N c d s = h → ¬ (act c d ∧ ¬ (PrH N h6 b i c (z c) ∧ htN N c d (z c) = h))) : rdI N h6 b (i + 1) h act z f9 ∧ ∀ p, hitH N h6 b (i + 1) h act p ↔ hitH N h6 b i h act p := by
  have hnew := pr_new (b := b) hH hk hi e
  have hno : ∀ d, act c d → htN N c d s = h → False := by
    intro d a1 a2
    refine hn d a2 ⟨a1, fun y => ?_⟩
    have hl : s = z c := ht_same hN (d := d) hc hs (hz c hc) (by rw [a2, y.2])
    rw [← hl] at y
    exact hnew y.1
  refine ⟨fun c9 hc9 r hr => ?_, fun p => ?_⟩
  · rw [hI c9 hc9 r hr]
    constructor
    · rintro ⟨d, a1, a2, a3⟩
      refine ⟨d, a1, a2, fun y => ?_⟩
      rcases (pr_step hN hk hb hc hs e).mp y.1 with x | ⟨rfl, x⟩
      · exact a3 ⟨x, y.2⟩
      · exact hno d a2 (by rw [← x]; exact y.2)
    · rintro ⟨d, a1, a2, a3⟩
      exact ⟨d, a1, a2, fun y => a3 ⟨(pr_step hN hk hb hc hs e).mpr (Or.inl y.1), y.2⟩⟩
  · constructor
    · rintro ⟨c9, d, s9, a1, a2, a3, a4⟩
      rcases (pr_step hN hk hb hc hs e).mp a1 with x | ⟨rfl, rfl⟩
      · exact ⟨c9, d, s9, x, a2, a3, a4⟩
      · exact (hno d a2 a3).elim
    · rintro ⟨c9, d, s9, a1, a2⟩
      exact ⟨c9, d, s9, (pr_step hN hk hb hc hs e).mpr (Or.inl a1), a2⟩
/-- one may be on the run of day d at this halt -/
theorem rd_yes (hN : wfN N) (hH : HalC h6 h7 N) (hz : ∀ c, c < nK N → z c < nS N c) (ha : actOk N h act) (hk : (k : Int) = i) (hb : b ≤ i) (hi : i < (h7 24).toInt) (hc : c < nK N) (hs : s < nS N c) (e : (h6 k).toInt = hvN N c s) (hI : rdI N h6 b i h act z f9) {d : Nat} (h1 : act c d) (h2 : htN N c d s = h)
    (h4 : ∀ c9, c9 < nK N → ∀ r, r < 4 → (hasB (g9 c9) r ↔ hasB (f9 c9) r ∧ ¬ (s = z c ∧ c9 = c ∧ r = d % 4))) : rdI N h6 b (i + 1) h act z g9 ∧ ∀ p, hitH N h6 b (i + 1) h act p ↔ hitH N h6 b i h act p ∨ p = nP N c s := by
  refine ⟨fun c9 hc9 r hr => ?_, fun p => ?_⟩
  · rw [h4 c9 hc9 r hr, hI c9 hc9 r hr]
    constructor
    · rintro ⟨⟨d9, a1, a2, a3⟩, a4⟩
      refine ⟨d9, a1, a2, fun y => ?_⟩
      rcases (pr_step hN hk hb hc hs e).mp y.1 with x | ⟨rfl, x⟩
      · exact a3 ⟨x, y.2⟩
      · have hd : d9 = d := by
          have h9 : htN N c9 d9 s = htN N c9 d s := by rw [h2, ← x]; exact y.2
          unfold htN at h9
          omega
        exact a4 ⟨x.symm, rfl, by rw [← hd]; exact a1.symm⟩
    · rintro ⟨d9, a1, a2, a3⟩
      refine ⟨⟨d9, a1, a2, fun y => a3 ⟨(pr_step hN hk hb hc hs e).mpr (Or.inl y.1), y.2⟩⟩, ?_⟩
      rintro ⟨z1, rfl, z3⟩
      have b1 := ha _ _ a2
      obtain ⟨s0, b3, b4⟩ := b1.2.1
      have hd : (d9 : Int) = (d : Int) := sw_one hN (day := (d : Int)) hc b3 b4 b1.2.2 hs (by unfold htN at h2; exact h2) (by omega)
      have hd : d9 = d := by omega
      subst hd
      exact a3 ⟨(pr_step hN hk hb hc hs e).mpr (Or.inr ⟨rfl, z1.symm⟩), by rw [← z1]; exact h2⟩
  · constructor
    · rintro ⟨c9, d9, s9, a1, a2, a3, a4⟩
      rcases (pr_step hN hk hb hc hs e).mp a1 with x | ⟨rfl, rfl⟩
      · exact Or.inl ⟨c9, d9, s9, x, a2, a3, a4⟩
      · exact Or.inr a4.symm
    · rintro (⟨c9, d9, s9, a1, a2⟩ | x)
      · exact ⟨c9, d9, s9, (pr_step hN hk hb hc hs e).mpr (Or.inl a1), a2⟩
      · exact ⟨c, d, s, (pr_step hN hk hb hc hs e).mpr (Or.inr ⟨rfl, rfl⟩), h1, h2, x.symm⟩
/-- a set bit says which run it is -/
theorem rd_bit (hN : wfN N) (ha : actOk N h act) (hc : c < nK N) (hs : s < nS N c) (hI : rdI N h6 b i h act z f9) {day : Int} (hd : 24 * day + nH N c + nO N c s = h) : (hasB (f9 c) (day % 4).toNat → ∃ d : Nat, (d : Int) = day ∧ act c d ∧ htN N c d s = h) ∧ (¬ hasB (f9 c) (day % 4).toNat → ∀ d, htN N c d s = h → ¬ (act c d ∧ ¬ (PrH N h6 b i c (z c) ∧ htN N c d (z c) = h))) := by
  have hr := hI c hc (day % 4).toNat (by omega)
  constructor
  · intro y
    obtain ⟨d, a1, a2, a3⟩ := hr.mp y
    have b1 := ha _ _ a2
    obtain ⟨s0, b3, b4⟩ := b1.2.1
    have h9 : (d : Int) = day := sw_one hN hc b3 b4 b1.2.2 hs hd (by omega)
    exact ⟨d, h9, a2, by unfold htN; rw [h9]; exact hd⟩
  · intro y d a1 a2
    refine y (hr.mpr ⟨d, ?_, a2⟩)
    unfold htN at a1
    have : (d : Int) = day := by omega
    omega
theorem rd_end (hN : wfN N) (hH : HalC h6 h7 N) (hz : ∀ c, c < nK N → z c < nS N c) {q : Nat} (hq : q < 24) (hm : h % 24 = q) (hI : rdI N h6 (h7 q).toInt (h7 (q + 1)).toInt h act z f9) : ridB N f9 (fun c d => act c d ∧ htN N c d (z c) ≠ h) ∧ ∀ p, hitH N h6 (h7 q).toInt (h7 (q + 1)).toInt h act p ↔ ∃ c d s, c < nK N ∧ s < nS N c ∧ act c d ∧ htN N c d s = h ∧ nP N c s = p := by
  have hp : ∀ c d s, c < nK N → s < nS N c → htN N c d s = h → PrH N h6 (h7 q).toInt (h7 (q + 1)).toInt c s := fun c d s h1 h2 h3 => (pr_all hN hH hq).mpr ⟨h1, h2, by unfold htN at h3; omega⟩
  refine ⟨fun c hc r hr => ?_, fun p => ?_⟩
  · rw [hI c hc r hr]
    constructor
    · rintro ⟨d, a1, a2, a3⟩
      exact ⟨d, a1, a2, fun y => a3 ⟨hp c d _ hc (hz c hc) y, y⟩⟩
    · rintro ⟨d, a1, a2, a3⟩
      exact ⟨d, a1, a2, fun y => a3 y.2⟩
  · constructor
    · rintro ⟨c, d, s, a1, a2⟩
      exact ⟨c, d, s, a1.1, a1.2.1, a2⟩
    · rintro ⟨c, d, s, a1, a2, a3, a4⟩
      exact ⟨c, d, s, hp c d s a1 a2 a4.1, a3, a4⟩
/-! getting on -/
def goI (N : Net) (h6 : Nat → Int32) (b i h : Int) (act : Nat → Nat → Prop) (Q : Nat → Nat → Prop) (f9 : Nat → Int32) : Prop :=
  ridB N f9 (fun c d => act c d ∨ (runN N c d ∧ ∃ s, s < nS N c ∧ Q c s ∧ htN N c d s = h ∧ PrH N h6 b i c s))
theorem go_0 (h1 : ridB N f9 act) : goI N h6 b b h act Q f9 := fun c hc r hr => by
  rw [h1 c hc r hr]
  exact ⟨fun ⟨d, a1, a2⟩ => ⟨d, a1, Or.inl a2⟩, fun ⟨d, a1, a2⟩ => ⟨d, a1, a2.elim id (fun ⟨_, _, _, _, _, y⟩ => (pr_none y).elim)⟩⟩
theorem go_no (hN : wfN N) (hk : (k : Int) = i) (hb : b ≤ i) (hc : c < nK N) (hs : s < nS N c) (e : (h6 k).toInt = hvN N c s) (hI : goI N h6 b i h act Q f9) (hn : Q c s → ∀ d, htN N c d s = h → ¬ runN N c d) : goI N h6 b (i + 1) h act Q f9 := fun c9 hc9 r hr => by
  rw [hI c9 hc9 r hr]
  constructor
  · rintro ⟨d, a1, a2 | ⟨a2, s9, a3, a4, a5, a6⟩⟩
    · exact ⟨d, a1, Or.inl a2⟩
    · exact ⟨d, a1, Or.inr ⟨a2, s9, a3, a4, a5, (pr_step hN hk hb hc hs e).mpr (Or.inl a6)⟩⟩
  · rintro ⟨d, a1, a2 | ⟨a2, s9, a3, a4, a5, a6⟩⟩
    · exact ⟨d, a1, Or.inl a2⟩
    · rcases (pr_step hN hk hb hc hs e).mp a6 with x | ⟨rfl, rfl⟩
      · exact ⟨d, a1, Or.inr ⟨a2, s9, a3, a4, a5, x⟩⟩
      · exact absurd a2 (hn a4 d a5)
theorem go_yes (hN : wfN N) (hk : (k : Int) = i) (hb : b ≤ i) (hc : c < nK N) (hs : s < nS N c) (e : (h6 k).toInt = hvN N c s) (hI : goI N h6 b i h act Q f9) {d : Nat} (h2 : htN N c d s = h) (h3 : Q c s) (h4 : runN N c d) (h5 : ∀ c9, c9 < nK N → ∀ r, r < 4 → (hasB (g9 c9) r ↔ hasB (f9 c9) r ∨ (c9 = c ∧ r = d % 4))) : goI N h6 b (i + 1) h act Q g9 := fun c9 hc9 r hr => by
  rw [h5 c9 hc9 r hr, hI c9 hc9 r hr]
  constructor
  · rintro (⟨d9, a1, a2 | ⟨a2, s9, a3, a4, a5, a6⟩⟩ | ⟨rfl, a1⟩)
    · exact ⟨d9, a1, Or.inl a2⟩
    · exact ⟨d9, a1, Or.inr ⟨a2, s9, a3, a4, a5, (pr_step hN hk hb hc hs e).mpr (Or.inl a6)⟩⟩
    · exact ⟨d, a1.symm, Or.inr ⟨h4, s, hs, h3, h2, (pr_step hN hk hb hc hs e).mpr (Or.inr ⟨rfl, rfl⟩)⟩⟩
  · rintro ⟨d9, a1, a2 | ⟨a2, s9, a3, a4, a5, a6⟩⟩
    · exact Or.inl ⟨d9, a1, Or.inl a2⟩
    · rcases (pr_step hN hk hb hc hs e).mp a6 with x | ⟨rfl, rfl⟩
      · exact Or.inl ⟨d9, a1, Or.inr ⟨a2, s9, a3, a4, a5, x⟩⟩
      · refine Or.inr ⟨rfl, ?_⟩
        unfold htN at h2 a5
        omega
theorem go_end (hN : wfN N) (hH : HalC h6 h7 N) {q : Nat} (hq : q < 24) (hm : h % 24 = q) (hI : goI N h6 (h7 q).toInt (h7 (q + 1)).toInt h act Q f9) : ridB N f9 (fun c d => act c d ∨ (c < nK N ∧ runN N c d ∧ ∃ s, s < nS N c ∧ Q c s ∧ htN N c d s = h)) := fun c hc r hr => by
  rw [hI c hc r hr]
  constructor
  · rintro ⟨d, a1, a2 | ⟨a2, s, a3, a4, a5, a6⟩⟩
    · exact ⟨d, a1, Or.inl a2⟩
    · exact ⟨d, a1, Or.inr ⟨hc, a2, s, a3, a4, a5⟩⟩
  · rintro ⟨d, a1, a2 | ⟨_, a2, s, a3, a4, a5⟩⟩
    · exact ⟨d, a1, Or.inl a2⟩
    · exact ⟨d, a1, Or.inr ⟨a2, s, a3, a4, a5, (pr_all hN hH hq).mpr ⟨hc, a3, by unfold htN at a5; omega⟩⟩⟩
theorem ridB_iff {act' : Nat → Nat → Prop} (h1 : ridB N f9 act) (h2 : ∀ c d, c < nK N → (act c d ↔ act' c d)) : ridB N f9 act' := fun c hc r hr => by
  rw [h1 c hc r hr]
  exact ⟨fun ⟨d, a, y⟩ => ⟨d, a, (h2 c d hc).mp y⟩, fun ⟨d, a, y⟩ => ⟨d, a, (h2 c d hc).mpr y⟩⟩
end GD
/-! which places one could ever come to, whatever the hour -/
def lnk (N : Net) (p q : Nat) : Prop := ∃ c s s', c < nK N ∧ nW N c ≠ 0 ∧ s < s' ∧ s' < nS N c ∧ nP N c s = p ∧ nP N c s' = q
def lkN (N : Net) : Nat → Nat → Nat → Prop
  | 0, p, q => p = q
  | n + 1, p, q => lkN N n p q ∨ ∃ r, lnk N p r ∧ lkN N n r q
def lkL (N : Net) : Nat → Nat → Nat → Prop
  | 0, p, q => p = q
  | n + 1, p, q => lkL N n p q ∨ ∃ r, lkL N n p r ∧ lnk N r q
section LK
variable {N : Net}
theorem lkL_cons {p r : Nat} (h : lnk N p r) : ∀ (n q : Nat), lkL N n r q → lkL N (n + 1) p q
  | 0, q, a => by
    have a : r = q := a
    subst a
    exact Or.inr ⟨p, rfl, h⟩
  | n + 1, q, a => by
    rcases a with a | ⟨t, a, b⟩
    · exact Or.inl (lkL_cons h n q a)
    · exact Or.inr ⟨t, lkL_cons h n t a, b⟩
theorem lkN_snoc {r q : Nat} (h : lnk N r q) : ∀ (n p : Nat), lkN N n p r → lkN N (n + 1) p q
  | 0, p, a => by
    have a : p = r := a
    subst a
    exact Or.inr ⟨q, h, rfl⟩
  | n + 1, p, a => by
    rcases a with a | ⟨t, a, b⟩
    · exact Or.inl (lkN_snoc h n p a)
    · exact Or.inr ⟨t, a, lkN_snoc h n t b⟩
theorem lkL_of : ∀ (n p q : Nat), lkN N n p q → lkL N n p q
  | 0, _, _, a => a
  | n + 1, p, q, a => by
    rcases a with a | ⟨r, a, b⟩
    · exact Or.inl (lkL_of n p q a)
    · exact lkL_cons a n q (lkL_of n r q b)
theorem lkN_of : ∀ (n p q : Nat), lkL N n p q → lkN N n p q
  | 0, _, _, a => a
  | n + 1, p, q, a => by
    rcases a with a | ⟨r, a, b⟩
    · exact Or.inl (lkN_of n p q a)
    · exact lkN_snoc b n p (lkN_of n p r a)
/-- how many of the first n have P -/
noncomputable def cnP (P : Nat → Prop) : Nat → Nat
  | 0 => 0
  | n + 1 => cnP P n + @ite Nat (P n) (Classical.propDecidable (P n)) 1 0
theorem cnP_le (P : Nat → Prop) : ∀ n, cnP P n ≤ n
  | 0 => Nat.le_refl _
  | n + 1 => by
    have := cnP_le P n
    unfold cnP
    split <;> omega
theorem cnP_mono {P P' : Nat → Prop} (h : ∀ q, P q → P' q) : ∀ n, cnP P n ≤ cnP P' n
  | 0 => Nat.le_refl _
  | n + 1 => by
    have ih := cnP_mono h n
    unfold cnP
    by_cases a : P n
    · rw [if_pos a, if_pos (h n a)]
      omega
    · rw [if_neg a]
      omega
theorem cnP_lt {P P' : Nat → Prop} (h : ∀ q, P q → P' q) {q : Nat} (h1 : P' q) (h2 : ¬ P q) : ∀ n, q < n → cnP P n < cnP P' n
  | 0, hq => absurd hq (Nat.not_lt_zero _)
  | n + 1, hq => by
    unfold cnP
    by_cases e : q = n
    · subst e
      have ih := cnP_mono h q
      rw [if_neg h2, if_pos h1]
      omega
    · have ih := cnP_lt h h1 h2 n (by omega)
      by_cases a : P n
      · rw [if_pos a, if_pos (h n a)]
        omega
      · rw [if_neg a]
        omega
theorem lkL_up {p q n : Nat} (a : lkL N n p q) : ∀ m, lkL N (n + m) p q
  | 0 => a
  | m + 1 => Or.inl (lkL_up a m)
theorem lkL_st {p n : Nat} (h : ∀ q, lkL N (n + 1) p q → lkL N n p q) : ∀ m q, lkL N (n + m) p q → lkL N n p q
  | 0, _, a => a
  | m + 1, q, a => by
    rcases a with a | ⟨r, a, b⟩
    · exact lkL_st h m q a
    · exact h q (Or.inr ⟨r, lkL_st h m r a, b⟩)
theorem lkL_cnt (hN : wfN N) {p : Nat} (hp : p < 12) : ∀ n, (∃ k, k ≤ n ∧ ∀ q, lkL N (k + 1) p q → lkL N k p q) ∨ n + 1 ≤ cnP (lkL N n p) 12
  | 0 => by
    refine Or.inr ?_
    have := cnP_lt (P := fun _ => False) (P' := lkL N 0 p) (fun _ h => h.elim) (q := p) rfl (fun h => h) 12 hp
    omega
  | n + 1 => by
    rcases lkL_cnt hN hp n with ⟨k, h1, h2⟩ | h
    · exact Or.inl ⟨k, by omega, h2⟩
    · by_cases st : ∀ q, lkL N (n + 1) p q → lkL N n p q
      · exact Or.inl ⟨n, by omega, st⟩
      · refine Or.inr ?_
        obtain ⟨q, hq⟩ := Classical.not_forall.mp st
        have hq1 : lkL N (n + 1) p q := Classical.byContradiction fun z => hq (fun y => absurd y z)
        have hq2 : ¬ lkL N n p q := fun z => hq (fun _ => z)
        have hq12 : q < 12 := by
          rcases hq1 with a | ⟨r, a, c, s, s', b1, b2, b3, b4, b5, b6⟩
          · exact absurd a hq2
          · rw [← b6]
            exact (((hN.2 c b1).2.2.2.1) s' b4).1
        have := cnP_lt (P := lkL N n p) (P' := lkL N (n + 1) p) (fun _ z => Or.inl z) hq1 hq2 12 hq12
        omega
/-- twelve passes are enough -/
theorem lk_12 (hN : wfN N) {p q m : Nat} (hp : p < 12) (a : lkN N m p q) : lkN N 12 p q := by
  have h := lkL_cnt hN hp 12
  have h9 := cnP_le (lkL N 12 p) 12
  rcases h with ⟨k, h1, h2⟩ | h
  · have a1 := lkL_up (lkL_of m p q a) k
    rw [Nat.add_comm] at a1
    have a2 := lkL_st h2 m q a1
    have a3 := lkL_up a2 (12 - k)
    rw [show k + (12 - k) = 12 by omega] at a3
    exact lkN_of 12 p q a3
  · omega
theorem lk_bw {w : Int} {g : Nat} {e : Int} : ∀ (n p : Nat) (h : Int), bwN N w g e n p h → lkN N n p g
  | 0, _, _, a => a.1
  | n + 1, p, h, a => by
    rcases a with a | ⟨c, d, s, s', a1, a2, a3, a4⟩
    · exact Or.inl (lk_bw n p h a)
    · refine Or.inr ⟨nP N c s', ⟨c, s, s', a1.1, fun z => ?_, a1.2.2.2.1, a1.2.2.2.2, a2, rfl⟩, lk_bw n _ _ a4⟩
      have h1 := a1.2.2.1.1
      rw [z] at h1
      simp at h1
def lkAt (N : Net) (k : Nat) (f : Nat → Int32) : Prop := ∀ p q, p < 12 → q < 12 → lkN N k p q → hasB (f p) q
def LnkC (f : Nat → Int32) (N : Net) : Prop := ∀ k, lkAt N k f
theorem lnk_12 (hN : wfN N) {p q : Nat} (h : lnk N p q) : p < 12 ∧ q < 12 := by
  obtain ⟨c, s, s', b1, b2, b3, b4, b5, b6⟩ := h
  have h1 := (((hN.2 c b1).2.2.2.1) s (by omega)).1
  have h2 := (((hN.2 c b1).2.2.2.1) s' b4).1
  omega
theorem lk_pass (hN : wfN N) {k : Nat} {f f' : Nat → Int32} (h : lkAt N k f) (h1 : ∀ p q, p < 12 → q < 12 → hasB (f p) q → hasB (f' p) q) (h2 : ∀ p r q, lnk N p r → q < 12 → hasB (f r) q → hasB (f' p) q) : lkAt N (k + 1) f' := by
  intro p q hp hq a
  rcases a with a | ⟨r, a, b⟩
  · exact h1 p q hp hq (h p q hp hq a)
  · exact h2 p r q a hq (h r q (lnk_12 hN a).2 hq b)
theorem lk_closed (hN : wfN N) {f : Nat → Int32} (h : lkAt N 0 f) (h2 : ∀ p r q, lnk N p r → q < 12 → hasB (f r) q → hasB (f p) q) : LnkC f N := by
  intro k
  induction k with
  | zero => exact h
  | succ k ih =>
    intro p q hp hq a
    rcases a with a | ⟨r, a, b⟩
    · exact ih p q hp hq a
    · exact h2 p r q a hq (ih r q (lnk_12 hN a).2 hq b)
theorem lk_full (hN : wfN N) {f : Nat → Int32} (h : lkAt N 12 f) : LnkC f N := fun _ p q hp hq a => h p q hp hq (lk_12 hN hp a)
end LK
/-! one more halt -/
section HI
variable {N M : Net} {h6 h7 g6 g7 : Nat → Int32} {c s : Nat}
/-- M is N with one more stop, s of c -/
def moreS (N M : Net) (c s : Nat) : Prop := ∀ c9 s9, (c9 < nK M ∧ s9 < nS M c9) ↔ ((c9 < nK N ∧ s9 < nS N c9) ∨ (c9 = c ∧ s9 = s))
theorem hal_ins (hM : wfN M) (hH : HalC h6 h7 N) (hm : moreS N M c s) (hv : ∀ c9 s9, c9 < nK N → s9 < nS N c9 → hvN M c9 s9 = hvN N c9 s9) (hn : ¬ (c < nK N ∧ s < nS N c)) {a : Nat} {v : Int32} {q : Int} (ev : v.toInt = hvN M c s) (eq : q = (nH M c + nO M c s) % 24)
    (ha : (a : Int) ≤ (h7 24).toInt) (h1 : ∀ j : Nat, j < a → g6 j = h6 j) (h2 : g6 a = v) (h3 : ∀ j : Nat, a ≤ j → (j : Int) < (h7 24).toInt → g6 (j + 1) = h6 j) (h4 : ∀ j : Nat, a ≤ j → (j : Int) < (h7 24).toInt → v.toInt < (h6 j).toInt) (h5 : ∀ j : Nat, j < a → (h6 j).toInt ≤ v.toInt)
    (h8 : ∀ k : Nat, k ≤ 24 → (g7 k).toInt = (h7 k).toInt + (if q < (k : Int) then 1 else 0)) : HalC g6 g7 M := by
  obtain ⟨b1, b2, b3, b4, b5⟩ := hH
  have hcs : c < nK M ∧ s < nS M c := (hm c s).mpr (Or.inr ⟨rfl, rfl⟩)
  have hb := hv_b hM hcs.1 hcs.2
  have h24 : (g7 24).toInt = (h7 24).toInt + 1 := by
    rw [h8 24 (by omega), if_pos (by omega)]
  have hlow : ∀ j : Nat, j < a → (h6 j).toInt < v.toInt := by
    intro j hj
    rcases Int.lt_or_eq_of_le (h5 j hj) with z | z
    · exact z
    · exfalso
      obtain ⟨c9, s9, d1, d2, d3⟩ := b2 j (by omega)
      have d4 := (hm c9 s9).mpr (Or.inl ⟨d1, d2⟩)
      have d5 := hv_inj hM d4.1 d4.2 hcs.1 hcs.2 (by rw [hv c9 s9 d1 d2, ← d3, ← ev, z])
      rw [d5.1] at d1
      rw [d5.1, d5.2] at d2
      exact hn ⟨d1, d2⟩
  have hall : ∀ i : Nat, (i : Int) < (g7 24).toInt → (i < a ∧ g6 i = h6 i) ∨ (i = a ∧ g6 i = v) ∨ (∃ j : Nat, i = j + 1 ∧ a ≤ j ∧ (j : Int) < (h7 24).toInt ∧ g6 i = h6 j) := by
    intro i hi
    rcases Nat.lt_trichotomy i a with z | z | z
    · exact Or.inl ⟨z, h1 i z⟩
    · exact Or.inr (Or.inl ⟨z, by rw [z]; exact h2⟩)
    · obtain ⟨j, rfl⟩ : ∃ j, i = j + 1 := ⟨i - 1, by omega⟩
      exact Or.inr (Or.inr ⟨j, rfl, by omega, by omega, h3 j (by omega) (by omega)⟩)
  have vv : v.toInt = 128 * q + 8 * (c : Int) + 7 - (s : Int) := by rw [ev]; unfold hvN; rw [eq]
  refine ⟨fun k hk => ?_, fun i hi => ?_, fun c9 s9 d1 d2 => ?_, fun i j hij hj => ?_, fun k i hk hi => ?_⟩
  · have d1 := b1 k hk
    have d2 := h8 k hk
    have d3 : (if q < (k : Int) then (1 : Int) else 0) = 0 ∨ (if q < (k : Int) then (1 : Int) else 0) = 1 := by split <;> omega
    omega
  · rcases hall i hi with ⟨_, z⟩ | ⟨_, z⟩ | ⟨j, _, z2, z3, z⟩
    · obtain ⟨c9, s9, d1, d2, d3⟩ := b2 i (by omega)
      have d4 := (hm c9 s9).mpr (Or.inl ⟨d1, d2⟩)
      exact ⟨c9, s9, d4.1, d4.2, by rw [z, hv c9 s9 d1 d2]; exact d3⟩
    · exact ⟨c, s, hcs.1, hcs.2, by rw [z]; exact ev⟩
    · obtain ⟨c9, s9, d1, d2, d3⟩ := b2 j z3
      have d4 := (hm c9 s9).mpr (Or.inl ⟨d1, d2⟩)
      exact ⟨c9, s9, d4.1, d4.2, by rw [z, hv c9 s9 d1 d2]; exact d3⟩
  · rcases (hm c9 s9).mp ⟨d1, d2⟩ with ⟨e1, e2⟩ | ⟨rfl, rfl⟩
    · obtain ⟨i, e3, e4⟩ := b3 c9 s9 e1 e2
      rcases Nat.lt_or_ge i a with z | z
      · exact ⟨i, by omega, by rw [h1 i z, hv c9 s9 e1 e2]; exact e4⟩
      · exact ⟨i + 1, by omega, by rw [h3 i z e3, hv c9 s9 e1 e2]; exact e4⟩
    · exact ⟨a, by omega, by rw [h2]; exact ev⟩
  · rcases hall i (by omega) with ⟨z1, z⟩ | ⟨z1, z⟩ | ⟨i', z1, z2, z3, z⟩ <;> rcases hall j hj with ⟨y1, y⟩ | ⟨y1, y⟩ | ⟨j', y1, y2, y3, y⟩
    · rw [z, y]; exact b4 i j hij (by omega)
    · rw [z, y]; exact hlow i z1
    · rw [z, y]
      have := hlow i z1
      have := h4 j' y2 y3
      omega
    · omega
    · omega
    · rw [z, y]; exact h4 j' y2 y3
    · omega
    · omega
    · rw [z, y]; exact b4 i' j' (by omega) y3
  · rw [h8 k hk]
    rcases hall i hi with ⟨z1, z⟩ | ⟨z1, z⟩ | ⟨i', z1, z2, z3, z⟩
    · rw [z, ← b5 k i hk (by omega)]
      by_cases w : q < (k : Int)
      · rw [if_pos w]
        refine ⟨fun x => ?_, fun x => by omega⟩
        rw [b5 k i hk (by omega)]
        have := hlow i z1
        omega
      · rw [if_neg w]
        omega
    · rw [z]
      by_cases w : q < (k : Int)
      · rw [if_pos w]
        refine ⟨fun _ => by omega, fun _ => ?_⟩
        have hk1 := b1 k hk
        rcases Nat.lt_or_ge 0 a with y | y
        · have e1 := hlow (a - 1) (by omega)
          have e2 := (b5 k (a - 1) hk (by omega)).mpr (by omega)
          omega
        · omega
      · rw [if_neg w]
        refine ⟨fun x => ?_, fun x => by omega⟩
        exfalso
        rcases Int.lt_or_le (a : Int) (h7 24).toInt with y | y
        · have e1 := (b5 k a hk y).mp (by omega)
          have e2 := h4 a (Nat.le_refl _) y
          omega
        · have := b1 k hk
          omega
    · rw [z, ← b5 k i' hk z3]
      have e2 := h4 i' z2 z3
      by_cases w : q < (k : Int)
      · rw [if_pos w]
        omega
      · rw [if_neg w]
        have e3 : ¬ (i' : Int) < (h7 k).toInt := fun x => by have := (b5 k i' hk z3).mp x; omega
        omega
end HI
/-! the class's carts stand for a net -/
def RepC (σ : QS) (N : Net) : Prop := wfN N ∧ (σ 3 0 0).toInt = nK N ∧ ∀ c, c < nK N → ((σ 26 c 0).toInt = nS N c ∧ (σ 22 c 0).toInt = nH N c ∧ (σ 21 c 0).toInt = nW N c ∧ nW N c < 128) ∧ (∀ s, s < nS N c → (σ 27 c s).toInt = nP N c s ∧ (σ 28 c s).toInt = nO N c s) ∧ ∀ d, d ≤ 300 → (snB (σ 29 c) (nI d) ≠ 0 ↔ nN N c d)
theorem RepC_of {σ σ' : QS} {N : Net} (h : RepC σ N) (hd : ∀ v ∈ [3, 21, 22, 26, 27, 28, 29], σ' v = σ v) : RepC σ' N := by
  unfold RepC at h ⊢
  rw [hd 3 (by decide), hd 21 (by decide), hd 22 (by decide), hd 26 (by decide), hd 27 (by decide), hd 28 (by decide), hd 29 (by decide)]
  exact h
def gOn (w : Int32) (f : Nat → Int32) (day : Int32) : Prop := 0 ≤ day.toInt ∧ ((w >>> ((day - day / 7 * 7) &&& 31)) &&& 1) ≠ 0 ∧ (300 < day.toInt ∨ snB f day = 0)
theorem and31 : ∀ k : Fin 7, (nI k.val &&& 31) = nI k.val := by decide +kernel
theorem gOn_run {σ : QS} {N : Net} {c : Nat} {day : Int32} (hR : RepC σ N) (hc : c < nK N) : gOn (σ 21 c 0) (σ 29 c) day ↔ ∃ d : Nat, (d : Int) = day.toInt ∧ runN N c d := by
  obtain ⟨h1, h2, h3⟩ := hR
  obtain ⟨⟨a1, a2, a3, a4⟩, -, b2⟩ := h3 c hc
  have hw : (σ 21 c 0).toBitVec.toNat = nW N c := by
    have := i_nn (x := σ 21 c 0) (by omega)
    omega
  have key : ∀ d : Nat, (d : Int) = day.toInt → (((σ 21 c 0) >>> ((day - day / 7 * 7) &&& 31)) &&& 1 ≠ 0 ↔ (nW N c).testBit (d % 7) = true) := by
    intro d hd
    have e1 := i_rem (x := day) (y := 7) (z := day - day / 7 * 7) (n := 7) rfl (by decide) (by decide) (by omega)
    have e2 : day - day / 7 * 7 = nI (d % 7) := by
      apply Int32.toInt_inj.mp
      rw [nI_toInt (by omega), e1, ← hd]
      omega
    have e3 := and31 ⟨d % 7, by omega⟩
    simp only at e3
    rw [e2, e3, sn_bit _ (by omega)]
    show (σ 21 c 0).toBitVec.toNat.testBit (d % 7) = true ↔ _
    rw [hw]
  constructor
  · rintro ⟨g1, g2, g3⟩
    have hd : ((day.toInt.toNat : Nat) : Int) = day.toInt := by omega
    refine ⟨day.toInt.toNat, hd, (key _ hd).mp g2, fun h300 => ?_⟩
    rcases g3 with g3 | g3
    · omega
    · have g4 := b2 day.toInt.toNat h300
      have g5 : nI day.toInt.toNat = day := by
        apply Int32.toInt_inj.mp
        rw [nI_toInt (by omega), hd]
      rw [g5] at g4
      exact fun z => (g4.mpr z) g3
  · rintro ⟨d, hd, r1, r2⟩
    refine ⟨by omega, (key d hd).mpr r1, ?_⟩
    by_cases h300 : d ≤ 300
    · right
      have g4 := b2 d h300
      have g5 : nI d = day := by
        apply Int32.toInt_inj.mp
        rw [nI_toInt (by omega), hd]
      rw [g5] at g4
      exact Classical.byContradiction fun z => (r2 h300) (g4.mp z)
    · left
      omega
theorem i_div24 {x z : Int32} {k : Int} (e : z = x / 24) (hx : x.toInt = 24 * k) : z.toInt = k := by
  have h1 := any32 x
  rw [e, Int32.toInt_div, show (24 : Int32).toInt = 24 by decide, hx, Int.mul_tdiv_cancel_left k (by decide), i_bmod (by omega) (by omega)]
/-- the day of the run that is at a halt now -/
theorem day_of {N : Net} (hN : wfN N) {c s : Nat} {h : Int} (hc : c < nK N) (hs : s < nS N c) (hm : (nH N c + nO N c s) % 24 = h % 24) : ∃ k : Int, h - nH N c - nO N c s = 24 * k ∧ 24 * k + nH N c + nO N c s = h :=
  ⟨(h - nH N c - nO N c s) / 24, by omega, by omega⟩
def at2 (g f : Nat → Nat → Int32) (i q : Nat) (x : Int32) : Prop := g i q = x ∧ ∀ c r, ¬ (c = i ∧ r = q) → g c r = f c r
theorem at2_w {σ σ' : QS} {v i q : Nat} {x : Int32} (e : σ' = rs σ v i (upd (σ v i) q x)) : at2 (σ' v) (σ v) i q x := by
  subst e
  refine ⟨by rw [rs_self]; unfold upd; rw [if_pos rfl], fun c r h => ?_⟩
  by_cases hc : c = i
  · subst hc
    rw [rs_self]
    unfold upd
    rw [if_neg (fun z => h ⟨rfl, z⟩)]
  · rw [rs_i hc]
theorem upd_self {f : Nat → Int32} {q : Nat} {x : Int32} : upd f q x q = x := by unfold upd; rw [if_pos rfl]
theorem at2_ww {σ σ1 : QS} {v i q : Nat} {x y : Int32} (h : σ1 v = σ v) : at2 (rs (rs σ1 v i (upd (σ1 v i) q y)) v i (upd (upd (σ1 v i) q y) q x) v) (σ v) i q x := by
  refine ⟨by rw [rs_self]; exact upd_self, fun c r hn => ?_⟩
  by_cases hc : c = i
  · subst hc
    rw [rs_self]
    unfold upd
    rw [if_neg (fun z => hn ⟨rfl, z⟩), if_neg (fun z => hn ⟨rfl, z⟩), h]
  · rw [rs_i hc, rs_i hc, h]
theorem cl_mod4 {x y : Int32} (h : y.toInt = x.toInt % 4) (hx : 0 ≤ x.toInt) : y.toNatClampNeg = x.toNatClampNeg % 4 := by
  have h1 := cl_eq hx
  have h2 := cl_eq (j := y) (by omega)
  omega
theorem cl_m1 {x y o : Int32} (h : y.toInt = x.toInt - o.toInt) (h1 : o.toInt = 1 ∧ 1 ≤ x.toInt) : y.toNatClampNeg = x.toNatClampNeg - 1 := by
  have h3 := cl_eq (j := x) (by omega)
  have h2 := cl_eq (j := y) (by omega)
  omega
theorem cl_same {x y : Int32} (h : x.toInt = y.toInt) : x.toNatClampNeg = y.toNatClampNeg := by rw [Int32.toInt_inj.mp h]
def inT (σ : QS) (i : Nat) (day : Int) (lat : Nat → Int32) (s : Nat) : Prop := 24 * day + (σ 22 i 0).toInt + (σ 28 i s).toInt ≤ (lat (σ 27 i s).toNatClampNeg).toInt
def lsT (σ : QS) (i : Nat) (stop day : Int) (lat : Nat → Int32) (x : Int32) : Prop := (x.toInt = -1 ∧ ∀ s : Nat, stop < (s : Int) → (s : Int) < (σ 26 i 0).toInt → ¬ inT σ i day lat s) ∨ (stop < x.toInt ∧ x.toInt < (σ 26 i 0).toInt ∧ inT σ i day lat x.toNatClampNeg ∧ ∀ s : Nat, x.toInt < (s : Int) → (s : Int) < (σ 26 i 0).toInt → ¬ inT σ i day lat s)
def ldn (f : Nat → Int32) : Prop := ∃ q : Nat, q < 4 ∧ 0 < (f q).toInt
theorem i_div24b {x z : Int32} (e : z = x / 24) (h1 : -100100 ≤ x.toInt) (h2 : x.toInt ≤ 100100) : -4171 ≤ z.toInt ∧ z.toInt ≤ 4171 := by
  have h3 : z.toInt = x.toInt.tdiv 24 := by
    have h4 : -100100 ≤ x.toInt.tdiv 24 ∧ x.toInt.tdiv 24 ≤ 100100 := by
      rcases Int.le_total 0 x.toInt with q | q
      · rw [Int.tdiv_eq_ediv_of_nonneg q]
        omega
      · have : x.toInt.tdiv 24 = -((-x.toInt).tdiv 24) := by rw [Int.neg_tdiv, Int.neg_neg]
        rw [this, Int.tdiv_eq_ediv_of_nonneg (by omega)]
        omega
    rw [e, Int32.toInt_div, show (24 : Int32).toInt = 24 by decide, i_bmod (by omega) (by omega)]
  rcases Int.le_total 0 x.toInt with q | q
  · rw [h3, Int.tdiv_eq_ediv_of_nonneg q]
    omega
  · have : x.toInt.tdiv 24 = -((-x.toInt).tdiv 24) := by rw [Int.neg_tdiv, Int.neg_neg]
    rw [h3, this, Int.tdiv_eq_ediv_of_nonneg (by omega)]
    omega
theorem dayW {σ : QS} {N : Net} {c s : Nat} {h : Int} {x : Int32} (hR : RepC σ N) (hc : c < nK N) (hs : s < nS N c) (hm : (nH N c + nO N c s) % 24 = h % 24) (hx : ∀ k : Int, h - (σ 22 c 0).toInt - (σ 28 c s).toInt = 24 * k → x.toInt = k) : 24 * x.toInt + nH N c + nO N c s = h := by
  obtain ⟨k, h1, h2⟩ := day_of hR.1 hc hs hm
  have h3 := hx k (by rw [((hR.2.2 c hc).1).2.1, ((hR.2.2 c hc).2.1 s hs).2]; exact h1)
  rw [h3]
  exact h2
/-! one halt of the hour, in the words of the walk -/
section GW
variable {N : Net} {h6 h7 f9 g9 : Nat → Int32} {b i h : Int} {act : Nat → Nat → Prop} {Q : Nat → Nat → Prop} {R : Nat → Prop} {z : Nat → Nat} {k c s : Nat} {x5 y5 day pl : Int32}
theorem rch_same (hR : rchB x5 (fun p => R p ∨ hitH N h6 b i h act p)) (hh : ∀ p, hitH N h6 b (i + 1) h act p ↔ hitH N h6 b i h act p) : rchB x5 (fun p => R p ∨ hitH N h6 b (i + 1) h act p) := fun p hp => by
  show _ ↔ (R p ∨ hitH N h6 b (i + 1) h act p)
  rw [hR p hp, hh p]
theorem rd_zero (hc : c < nK N) (hI : rdI N h6 b i h act z f9) (hz : f9 c = 0) : ∀ d, ¬ (act c d ∧ ¬ (PrH N h6 b i c (z c) ∧ htN N c d (z c) = h)) := by
  intro d a
  have := (hI c hc (d % 4) (by omega)).mpr ⟨d, rfl, a⟩
  rw [hz] at this
  exact hasB_0 _ this
theorem gd_w1 (hN : wfN N) (hH : HalC h6 h7 N) (hz : ∀ c, c < nK N → z c < nS N c) (hk : (k : Int) = i) (hb : b ≤ i) (hi : i < (h7 24).toInt) (hc : c < nK N) (hs : s < nS N c) (e : (h6 k).toInt = hvN N c s) (hI : rdI N h6 b i h act z f9) (h0 : f9 c = 0) : rdI N h6 b (i + 1) h act z f9 ∧ ∀ p, hitH N h6 b (i + 1) h act p ↔ hitH N h6 b i h act p :=
  rd_no hN hH hz hk hb hi hc hs e hI (fun d _ => rd_zero hc hI h0 d)
theorem gd_w2 (hN : wfN N) (hH : HalC h6 h7 N) (hz : ∀ c, c < nK N → z c < nS N c) (ha : actOk N h act) (hk : (k : Int) = i) (hb : b ≤ i) (hi : i < (h7 24).toInt) (hc : c < nK N) (hs : s < nS N c) (e : (h6 k).toInt = hvN N c s) (hI : rdI N h6 b i h act z f9) (hd : 24 * day.toInt + nH N c + nO N c s = h) (h0 : f9 c &&& b4I day = 0) : rdI N h6 b (i + 1) h act z f9 ∧ ∀ p, hitH N h6 b (i + 1) h act p ↔ hitH N h6 b i h act p :=
  rd_no hN hH hz hk hb hi hc hs e hI ((rd_bit hN ha hc hs hI hd).2 (fun y => (bw_and (by omega) (b4_at day).1).mpr y h0))
theorem gd_w3 (hN : wfN N) (hH : HalC h6 h7 N) (hz : ∀ c, c < nK N → z c < nS N c) (ha : actOk N h act) (hk : (k : Int) = i) (hb : b ≤ i) (hi : i < (h7 24).toInt) (hc : c < nK N) (hs : s < nS N c) (e : (h6 k).toInt = hvN N c s) (hI : rdI N h6 b i h act z f9) (hd : 24 * day.toInt + nH N c + nO N c s = h) (h0 : f9 c &&& b4I day ≠ 0)
    (hg : (s ≠ z c ∧ g9 = f9) ∨ (s = z c ∧ g9 = upd f9 c (f9 c &&& (b4I day ^^^ (-1))))) : rdI N h6 b (i + 1) h act z g9 ∧ ∀ p, hitH N h6 b (i + 1) h act p ↔ hitH N h6 b i h act p ∨ p = nP N c s := by
  obtain ⟨d, d1, d2, d3⟩ := (rd_bit hN ha hc hs hI hd).1 ((bw_and (by omega) (b4_at day).1).mp h0)
  refine rd_yes hN hH hz ha hk hb hi hc hs e hI d2 d3 (fun c9 hc9 r hr => ?_)
  rcases hg with ⟨g1, g2⟩ | ⟨g1, g2⟩
  · rw [g2]
    exact ⟨fun y => ⟨y, fun x => g1 x.1⟩, fun y => y.1⟩
  · rw [g2]
    unfold upd
    by_cases q : c9 = c
    · subst q
      rw [if_pos rfl, bw_rm (by omega) (b4_at day).2 (by omega)]
      have : (day.toInt % 4).toNat = d % 4 := by omega
      rw [this]
      exact ⟨fun y => ⟨y.1, fun x => y.2 x.2.2⟩, fun y => ⟨y.1, fun x => y.2 ⟨g1, rfl, x⟩⟩⟩
    · rw [if_neg q]
      exact ⟨fun y => ⟨y, fun x => q x.2.1⟩, fun y => y.1⟩
theorem gd_hit (hN : wfN N) (hH : HalC h6 h7 N) (hz : ∀ c, c < nK N → z c < nS N c) (ha : actOk N h act) (hk : (k : Int) = i) (hb : b ≤ i) (hi : i < (h7 24).toInt) (hc : c < nK N) (hs : s < nS N c) (e : (h6 k).toInt = hvN N c s) (hI : rdI N h6 b i h act z f9) (hd : 24 * day.toInt + nH N c + nO N c s = h) (h0 : f9 c &&& b4I day ≠ 0) : ∀ p, hitH N h6 b (i + 1) h act p ↔ hitH N h6 b i h act p ∨ p = nP N c s := by
  by_cases q : s = z c
  · exact (gd_w3 (g9 := upd f9 c (f9 c &&& (b4I day ^^^ (-1)))) hN hH hz ha hk hb hi hc hs e hI hd h0 (Or.inr ⟨q, rfl⟩)).2
  · exact (gd_w3 (g9 := f9) hN hH hz ha hk hb hi hc hs e hI hd h0 (Or.inl ⟨q, rfl⟩)).2
theorem rch_more (hN : wfN N) (hc : c < nK N) (hs : s < nS N c) (hR : rchB x5 (fun p => R p ∨ hitH N h6 b i h act p)) (hh : ∀ p, hitH N h6 b (i + 1) h act p ↔ hitH N h6 b i h act p ∨ p = nP N c s) (hp : pl.toInt = nP N c s) (e : y5 = (x5 ||| pBI pl)) : rchB y5 (fun p => R p ∨ hitH N h6 b (i + 1) h act p) := fun p hp9 => by
  have h1 := (((hN.2 c hc).2.2.2.1) s hs).1
  have h2 := cl_eq (j := pl) (by omega)
  have h3 : pl.toNatClampNeg = nP N c s := by omega
  show _ ↔ (R p ∨ hitH N h6 b (i + 1) h act p)
  rw [e, bw_or (by omega) (pB_at (by omega) (by omega)).1, hR p hp9, hh p, h3]
  constructor
  · rintro ((y | y) | y)
    · exact Or.inl y
    · exact Or.inr (Or.inl y)
    · exact Or.inr (Or.inr y)
  · rintro (y | (y | y))
    · exact Or.inl (Or.inl y)
    · exact Or.inl (Or.inr y)
    · exact Or.inr y
/-- the halt number i: whose it is -/
theorem halt_at (hN : wfN N) (hH : HalC h6 h7 N) {q : Nat} (hq : q < 24) (h1 : (h7 q).toInt ≤ i) (h2 : i < (h7 (q + 1)).toInt) (hk : (k : Int) = i) : ∃ c s, c < nK N ∧ s < nS N c ∧ (h6 k).toInt = hvN N c s ∧ ((h6 k >>> ((3 : Int32) &&& 31)) &&& 15) = nI c ∧ ((7 : Int32) - (h6 k &&& 7)) = nI s ∧ (nH N c + nO N c s) % 24 = q := by
  obtain ⟨c, s, a1, a2, a3⟩ := pr_at hH hq (i := k) (by omega) (by omega)
  have a4 := hv_of hN a1 a2 a3
  refine ⟨c, s, a1, a2, a3, a4.1, a4.2, ?_⟩
  exact ((pr_all hN hH hq).mp ⟨a1, a2, k, by omega, by omega, a3⟩).2.2
theorem go_w (hN : wfN N) (hk : (k : Int) = i) (hb : b ≤ i) (hc : c < nK N) (hs : s < nS N c) (e : (h6 k).toInt = hvN N c s) (hI : goI N h6 b i h act Q f9) (hd : 24 * day.toInt + nH N c + nO N c s = h) (h3 : Q c s) (h4 : ∃ d : Nat, (d : Int) = day.toInt ∧ runN N c d) (hg : g9 = upd f9 c (f9 c ||| b4I day)) : goI N h6 b (i + 1) h act Q g9 := by
  obtain ⟨d, d1, d2⟩ := h4
  refine go_yes hN hk hb hc hs e hI (d := d) (by unfold htN; omega) h3 d2 (fun c9 hc9 r hr => ?_)
  rw [hg]
  unfold upd
  by_cases q : c9 = c
  · subst q
    rw [if_pos rfl, bw_or (by omega) (b4_at day).1]
    have : (day.toInt % 4).toNat = d % 4 := by omega
    rw [this]
    exact ⟨fun y => y.elim Or.inl (fun y => Or.inr ⟨rfl, y⟩), fun y => y.elim Or.inl (fun y => Or.inr y.2)⟩
  · rw [if_neg q]
    exact ⟨fun y => Or.inl y, fun y => y.elim id (fun y => absurd y.1 q)⟩
theorem go_wn (hN : wfN N) (hk : (k : Int) = i) (hb : b ≤ i) (hc : c < nK N) (hs : s < nS N c) (e : (h6 k).toInt = hvN N c s) (hI : goI N h6 b i h act Q f9) (hd : 24 * day.toInt + nH N c + nO N c s = h) (h4 : ¬ ∃ d : Nat, (d : Int) = day.toInt ∧ runN N c d) : goI N h6 b (i + 1) h act Q f9 :=
  go_no hN hk hb hc hs e hI (fun _ d hd9 hr => h4 ⟨d, by unfold htN at hd9; omega, hr⟩)
end GW
theorem rch_0 {N : Net} {h6 : Nat → Int32} {b h : Int} {act : Nat → Nat → Prop} {R : Nat → Prop} {x5 : Int32} (hR : rchB x5 R) : rchB x5 (fun p => R p ∨ hitH N h6 b b h act p) := fun p hp => by
  rw [hR p hp]
  exact ⟨fun y => Or.inl y, fun y => y.elim id (fun y => (hit_0 y).elim)⟩
theorem hal_mono {N : Net} {h6 h7 : Nat → Int32} (hH : HalC h6 h7 N) {q : Nat} (hq : q < 24) : (h7 q).toInt ≤ (h7 (q + 1)).toInt := by
  have f1 := hH.1 q (by omega)
  have f2 := hH.1 (q + 1) (by omega)
  rcases Int.lt_or_le (h7 (q + 1)).toInt (h7 q).toInt with y | y
  · exfalso
    have g1 := hH.2.2.2.2 q (h7 (q + 1)).toInt.toNat (by omega) (by omega)
    have g2 := hH.2.2.2.2 (q + 1) (h7 (q + 1)).toInt.toNat (by omega) (by omega)
    have g3 := g1.mp (by omega)
    have g4 := g2.mpr (by omega)
    omega
  · exact y
theorem cl_mod24 {h v : Int32} (e : v.toInt = h.toInt % 24) : v.toNatClampNeg = (h.toInt % 24).toNat := by
  show v.toInt.toNat = _
  rw [e]
theorem cl_mod24b {h v u o : Int32} (e : v.toInt = h.toInt % 24) (e2 : u.toInt = v.toInt + o.toInt) (ho : o.toInt = 1) : u.toNatClampNeg = (h.toInt % 24).toNat + 1 := by
  show u.toInt.toNat = _
  omega
theorem pl_bit {N : Net} (hN : wfN N) {c s : Nat} (hc : c < nK N) (hs : s < nS N c) {x5 pl : Int32} {R : Nat → Prop} (hR : rchB x5 R) (hp : pl.toInt = nP N c s) : ((x5 >>> (pl &&& 31)) &&& 1 ≠ 0) ↔ R (nP N c s) := by
  have h1 := (((hN.2 c hc).2.2.2.1) s hs).1
  have h2 := cl_eq (j := pl) (by omega)
  rw [(pB_at (p := pl) (by omega) (by omega)).2, ← hR _ h1]
  have h3 : pl = nI (nP N c s) := by
    rw [nI_at (x := pl) (by omega)]
    congr 1
    omega
  rw [h3]
  exact sn_bit x5 (by omega)
/-! the search hour by hour -/
def allW (w : Int32) (R : Nat → Prop) : Prop := ∀ p, p < 12 → hasB w p → R p
theorem hasB_12 {w : Int32} (h0 : 0 ≤ w.toInt) (h1 : w.toInt ≤ 4095) {p : Nat} (h : hasB w p) : p < 12 := by
  have h2 := i_nn h0
  rcases Nat.lt_or_ge p 12 with q | q
  · exact q
  · exfalso
    have h3 : w.toBitVec.toNat < 2 ^ p := Nat.lt_of_lt_of_le (show w.toBitVec.toNat < 2 ^ 12 by omega) (Nat.pow_le_pow_right (by decide) q)
    have h4 : w.toBitVec.toNat.testBit p = true := h
    rw [Nat.testBit_lt_two_pow h3] at h4
    exact Bool.noConfusion h4
theorem b_ext {x y : Int32} (h : ∀ p, p < 32 → (hasB x p ↔ hasB y p)) : x = y := by
  apply Int32.toBitVec_inj.mp
  apply BitVec.eq_of_getLsbD_eq
  intro i hi
  have h1 := h i hi
  unfold hasB at h1
  cases h2 : x.toBitVec.getLsbD i <;> cases h3 : y.toBitVec.getLsbD i <;> simp_all
theorem hb_and {x y : Int32} {p : Nat} : hasB (x &&& y) p ↔ hasB x p ∧ hasB y p := by
  unfold hasB
  rw [Int32.toBitVec_and, BitVec.getLsbD_and, Bool.and_eq_true]
theorem hb_not {x : Int32} {p : Nat} (hp : p < 32) : hasB (x ^^^ (-1)) p ↔ ¬ hasB x p := by
  unfold hasB
  rw [Int32.toBitVec_xor, show (-1 : Int32).toBitVec = BitVec.allOnes 32 by decide, BitVec.getLsbD_xor, BitVec.getLsbD_allOnes]
  simp [hp]
theorem all_and {x w : Int32} {R : Nat → Prop} (h0 : 0 ≤ w.toInt) (h1 : w.toInt ≤ 4095) (hx : rchB x R) : (x &&& w = w) ↔ allW w R := by
  constructor
  · intro h p hp hw
    rw [← h] at hw
    exact (hx p hp).mp (hb_and.mp hw).1
  · intro h
    apply b_ext
    intro p _
    rw [hb_and]
    exact ⟨fun y => y.2, fun y => ⟨(hx p (hasB_12 h0 h1 y)).mpr (h p (hasB_12 h0 h1 y) y), y⟩⟩
theorem all_not {w l : Int32} (h0 : 0 ≤ w.toInt) (h1 : w.toInt ≤ 4095) : (w &&& (l ^^^ (-1)) = 0) ↔ allW w (hasB l) := by
  constructor
  · intro h p hp hw
    refine Classical.byContradiction fun z => ?_
    have := hb_and.mpr ⟨hw, (hb_not (x := l) (show p < 32 by omega)).mpr z⟩
    rw [h] at this
    exact hasB_0 _ this
  · intro h
    apply b_ext
    intro p hp
    refine ⟨fun y => ?_, fun y => (hasB_0 _ y).elim⟩
    have y := hb_and.mp y
    exact absurd (h p (hasB_12 h0 h1 y.1) y.1) ((hb_not hp).mp y.2)
section SO
variable {N : Net} {f p : Nat} {t h : Int}
theorem so_link {l : Nat → Int32} (hL : LnkC l N) (hf : f < 12) (hp : p < 12) (a : rchF N f t h p) : hasB (l f) p := by
  rcases a with a | a
  · exact hL 0 f p hf hp a.symm
  · obtain ⟨n, a⟩ := (fw_eq_bw N (-1) f p t h).mp a
    exact hL n f p hf hp (lk_bw n f t a)
theorem so_ok : actOk N h (actF N f t (h - 1)) := fun c d a => ⟨a.1, (by obtain ⟨s, b1, b2, -⟩ := a.2.2.1; exact ⟨s, by omega, by omega⟩), by have := a.2.2.2; omega⟩
theorem so_ok2 {z : Nat → Nat} : actOk N h (fun c d => actF N f t (h - 1) c d ∧ htN N c d (z c) ≠ h) := fun c d a => so_ok c d a.1
theorem so_down (hN : wfN N) (ht : t ≤ h) {x : Int32} (a : rchB x (fun p => rchF N f t (h - 1) p ∨ ∃ c d s, c < nK N ∧ s < nS N c ∧ actF N f t (h - 1) c d ∧ htN N c d s = h ∧ nP N c s = p)) : rchB x (rchF N f t h) := fun p hp => by
  rw [a p hp]
  exact sw_down hN ht
theorem so_on (hN : wfN N) (ht : t ≤ h) {g : Nat → Int32} (a : ridB N g (fun c d => (actF N f t (h - 1) c d ∧ htN N c d (lastS N c) ≠ h) ∨ (c < nK N ∧ runN N c d ∧ ∃ s, s < nS N c ∧ (s + 1 < nS N c ∧ rchF N f t h (nP N c s)) ∧ htN N c d s = h))) : ridB N g (actF N f t h) := by
  refine ridB_iff a (fun c d _ => ?_)
  rw [← sw_on hN ht]
  constructor
  · rintro (y | ⟨y1, y2, s, _, ⟨y4, y5⟩, y6⟩)
    · exact Or.inl y
    · exact Or.inr ⟨y1, y2, s, y4, y6, y5⟩
  · rintro (y | ⟨y1, y2, s, y4, y6, y5⟩)
    · exact Or.inl y
    · exact Or.inr ⟨y1, y2, s, by omega, ⟨y4, y5⟩, y6⟩
theorem so_rid0 (hN : wfN N) {g : Nat → Int32} (hg : ∀ j : Nat, j < 12 → g j = 0) : ridB N g (actF N f t (t - 1)) := fun c hc r _ => by
  rw [hg c (by have := hN.1; omega)]
  exact ⟨fun y => (hasB_0 _ y).elim, fun ⟨_, _, y⟩ => (sw_none hN y).elim⟩
theorem so_rch0 (hN : wfN N) {x u : Int32} (hu : 0 ≤ u.toInt ∧ u.toInt ≤ 11) (hx : x = pBI u) : rchB x (rchF N u.toNatClampNeg t (t - 1)) := fun p hp => by
  have h2 := cl_eq hu.1
  rw [sw_first hN, hx]
  unfold hasB
  rw [(pB_at hu.1 hu.2).1, BitVec.getLsbD_twoPow]
  constructor
  · intro y
    simp at y
    omega
  · intro y
    subst y
    simp
    omega
/-- what the search answers -/
def sooP (N : Net) (f : Nat) (a b : Int) (w x : Int32) : Prop := 0 ≤ w.toInt → w.toInt ≤ 4095 → ((x.toInt = -1 ∧ ∀ k : Int, a ≤ k → k ≤ b → ¬ allW w (rchF N f a k)) ∨ ((a ≤ x.toInt ∧ x.toInt ≤ b) ∧ allW w (rchF N f a x.toInt) ∧ ∀ k : Int, a ≤ k → k < x.toInt → ¬ allW w (rchF N f a k)))
def sooI (N : Net) (f : Nat) (a h : Int) (w : Int32) : Prop := 0 ≤ w.toInt → w.toInt ≤ 4095 → ∀ k : Int, a ≤ k → k < h → ¬ allW w (rchF N f a k)
theorem so_i0 {w : Int32} {a : Int} : sooI N f a a w := fun _ _ k h1 h2 => by omega
theorem so_is {w x : Int32} {a : Int} (hI : sooI N f a h w) (hx : rchB x (rchF N f a h)) (hn : ¬ (x &&& w = w)) : sooI N f a (h + 1) w := fun w0 w1 k h1 h2 => by
  by_cases q : k = h
  · subst q
    exact fun z => hn ((all_and w0 w1 hx).mpr z)
  · exact hI w0 w1 k h1 (by omega)
theorem so_no {w x : Int32} {a b : Int} {l : Nat → Int32} (hL : LnkC l N) (hf : f < 12) (hn : ¬ (w &&& (l f ^^^ (-1)) = 0)) (hx : x.toInt = -1) : sooP N f a b w x := fun w0 w1 => Or.inl ⟨hx, fun k _ _ z => hn ((all_not w0 w1).mpr fun p hp hw => so_link hL hf hp (z p hp hw))⟩
theorem so_end {w x : Int32} {a b : Int} (hI : sooI N f a h w) (hh : b < h) (hx : x.toInt = -1) : sooP N f a b w x := fun w0 w1 => Or.inl ⟨hx, fun k h1 h2 => hI w0 w1 k h1 (by omega)⟩
theorem so_hit {w x y : Int32} {a b : Int} (hI : sooI N f a y.toInt w) (ha : a ≤ y.toInt) (hb : y.toInt ≤ b) (hx : rchB x (rchF N f a y.toInt)) (hn : x &&& w = w) : sooP N f a b w y := fun w0 w1 => Or.inr ⟨⟨ha, hb⟩, (all_and w0 w1 hx).mp hn, fun k h1 h2 => hI w0 w1 k h1 h2⟩
theorem rch_mono {k : Int} (hk : h ≤ k) (a : rchF N f t h p) : rchF N f t k p := a.elim Or.inl (fun a => Or.inr (fw_mono a hk))
end SO
theorem fill_s {σ σ' : QS} {v i : Nat} {z x y : Int32} (e : σ' = rs σ v i (upd (σ v i) x.toNatClampNeg z)) (h : ∀ j : Nat, (j : Int) < x.toInt → σ v i j = z) (hy : y.toInt = x.toInt + 1) (hx : 0 ≤ x.toInt) : ∀ j : Nat, (j : Int) < y.toInt → σ' v i j = z := by
  intro j hj
  have h2 := cl_eq hx
  rw [e, rs_self]
  unfold upd
  by_cases q : j = x.toNatClampNeg
  · rw [if_pos q]
  · rw [if_neg q]
    exact h j (by omega)
end
