/-! what the constructors leave in the rows that they fill -/
def okE (f : Nat → Int32) : Prop := (∀ k, f k = 0 ∨ f k = 10) ∧ ∀ a b : Nat, a < 9 → b < 9 → f (9 * a + b) = if a = b then 0 else 10
def oE (f : Nat → Int32) (i j : Int) : Prop := (∀ k, f k = 0 ∨ f k = 10) ∧ ∀ a b : Nat, b < 9 → ((a : Int) < i ∨ ((a : Int) = i ∧ (b : Int) < j)) → f (9 * a + b) = if a = b then 0 else 10
theorem oE_0 : oE (fun _ => 0) 0 0 := ⟨fun _ => Or.inl rfl, fun a b _ h => absurd h (by omega)⟩
theorem oE_end {f : Nat → Int32} {i : Int} (h : oE f i 0) (hi : 9 ≤ i) : okE f := ⟨h.1, fun a b ha hb => h.2 a b hb (by omega)⟩
theorem oE_next {f : Nat → Int32} {i j : Int} (h : oE f i j) (hj : 9 ≤ j) : oE f (i + 1) 0 := ⟨h.1, fun a b hb hc => h.2 a b hb (by omega)⟩
theorem oE_w {f : Nat → Int32} {x1 x2 x : Int32} (h : oE f x1.toInt x2.toInt) (h1 : 0 ≤ x1.toInt) (h2 : 0 ≤ x2.toInt) (h9 : x2.toInt < 9) (hx : x = (if x1.toInt = x2.toInt then 0 else 10)) : oE (upd f (9 * x1.toNatClampNeg + x2.toNatClampNeg) x) x1.toInt (x2.toInt + 1) := by
  have c1 := cl_eq h1
  have c2 := cl_eq h2
  refine ⟨fun k => ?_, fun a b hb hc => ?_⟩
  · unfold upd
    by_cases q : k = 9 * x1.toNatClampNeg + x2.toNatClampNeg
    · rw [if_pos q, hx]
      by_cases z : x1.toInt = x2.toInt
      · rw [if_pos z]; exact Or.inl rfl
      · rw [if_neg z]; exact Or.inr rfl
    · rw [if_neg q]; exact h.1 k
  · unfold upd
    by_cases q : 9 * a + b = 9 * x1.toNatClampNeg + x2.toNatClampNeg
    · rw [if_pos q, hx]
      by_cases z : x1.toInt = x2.toInt
      · rw [if_pos z, if_pos (by omega)]
      · rw [if_neg z, if_neg (by omega)]
    · rw [if_neg q]
      exact h.2 a b hb (by omega)
def okM (f : Nat → Int32) : Prop := (∀ k, f k = 0 ∨ f k = 10) ∧ ∀ j : Nat, j < 81 → f j = 10
def oM (f : Nat → Int32) (i : Int) : Prop := (∀ k, f k = 0 ∨ f k = 10) ∧ ∀ j : Nat, (j : Int) < i → f j = 10
theorem oM_0 : oM (fun _ => 0) 0 := ⟨fun _ => Or.inl rfl, fun j h => absurd h (by omega)⟩
theorem oM_end {f : Nat → Int32} {i : Int} (h : oM f i) (hi : 81 ≤ i) : okM f := ⟨h.1, fun j hj => h.2 j (by omega)⟩
theorem oM_w {f : Nat → Int32} {x1 : Int32} (h : oM f x1.toInt) (h1 : 0 ≤ x1.toInt) : oM (upd f x1.toNatClampNeg 10) (x1.toInt + 1) := by
  have c1 := cl_eq h1
  refine ⟨fun k => ?_, fun j hj => ?_⟩
  · unfold upd
    by_cases q : k = x1.toNatClampNeg
    · rw [if_pos q]; exact Or.inr rfl
    · rw [if_neg q]; exact h.1 k
  · unfold upd
    by_cases q : j = x1.toNatClampNeg
    · rw [if_pos q]
    · rw [if_neg q]; exact h.2 j (by omega)
def okT (f : Nat → Int32) : Prop := ∀ j : Nat, j < 12 → f j = (1 : Int32) <<< (nI j &&& 31)
def oT (f : Nat → Int32) (i : Int) : Prop := ∀ j : Nat, (j : Int) < i → f j = (1 : Int32) <<< (nI j &&& 31)
theorem oT_0 : oT (fun _ => 0) 0 := fun j h => absurd h (by omega)
theorem oT_end {f : Nat → Int32} {i : Int} (h : oT f i) (hi : 12 ≤ i) : okT f := fun j hj => h j (by omega)
theorem oT_w {f : Nat → Int32} {x1 v : Int32} (h : oT f x1.toInt) (h1 : 0 ≤ x1.toInt) (e : v = (1 : Int32) <<< (x1 &&& 31)) : oT (upd f x1.toNatClampNeg v) (x1.toInt + 1) := by
  have c1 := cl_eq h1
  intro j hj
  unfold upd
  by_cases q : j = x1.toNatClampNeg
  · rw [if_pos q, e, q, ← nI_at h1]
  · rw [if_neg q]; exact h j (by omega)
/-! making: arrays of the known classes; what constructors begin with and end with -/
section QN
variable {p : Program} {l : Launch} {e : Env} {R : Room} {s : State} {m : MethodId} {args : Array Value} {below : List Frame} {meth : Method} {c : Code} {H : Heap} {locs : List Loc} {cells slots : Nat} {Q : State → Prop}
variable {cc : ByteArray} {pc nL : Nat} {ls : Array Slot} {rest : List Value} {D : va_G} {B : Nat → ClassId} {A : Nat → Prop} {H0 : Heap} {Ts : List Cond} {own : String} {ws : va_W}
theorem w_newI (S : CallFix p m c cc nL s args Ts own) (harr : Cond.arrayClass .int ∈ Ts) (hK : va_K D vwCl (tyW B) s) (hP : va_P D vwCl ws H) (hD : va_D A ws) (hS : va_S A H0 H locs) (hA : ∀ q, H0.size ≤ q → A q) {n : Int32} {N' : Nat} (hn : ¬ n < 0) (hN : n.toNatClampNeg = N') (hb : N' * 4 ≤ 536870912) (hcells : cells + 1 ≤ R.cells) (hslots : slots + N' ≤ R.slots) (hdg : decode cc pc = .ok (.newarray .int, 2))
    (kk : ∀ (q : Nat) (H1 : Heap), va_P D vwCl (ws ++ [(q, .inl (B 0, N', .inl (fun _ => 0)))]) H1 → va_D A (ws ++ [(q, .inl (B 0, N', .inl (fun _ => 0)))]) → va_S A H0 H1 locs → W p l e R s m args below meth c H1 locs (cells + 1) (slots + N') Q (F0 m (pc + 2) ls (.ref q :: rest))) : W p l e R s m args below meth c H locs cells slots Q (F0 m pc ls (.int n :: rest)) := by
  refine va_newa (atype := .int) (ty := .int) (a0 := (N', .inl (fun _ => 0))) S.1 S.2.1 (S.2.2.2.2 _ harr) rfl hK hP hD hS hA (fun cA => rfl) hn hN hb hcells hslots hdg (fun q cA H1 hK1 hP1 hD1 hS1 => ?_)
  have h1 : s.vm.findClass ("[" ++ FieldType.int.toString) = some cA := (hK1.2 4 (cA, .int) rfl).2
  have h2 : s.vm.findClass ("[" ++ FieldType.int.toString) = some (B 0) := (hK.2 0 (B 0, .int) rfl).2
  have h3 : cA = B 0 := Option.some.inj (h1.symm.trans h2)
  rw [h3] at hP1 hD1
  exact kk q H1 hP1 hD1 hS1
theorem w_newZ (S : CallFix p m c cc nL s args Ts own) (harr : Cond.arrayClass .boolean ∈ Ts) (hK : va_K D vwCl (tyW B) s) (hP : va_P D vwCl ws H) (hD : va_D A ws) (hS : va_S A H0 H locs) (hA : ∀ q, H0.size ≤ q → A q) {n : Int32} {N' : Nat} (hn : ¬ n < 0) (hN : n.toNatClampNeg = N') (hb : N' * 1 ≤ 536870912) (hcells : cells + 1 ≤ R.cells) (hslots : slots + N' ≤ R.slots) (hdg : decode cc pc = .ok (.newarray .boolean, 2))
    (kk : ∀ (q : Nat) (H1 : Heap), va_P D vwCl (ws ++ [(q, .inl (B 1, N', .inl (fun _ => 0)))]) H1 → va_D A (ws ++ [(q, .inl (B 1, N', .inl (fun _ => 0)))]) → va_S A H0 H1 locs → W p l e R s m args below meth c H1 locs (cells + 1) (slots + N') Q (F0 m (pc + 2) ls (.ref q :: rest))) : W p l e R s m args below meth c H locs cells slots Q (F0 m pc ls (.int n :: rest)) := by
  refine va_newa (atype := .boolean) (ty := .boolean) (a0 := (N', .inl (fun _ => 0))) S.1 S.2.1 (S.2.2.2.2 _ harr) rfl hK hP hD hS hA (fun cA => rfl) hn hN hb hcells hslots hdg (fun q cA H1 hK1 hP1 hD1 hS1 => ?_)
  have h1 : s.vm.findClass ("[" ++ FieldType.boolean.toString) = some cA := (hK1.2 4 (cA, .boolean) rfl).2
  have h2 : s.vm.findClass ("[" ++ FieldType.boolean.toString) = some (B 1) := (hK.2 1 (B 1, .boolean) rfl).2
  have h3 : cA = B 1 := Option.some.inj (h1.symm.trans h2)
  rw [h3] at hP1 hD1
  exact kk q H1 hP1 hD1 hS1
theorem w_newQ (S : CallFix p m c cc nL s args Ts own) {C : String} {index : Nat} (t0 : Nat) (ht : (tyW B)[t0]? = some (B t0, .object C)) (hcl : Cond.classLink own index C ∈ Ts) (hov : va_AO C s) (hK : va_K D vwCl (tyW B) s) (hP : va_P D vwCl ws H) (hD : va_D A ws) (hS : va_S A H0 H locs) (hA : ∀ q, H0.size ≤ q → A q) {n : Int32} {N' : Nat} (hn : ¬ n < 0) (hN : n.toNatClampNeg = N') (hb : N' * 4 ≤ 536870912) (hcells : cells + 1 ≤ R.cells) (hslots : slots + N' ≤ R.slots) (hdg : decode cc pc = .ok (.anewarray index, 3))
    (kk : ∀ (q : Nat) (H1 : Heap), va_P D vwCl (ws ++ [(q, .inl (B t0, N', .inr (.inr (.inr (.inr (fun _ => none))))))]) H1 → va_D A (ws ++ [(q, .inl (B t0, N', .inr (.inr (.inr (.inr (fun _ => none))))))]) → va_S A H0 H1 locs → W p l e R s m args below meth c H1 locs (cells + 1) (slots + N') Q (F0 m (pc + 3) ls (.ref q :: rest))) : W p l e R s m args below meth c H locs cells slots Q (F0 m pc ls (.int n :: rest)) := by
  refine va_newq (C := C) S.1 S.2.1 S.2.2.2.1 (S.2.2.2.2 _ hcl) hov hK hP hD hS hA hn hN hb hcells hslots hdg (fun q cA H1 hK1 hP1 hD1 hS1 => ?_)
  have h1 : va_RA s cA (.object C) := (hK1.2 4 (cA, .object C) rfl).2
  have h2 : va_RA s (B t0) (.object C) := (hK.2 t0 _ ht).2
  obtain ⟨_, _, -, -, -, g1⟩ := h1
  obtain ⟨_, _, -, -, -, g2⟩ := h2
  have h3 : cA = B t0 := Option.some.inj (g1.symm.trans g2)
  rw [h3] at hP1 hD1
  exact kk q H1 hP1 hD1 hS1
end QN
/-- a constructor's contract: from its own cell alone, with what it makes; the cells behind it -/
def PcI (D : va_G) (B : Nat → ClassId) (sz : Nat) (w0 : va_W) (U : State) : Prop := U.heap.size = sz ∧ va_P D vwCl w0 U.heap ∧ va_K D vwCl (tyW B) U ∧ va_D (fun _ => True) w0 ∧ va_AO RX0 U ∧ va_AO RX2 U ∧ va_Nw (.methodLinkNest RX3 43 yX0_init "CarrierNet") U ∧ va_Nw (.methodLinkNest RX4 39 yX2_init "CarrierNet") U
def QcI (D : va_G) (sz : Nat) (w0 : va_W) {S : Type} (wf : S → va_W) (ok : S → Prop) : Array Value → State → Outcome → State → Prop := fun _ st oc t => ∃ u : S, oc = .returned none ∧ ok u ∧ va_P D vwCl (wf u) t.heap ∧ va_D (va_A w0 sz) (wf u) ∧ va_F (va_A w0 sz) st t
def QI (D : va_G) (A : Nat → Prop) {S : Type} (wf : S → va_W) (ok : S → Prop) : Array Value → State → Outcome → State → Prop := fun _ st oc t => ∃ u : S, oc = .returned none ∧ ok u ∧ va_P D vwCl (wf u) t.heap ∧ va_D A (wf u) ∧ va_F A st t
def cI (l : Launch) (D : va_G) (B : Nat → ClassId) (y : MethodName) (wsy : List Cond) (fr lo mc ms sz h0 : Nat) (w0 : va_W) {S : Type} (wf : S → va_W) (ok : S → Prop) : Prop :=
  Met l y wsy { frames := fr, cells := mc, slots := ms, locals := lo } (va_Pc [.ref h0] (PcI D B sz w0)) (QcI D sz w0 wf ok) mc ms (va_A w0 sz)
theorem PcI_blind {D : va_G} {B : Nat → ClassId} {sz : Nat} {w0 : va_W} {av : List Value} : FrameBlind (va_Pc av (PcI D B sz w0)) := fun a U g9 mk q => by
  obtain ⟨q0, q1, q2, q3, q4, q5, q6, q7, q8⟩ := q
  exact ⟨q0, q1, q2, va_K.moved (u := U) (U := U.calling g9 mk a) (Vm.Alike.refl U.vm) q3, q4, va_AO.moved (u := U) (U := U.calling g9 mk a) (Vm.Alike.refl U.vm) q5, va_AO.moved (u := U) (U := U.calling g9 mk a) (Vm.Alike.refl U.vm) q6, va_Nw.same (u := U) rfl rfl q7, va_Nw.same (u := U) rfl rfl q8⟩
theorem PcI_at {D : va_G} {B : Nat → ClassId} {w0 : va_W} {s U : State} {H : Heap} (hU : U.heap = H) (hW : s.WarmedH U.vm) (hP : va_P D vwCl w0 H) (hK : va_K D vwCl (tyW B) s) (hD : va_D (fun _ => True) w0) (a1 : va_AO RX0 s) (a2 : va_AO RX2 s) (n1 : va_Nw (.methodLinkNest RX3 43 yX0_init "CarrierNet") s) (n2 : va_Nw (.methodLinkNest RX4 39 yX2_init "CarrierNet") s) : PcI D B H.size w0 U :=
  ⟨by rw [hU], by rw [hU]; exact hP, va_K.moved hW.alike hK, hD, va_AO.moved hW.alike a1, va_AO.moved hW.alike a2, va_Nw.warmM hW n1, va_Nw.warmM hW n2⟩
section QO
variable {p : Program} {l : Launch} {e : Env} {R : Room} {s : State} {m : MethodId} {args : Array Value} {below : List Frame} {meth : Method} {c : Code} {H : Heap} {locs : List Loc} {cells slots : Nat} {Q : State → Prop}
variable {cc : ByteArray} {pc nL fr lo mc ms sz h0 : Nat} {ls : Array Slot} {rest : List Value} {D : va_G} {B : Nat → ClassId} {A : Nat → Prop} {H0 : Heap} {Ts wsy ws' : List Cond} {own : String} {w0 X : va_W} {y : MethodName}
theorem cI_of {S : Type} {wf : S → va_W} {ok : S → Prop} (hy : plainName y.cls = true) (hw : wsy = Cond.code y cc nL none :: ws') (hn : (lg_sl [Value.ref h0]).length ≤ nL)
    (body : ∀ (p : Program) (e : Env) (s : State) (m : MethodId) (below : List Frame) (meth : Method) (c : Code) (A : Nat → Prop), A = va_A w0 s.heap.size → CallFix p m c cc nL s [Value.ref h0].toArray wsy y.cls → meth.sig.returnType = none → meth.locks = false → meth.name = y.name → (∀ q, s.heap.size ≤ q → A q) → va_P D vwCl w0 s.heap → va_D A w0 → va_K D vwCl (tyW B) s → va_AO RX0 s → va_AO RX2 s → va_Nw (.methodLinkNest RX3 43 yX0_init "CarrierNet") s → va_Nw (.methodLinkNest RX4 39 yX2_init "CarrierNet") s → va_S A s.heap s.heap [] → ∀ ls : Array Slot, lv_has ls nL [(0, .ref h0)] →
      W p l e { frames := fr, cells := mc, slots := ms, locals := lo } s m [Value.ref h0].toArray below meth c s.heap [] 0 0 (MQ below (QI D A wf ok) [Value.ref h0].toArray s mc ms A) (F0 m 0 ls [])) : cI l D B y wsy fr lo mc ms sz h0 w0 wf ok := by
  refine Met.ofW (cc := cc) (maxL := nL) (ret := none) hy hw ?_
  intro p e s m args below meth c s₁ B9 hml hv
  obtain ⟨rfl, rfl, hP, hK, hD, a1, a2, n1, n2⟩ := hv
  rw [lg_entry_eq]
  exact body p e s m below meth c _ rfl ⟨B9.exec, B9.bytes, hml, findClass_of_methodNamed B9.named, atoms_spec (ws := wsy) B9.pre⟩ B9.returns B9.notSynchronized (name_of_methodNamed B9.named B9.method).1 (fun q h => Or.inr h) hP hD.self hK a1 a2 n1 n2 va_S.rf _ (lv_entry [Value.ref h0] hn)
theorem cI_ret {S : Type} {wf : S → va_W} {ok : S → Prop} (S1 : CallFix p m c cc nL s args Ts own) (hr : meth.sig.returnType = none) (hk : meth.locks = false) (hS : va_S A s.heap H locs) (u : S) (hok : ok u) (hP : va_P D vwCl (wf u) H) (hD : va_D A (wf u)) (hdg : decode cc pc = .ok (.return_, 1)) : W p l e R s m args below meth c H locs cells slots (MQ below (QI D A wf ok) args s cells slots A) (F0 m pc ls []) :=
  W.vret S1.1 S1.2.1 hr (fun t ht _ => ⟨u, rfl, hok, by rw [ht]; exact hP, hD, hS.F ht⟩) hS.2.2 hdg hk
/-- the made cell's constructor has run: its cells stand behind the others -/
theorem w_join {q : Nat} {e0 : va_E} {w1 : va_W} {H1 : Heap} (hP : va_P D vwCl (X ++ [(q, e0)]) H) (hD : va_D A (X ++ [(q, e0)])) (hk : ∀ a : Nat, a < H.size → ¬ va_A [(q, e0)] H.size a → H1[a]? = H[a]?) (hF : ∀ a, va_A [(q, e0)] H.size a → A a) (hP1 : va_P D vwCl w1 H1) (hD1 : va_D (va_A [(q, e0)] H.size) w1) : va_P D vwCl (X ++ w1) H1 ∧ va_D A (X ++ w1) := by
  refine va_join (wc := [(q, e0)]) hP hD [X.length] (List.range X.length) ?_ ?_ ?_ ?_ hk hF hP1 hD1
  · simp
  · apply List.ext_getElem
    · simp
    · intro n h1 h2
      simp only [List.length_map, List.length_range] at h1
      simp only [List.getElem_map, List.getElem_range]
      rw [List.getElem?_append_left h1, List.getElem?_eq_getElem h1]
  · have key : ∀ n, va_nd (List.range n) = true := by
      intro n
      have : ∀ l : List Nat, l.Nodup → va_nd l = true := by
        intro l
        induction l with
        | nil => intro _; rfl
        | cons a l ih =>
          intro h
          rw [List.nodup_cons] at h
          simp [va_nd, h.1, ih h.2]
      exact this _ List.nodup_range
    exact key _
  · intro i hi hc
    simp at hi hc
    omega
theorem w_free {q : Nat} {e0 : va_E} (hD : va_D A (X ++ [(q, e0)])) (hS : va_S A H0 H locs) (hA : ∀ a, H0.size ≤ a → A a) : ∀ a, va_A [(q, e0)] H.size a → A a := by
  intro a h
  rcases h with ⟨k, e9, h⟩ | h
  · cases k with
    | zero => cases h; exact hD.2 X.length (q, e0) (by simp)
    | succ k => simp at h
  · exact hA a (Nat.le_trans hS.1 h)
theorem w_last {q : Nat} {e0 : va_E} (hP : va_P D vwCl (X ++ [(q, e0)]) H) : va_P D vwCl [(q, e0)] H := q_one (hP X.length (q, e0) (by simp))
theorem w_lastD {q : Nat} {e0 : va_E} : va_D (fun _ => True) [(q, e0)] := ⟨fun i j p9 q9 h1 h2 _ => by
    cases i with
    | zero => cases j with
      | zero => rfl
      | succ j => simp at h2
    | succ i => simp at h1, fun _ _ _ => trivial⟩
theorem w_back {S : Type} {wf : S → va_W} {ok : S → Prop} {q : Nat} {e0 : va_E} {a : Array Value} {st0 : List Value} (hr : va_Run p l e R s m args below meth c H locs cells slots mc ms (F0 m pc ls st0) rest (QcI D H.size [(q, e0)] wf ok a) (va_A [(q, e0)] H.size)) (hP : va_P D vwCl (X ++ [(q, e0)]) H) (hD : va_D A (X ++ [(q, e0)])) (hS : va_S A s.heap H locs) (hA : ∀ a, s.heap.size ≤ a → A a)
    (kk : ∀ (u : S) (H1 : Heap) (locs1 : List Loc), ok u → va_P D vwCl (X ++ wf u) H1 → va_D A (X ++ wf u) → va_S A s.heap H1 locs1 → W p l e R s m args below meth c H1 locs1 (cells + mc) (slots + ms) Q (F0 m (pc + 3) ls rest)) : W p l e R s m args below meth c H locs cells slots Q (F0 m pc ls st0) := by
  intro T hT Xs
  have hF := w_free hD hS hA
  obtain ⟨v, st₀, t, T', L9, h0, X', hL, e1, -, ⟨u, hv, hok, hp, hd, hz, hk⟩, st⟩ := hr T hT Xs
  cases hv
  rw [h0] at hz hk
  obtain ⟨j1, j2⟩ := w_join (H1 := T'.heap) hP hD (fun a h1 h2 => by rw [e1]; exact hk a h1 h2) hF (by rw [e1]; exact hp) hd
  obtain ⟨t2, a1, b1⟩ := kk u T'.heap (locs ++ L9) hok j1 j2 ⟨Nat.le_trans hS.1 (by rw [e1]; exact hz), fun a h1 h2 => by rw [e1, hk a (Nat.lt_of_lt_of_le h1 hS.1) (fun z => h2 (hF a z))]; exact hS.2.1 a h1 h2, fun b hb => by
      rcases List.mem_append.mp hb with h | h
      · exact hS.2.2 b h
      · exact hF _ (hL b h)⟩ T' rfl X'
  exact ⟨t2, st t2 a1, b1⟩
end QO
