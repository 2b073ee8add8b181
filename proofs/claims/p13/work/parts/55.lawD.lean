/-! the law's helper told, and the law's world: the class's cells, the reference's cells, the row of longs; what a call does to it -/
abbrev sNSE : String := "java/util/NoSuchElementException"
def AW (cnt : Nat → Nat) (L : QL) : Nat → Prop := fun q => ∃ k i, i < cnt k ∧ q = L k i
abbrev eO (cJ : ClassId) (f : Nat → Int64) : va_E := .inl (cJ, 1, .inr (.inl f))
theorem kT_narrow {A A1 : Nat → Prop} {sa1 sa2 : Nat} {s : State} (hA : ∀ q, A1 q → A q) (h : kT A sa1 sa2 s) : kT A1 sa1 sa2 s := ⟨h.1, h.2.1.narrow hA, h.2.2.1.narrow hA, h.2.2.2⟩
def PcH (D : va_G) (B : Nat → ClassId) (L : QL) (o : Nat) (cJ : ClassId) (f : Nat → Int64) (σ : QS) (τ : Int64) (sa1 sa2 : Nat) (U : State) : Prop :=
  PcT D B L (AW cntC L) σ τ sa1 sa2 U ∧ va_at D vwCl (o, eO cJ f) U.heap ∧ va_K D vwCl [(cJ, .long)] U ∧ ¬ AW cntC L o ∧ va_Nw (.castable sNSE sNSE) U
def AH (L : QL) (o : Nat) : Nat → Prop := fun q => AW cntC L q ∨ q = o
def QcH (D : va_G) (B : Nat → ClassId) (L : QL) (o : Nat) (cJ : ClassId) (σ : QS) (τ : Int64) : Array Value → State → Outcome → State → Prop := fun _ st oc t => ∃ (r : Int32) (f : Nat → Int64), oc = .returned (some (.int r)) ∧ hW cntC gC D B L σ τ t.heap ∧ va_at D vwCl (o, eO cJ f) t.heap ∧ va_F (AH L o) st t
theorem PcH_blind {D : va_G} {B : Nat → ClassId} {L : QL} {o : Nat} {cJ : ClassId} {f : Nat → Int64} {σ : QS} {τ : Int64} {sa1 sa2 : Nat} {av : List Value} : FrameBlind (va_Pc av (PcH D B L o cJ f σ τ sa1 sa2)) := fun a U g9 mk q =>
  ⟨q.1, ⟨⟨q.2.1.1.1, kW_same (s := U) rfl q.2.1.1.2⟩, kT_warm (s := U) (State.WarmedH.refl U) (fun _ _ _ => rfl) q.2.1.2⟩, q.2.2.1, va_K.moved (u := U) (Vm.Alike.refl U.vm) q.2.2.2.1, q.2.2.2.2.1, va_Nw.same (u := U) rfl rfl q.2.2.2.2.2⟩
theorem PcT_blind {D : va_G} {B : Nat → ClassId} {L : QL} {A : Nat → Prop} {σ : QS} {τ : Int64} {sa1 sa2 : Nat} {av : List Value} : FrameBlind (va_Pc av (PcT D B L A σ τ sa1 sa2)) := fun a U g9 mk q =>
  ⟨q.1, ⟨q.2.1.1, kW_same (s := U) rfl q.2.1.2⟩, kT_warm (s := U) (State.WarmedH.refl U) (fun _ _ _ => rfl) q.2.2⟩
theorem oM_ofWH {l : Launch} {y : MethodName} {ws ws' : List Cond} {rm : Room} {Pc : Array Value → State → Prop} {Qc : Array Value → State → Outcome → State → Prop} {mc ms : Nat} {free : Addr → Prop} {cc : ByteArray} {maxL : Nat} {ret : Option FieldType} {hh : List (Nat × Nat × Nat × Nat)}
    (hy : plainName y.cls = true) (hw : ws = Cond.codeWith y cc maxL ret hh :: ws')
    (body : ∀ p e s m args below meth c s₁, BodyLoose p l y (headSpec ws rm) cc maxL ret e s m args below meth c s₁ → c.maxLocals = maxL → Pc args s →
      W p l e (headSpec ws rm).room s m args below meth c s.heap [] 0 0 (MQ below Qc args s mc ms free) (entryFrame m args maxL)) : Met l y ws rm Pc Qc mc ms free := by
  refine MetFree.of_bodyS (code := cc) (maxLocals := maxL) (ret := ret) hy ?_ ?_
  · intro args s m h hn
    obtain ⟨m9, meth, c, hn9, h1, h2, h3, h4, -, h5, h6, -⟩ := Cond.codeWith_spec (atoms_spec (ws := ws) h _ (by rw [hw]; exact List.mem_cons_self))
    cases hn.symm.trans hn9
    exact ⟨meth, c, h1, h2, h3, h4, h5, h6⟩
  · intro p e s m args below meth c s₁ B hml hP _
    have hh0 : s₁.heap = s.heap := by rw [B.state]; rfl
    obtain ⟨t, a1, o, b1, b2, b3⟩ := body p e s m args below meth c s₁ B hml hP s₁ hh0 (Stand.of_body B)
    exact ⟨t, o, a1, b1, b2, ⟨b3.1, b3.2⟩⟩
section LD
variable {p : Program} {l : Launch} {e : Env} {R : Room} {s : State} {m : MethodId} {args : Array Value} {below : List Frame} {meth : Method} {c : Code} {H : Heap} {locs : List Loc} {cells slots : Nat} {Q : State → Prop}
variable {cc bytes : ByteArray} {pc nL maxL fr lo index n : Nat} {ls : Array Slot} {rest st0 As : List Value} {D : va_G} {B : Nat → ClassId} {L : QL} {A A0 : Nat → Prop} {Ts ws ws' : List Cond} {own : String} {σ : QS} {τ : Int64} {cnt : Nat → Nat} {g : gW} {y : MethodName} {ret : Option FieldType} {post : Option Value → QS → Int64 → Prop} {a : Array Value}
theorem s_keep {st₀ t T' : State} {L9 : List Loc} (h0 : st₀.heap = H) (e1 : T'.heap = t.heap) (hS : va_S A0 s.heap H locs) (hA : ∀ q, A q → A0 q) (hL : ∀ q ∈ L9, A q.base) (hF : va_F A st₀ t) : H.size ≤ T'.heap.size ∧ (∀ q : Nat, q < H.size → ¬ A q → T'.heap[q]? = H[q]?) ∧ va_S A0 s.heap T'.heap (locs ++ L9) := by
  obtain ⟨hz, hk⟩ := hF
  rw [h0] at hz hk
  refine ⟨by rw [e1]; exact hz, fun q h1 h2 => by rw [e1]; exact hk q h1 h2, Nat.le_trans hS.1 (by rw [e1]; exact hz), fun q h1 h2 => ?_, fun q hq => ?_⟩
  · rw [e1, hk q (Nat.lt_of_lt_of_le h1 hS.1) (fun h => h2 (hA q h))]
    exact hS.2.1 q h1 h2
  · rcases List.mem_append.mp hq with h | h
    · exact hS.2.2 q h
    · exact hA _ (hL q h)
/-- told of the class, behind its call -/
theorem oT_back (hr : vx_Run p l e R s m args below meth c H locs 0 0 1 6 (F0 m pc ls st0) rest (QcW cntC gC D B L A (pI (fun _ σ' τ' => σ' = σ ∧ τ' = τ)) a) (XT D B L A σ τ) A) (hS : va_S A0 s.heap H locs) (hA : ∀ q, A q → A0 q)
    (kx : ∀ (ce : Cell) (q9 : Addr) (H1 : Heap) (locs1 : List Loc), hW cntC gC D B L σ τ H1 → (∀ q : Nat, q < H.size → ¬ A q → H1[q]? = H[q]?) → va_S A0 s.heap H1 locs1 → H1[q9]? = some ce → ce.vm = .none → s.vm.findClass sNSE = some ce.cls → vx_W p l e R s m args below meth c H1 locs1 1 6 Q (F0 m pc ls rest) q9)
    (kk : ∀ (x : Int32) (H1 : Heap) (locs1 : List Loc), hW cntC gC D B L σ τ H1 → (∀ q : Nat, q < H.size → ¬ A q → H1[q]? = H[q]?) → va_S A0 s.heap H1 locs1 → W p l e R s m args below meth c H1 locs1 1 6 Q (F0 m (pc + 3) ls (.int x :: rest))) : W p l e R s m args below meth c H locs 0 0 Q (F0 m pc ls st0) := by
  intro T hT X
  rcases hr T hT X with ⟨v, st₀, t, T', L9, h0, X', hL, e1, e2, ⟨r, σ', τ', hv, ⟨x, hx, h1, h2⟩, hh, hF⟩, st⟩ | ⟨q, st₀, t, T', L9, E, ce, h0, X', hL, e1, e2, ⟨hE, hh, hF⟩, hce, hcv, hcl, st⟩
  · cases hv
    subst h1; subst h2
    cases hx
    obtain ⟨k1, k2, k3⟩ := s_keep h0 e1 hS hA hL hF
    obtain ⟨t2, a1, b1⟩ := kk x T'.heap (locs ++ L9) (by rw [e1]; exact hh) k2 k3 T' rfl X'
    exact ⟨t2, st t2 a1, b1⟩
  · obtain ⟨k1, k2, k3⟩ := s_keep h0 e1 hS hA hL hF
    obtain ⟨t2, a1, b1⟩ := kx ce q T'.heap (locs ++ L9) (by rw [e1]; exact hh) k2 k3 (by rw [e1]; exact hce) hcv (by rw [hE] at hcl; exact hcl) T' rfl X'
    exact ⟨t2, st.trans a1, b1⟩
/-- any call of a world's method, out of a frame that holds more -/
theorem lC_back (hr : va_Run p l e R s m args below meth c H locs cells slots 0 0 (F0 m pc ls st0) rest (QcW cnt g D B L A post a) A) (hS : va_S A0 s.heap H locs) (hA : ∀ q, A q → A0 q)
    (kk : ∀ (r : Option Value) (σ : QS) (τ : Int64) (H1 : Heap) (locs1 : List Loc), post r σ τ → hW cnt g D B L σ τ H1 → (∀ q : Nat, q < H.size → ¬ A q → H1[q]? = H[q]?) → va_S A0 s.heap H1 locs1 → W p l e R s m args below meth c H1 locs1 cells slots Q (F0 m (pc + 3) ls (r.toList ++ rest))) : W p l e R s m args below meth c H locs cells slots Q (F0 m pc ls st0) := by
  intro T hT X
  obtain ⟨v, st₀, t, T', L9, h0, X', hL, e1, -, ⟨r, σ', τ', hv, hp, hh, hF⟩, st⟩ := hr T hT X
  cases hv
  obtain ⟨k1, k2, k3⟩ := s_keep h0 e1 hS hA hL hF
  obtain ⟨t2, a1, b1⟩ := kk v σ' τ' T'.heap (locs ++ L9) hp (by rw [e1]; exact hh) k2 k3 T' rfl X'
  exact ⟨t2, st t2 a1, b1⟩
theorem lC_V (S : CallFix p m c cc nL s args Ts own) (K : kW cnt D B L A s) (hH : hW cnt g D B L σ τ H) {C : String} {T : u_T} {N ci k i : Nat} {fs : List Value} (hi : i < cnt k) (hG : g B L σ τ k i = .inr (ci, fs)) (hc : vwCl[ci]? = some (C, T, N)) (hM : cW cnt g l D B L A y ws fr lo (.ref (L k i) :: As) σ τ post) (gw : GoodIn Ts (wsV own index C y ws)) (hw : ws = Cond.code y bytes maxL ret :: ws') (hd : y.cls = C ∧ y.cls ≠ "java/lang/invoke/MethodHandle" ∧ y.cls ≠ "java/lang/invoke/VarHandle" ∧ (parseMethodDescriptor y.desc).map (fun d => d.parameters.length) = some n) (hR : fr + 1 ≤ R.frames ∧ 8 + (maxL + 11) + lo ≤ R.locals) (hn : As.length = n) (hsz : ls.size = nL) (hcat : (rest.map fun v => v.category).sum ≤ 8) (hdg : decode cc pc = .ok (.invokevirtual index, 3)) (hf : cells ≤ R.cells ∧ slots ≤ R.slots) :
    va_Run p l e R s m args below meth c H locs cells slots 0 0 (F0 m pc ls (As.reverse ++ .ref (L k i) :: rest)) rest (QcW cnt g D B L A post (Value.ref (L k i) :: As).toArray) A :=
  va_runV (As := As) (rest := rest) S hM (cwV n S.2.2.2.2 gw hw rfl rfl hd hR) ⟨PcW_blind, va_recv K.1 (q_one (by rw [← hG]; exact hH k i hi)) hc (q0 := 0) rfl, fun U hU hW => ⟨rfl, by rw [hU]; exact hH, kW_warm hW K⟩⟩ rfl hn hsz rfl (lv_room hcat) hdg hf
theorem o_last {o : Nat} {cJ : ClassId} {f : Nat → Int64} (hexec : p.tables.exec = Jvm.exec) (hb : c.code = cc) (hK : va_K D vwCl [(cJ, .long)] s) (hO : va_at D vwCl (o, eO cJ f) H) (hS : va_S A0 s.heap H locs) (ho : A0 o) {x : Int64} (hdg : decode cc pc = .ok (.lastore, 1))
    (kk : ∀ (H1 : Heap) (locs1 : List Loc) (f1 : Nat → Int64), va_at D vwCl (o, eO cJ f1) H1 → (∀ q : Nat, q ≠ o → H1[q]? = H[q]?) → va_S A0 s.heap H1 locs1 → W p l e R s m args below meth c H1 locs1 cells slots Q (F0 m (pc + 1) ls rest)) : W p l e R s m args below meth c H locs cells slots Q (F0 m pc ls (.long x :: .int 0 :: .ref o :: rest)) := by
  have hin : vp_in (0 : Int32) 1 := vin (by decide) (by decide)
  refine W.last hexec hb (show H[o]? = some (vp_cell cJ (1, .inr (.inl f))) from hO) ((hK.2 0 _ rfl).1 1 (fun j => .long (f j))) (fun q => by cases q) (by show ¬ ((0 : Int32) < 0 ∨ (arrV _ _ _).slots.size ≤ _); rw [arrV_size]; exact hin) rfl rfl hdg fun H1 e z oq => ?_
  refine kk H1 _ (vp_updL f (0 : Int32).toNatClampNeg x) ?_ oq (hS.put z oq ho)
  show H1[o]? = some (vp_cell cJ (1, .inr (.inl (vp_updL f (0 : Int32).toNatClampNeg x))))
  rw [e]
  rw [vp_cell_l, vp_cell_l, arrV_store]
  rfl
end LD
set_option maxHeartbeats 4000000 in
set_option maxRecDepth 100000 in
theorem k_L_told (l : Launch) (hl9 : l.stackTraces = false) (D : va_G) (B : Nat → ClassId) (L : QL) (o : Nat) (cJ : ClassId) (f : Nat → Int64) (σ : QS) (τ : Int64) (a b : Int32) (sa1 sa2 : Nat) (hI : InvC σ) : Met l yL_told wsL_told { frames := 7, cells := 1, slots := 6, locals := 120 } (va_Pc [.ref (L 0 0), .int a, .int b, .ref o] (PcH D B L o cJ f σ τ sa1 sa2)) (QcH D B L o cJ σ τ) 1 6 (AH L o) := by
  refine oM_ofWH (cc := cL_told) (maxL := 5) (ret := some .int) (hh := [(0, 10, 13, 13)]) (by decide) rfl ?_
  intro p e s m args below meth c s₁ B9 hml hv
  obtain ⟨rfl, ⟨⟨hH, K⟩, hT⟩, hO, hKo, hno, hcs⟩ := hv
  rw [lg_entry_eq]
  have S : CallFix p m c cL_told 5 s [.ref (L 0 0), .int a, .int b, .ref o].toArray wsL_told RL := ⟨B9.exec, B9.bytes, hml, findClass_of_methodNamed B9.named, atoms_spec (ws := wsL_told) B9.pre⟩
  have hr : meth.sig.returnType = some .int := B9.returns
  have hk : meth.locks = false := B9.notSynchronized
  have htab : c.exceptionTable.toList = tableOf [(0, 10, 13, 13)] := vx_table (x := yL_told) B9 (S.2.2.2.2 _ List.mem_cons_self)
  have hS : va_S (AH L o) s.heap s.heap [] := va_S.rf
  have hl := lv_entry [.ref (L 0 0), .int a, .int b, .ref o] (n := 5) (Nat.le_of_ble_eq_true rfl)
  revert hl
  generalize (lg_sl [.ref (L 0 0), .int a, .int b, .ref o] ++ List.replicate (5 - (lg_sl [.ref (L 0 0), .int a, .int b, .ref o]).length) Slot.unset).toArray = ls
  intro hl
  have hl : lv_has ls 5 [(0, .ref (L 0 0)), (1, .int a), (2, .int b), (3, .ref o)] := hl
  have hol : o < s.heap.size := va_at.lt hO
  refine lv_aload_n S.1 S.2.1 dL_told_0 rfl (lv_at hl 3 rfl) ?_
  refine lv_iconst (v := 0) S.1 S.2.1 dL_told_1 (by decide) ?_
  refine lv_aload_n S.1 S.2.1 dL_told_2 rfl (lv_at hl 0 rfl) ?_
  refine lv_iload_n S.1 S.2.1 dL_told_3 rfl (lv_at hl 1 rfl) ?_
  refine lv_iload_n S.1 S.2.1 dL_told_4 rfl (lv_at hl 2 rfl) ?_
  refine oT_back (A := AW cntC L) (vx_runV (As := [.int a, .int b]) (rest := [.int 0, .ref o]) S (k_X4_told l hl9 D B L (AW cntC L) σ τ a b sa1 sa2 hI) (cwV 2 S.2.2.2.2 gL_told_X4_told rfl rfl rfl (by decide +kernel) ⟨Nat.le_of_ble_eq_true rfl, Nat.le_of_ble_eq_true rfl⟩)
    ⟨PcT_blind, va_recv K.1 (q_one (hH 0 0 (by decide))) (ci := 4) (q0 := 0) rfl rfl, fun U hU hW => ⟨rfl, ⟨by rw [hU]; exact hH, kW_warm hW K⟩, kT_warm hW (fun q _ _ => by rw [hU]) hT⟩⟩ rfl rfl hl.1 rfl (lv_room (Nat.le_of_ble_eq_true rfl)) dL_told_5 ⟨Nat.le_of_ble_eq_true rfl, Nat.le_of_ble_eq_true rfl⟩) hS (fun q h => Or.inl h) (fun ce q9 H1 locs1 hH hfr hS h1 h2 h3 => ?_) (fun x H1 locs1 hH hfr hS => ?_)
  · have hO1 : va_at D vwCl (o, eO cJ f) H1 := hO.kept (hfr o hol hno)
    refine vx_catch (own := RL) (name := sNSE) (E := sNSE) S.2.2.2.1 [] ⟨0, 10, 13, 13⟩ [] htab (fun z hz => nomatch hz) (by decide) (by decide) (S.2.2.2.2 _ (mG wd_NSEc)) (va_Nw.use rfl hcs) h1 h2 h3 ?_
    refine lv_astore (lv' := [(4, .ref q9), (0, .ref (L 0 0)), (1, .int a), (2, .int b), (3, .ref o)]) S.1 S.2.1 dL_told_13 hl (by decide) rfl (fun ls hl => ?_)
    refine lv_iconst (v := 1) S.1 S.2.1 dL_told_15 (by decide) ?_
    exact W.iret S.1 S.2.1 hr (fun t ht _ => ⟨1, f, rfl, by rw [ht]; exact hH, by rw [ht]; exact hO1, hS.F ht⟩) hS.2.2 dL_told_16 hk
  · have hO1 : va_at D vwCl (o, eO cJ f) H1 := hO.kept (hfr o hol hno)
    refine lv_i2l S.1 S.2.1 dL_told_8 rfl ?_
    refine o_last S.1 S.2.1 hKo hO1 hS (Or.inr rfl) dL_told_9 (fun H2 locs2 f2 hO2 hoq hS2 => ?_)
    have hH2 : hW cntC gC D B L σ τ H2 := q_kept hH (fun k i hi => hoq _ (fun he => hno ⟨k, i, hi, he.symm⟩))
    refine lv_goto (tgt := 17) S.1 S.2.1 dL_told_10 (by decide) ?_
    refine lv_iconst (v := 0) S.1 S.2.1 dL_told_17 (by decide) ?_
    exact W.iret S.1 S.2.1 hr (fun t ht _ => ⟨0, f2, rfl, by rw [ht]; exact hH2, by rw [ht]; exact hO2, hS2.F ht⟩) hS2.2.2 dL_told_18 hk
