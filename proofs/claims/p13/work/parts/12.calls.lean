/-! contracts over a world: any caller that holds the same world -/
abbrev gW : Type := (Nat → ClassId) → QL → QS → Int64 → Nat → Nat → va_E
abbrev pI (q : Int32 → QS → Int64 → Prop) : Option Value → QS → Int64 → Prop := fun r σ τ => ∃ x : Int32, r = some (.int x) ∧ q x σ τ
abbrev pL (q : Int64 → QS → Int64 → Prop) : Option Value → QS → Int64 → Prop := fun r σ τ => ∃ x : Int64, r = some (.long x) ∧ q x σ τ
abbrev pV (q : QS → Int64 → Prop) : Option Value → QS → Int64 → Prop := fun r σ τ => r = none ∧ q σ τ
def QcW (cnt : Nat → Nat) (g : gW) (D : va_G) (B : Nat → ClassId) (L : QL) (A : Nat → Prop) (post : Option Value → QS → Int64 → Prop) : Array Value → State → Outcome → State → Prop := fun _ st oc t => ∃ (r : Option Value) (σ : QS) (τ : Int64), oc = .returned r ∧ post r σ τ ∧ hW cnt g D B L σ τ t.heap ∧ va_F A st t
def PcW (cnt : Nat → Nat) (g : gW) (D : va_G) (B : Nat → ClassId) (L : QL) (A : Nat → Prop) (σ : QS) (τ : Int64) (U : State) : Prop := hW cnt g D B L σ τ U.heap ∧ kW cnt D B L A U
def cW (cnt : Nat → Nat) (g : gW) (l : Launch) (D : va_G) (B : Nat → ClassId) (L : QL) (A : Nat → Prop) (y : MethodName) (ws : List Cond) (fr lo : Nat) (av : List Value) (σ : QS) (τ : Int64) (post : Option Value → QS → Int64 → Prop) : Prop :=
  Met l y ws { frames := fr, cells := 0, slots := 0, locals := lo } (va_Pc av (PcW cnt g D B L A σ τ)) (QcW cnt g D B L A post) 0 0 A
theorem kW_same {cnt : Nat → Nat} {D : va_G} {B : Nat → ClassId} {L : QL} {A : Nat → Prop} {s U : State} (h : s.vm = U.vm) (K : kW cnt D B L A s) : kW cnt D B L A U := ⟨va_K.moved (by rw [h]; exact Vm.Alike.refl _) K.1, K.2.1, va_Nw.same rfl h K.2.2⟩
theorem kW_warm {cnt : Nat → Nat} {D : va_G} {B : Nat → ClassId} {L : QL} {A : Nat → Prop} {s U : State} (h : s.WarmedH U.vm) (K : kW cnt D B L A s) : kW cnt D B L A U := ⟨va_K.moved h.alike K.1, K.2.1, va_Nw.warmM h K.2.2⟩
theorem PcW_blind {cnt : Nat → Nat} {g : gW} {D : va_G} {B : Nat → ClassId} {L : QL} {A : Nat → Prop} {σ : QS} {τ : Int64} {av : List Value} : FrameBlind (va_Pc av (PcW cnt g D B L A σ τ)) := fun a U g9 mk q => ⟨q.1, q.2.1, kW_same (s := U) rfl q.2.2⟩
section QC
variable {p : Program} {l : Launch} {e : Env} {R : Room} {s : State} {m : MethodId} {args : Array Value} {below : List Frame} {meth : Method} {c : Code} {H : Heap} {locs : List Loc} {Q : State → Prop}
variable {cc bytes : ByteArray} {pc nL maxL fr lo index n : Nat} {ls : Array Slot} {rest st0 As av : List Value} {D : va_G} {B : Nat → ClassId} {L : QL} {A : Nat → Prop} {Ts ws ws' : List Cond} {own C : String} {σ : QS} {τ : Int64} {cnt : Nat → Nat} {g : gW} {y : MethodName} {ret : Option FieldType} {post : Option Value → QS → Int64 → Prop} {a : Array Value}
theorem cW_of (hy : plainName y.cls = true) (hw : ws = Cond.code y cc nL ret :: ws') (hn : (lg_sl av).length ≤ nL)
    (body : ∀ (p : Program) (e : Env) (s : State) (m : MethodId) (below : List Frame) (meth : Method) (c : Code), CallFix p m c cc nL s av.toArray ws y.cls → meth.sig.returnType = ret → meth.locks = false → kW cnt D B L A s → hW cnt g D B L σ τ s.heap → va_S A s.heap s.heap [] → ∀ ls : Array Slot, lv_has ls nL (lv_args 0 av) →
      W p l e { frames := fr, cells := 0, slots := 0, locals := lo } s m av.toArray below meth c s.heap [] 0 0 (MQ below (QcW cnt g D B L A post) av.toArray s 0 0 A) (F0 m 0 ls [])) : cW cnt g l D B L A y ws fr lo av σ τ post := by
  refine Met.ofW (cc := cc) (maxL := nL) (ret := ret) hy hw ?_
  intro p e s m args below meth c s₁ B9 hml hv
  obtain ⟨rfl, hH, hK⟩ := hv
  rw [lg_entry_eq]
  exact body p e s m below meth c ⟨B9.exec, B9.bytes, hml, findClass_of_methodNamed B9.named, atoms_spec (ws := ws) B9.pre⟩ B9.returns B9.notSynchronized hK hH va_S.rf _ (lv_entry av hn)
theorem cW_iret (S : CallFix p m c cc nL s args Ts own) (hr : meth.sig.returnType = some .int) (hk : meth.locks = false) (hH : hW cnt g D B L σ τ H) (hS : va_S A s.heap H locs) {v : Int32} (hp : post (some (.int v)) σ τ) (hdg : decode cc pc = .ok (.ireturn, 1)) : W p l e R s m args below meth c H locs 0 0 (MQ below (QcW cnt g D B L A post) args s 0 0 A) (F0 m pc ls [.int v]) :=
  W.iret S.1 S.2.1 hr (fun t ht _ => ⟨some (.int v), σ, τ, rfl, hp, by rw [ht]; exact hH, hS.F ht⟩) hS.2.2 hdg hk
theorem cW_zret (S : CallFix p m c cc nL s args Ts own) (hr : meth.sig.returnType = some .boolean) (hk : meth.locks = false) (hH : hW cnt g D B L σ τ H) (hS : va_S A s.heap H locs) {v : Int32} (hz : narrow .boolean (.int v) = .int v) (hp : post (some (.int v)) σ τ) (hdg : decode cc pc = .ok (.ireturn, 1)) : W p l e R s m args below meth c H locs 0 0 (MQ below (QcW cnt g D B L A post) args s 0 0 A) (F0 m pc ls [.int v]) :=
  W.zret S.1 S.2.1 hr hz (fun t ht _ => ⟨some (.int v), σ, τ, rfl, hp, by rw [ht]; exact hH, hS.F ht⟩) hS.2.2 hdg hk
theorem cW_lret (S : CallFix p m c cc nL s args Ts own) (hr : meth.sig.returnType = some .long) (hk : meth.locks = false) (hH : hW cnt g D B L σ τ H) (hS : va_S A s.heap H locs) {v : Int64} (hp : post (some (.long v)) σ τ) (hdg : decode cc pc = .ok (.lreturn, 1)) : W p l e R s m args below meth c H locs 0 0 (MQ below (QcW cnt g D B L A post) args s 0 0 A) (F0 m pc ls [.long v]) :=
  W.lret S.1 S.2.1 hr (fun t ht _ => ⟨some (.long v), σ, τ, rfl, hp, by rw [ht]; exact hH, hS.F ht⟩) hS.2.2 hdg hk
theorem cW_vret (S : CallFix p m c cc nL s args Ts own) (hr : meth.sig.returnType = none) (hk : meth.locks = false) (hH : hW cnt g D B L σ τ H) (hS : va_S A s.heap H locs) (hp : post none σ τ) (hdg : decode cc pc = .ok (.return_, 1)) : W p l e R s m args below meth c H locs 0 0 (MQ below (QcW cnt g D B L A post) args s 0 0 A) (F0 m pc ls []) :=
  W.vret S.1 S.2.1 hr (fun t ht _ => ⟨none, σ, τ, rfl, hp, by rw [ht]; exact hH, hS.F ht⟩) hS.2.2 hdg hk
theorem cW_back (hr : va_Run p l e R s m args below meth c H locs 0 0 0 0 (F0 m pc ls st0) rest (QcW cnt g D B L A post a) A) (hS : va_S A s.heap H locs)
    (kk : ∀ (r : Option Value) (σ : QS) (τ : Int64) (H1 : Heap) (locs1 : List Loc), post r σ τ → hW cnt g D B L σ τ H1 → va_S A s.heap H1 locs1 → W p l e R s m args below meth c H1 locs1 0 0 Q (F0 m (pc + 3) ls (r.toList ++ rest))) : W p l e R s m args below meth c H locs 0 0 Q (F0 m pc ls st0) := by
  intro T hT X
  obtain ⟨v, st₀, t, T', L9, h0, X', hL, e1, -, ⟨r, σ', τ', hv, hp, hh, hz, hk⟩, st⟩ := hr T hT X
  cases hv
  rw [h0] at hz hk
  obtain ⟨t2, a1, b1⟩ := kk v σ' τ' T'.heap (locs ++ L9) hp (by rw [e1]; exact hh) ⟨Nat.le_trans hS.1 (by rw [e1]; exact hz), fun q h1 h2 => by rw [e1, hk q (Nat.lt_of_lt_of_le h1 hS.1) h2]; exact hS.2.1 q h1 h2, fun q hq => by
      rcases List.mem_append.mp hq with h | h
      · exact hS.2.2 q h
      · exact hL q h⟩ T' rfl X'
  exact ⟨t2, st t2 a1, b1⟩
theorem cW_bi {q : Int32 → QS → Int64 → Prop} (hr : va_Run p l e R s m args below meth c H locs 0 0 0 0 (F0 m pc ls st0) rest (QcW cnt g D B L A (pI q) a) A) (hS : va_S A s.heap H locs)
    (kk : ∀ (x : Int32) (σ : QS) (τ : Int64) (H1 : Heap) (locs1 : List Loc), q x σ τ → hW cnt g D B L σ τ H1 → va_S A s.heap H1 locs1 → W p l e R s m args below meth c H1 locs1 0 0 Q (F0 m (pc + 3) ls (.int x :: rest))) : W p l e R s m args below meth c H locs 0 0 Q (F0 m pc ls st0) :=
  cW_back hr hS (fun r σ τ H1 locs1 hp hh hs => by obtain ⟨x, rfl, h⟩ := hp; exact kk x σ τ H1 locs1 h hh hs)
theorem cW_bl {q : Int64 → QS → Int64 → Prop} (hr : va_Run p l e R s m args below meth c H locs 0 0 0 0 (F0 m pc ls st0) rest (QcW cnt g D B L A (pL q) a) A) (hS : va_S A s.heap H locs)
    (kk : ∀ (x : Int64) (σ : QS) (τ : Int64) (H1 : Heap) (locs1 : List Loc), q x σ τ → hW cnt g D B L σ τ H1 → va_S A s.heap H1 locs1 → W p l e R s m args below meth c H1 locs1 0 0 Q (F0 m (pc + 3) ls (.long x :: rest))) : W p l e R s m args below meth c H locs 0 0 Q (F0 m pc ls st0) :=
  cW_back hr hS (fun r σ τ H1 locs1 hp hh hs => by obtain ⟨x, rfl, h⟩ := hp; exact kk x σ τ H1 locs1 h hh hs)
theorem cW_bv {q : QS → Int64 → Prop} (hr : va_Run p l e R s m args below meth c H locs 0 0 0 0 (F0 m pc ls st0) rest (QcW cnt g D B L A (pV q) a) A) (hS : va_S A s.heap H locs)
    (kk : ∀ (σ : QS) (τ : Int64) (H1 : Heap) (locs1 : List Loc), q σ τ → hW cnt g D B L σ τ H1 → va_S A s.heap H1 locs1 → W p l e R s m args below meth c H1 locs1 0 0 Q (F0 m (pc + 3) ls rest)) : W p l e R s m args below meth c H locs 0 0 Q (F0 m pc ls st0) :=
  cW_back hr hS (fun r σ τ H1 locs1 hp hh hs => by obtain ⟨rfl, h⟩ := hp; exact kk σ τ H1 locs1 h hh hs)
theorem cW_bpi {q : Int32 → Prop} (hr : va_Run p l e R s m args below meth c H locs 0 0 0 0 (F0 m pc ls st0) rest (QcW cnt g D B L A (pI (fun x σ' τ' => σ' = σ ∧ τ' = τ ∧ q x)) a) A) (hS : va_S A s.heap H locs)
    (kk : ∀ (x : Int32) (H1 : Heap) (locs1 : List Loc), q x → hW cnt g D B L σ τ H1 → va_S A s.heap H1 locs1 → W p l e R s m args below meth c H1 locs1 0 0 Q (F0 m (pc + 3) ls (.int x :: rest))) : W p l e R s m args below meth c H locs 0 0 Q (F0 m pc ls st0) :=
  cW_bi hr hS (fun x σ1 τ1 H1 locs1 hp hh hs => kk x H1 locs1 hp.2.2 (by rw [← hp.1, ← hp.2.1]; exact hh) hs)
theorem cW_bpl {q : Int64 → Prop} (hr : va_Run p l e R s m args below meth c H locs 0 0 0 0 (F0 m pc ls st0) rest (QcW cnt g D B L A (pL (fun x σ' τ' => σ' = σ ∧ τ' = τ ∧ q x)) a) A) (hS : va_S A s.heap H locs)
    (kk : ∀ (x : Int64) (H1 : Heap) (locs1 : List Loc), q x → hW cnt g D B L σ τ H1 → va_S A s.heap H1 locs1 → W p l e R s m args below meth c H1 locs1 0 0 Q (F0 m (pc + 3) ls (.long x :: rest))) : W p l e R s m args below meth c H locs 0 0 Q (F0 m pc ls st0) :=
  cW_bl hr hS (fun x σ1 τ1 H1 locs1 hp hh hs => kk x H1 locs1 hp.2.2 (by rw [← hp.1, ← hp.2.1]; exact hh) hs)
/-- invokevirtual on an object of the world -/
theorem cW_V (S : CallFix p m c cc nL s args Ts own) (K : kW cnt D B L A s) (hH : hW cnt g D B L σ τ H) {T : u_T} {N ci k i : Nat} {fs : List Value} (hi : i < cnt k) (hG : g B L σ τ k i = .inr (ci, fs)) (hc : vwCl[ci]? = some (C, T, N)) (hM : cW cnt g l D B L A y ws fr lo (.ref (L k i) :: As) σ τ post) (gw : GoodIn Ts (wsV own index C y ws)) (hw : ws = Cond.code y bytes maxL ret :: ws') (hd : y.cls = C ∧ y.cls ≠ "java/lang/invoke/MethodHandle" ∧ y.cls ≠ "java/lang/invoke/VarHandle" ∧ (parseMethodDescriptor y.desc).map (fun d => d.parameters.length) = some n) (hR : fr + 1 ≤ R.frames ∧ 8 + (maxL + 11) + lo ≤ R.locals) (hn : As.length = n) (hsz : ls.size = nL) (hcat : (rest.map fun v => v.category).sum ≤ 8) (hdg : decode cc pc = .ok (.invokevirtual index, 3)) :
    va_Run p l e R s m args below meth c H locs 0 0 0 0 (F0 m pc ls (As.reverse ++ .ref (L k i) :: rest)) rest (QcW cnt g D B L A post (Value.ref (L k i) :: As).toArray) A :=
  va_runV (As := As) (rest := rest) S hM (cwV n S.2.2.2.2 gw hw rfl rfl hd hR) ⟨PcW_blind, va_recv K.1 (q_one (by rw [← hG]; exact hH k i hi)) hc (q0 := 0) rfl, fun U hU hW => ⟨rfl, by rw [hU]; exact hH, kW_warm hW K⟩⟩ rfl hn hsz rfl (lv_room hcat) hdg ⟨Nat.zero_le _, Nat.zero_le _⟩
/-- invokestatic -/
theorem cW_S (S : CallFix p m c cc nL s args Ts own) (K : kW cnt D B L A s) (hH : hW cnt g D B L σ τ H) (hM : cW cnt g l D B L A y ws fr lo As σ τ post) (gw : GoodIn Ts (va_wsS own index y ws)) (hw : ws = Cond.code y bytes maxL ret :: ws') (hd : y.cls ≠ "java/lang/invoke/MethodHandle" ∧ y.cls ≠ "java/lang/invoke/VarHandle" ∧ (parseMethodDescriptor y.desc).map (fun d => d.parameters.length) = some n) (hR : fr + 1 ≤ R.frames ∧ 8 + (maxL + 11) + lo ≤ R.locals) (hn : As.length = n) (hsz : ls.size = nL) (hcat : (rest.map fun v => v.category).sum ≤ 8) (hdg : decode cc pc = .ok (.invokestatic index, 3)) :
    va_Run p l e R s m args below meth c H locs 0 0 0 0 (F0 m pc ls (As.reverse ++ rest)) rest (QcW cnt g D B L A post As.toArray) A :=
  va_runS (As := As) (rest := rest) S hM (va_cwS n S.2.2.2.2 gw hw rfl rfl hd hR) ⟨PcW_blind, fun U hU hW => ⟨rfl, by rw [hU]; exact hH, kW_warm hW K⟩⟩ rfl hn hsz rfl (lv_room hcat) hdg ⟨Nat.zero_le _, Nat.zero_le _⟩
/-- invokestatic of CarrierNet.isIn out of Cart, a nest mate -/
theorem cW_SN (S : CallFix p m c cc nL s args Ts RX0) (K : kW cnt D B L A s) (hH : hW cnt g D B L σ τ H) (hM : cW cnt g l D B L A yX4_isIn ws fr lo As σ τ post) (gw : GoodIn Ts ws) (hst : (Cond.static yX4_isIn).before args s = true) (hini : (Cond.initialized RX4).before args s = true) (hw : ws = Cond.code yX4_isIn bytes maxL ret :: ws') (hd : yX4_isIn.cls ≠ "java/lang/invoke/MethodHandle" ∧ yX4_isIn.cls ≠ "java/lang/invoke/VarHandle" ∧ (parseMethodDescriptor yX4_isIn.desc).map (fun d => d.parameters.length) = some n) (hR : fr + 1 ≤ R.frames ∧ 8 + (maxL + 11) + lo ≤ R.locals) (hn : As.length = n) (hsz : ls.size = nL) (hcat : (rest.map fun v => v.category).sum ≤ 8) (hdg : decode cc pc = .ok (.invokestatic 46, 3)) :
    va_Run p l e R s m args below meth c H locs 0 0 0 0 (F0 m pc ls (As.reverse ++ rest)) rest (QcW cnt g D B L A post As.toArray) A :=
  va_runSN (As := As) (rest := rest) S hM ⟨va_cnB n S.2.2.2.2 gw hw rfl rfl K.2.2 hini hd hR, hst, trivial⟩ ⟨PcW_blind, fun U hU hW => ⟨rfl, by rw [hU]; exact hH, kW_warm hW K⟩⟩ rfl hn hsz rfl (lv_room hcat) hdg ⟨Nat.zero_le _, Nat.zero_le _⟩
end QC
