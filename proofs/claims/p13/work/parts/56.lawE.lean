/-! the law's own world: what holds of its frame, what its calls do to it -/
def LWd (D : va_G) (B : Nat → ClassId) (LC LM : QL) (o : Nat) (cJ : ClassId) (σ : QS) (τ : Int64) (σM : QS) (τM : Int64) (H : Heap) : Prop := hW cntC gC D B LC σ τ H ∧ hW cntM gM D B LM σM τM H ∧ ∃ f, va_at D vwCl (o, eO cJ f) H
def LKd (D : va_G) (B : Nat → ClassId) (LC LM : QL) (o : Nat) (cJ : ClassId) (sa1 sa2 : Nat) (s : State) : Prop :=
  kW cntC D B LC (AW cntC LC) s ∧ kW cntM D B LM (AW cntM LM) s ∧ (∀ q, AW cntC LC q → s.heap.size ≤ q ∧ ¬ AW cntM LM q ∧ q ≠ o) ∧ (∀ q, AW cntM LM q → s.heap.size ≤ q ∧ q ≠ o) ∧ s.heap.size ≤ o ∧ va_K D vwCl [(cJ, .long)] s ∧ kT (fun q => s.heap.size ≤ q) sa1 sa2 s ∧ va_Nw (.castable sNSE sNSE) s
/-- what is the same on both sides, call by call -/
def Tie (σ : QS) (τ : Int64) (σM : QS) (k : Nat) : Prop := InvC σ ∧ InvM σM ∧ (∀ s : Nat, σM 33 0 s = 0) ∧ (σ 0 0 0).toInt = (σM 4 0 0).toInt ∧ (σ 1 0 0).toInt = (σM 1 0 0).toInt ∧ (σ 3 0 0).toInt = (σM 2 0 0).toInt ∧ TSn (σ 2) (σ 29) (σM 3) (σM 13) ∧ TEr σ τ σM ∧ σM 32 0 0 = 0 ∧ TNk σ σM k
theorem tie_up {σ σM : QS} {τ : Int64} {k : Nat} (hT : Tie σ τ σM k) : Tie σ τ σM (k + 1) := by
  obtain ⟨t1, t2, t3, t4, t5, t6, t7, t8, t9, N, n, t10⟩ := hT
  exact ⟨t1, t2, t3, t4, t5, t6, t7, t8, t9, N, n, TN_of t10 (fun _ _ => rfl) (fun _ _ => rfl)⟩
theorem tie_of {σ σM σ' σM' : QS} {τ τ' : Int64} {k : Nat} (hT : Tie σ τ σM k) (h1 : InvC σ') (h2 : InvM σM') (h3 : σM' 33 = σM 33) (e0 : (σ' 0 0 0).toInt = (σM' 4 0 0).toInt) (e1 : (σ' 1 0 0).toInt = (σM' 1 0 0).toInt) (e3 : (σ' 3 0 0).toInt = (σM' 2 0 0).toInt) (e4 : TSn (σ' 2) (σ' 29) (σM' 3) (σM' 13)) (e5 : TEr σ' τ' σM') (e6 : σM' 32 0 0 = 0) (e7 : TNk σ' σM' (k + 1)) : Tie σ' τ' σM' (k + 1) := ⟨h1, h2, by rw [h3]; exact hT.2.2.1, e0, e1, e3, e4, e5, e6, e7⟩
section LE
variable {p : Program} {l : Launch} {e : Env} {s : State} {m : MethodId} {args : Array Value} {below : List Frame} {meth : Method} {c : Code} {H : Heap} {locs : List Loc} {cells slots : Nat} {Q : State → Prop}
variable {bytes : ByteArray} {pc maxL fr lo index n b Ls : Nat} {ls : Array Slot} {rest st0 As : List Value} {D : va_G} {B : Nat → ClassId} {LC LM : QL} {o : Nat} {cJ : ClassId} {sa1 sa2 : Nat} {ws ws' : List Cond} {σ σM : QS} {τ τM : Int64} {y : MethodName} {ret : Option FieldType} {xs : Nat → Int32}
theorem LW_C {σ' : QS} {τ' : Int64} {H1 : Heap} (K : LKd D B LC LM o cJ sa1 sa2 s) (hL : LWd D B LC LM o cJ σ τ σM τM H) (hh : hW cntC gC D B LC σ' τ' H1) (hfr : ∀ q : Nat, q < H.size → ¬ AW cntC LC q → H1[q]? = H[q]?) : LWd D B LC LM o cJ σ' τ' σM τM H1 := by
  obtain ⟨h1, h2, f, hO⟩ := hL
  exact ⟨hh, q_kept h2 (fun k i hi => hfr _ (h2 k i hi).lt (fun h => (K.2.2.1 _ h).2.1 ⟨k, i, hi, rfl⟩)), f, hO.kept (hfr o (va_at.lt hO) (fun h => (K.2.2.1 _ h).2.2 rfl))⟩
theorem LW_M {σ' : QS} {τ' : Int64} {H1 : Heap} (K : LKd D B LC LM o cJ sa1 sa2 s) (hL : LWd D B LC LM o cJ σ τ σM τM H) (hh : hW cntM gM D B LM σ' τ' H1) (hfr : ∀ q : Nat, q < H.size → ¬ AW cntM LM q → H1[q]? = H[q]?) : LWd D B LC LM o cJ σ τ σ' τ' H1 := by
  obtain ⟨h1, h2, f, hO⟩ := hL
  exact ⟨q_kept h1 (fun k i hi => hfr _ (h1 k i hi).lt (K.2.2.1 _ ⟨k, i, hi, rfl⟩).2.1), hh, f, hO.kept (hfr o (va_at.lt hO) (fun h => (K.2.2.2.1 _ h).2 rfl))⟩
theorem lw_C {post : Option Value → QS → Int64 → Prop} (S : CallFix p m c cL_law 7 s args wsL_law RL) (K : LKd D B LC LM o cJ sa1 sa2 s) (hL : LWd D B LC LM o cJ σ τ σM τM H) (hS : va_S (fun q => s.heap.size ≤ q) s.heap H locs) (hM : cW cntC gC l D B LC (AW cntC LC) y ws fr lo (.ref (LC 0 0) :: As) σ τ post) (gw : GoodIn wsL_law (wsV RL index RX4 y ws)) (hw : ws = Cond.code y bytes maxL ret :: ws') (hd : y.cls = RX4 ∧ y.cls ≠ "java/lang/invoke/MethodHandle" ∧ y.cls ≠ "java/lang/invoke/VarHandle" ∧ (parseMethodDescriptor y.desc).map (fun d => d.parameters.length) = some n) (hR : fr + 1 ≤ room_1.frames ∧ 8 + (maxL + 11) + lo ≤ room_1.locals) (hn : As.length = n) (hsz : ls.size = 7) (hcat : (rest.map fun v => v.category).sum ≤ 8) (hdg : decode cL_law pc = .ok (.invokevirtual index, 3)) (hf : cells ≤ room_1.cells ∧ slots ≤ room_1.slots)
    (kk : ∀ (r : Option Value) (σ' : QS) (τ' : Int64) (H1 : Heap) (locs1 : List Loc), post r σ' τ' → LWd D B LC LM o cJ σ' τ' σM τM H1 → va_S (fun q => s.heap.size ≤ q) s.heap H1 locs1 → W p l e room_1 s m args below meth c H1 locs1 cells slots Q (F0 m (pc + 3) ls (r.toList ++ rest))) : W p l e room_1 s m args below meth c H locs cells slots Q (F0 m pc ls (As.reverse ++ .ref (LC 0 0) :: rest)) :=
  lC_back (lC_V (k := 0) (i := 0) (ci := 4) S K.1 hL.1 (by decide) rfl rfl hM gw hw hd hR hn hsz hcat hdg hf) hS (fun q h => (K.2.2.1 q h).1) (fun r σ' τ' H1 locs1 hp hh hfr hs => kk r σ' τ' H1 locs1 hp (LW_C K hL hh hfr) hs)
theorem lw_M {post : Option Value → QS → Int64 → Prop} (S : CallFix p m c cL_law 7 s args wsL_law RL) (K : LKd D B LC LM o cJ sa1 sa2 s) (hL : LWd D B LC LM o cJ σ τ σM τM H) (hS : va_S (fun q => s.heap.size ≤ q) s.heap H locs) (hM : cW cntM gM l D B LM (AW cntM LM) y ws fr lo (.ref (LM 0 0) :: As) σM τM post) (gw : GoodIn wsL_law (wsV RL index RX5 y ws)) (hw : ws = Cond.code y bytes maxL ret :: ws') (hd : y.cls = RX5 ∧ y.cls ≠ "java/lang/invoke/MethodHandle" ∧ y.cls ≠ "java/lang/invoke/VarHandle" ∧ (parseMethodDescriptor y.desc).map (fun d => d.parameters.length) = some n) (hR : fr + 1 ≤ room_1.frames ∧ 8 + (maxL + 11) + lo ≤ room_1.locals) (hn : As.length = n) (hsz : ls.size = 7) (hcat : (rest.map fun v => v.category).sum ≤ 8) (hdg : decode cL_law pc = .ok (.invokevirtual index, 3)) (hf : cells ≤ room_1.cells ∧ slots ≤ room_1.slots)
    (kk : ∀ (r : Option Value) (σ' : QS) (τ' : Int64) (H1 : Heap) (locs1 : List Loc), post r σ' τ' → LWd D B LC LM o cJ σ τ σ' τ' H1 → va_S (fun q => s.heap.size ≤ q) s.heap H1 locs1 → W p l e room_1 s m args below meth c H1 locs1 cells slots Q (F0 m (pc + 3) ls (r.toList ++ rest))) : W p l e room_1 s m args below meth c H locs cells slots Q (F0 m pc ls (As.reverse ++ .ref (LM 0 0) :: rest)) :=
  lC_back (lC_V (k := 0) (i := 0) (ci := 5) S K.2.1 hL.2.1 (by decide) rfl rfl hM gw hw hd hR hn hsz hcat hdg hf) hS (fun q h => (K.2.2.2.1 q h).1) (fun r σ' τ' H1 locs1 hp hh hfr hs => kk r σ' τ' H1 locs1 hp (LW_M K hL hh hfr) hs)
theorem lw_T (S : CallFix p m c cL_law 7 s args wsL_law RL) (hl9 : l.stackTraces = false) (K : LKd D B LC LM o cJ sa1 sa2 s) (hL : LWd D B LC LM o cJ σ τ σM τM H) (hS : va_S (fun q => s.heap.size ≤ q) s.heap H locs) (hI : InvC σ) {a1 a2 : Int32} (gw : GoodIn wsL_law (va_wsS RL index yL_told wsL_told)) (hsz : ls.size = 7) (hdg : decode cL_law pc = .ok (.invokestatic index, 3)) (hf : cells + 1 ≤ room_1.cells ∧ slots + 6 ≤ room_1.slots)
    (kk : ∀ (x : Int32) (H1 : Heap) (locs1 : List Loc), LWd D B LC LM o cJ σ τ σM τM H1 → va_S (fun q => s.heap.size ≤ q) s.heap H1 locs1 → W p l e room_1 s m args below meth c H1 locs1 (cells + 1) (slots + 6) Q (F0 m (pc + 3) ls [.int x])) : W p l e room_1 s m args below meth c H locs cells slots Q (F0 m pc ls [.ref o, .int a2, .int a1, .ref (LC 0 0)]) := by
  obtain ⟨h1, h2, f, hO⟩ := id hL
  have hr := vx_runSW (e := e) (below := below) (meth := meth) (locs := locs) (g := F0 m pc ls [.ref o, .int a2, .int a1, .ref (LC 0 0)]) (As := [.ref (LC 0 0), .int a1, .int a2, .ref o]) (rest := []) S (k_L_told l hl9 D B LC o cJ f σ τ a1 a2 sa1 sa2 hI) (vx_cwSW (R := room_1) 4 S.2.2.2.2 gw rfl rfl rfl (by decide +kernel) ⟨Nat.le_of_ble_eq_true rfl, Nat.le_of_ble_eq_true rfl⟩)
    ⟨PcH_blind, fun U hU hW => ⟨rfl, ⟨⟨by rw [hU]; exact h1, kW_warm hW K.1⟩, kT_narrow (fun q h => (K.2.2.1 q h).1) (kT_warm hW (fun q hq hn => by rw [hU]; exact hS.2.1 q hq hn) K.2.2.2.2.2.2.1)⟩, by rw [hU]; exact hO, va_K.moved hW.alike K.2.2.2.2.2.1, fun h => (K.2.2.1 _ h).2.2 rfl, va_Nw.warmC hW K.2.2.2.2.2.2.2⟩⟩ rfl rfl hsz rfl (lv_room (Nat.zero_le _)) hdg hf
  intro T hT X
  obtain ⟨v, st₀, t, T', L9, h0, X', hL9, e1, -, ⟨r, f', hv, hh, hO', hF⟩, st⟩ := hr T hT X
  cases hv
  have hA : ∀ q, AH LC o q → (fun q => s.heap.size ≤ q) q := fun q h => h.elim (fun h => (K.2.2.1 q h).1) (fun h => by rw [h]; exact K.2.2.2.2.1)
  obtain ⟨k1, k2, k3⟩ := s_keep h0 e1 hS hA hL9 hF
  obtain ⟨t2, b1, b2⟩ := kk r T'.heap (locs ++ L9) ⟨by rw [e1]; exact hh, q_kept h2 (fun k i hi => k2 _ (h2 k i hi).lt (fun h => h.elim (fun h => (K.2.2.1 _ h).2.1 ⟨k, i, hi, rfl⟩) (fun h => (K.2.2.2.1 _ ⟨k, i, hi, rfl⟩).2 h))), f', by rw [e1]; exact hO'⟩ k3 T' rfl X'
  exact ⟨t2, st t2 b1, b2⟩
/-- script[i + k] -/
theorem lw_arg {x4 k : Int32} (S : CallFix p m c cL_law 7 s args wsL_law RL) (hX : va_X b Ls xs s s.heap) (hbl : b < s.heap.size) (hS : va_S (fun q => s.heap.size ≤ q) s.heap H locs) (h0 : ls[0]? = some (.val (.ref b))) (h4 : ls[4]? = some (.val (.int x4))) (hin : vp_in (x4 + k) Ls)
    (d0 : decode cL_law pc = .ok (.aload_n 0, 1)) (d1 : decode cL_law (pc + 1) = .ok (.iload 4, 2)) {kk9 : Int} (d3 : decode cL_law (pc + 3) = .ok (.iconst kk9, 1)) (hk : Int32.ofInt kk9 = k) (d4 : decode cL_law (pc + 4) = .ok (.iadd, 1)) (d5 : decode cL_law (pc + 5) = .ok (.iaload, 1))
    (kk : W p l e room_1 s m args below meth c H locs cells slots Q (F0 m (pc + 6) ls (.int (xs (x4 + k).toNatClampNeg) :: rest))) : W p l e room_1 s m args below meth c H locs cells slots Q (F0 m pc ls rest) := by
  refine lv_aload_n S.1 S.2.1 d0 rfl h0 ?_
  refine lv_iload S.1 S.2.1 d1 h4 ?_
  refine lv_iconst (v := k) S.1 S.2.1 d3 hk ?_
  refine lv_iadd S.1 S.2.1 d4 ?_
  refine va_sld S.1 S.2.1 hX hbl (Nat.not_le.mpr hbl) hS hin d5 ?_
  exact kk
end LE
