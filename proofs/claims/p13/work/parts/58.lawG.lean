/-! the law's loop -/
def R_law : String := "CarrierNetLaw"
def lw_P (b : Addr) (xs : List Int32) (args : Array Value) (s : State) : Prop := args = #[.ref b] ∧ s.IntsAt b xs ∧ xs.length ≤ 3072 ∧ (Jvm.Cond.and given_1 narrow_1).before args s = true
def lw_Q (_ : Array Value) (s : State) (o : Outcome) (t : State) : Prop := o = .returned (some (.int 1)) ∧ Framed s o t [] 601024 7293034
def lw_Z (below : List Frame) (a : Array Value) (s : State) : State → Prop := fun t => ∃ o, t.status = .running ∧ Ended t below o ∧ lw_Q a s o t
/-- the law's own end, with 1 on the stack, nothing written that was there before, its room as the claim has it -/
theorem lw_ret {p : Program} {l : Launch} {e : Env} {s : State} {m : MethodId} {below : List Frame} {meth : Method} {c : Code} {b : Nat} (hx : p.tables.exec = Jvm.exec) (hb : c.code = code) (hr : meth.sig.returnType = ret) (hlocks : meth.locks = false) {pc : Nat} {H : Heap} {ls : Array Slot} (hdg : decode code pc = .ok (.ireturn, 1)) : W p l e room_1 s m #[Value.ref b] below meth c H [] 601024 7293034 (lw_Z below #[Value.ref b] s) (F0 m pc ls [.int 1]) := by
  intro T hT X
  obtain ⟨fs, hret, hrun, hended, hW, hframe⟩ := X.leave (v := some (.int 1)) (hlocks := hlocks) (fun h => by rw [hr] at h; cases h)
  have hmeth' : T.vm.method? m = some meth := X.method'
  refine ⟨T.setFrames fs, ?_, .returned (some (.int 1)), hrun, hended, rfl, ⟨_, rfl⟩, hW, hframe⟩
  jvm_step X.here [X.here.top, hx, hb, hdg, hmeth', hr, ret, narrow_b1]
  (try refine ⟨rfl, ?_⟩); (try refine ⟨rfl, ?_⟩)
  first | (intro acts; rw [hret _ acts rfl rfl rfl]) | rw [hret _ _ rfl rfl rfl]
  exact Steps.refl _
/-- what holds at the law's entry: the machine, the code, the tables' words (any of lw_tbl by 'hts w (by decide +kernel)'), the script of L ints xs at the cell b, what the Statement gives of the start (any of its parts by flat_of_before) -/
def lw_At (p : Program) (s : State) (m : MethodId) (meth : Method) (c : Code) (b L : Nat) (xs : Nat → Int32) : Prop :=
  p.tables.exec = Jvm.exec ∧ c.code = code ∧ meth.sig.returnType = ret ∧ c.maxLocals = 7 ∧ s.vm.findClass R_law = some m.cls ∧ (∀ w ∈ lw_tbl, w.before #[Value.ref b] s = true) ∧ va_X b L xs s s.heap ∧ b < s.heap.size ∧ meth.locks = false ∧ (Jvm.Cond.and given_1 narrow_1).before #[Value.ref b] s = true
theorem ofN_toInt {n : Nat} (h : n < 2147483648) : (Int32.ofNat n).toInt = (n : Int) := Int32.toInt_ofNat_of_lt h
set_option maxHeartbeats 4000000 in
set_option maxRecDepth 100000 in
theorem law_loop {p : Program} {e : Env} {s : State} {m : MethodId} {below : List Frame} {meth : Method} {c : Code} (l : Launch) (hl9 : l.stackTraces = false) {b Ls : Nat} {xs : Nat → Int32} (hL3 : Ls ≤ 3072) (C0 : lw_At p s m meth c b Ls xs) {D : va_G} {B : Nat → ClassId} {LC LM : QL} {o : Nat} {cJ : ClassId} {sa1 sa2 : Nat} (K : LKd D B LC LM o cJ sa1 sa2 s) :
    ∀ (n9 n : Nat) (x4 : Int32) (σ : QS) (τ : Int64) (σM : QS) (τM : Int64) (H : Heap) (locs : List Loc) (ls : Array Slot), x4.toInt = 6 * (n : Int) → x4.toInt ≤ 3072 → ((Ls : Int) - x4.toInt + 6).toNat < n9 → Tie σ τ σM n → LWd D B LC LM o cJ σ τ σM τM H → va_S (fun q => s.heap.size ≤ q) s.heap H locs → lv_has ls 7 (lvL b LC LM o x4) → W p l e room_1 s m #[Value.ref b] below meth c H locs (300 + n) (1010000 + 6 * n) (lw_Z below #[Value.ref b] s) (F0 m 23 ls []) := by
  obtain ⟨hx, hb, hr, hml, hown, hts, hX, hbl, hlocks, hgv⟩ := C0
  have S : CallFix p m c cL_law 7 s #[Value.ref b] wsL_law RL := ⟨hx, hb, hml, hown, fun w h => hts w (wsL_law_in w h)⟩
  intro n9
  induction n9 with
  | zero => intro n x4 σ τ σM τM H locs ls _ _ hms; exact absurd hms (Nat.not_lt_zero _)
  | succ n9 ih =>
    intro n x4 σ τ σM τM H locs ls hn hx4 hms hT hL hS hl
    refine lv_iload S.1 S.2.1 dL_law_23 (lv_at hl 4 rfl) ?_
    refine lv_aload_n S.1 S.2.1 dL_law_25 rfl (lv_at hl 0 rfl) ?_
    refine va_slen S.1 S.2.1 hX hbl (Nat.not_le.mpr hbl) hS dL_law_26 ?_
    refine lv_bipush (v := 6) S.1 S.2.1 dL_law_27 (by decide) ?_
    refine lv_isub S.1 S.2.1 dL_law_29 ?_
    refine lv_topi (fun v1 e1 => ?_)
    have l6 : (6 : Int32).toInt = 6 := by decide
    have l31 : (31 : Int32).toInt = 31 := by decide
    have hLs : (Int32.ofNat Ls).toInt = (Ls : Int) := ofN_toInt (by omega)
    have hv1 : v1.toInt = (Ls : Int) - 6 := by
      have h9 := i_sub e1 (by rw [hLs, l6]; omega) (by rw [hLs, l6]; omega)
      rw [hLs, l6] at h9
      exact h9
    refine lv_icmp_gt (tgt := 955) S.1 S.2.1 dL_law_30 (by decide) (fun c1 => ?_) (fun c1 => ?_)
    · refine lv_iconst (v := 1) S.1 S.2.1 dL_law_955 (by decide) ?_
      refine va_forget (fun q hq => hS.2.2 q hq) ?_
      refine W.widen (k := 601024) (n := 7293034) (by omega) (by omega) ?_
      exact lw_ret hx hb hr hlocks dL_law_956
    · have j1 := t_nlt c1
      have hf : 300 + n ≤ room_1.cells ∧ 1010000 + 6 * n ≤ room_1.slots := ⟨show 300 + n ≤ 601024 by omega, show 1010000 + 6 * n ≤ 7293034 by omega⟩
      have hg : 300 + n + 1 ≤ room_1.cells ∧ 1010000 + 6 * n + 6 ≤ room_1.slots := ⟨show 300 + n + 1 ≤ 601024 by omega, show 1010000 + 6 * n + 6 ≤ 7293034 by omega⟩
      have h0 : vp_in x4 Ls := vin (by omega) (by omega)
      have h1 : vp_in (x4 + 1) Ls := by
        have h9 := i_addc (x := x4) (k := 1) (n := 1) rfl (by decide) (by omega) (by omega)
        exact vin (by omega) (by omega)
      have h2 : vp_in (x4 + 2) Ls := by
        have h9 := i_addc (x := x4) (k := 2) (n := 2) rfl (by decide) (by omega) (by omega)
        exact vin (by omega) (by omega)
      have h3 : vp_in (x4 + 3) Ls := by
        have h9 := i_addc (x := x4) (k := 3) (n := 3) rfl (by decide) (by omega) (by omega)
        exact vin (by omega) (by omega)
      have h4 : vp_in (x4 + 4) Ls := by
        have h9 := i_addc (x := x4) (k := 4) (n := 4) rfl (by decide) (by omega) (by omega)
        exact vin (by omega) (by omega)
      have h5 : vp_in (x4 + 5) Ls := by
        have h9 := i_addc (x := x4) (k := 5) (n := 5) rfl (by decide) (by omega) (by omega)
        exact vin (by omega) (by omega)
      have kk : LCont p l e s m below meth c (300 + n) (1010000 + 6 * n) (lw_Z below #[Value.ref b] s) b D B LC LM o cJ x4 n := by
        intro σ τ σM τM H locs ls hT hL hS hl
        obtain ⟨y4, ey⟩ : ∃ y : Int32, y = x4 + 6 := ⟨_, rfl⟩
        have iy : y4.toInt = x4.toInt + 6 := i_addc ey (by decide) (by omega) (by omega)
        refine lv_iinc (v := y4) (lv' := [(4, .int y4), (0, .ref b), (1, .ref (LC 0 0)), (2, .ref (LM 0 0)), (3, .ref o)]) S.1 S.2.1 dL_law_949 hl (k := 4) rfl (by rw [ey]; rfl) (by decide) rfl (fun ls hl => ?_)
        refine lv_goto (tgt := 23) S.1 S.2.1 dL_law_952 (by decide) ?_
        have e1 : 300 + n + 1 = 300 + (n + 1) := by omega
        have e2 : 1010000 + 6 * n + 6 = 1010000 + 6 * (n + 1) := by omega
        rw [e1, e2]
        exact ih (n + 1) y4 σ τ σM τM H locs ls (by omega) (by omega) (by omega) hT hL hS (lv_sub hl [1, 2, 3, 4, 0] rfl)
      refine lv_aload_n S.1 S.2.1 dL_law_33 rfl (lv_at hl 0 rfl) ?_
      refine lv_iload S.1 S.2.1 dL_law_34 (lv_at hl 4 rfl) ?_
      refine va_sld S.1 S.2.1 hX hbl (Nat.not_le.mpr hbl) hS h0 dL_law_36 ?_
      refine lv_bipush (v := 31) S.1 S.2.1 dL_law_37 (by decide) ?_
      refine lv_iand S.1 S.2.1 dL_law_39 ?_
      refine lv_topi (fun v2 e2 => ?_)
      rcases sw_in v2 0 19 with c2 | ⟨c2, d2⟩
      · refine lv_tableOut (tgt := 949) S.1 S.2.1 dL_law_40 c2 (by decide) ?_
        refine W.widen (k := 300 + n + 1) (n := 1010000 + 6 * n + 6) (by omega) (by omega) ?_
        exact kk σ τ σM τM H locs ls (tie_up hT) hL hS hl
      rcases (show v2.toInt = 0 ∨ v2.toInt = 1 ∨ v2.toInt = 2 ∨ v2.toInt = 3 ∨ v2.toInt = 4 ∨ v2.toInt = 5 ∨ v2.toInt = 6 ∨ v2.toInt = 7 ∨ v2.toInt = 8 ∨ v2.toInt = 9 ∨ v2.toInt = 10 ∨ v2.toInt = 11 ∨ v2.toInt = 12 ∨ v2.toInt = 13 ∨ v2.toInt = 14 ∨ v2.toInt = 15 ∨ v2.toInt = 16 ∨ v2.toInt = 17 ∨ v2.toInt = 18 ∨ v2.toInt = 19 by omega) with f2 | f2 | f2 | f2 | f2 | f2 | f2 | f2 | f2 | f2 | f2 | f2 | f2 | f2 | f2 | f2 | f2 | f2 | f2 | f2
      · refine lv_tableIn (off := 96) (tgt := 136) S.1 S.2.1 dL_law_40 (by omega) (by omega) (by rw [f2]; rfl) (by decide) ?_
        exact law_cart S hl9 hX hbl K hT (by omega) hL hS hl hf hg h1 h2 h3 h4 h5 kk
      · refine lv_tableIn (off := 169) (tgt := 209) S.1 S.2.1 dL_law_40 (by omega) (by omega) (by rw [f2]; rfl) (by decide) ?_
        exact law_stop S hl9 hX hbl K hT (by omega) hL hS hl hf hg h1 h2 h3 h4 h5 kk
      · refine lv_tableIn (off := 218) (tgt := 258) S.1 S.2.1 dL_law_40 (by omega) (by omega) (by rw [f2]; rfl) (by decide) ?_
        exact law_change S hl9 hX hbl K hT (by omega) hL hS hl hf hg h1 h2 h3 h4 h5 kk
      · refine lv_tableIn (off := 279) (tgt := 319) S.1 S.2.1 dL_law_40 (by omega) (by omega) (by rw [f2]; rfl) (by decide) ?_
        exact law_snow S hl9 hX hbl K hT (by omega) hL hS hl hf hg h1 h2 h3 h4 h5 kk
      · refine lv_tableIn (off := 316) (tgt := 356) S.1 S.2.1 dL_law_40 (by omega) (by omega) (by rw [f2]; rfl) (by decide) ?_
        exact law_runs S hl9 hX hbl K hT (by omega) hL hS hl hf hg h1 h2 h3 h4 h5 kk
      · refine lv_tableIn (off := 353) (tgt := 393) S.1 S.2.1 dL_law_40 (by omega) (by omega) (by rw [f2]; rfl) (by decide) ?_
        exact law_soon S hl9 hX hbl K hT (by omega) hL hS hl hf hg h1 h2 h3 h4 h5 kk
      · refine lv_tableIn (off := 402) (tgt := 442) S.1 S.2.1 dL_law_40 (by omega) (by omega) (by rw [f2]; rfl) (by decide) ?_
        exact law_reach S hl9 hX hbl K hT (by omega) hL hS hl hf hg h1 h2 h3 h4 h5 kk
      · refine lv_tableIn (off := 451) (tgt := 491) S.1 S.2.1 dL_law_40 (by omega) (by omega) (by rw [f2]; rfl) (by decide) ?_
        exact law_cut S hl9 hX hbl K hT (by omega) hL hS hl hf hg h1 h2 h3 h4 h5 kk
      · refine lv_tableIn (off := 500) (tgt := 540) S.1 S.2.1 dL_law_40 (by omega) (by omega) (by rw [f2]; rfl) (by decide) ?_
        exact law_parcel S hl9 hX hbl K hT (by omega) hL hS hl hf hg h1 h2 h3 h4 h5 kk
      · refine lv_tableIn (off := 549) (tgt := 589) S.1 S.2.1 dL_law_40 (by omega) (by omega) (by rw [f2]; rfl) (by decide) ?_
        exact law_tick S hl9 hX hbl K hT (by omega) hL hS hl hf hg h1 h2 h3 h4 h5 kk
      · refine lv_tableIn (off := 574) (tgt := 614) S.1 S.2.1 dL_law_40 (by omega) (by omega) (by rw [f2]; rfl) (by decide) ?_
        exact law_told S hl9 hX hbl K hT (by omega) hL hS hl hf hg h1 h2 h3 h4 h5 kk
      · refine lv_tableIn (off := 614) (tgt := 654) S.1 S.2.1 dL_law_40 (by omega) (by omega) (by rw [f2]; rfl) (by decide) ?_
        exact law_waiting S hl9 hX hbl K hT (by omega) hL hS hl hf hg h1 h2 h3 h4 h5 kk
      · refine lv_tableIn (off := 639) (tgt := 679) S.1 S.2.1 dL_law_40 (by omega) (by omega) (by rw [f2]; rfl) (by decide) ?_
        exact law_fares S hl9 hX hbl K hT (by omega) hL hS hl hf hg h1 h2 h3 h4 h5 kk
      · refine lv_tableIn (off := 664) (tgt := 704) S.1 S.2.1 dL_law_40 (by omega) (by omega) (by rw [f2]; rfl) (by decide) ?_
        exact law_room S hl9 hX hbl K hT (by omega) hL hS hl hf hg h1 h2 h3 h4 h5 kk
      · refine lv_tableIn (off := 701) (tgt := 741) S.1 S.2.1 dL_law_40 (by omega) (by omega) (by rw [f2]; rfl) (by decide) ?_
        exact law_walk S hl9 hX hbl K hT (by omega) hL hS hl hf hg h1 h2 h3 h4 h5 kk
      · refine lv_tableIn (off := 750) (tgt := 790) S.1 S.2.1 dL_law_40 (by omega) (by omega) (by rw [f2]; rfl) (by decide) ?_
        exact law_errand S hl9 hX hbl K hT (by omega) hL hS hl hf hg h1 h2 h3 h4 h5 kk
      · refine lv_tableIn (off := 799) (tgt := 839) S.1 S.2.1 dL_law_40 (by omega) (by omega) (by rw [f2]; rfl) (by decide) ?_
        exact law_clear S hl9 hX hbl K hT (by omega) hL hS hl hf hg h1 h2 h3 h4 h5 kk
      · refine lv_tableIn (off := 810) (tgt := 850) S.1 S.2.1 dL_law_40 (by omega) (by omega) (by rw [f2]; rfl) (by decide) ?_
        exact law_best S hl9 hX hbl K hT (by omega) hL hS hl hf hg h1 h2 h3 h4 h5 kk
      · refine lv_tableIn (off := 847) (tgt := 887) S.1 S.2.1 dL_law_40 (by omega) (by omega) (by rw [f2]; rfl) (by decide) ?_
        exact law_round S hl9 hX hbl K hT (by omega) hL hS hl hf hg h1 h2 h3 h4 h5 kk
      · refine lv_tableIn (off := 884) (tgt := 924) S.1 S.2.1 dL_law_40 (by omega) (by omega) (by rw [f2]; rfl) (by decide) ?_
        exact law_count S hl9 hX hbl K hT (by omega) hL hS hl hf hg h1 h2 h3 h4 h5 kk
