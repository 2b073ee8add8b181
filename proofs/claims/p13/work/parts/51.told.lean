/-! CarrierNet.told: it returns, or throws; the words of its throw are those of the Statement -/
def oxL : List Cond := ox_at RX4 135 "java/util/NoSuchElementException" 13 prog_15_method_4_code "java/lang/RuntimeException" ["java/lang/Exception"]
def oxB : List Cond := [Cond.declares (Bundle.initS "java/lang/RuntimeException"), Cond.declares (Bundle.initS "java/lang/Exception"), Cond.declares (Bundle.initS "java/lang/Throwable")]
theorem oxL_bad : ∀ w ∈ oxL.filter (fun w => !goodWord w), w ∈ oxB := by decide +kernel
theorem oxB_ot : ∀ w ∈ oxB, vx_ot w = true := by decide +kernel
theorem oxL_ot : ∀ w ∈ Cond.classLink RX4 131 "java/util/NoSuchElementException" :: Cond.initialized "java/util/NoSuchElementException" :: oxL, vx_ot w = true := by decide +kernel
theorem t_oxL : ∀ w ∈ oxL.filter goodWord, w ∈ lw_tbl := by decide +kernel
theorem t_oxB : ∀ w ∈ oxB, w ∈ lw_tbl := by decide +kernel
theorem oxL_in : ∀ w ∈ oxL.filter goodWord, w ∈ wsT := fun w h => mG (wG (t_oxL w h) (List.mem_filter.mp h).2)
theorem nx_0 : decode prog_15_method_4_code 0 = .ok (.aload_n 0, 1) := by decide +kernel
theorem nx_1 : decode prog_15_method_4_code 1 = .ok (.aload_n 1, 1) := by decide +kernel
theorem nx_2 : decode prog_15_method_4_code 2 = .ok (.invokespecial 13, 3) := by decide +kernel
theorem nx_5 : decode prog_15_method_4_code 5 = .ok (.return_, 1) := by decide +kernel
/-- what the throw reads of the machine: the two fields of Throwable, the two texts, the words that are not the callers' -/
def kT (A : Nat → Prop) (sa1 sa2 : Nat) (U : State) : Prop := (∀ w ∈ oxB, w.before #[] U = true) ∧ vx_Zq Bundle.tN "UNASSIGNED_STACK" Bundle.steD A U U.heap ∧ vx_Zq Bundle.tN "SUPPRESSED_SENTINEL" Bundle.listD A U U.heap ∧ vk_R RX4 133 "no such parcel" sa1 U ∧ vk_R RX4 162 "nothing is told of that" sa2 U
theorem kT_warm {A : Nat → Prop} {sa1 sa2 : Nat} {s U : State} (hW : s.WarmedH U.vm) (hA : ∀ a : Nat, a < s.heap.size → ¬ A a → U.heap[a]? = s.heap[a]?) (h : kT A sa1 sa2 s) : kT A sa1 sa2 U :=
  ⟨fun w hw => by
      simp only [oxB, List.mem_cons, List.not_mem_nil, or_false] at hw
      rcases hw with rfl | rfl | rfl <;> exact va_Nw.warmD hW (h.1 _ (by decide +kernel)), vx_Zq.moved hW.alike (h.2.1.kept hA), vx_Zq.moved hW.alike (h.2.2.1.kept hA), vk_R.warm hW h.2.2.2.1, vk_R.warm hW h.2.2.2.2⟩
def PcT (D : va_G) (B : Nat → ClassId) (L : QL) (A : Nat → Prop) (σ : QS) (τ : Int64) (sa1 sa2 : Nat) (U : State) : Prop := PcW cntC gC D B L A σ τ U ∧ kT A sa1 sa2 U
def XT (D : va_G) (B : Nat → ClassId) (L : QL) (A : Nat → Prop) (σ : QS) (τ : Int64) : String → State → State → Prop := fun E st t => E = "java/util/NoSuchElementException" ∧ hW cntC gC D B L σ τ t.heap ∧ va_F A st t
section OT
variable {p : Program} {l : Launch} {e : Env} {R : Room} {s : State} {m : MethodId} {args : Array Value} {below : List Frame} {meth : Method} {c : Code} {H : Heap} {locs : List Loc} {XC : String → State → State → Prop}
variable {cc : ByteArray} {pc nL : Nat} {ls : Array Slot} {D : va_G} {B : Nat → ClassId} {L : QL} {A : Nat → Prop} {Ts : List Cond} {own : String} {σ : QS} {τ : Int64}
theorem oT_ret (S : CallFix p m c cc nL s args Ts own) (hr : meth.sig.returnType = some .int) (hk : meth.locks = false) (hH : hW cntC gC D B L σ τ H) (hS : va_S A s.heap H locs) {v : Int32} (hdg : decode cc pc = .ok (.ireturn, 1)) : W p l e R s m args below meth c H locs 0 0 (vx_MQ below (QcW cntC gC D B L A (pI (fun _ σ' τ' => σ' = σ ∧ τ' = τ))) XC args s 1 6 A) (F0 m pc ls [.int v]) :=
  W.widen (k := 1) (n := 6) (Nat.zero_le _) (Nat.zero_le _) (vx_ret (W.iret S.1 S.2.1 hr (fun t ht _ => ⟨some (.int v), σ, τ, rfl, ⟨v, rfl, rfl, rfl⟩, by rw [ht]; exact hH, hS.F ht⟩) hS.2.2 hdg hk))
theorem oT_throw (S : CallFix p m c cX4_told 4 s args wsT RX4) (hk : meth.locks = false) (ht : ∀ x ∈ c.exceptionTable.toList, False) (hl9 : l.stackTraces = false) {sa1 sa2 : Nat} (hT : kT A sa1 sa2 s) (hH : hW cntC gC D B L σ τ H) (hS : va_S A s.heap H locs) (hR : 5 < R.frames ∧ 82 ≤ R.locals ∧ 1 ≤ R.cells ∧ 6 ≤ R.slots) (hz : ls.size = 4) {is sa : Nat} {text : String} (hstr : vk_R RX4 is text sa s)
    (d0 : decode cX4_told pc = .ok (.new 131, 3)) (d3 : decode cX4_told (pc + 3) = .ok (.dup, 1)) (d4 : decode cX4_told (pc + 4) = .ok (.ldc is, 2)) (d6 : decode cX4_told (pc + 6) = .ok (.invokespecial 135, 3)) (d9 : decode cX4_told (pc + 9) = .ok (.athrow, 1)) :
    W p l e R s m args below meth c H locs 0 0 (vx_MQ below (QcW cntC gC D B L A (pI (fun _ σ' τ' => σ' = σ ∧ τ' = τ))) (XT D B L A σ τ) args s 1 6 A) (F0 m pc ls []) := by
  refine ox_throw (ik := 131) (ic := 135) (ix := 13) (own := RX4) (cls := "java/util/NoSuchElementException") (Y0 := "java/lang/RuntimeException") (names := ["java/lang/Exception"]) (rx := prog_15_method_4_code) (sa := sa) (text := text) (A := A) S.1 S.2.1 hl9 nx_0 nx_1 nx_2 nx_5 S.2.2.2.1 (by decide +kernel) (by decide +kernel) (by decide +kernel)
    (S.2.2.2.2 _ (by first | exact mG wd_NSEl | exact mG wd_NSEi)) (S.2.2.2.2 _ (by first | exact mG wd_NSEl | exact mG wd_NSEi)) hstr (vx_hat (fun w hw => S.2.2.2.2 w (oxL_in w hw)) oxL_bad (fun w hw => vx_ot_at (State.WarmedH.refl s) rfl (oxB_ot w hw) (hT.1 w hw))) oxL_ot hT.2.1 hT.2.2.1 hS (hz.trans S.2.2.1.symm) d0 d3 d4 d6 d9 (fun x hx => (ht x hx).elim)
    hR.1 hR.2.1 hR.2.2.1 hR.2.2.2 hk (fun t _ h1 h2 => ⟨rfl, q_kept hH (fun k i hi => h2 _ (hH k i hi).lt), Nat.le_trans hS.1 h1, fun q h3 h4 => by rw [h2 q (Nat.lt_of_lt_of_le h3 hS.1)]; exact hS.2.1 q h3 h4⟩) hS.2.2 (Nat.le_refl _) (Nat.le_refl _)
end OT
set_option maxHeartbeats 4000000 in
set_option maxRecDepth 100000 in
theorem k_X4_told (l : Launch) (hl9 : l.stackTraces = false) (D : va_G) (B : Nat → ClassId) (L : QL) (A : Nat → Prop) (σ : QS) (τ : Int64) (a b : Int32) (sa1 sa2 : Nat) (hI : InvC σ) : vx_Met l yX4_told wsT { frames := 6, cells := 1, slots := 6, locals := 90 } (va_Pc [.ref (L 0 0), .int a, .int b] (PcT D B L A σ τ sa1 sa2)) (QcW cntC gC D B L A (pI (fun _ σ' τ' => σ' = σ ∧ τ' = τ))) (XT D B L A σ τ) 1 6 A := by
  refine vx_ofW (cc := cX4_told) (maxL := 4) (ret := some .int) (by decide) rfl ?_
  intro p e s m args below meth c s₁ B9 hml ht hv
  obtain ⟨rfl, ⟨hH, K⟩, hT⟩ := hv
  rw [lg_entry_eq]
  have S : CallFix p m c cX4_told 4 s [.ref (L 0 0), .int a, .int b].toArray wsT RX4 := ⟨B9.exec, B9.bytes, hml, findClass_of_methodNamed B9.named, atoms_spec (ws := wsT) B9.pre⟩
  have hr : meth.sig.returnType = some .int := B9.returns
  have hk : meth.locks = false := B9.notSynchronized
  have hS : va_S A s.heap s.heap [] := va_S.rf
  have hl := lv_entry [.ref (L 0 0), .int a, .int b] (n := 4) (Nat.le_of_ble_eq_true rfl)
  revert hl
  generalize (lg_sl [.ref (L 0 0), .int a, .int b] ++ List.replicate (4 - (lg_sl [.ref (L 0 0), .int a, .int b]).length) Slot.unset).toArray = ls
  intro hl
  have hnX2 : ∀ w ∈ wsX20, w ∈ wsT := fun w h => mG (tX2 w h)
  have hnX4 : ∀ w ∈ wsX40, w ∈ wsT := fun w h => mG (tX4 w h)
  have l0 : (0 : Int32).toInt = 0 := by decide
  have l1 : (1 : Int32).toInt = 1 := by decide
  have hl : lv_has ls 4 [(0, .ref (L 0 0)), (1, .int a), (2, .int b)] := hl
  refine lv_iload_n S.1 S.2.1 dX4_told_0 rfl (lv_at hl 1 rfl) ?_
  refine lv_iconst (v := 0) S.1 S.2.1 dX4_told_1 (by decide) ?_
  refine lv_aload_n S.1 S.2.1 dX4_told_2 rfl (lv_at hl 0 rfl) ?_
  refine rC_0_3 S hnX4 K hH (mG wd_155) dX4_told_3 ?_
  refine lv_topi (fun v1 e1 => ?_)
  have b1 : 0 ≤ v1.toInt ∧ v1.toInt ≤ 60 := by rw [e1]; exact hI.1 0 0 0
  refine lv_iconst (v := 1) S.1 S.2.1 dX4_told_6 (by decide) ?_
  refine lv_isub S.1 S.2.1 dX4_told_7 ?_
  refine lv_topi (fun v2 e2 => ?_)
  have i2 : v2.toInt = v1.toInt - (1 : Int32).toInt := i_sub e2 (by omega) (by omega)
  refine cW_bpi (cW_S (n := 3) (As := [.int a, .int 0, .int v2]) (rest := []) S K hH (k_X4_isIn l D B L A σ τ a 0 v2 ) gT_isIn rfl hdS_X4_isIn ⟨Nat.le_of_ble_eq_true rfl, Nat.le_of_ble_eq_true rfl⟩ rfl hl.1 (Nat.le_of_ble_eq_true rfl) dX4_told_8) hS (fun v3 H locs q3 hH hS => ?_)
  refine lv_if_ne (tgt := 24) S.1 S.2.1 dX4_told_11 (by decide) (fun c4 => ?_) (fun c4 => ?_)
  · have j4 := t_neq c4
    refine lv_aload_n S.1 S.2.1 dX4_told_24 rfl (lv_at hl 0 rfl) ?_
    refine rC_0_2 S hnX4 K hH (mG wd_154) dX4_told_25 ?_
    refine lv_iload_n S.1 S.2.1 dX4_told_28 rfl (lv_at hl 1 rfl) ?_
    refine lC_1 S K hH (vin (by omega) (by omega)) dX4_told_29 ?_
    refine lv_astore_n (lv' := [(3, .ref (L 20 a.toNatClampNeg)), (0, .ref (L 0 0)), (1, .int a), (2, .int b)]) S.1 S.2.1 dX4_told_30 rfl hl (by decide) rfl (fun ls hl => ?_)
    refine lv_iload_n S.1 S.2.1 dX4_told_31 rfl (lv_at hl 3 rfl) ?_
    rcases sw_in b 0 7 with c5 | ⟨c5, d5⟩
    · refine lv_tableOut (tgt := 120) S.1 S.2.1 dX4_told_32 c5 (by decide) ?_
      exact oT_throw S hk ht hl9 hT hH hS ⟨by decide, by decide, by decide, by decide⟩ hl.1 hT.2.2.2.2 dX4_told_120 dX4_told_123 dX4_told_124 dX4_told_126 dX4_told_129
    · rcases (show b.toInt = 0 ∨ b.toInt = 1 ∨ b.toInt = 2 ∨ b.toInt = 3 ∨ b.toInt = 4 ∨ b.toInt = 5 ∨ b.toInt = 6 ∨ b.toInt = 7 by omega) with f5 | f5 | f5 | f5 | f5 | f5 | f5 | f5
      · refine lv_tableIn (off := 48) (tgt := 80) S.1 S.2.1 dX4_told_32 (by omega) (by omega) (by rw [f5]; rfl) (by decide) ?_
        refine lv_aload_n S.1 S.2.1 dX4_told_80 rfl (lv_at hl 0 rfl) ?_
        refine rC_20_0 S hnX2 K hH (cl_lt (n := 60) (by omega) (by omega)) (mG wd_227) dX4_told_81 ?_
        refine lv_topi (fun v6 e6 => ?_)
        have b6 : (-1) ≤ v6.toInt ∧ v6.toInt ≤ 11 := by rw [e6]; exact hI.1 32 a.toNatClampNeg 0
        exact oT_ret S hr hk hH hS dX4_told_84
      · refine lv_tableIn (off := 53) (tgt := 85) S.1 S.2.1 dX4_told_32 (by omega) (by omega) (by rw [f5]; rfl) (by decide) ?_
        refine lv_aload_n S.1 S.2.1 dX4_told_85 rfl (lv_at hl 0 rfl) ?_
        refine rC_20_1 S hnX2 K hH (cl_lt (n := 60) (by omega) (by omega)) (mG wd_215) dX4_told_86 ?_
        refine lv_topi (fun v7 e7 => ?_)
        exact oT_ret S hr hk hH hS dX4_told_89
      · refine lv_tableIn (off := 58) (tgt := 90) S.1 S.2.1 dX4_told_32 (by omega) (by omega) (by rw [f5]; rfl) (by decide) ?_
        refine lv_aload_n S.1 S.2.1 dX4_told_90 rfl (lv_at hl 0 rfl) ?_
        refine rC_20_2 S hnX2 K hH (cl_lt (n := 60) (by omega) (by omega)) (mG wd_226) dX4_told_91 ?_
        refine lv_topi (fun v8 e8 => ?_)
        have b8 : (-1) ≤ v8.toInt ∧ v8.toInt ≤ 11 := by rw [e8]; exact hI.1 34 a.toNatClampNeg 0
        exact oT_ret S hr hk hH hS dX4_told_94
      · refine lv_tableIn (off := 63) (tgt := 95) S.1 S.2.1 dX4_told_32 (by omega) (by omega) (by rw [f5]; rfl) (by decide) ?_
        refine lv_aload_n S.1 S.2.1 dX4_told_95 rfl (lv_at hl 0 rfl) ?_
        refine rC_20_3 S hnX2 K hH (cl_lt (n := 60) (by omega) (by omega)) (mG wd_212) dX4_told_96 ?_
        refine lv_topi (fun v9 e9 => ?_)
        have b9 : (-1) ≤ v9.toInt ∧ v9.toInt ≤ 11 := by rw [e9]; exact hI.1 35 a.toNatClampNeg 0
        exact oT_ret S hr hk hH hS dX4_told_99
      · refine lv_tableIn (off := 68) (tgt := 100) S.1 S.2.1 dX4_told_32 (by omega) (by omega) (by rw [f5]; rfl) (by decide) ?_
        refine lv_aload_n S.1 S.2.1 dX4_told_100 rfl (lv_at hl 0 rfl) ?_
        refine rC_20_4 S hnX2 K hH (cl_lt (n := 60) (by omega) (by omega)) (mG wd_214) dX4_told_101 ?_
        refine lv_topi (fun v10 e10 => ?_)
        exact oT_ret S hr hk hH hS dX4_told_104
      · refine lv_tableIn (off := 73) (tgt := 105) S.1 S.2.1 dX4_told_32 (by omega) (by omega) (by rw [f5]; rfl) (by decide) ?_
        refine lv_aload_n S.1 S.2.1 dX4_told_105 rfl (lv_at hl 0 rfl) ?_
        refine rC_20_5 S hnX2 K hH (cl_lt (n := 60) (by omega) (by omega)) (mG wd_213) dX4_told_106 ?_
        refine lv_topi (fun v11 e11 => ?_)
        exact oT_ret S hr hk hH hS dX4_told_109
      · refine lv_tableIn (off := 78) (tgt := 110) S.1 S.2.1 dX4_told_32 (by omega) (by omega) (by rw [f5]; rfl) (by decide) ?_
        refine lv_aload_n S.1 S.2.1 dX4_told_110 rfl (lv_at hl 0 rfl) ?_
        refine rC_20_7 S hnX2 K hH (cl_lt (n := 60) (by omega) (by omega)) (mG wd_252) dX4_told_111 ?_
        refine lv_topi (fun v12 e12 => ?_)
        exact oT_ret S hr hk hH hS dX4_told_114
      · refine lv_tableIn (off := 83) (tgt := 115) S.1 S.2.1 dX4_told_32 (by omega) (by omega) (by rw [f5]; rfl) (by decide) ?_
        refine lv_aload_n S.1 S.2.1 dX4_told_115 rfl (lv_at hl 0 rfl) ?_
        refine rC_20_8 S hnX2 K hH (cl_lt (n := 60) (by omega) (by omega)) (mG wd_267) dX4_told_116 ?_
        refine lv_topi (fun v13 e13 => ?_)
        exact oT_ret S hr hk hH hS dX4_told_119
  · have j4 := t_eq c4
    exact oT_throw S hk ht hl9 hT hH hS ⟨by decide, by decide, by decide, by decide⟩ hl.1 hT.2.2.2.1 dX4_told_14 dX4_told_17 dX4_told_18 dX4_told_20 dX4_told_23
