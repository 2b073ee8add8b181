set_option maxHeartbeats 4000000 in
set_option maxRecDepth 100000 in
theorem k_X3_haltsBegin (l : Launch) (D : va_G) (B : Nat → ClassId) (L : QL) (A : Nat → Prop) (σ : QS) (τ : Int64) (h : Int32)  (hp0 : 0 ≤ h.toInt ∧ h.toInt ≤ 100000) (hI : InvC σ) : cW cntC gC l D B L A yX3_haltsBegin wsX3_haltsBegin 0 0 [.ref (L 2 0), .int h] σ τ (pI (fun x σ' τ' => σ' = σ ∧ τ' = τ ∧ (0 ≤ x.toInt ∧ x.toInt ≤ 72) ∧ x = σ 7 0 (h.toInt % 24).toNat)) := by
  refine cW_of (cc := cX3_haltsBegin) (nL := 2) (ret := (some .int)) (by decide) rfl (Nat.le_of_ble_eq_true rfl) ?_
  intro p e s m below meth c S hr hk K hH hS ls hl
  have hnX3 : ∀ w ∈ wsX30, w ∈ wsX3_haltsBegin := fun w h => mG (tX3 w h)
  have l24 : (24 : Int32).toInt = 24 := by decide
  have hl : lv_has ls 2 [(0, .ref (L 2 0)), (1, .int h)] := hl
  refine lv_aload_n S.1 S.2.1 dX3_haltsBegin_0 rfl (lv_at hl 0 rfl) ?_
  refine rC_2_4 S hnX3 K hH (mG wd_85) dX3_haltsBegin_1 ?_
  refine lv_iload_n S.1 S.2.1 dX3_haltsBegin_4 rfl (lv_at hl 1 rfl) ?_
  refine lv_bipush (v := 24) S.1 S.2.1 dX3_haltsBegin_5 (by decide) ?_
  refine lv_irem S.1 S.2.1 dX3_haltsBegin_7 (by decide) ?_
  refine lv_topi (fun v1 e1 => ?_)
  have i1 : v1.toInt = h.toInt % 24 := i_rem e1 (by decide) (by decide) (by omega)
  refine lC_5 S K hH (vin (by omega) (by omega)) dX3_haltsBegin_8 ?_
  refine lv_topi (fun v2 e2 => ?_)
  have b2 : 0 ≤ v2.toInt ∧ v2.toInt ≤ 72 := by rw [e2]; exact hI.1 7 0 v1.toNatClampNeg
  refine cW_iret S hr hk hH hS ?_ dX3_haltsBegin_9
  exact ⟨v2, rfl, rfl, rfl, by exact ⟨by omega, by rw [e2, cl_mod24 i1]⟩⟩
set_option maxHeartbeats 4000000 in
set_option maxRecDepth 100000 in
theorem k_X3_haltsEnd (l : Launch) (D : va_G) (B : Nat → ClassId) (L : QL) (A : Nat → Prop) (σ : QS) (τ : Int64) (h : Int32)  (hp0 : 0 ≤ h.toInt ∧ h.toInt ≤ 100000) (hI : InvC σ) : cW cntC gC l D B L A yX3_haltsEnd wsX3_haltsEnd 0 0 [.ref (L 2 0), .int h] σ τ (pI (fun x σ' τ' => σ' = σ ∧ τ' = τ ∧ (0 ≤ x.toInt ∧ x.toInt ≤ 72 ∧ x.toInt ≤ (σ 7 0 24).toInt) ∧ x = σ 7 0 ((h.toInt % 24).toNat + 1))) := by
  refine cW_of (cc := cX3_haltsEnd) (nL := 2) (ret := (some .int)) (by decide) rfl (Nat.le_of_ble_eq_true rfl) ?_
  intro p e s m below meth c S hr hk K hH hS ls hl
  have hnX3 : ∀ w ∈ wsX30, w ∈ wsX3_haltsEnd := fun w h => mG (tX3 w h)
  have l1 : (1 : Int32).toInt = 1 := by decide
  have l24 : (24 : Int32).toInt = 24 := by decide
  have hl : lv_has ls 2 [(0, .ref (L 2 0)), (1, .int h)] := hl
  refine lv_aload_n S.1 S.2.1 dX3_haltsEnd_0 rfl (lv_at hl 0 rfl) ?_
  refine rC_2_4 S hnX3 K hH (mG wd_85) dX3_haltsEnd_1 ?_
  refine lv_iload_n S.1 S.2.1 dX3_haltsEnd_4 rfl (lv_at hl 1 rfl) ?_
  refine lv_bipush (v := 24) S.1 S.2.1 dX3_haltsEnd_5 (by decide) ?_
  refine lv_irem S.1 S.2.1 dX3_haltsEnd_7 (by decide) ?_
  refine lv_topi (fun v1 e1 => ?_)
  have i1 : v1.toInt = h.toInt % 24 := i_rem e1 (by decide) (by decide) (by omega)
  refine lv_iconst (v := 1) S.1 S.2.1 dX3_haltsEnd_8 (by decide) ?_
  refine lv_iadd S.1 S.2.1 dX3_haltsEnd_9 ?_
  refine lv_topi (fun v2 e2 => ?_)
  have i2 : v2.toInt = v1.toInt + (1 : Int32).toInt := i_add e2 (by omega) (by omega)
  refine lC_5 S K hH (vin (by omega) (by omega)) dX3_haltsEnd_10 ?_
  refine lv_topi (fun v3 e3 => ?_)
  have b3 : 0 ≤ v3.toInt ∧ v3.toInt ≤ 72 := by rw [e3]; exact hI.1 7 0 v2.toNatClampNeg
  have zv3 := hI.2.1 v2.toNatClampNeg (Nat.le_of_lt_succ (cl_lt (by omega) (by omega)))
  rw [← e3] at zv3
  refine cW_iret S hr hk hH hS ?_ dX3_haltsEnd_11
  exact ⟨v3, rfl, rfl, rfl, by exact ⟨by omega, by rw [e3, cl_mod24b i1 i2 l1]⟩⟩
set_option maxHeartbeats 4000000 in
set_option maxRecDepth 100000 in
theorem k_X3_hasHalts (l : Launch) (D : va_G) (B : Nat → ClassId) (L : QL) (A : Nat → Prop) (σ : QS) (τ : Int64) (h : Int32)  (hp0 : 0 ≤ h.toInt ∧ h.toInt ≤ 100000) (hI : InvC σ) : cW cntC gC l D B L A yX3_hasHalts wsX3_hasHalts 1 21 [.ref (L 2 0), .int h] σ τ (pI (fun x σ' τ' => σ' = σ ∧ τ' = τ ∧ ((x.toInt = 1 ∧ (σ 7 0 (h.toInt % 24).toNat).toInt < (σ 7 0 ((h.toInt % 24).toNat + 1)).toInt) ∨ (x.toInt = 0 ∧ ¬ (σ 7 0 (h.toInt % 24).toNat).toInt < (σ 7 0 ((h.toInt % 24).toNat + 1)).toInt)))) := by
  refine cW_of (cc := cX3_hasHalts) (nL := 2) (ret := (some .boolean)) (by decide) rfl (Nat.le_of_ble_eq_true rfl) ?_
  intro p e s m below meth c S hr hk K hH hS ls hl
  have hnX3 : ∀ w ∈ wsX30, w ∈ wsX3_hasHalts := fun w h => mG (tX3 w h)
  have l0 : (0 : Int32).toInt = 0 := by decide
  have l1 : (1 : Int32).toInt = 1 := by decide
  have hl : lv_has ls 2 [(0, .ref (L 2 0)), (1, .int h)] := hl
  refine lv_aload_n S.1 S.2.1 dX3_hasHalts_0 rfl (lv_at hl 0 rfl) ?_
  refine lv_iload_n S.1 S.2.1 dX3_hasHalts_1 rfl (lv_at hl 1 rfl) ?_
  refine cW_bpi (cW_V (n := 1) (As := [.int h]) (rest := []) (k := 2) (i := 0) S K hH (by decide) rfl rfl (k_X3_haltsBegin l D B L A σ τ h (by omega) hI) gX3_hasHalts_X3_haltsBegin rfl hdV_X3_haltsBegin ⟨Nat.le_of_ble_eq_true rfl, Nat.le_of_ble_eq_true rfl⟩ rfl hl.1 (Nat.le_of_ble_eq_true rfl) dX3_hasHalts_2) hS (fun v1 H locs q1 hH hS => ?_)
  refine lv_aload_n S.1 S.2.1 dX3_hasHalts_5 rfl (lv_at hl 0 rfl) ?_
  refine lv_iload_n S.1 S.2.1 dX3_hasHalts_6 rfl (lv_at hl 1 rfl) ?_
  refine cW_bpi (cW_V (n := 1) (As := [.int h]) (rest := [.int v1]) (k := 2) (i := 0) S K hH (by decide) rfl rfl (k_X3_haltsEnd l D B L A σ τ h (by omega) hI) gX3_hasHalts_X3_haltsEnd rfl hdV_X3_haltsEnd ⟨Nat.le_of_ble_eq_true rfl, Nat.le_of_ble_eq_true rfl⟩ rfl hl.1 (Nat.le_of_ble_eq_true rfl) dX3_hasHalts_7) hS (fun v2 H locs q2 hH hS => ?_)
  refine lv_icmp_ge (tgt := 17) S.1 S.2.1 dX3_hasHalts_10 (by decide) (fun c3 => ?_) (fun c3 => ?_)
  · have j3 := t_le c3
    refine lv_iconst (v := 0) S.1 S.2.1 dX3_hasHalts_17 (by decide) ?_
    refine cW_zret S hr hk hH hS (by decide) ?_ dX3_hasHalts_18
    exact ⟨0, rfl, rfl, rfl, by rw [← (q1).2, ← (q2).2]; omega⟩
  · have j3 := t_nle c3
    refine lv_iconst (v := 1) S.1 S.2.1 dX3_hasHalts_13 (by decide) ?_
    refine lv_goto (tgt := 18) S.1 S.2.1 dX3_hasHalts_14 (by decide) ?_
    refine cW_zret S hr hk hH hS (by decide) ?_ dX3_hasHalts_18
    exact ⟨1, rfl, rfl, rfl, by rw [← (q1).2, ← (q2).2]; omega⟩
set_option maxHeartbeats 4000000 in
set_option maxRecDepth 100000 in
theorem k_X3_cartOf (l : Launch) (D : va_G) (B : Nat → ClassId) (L : QL) (A : Nat → Prop) (σ : QS) (τ : Int64) (k : Int32)  (hp0 : 0 ≤ k.toInt ∧ k.toInt ≤ 71) (hI : InvC σ) (hp2 : k.toInt < (σ 7 0 24).toInt) : cW cntC gC l D B L A yX3_cartOf wsX3_cartOf 0 0 [.ref (L 2 0), .int k] σ τ (pI (fun x σ' τ' => σ' = σ ∧ τ' = τ ∧ (0 ≤ x.toInt ∧ x.toInt ≤ 11) ∧ x = ((σ 6 0 k.toNatClampNeg) >>> ((3 : Int32) &&& 31)) &&& 15)) := by
  refine cW_of (cc := cX3_cartOf) (nL := 2) (ret := (some .int)) (by decide) rfl (Nat.le_of_ble_eq_true rfl) ?_
  intro p e s m below meth c S hr hk K hH hS ls hl
  have hnX3 : ∀ w ∈ wsX30, w ∈ wsX3_cartOf := fun w h => mG (tX3 w h)
  have l3 : (3 : Int32).toInt = 3 := by decide
  have l15 : (15 : Int32).toInt = 15 := by decide
  have hl : lv_has ls 2 [(0, .ref (L 2 0)), (1, .int k)] := hl
  refine lv_aload_n S.1 S.2.1 dX3_cartOf_0 rfl (lv_at hl 0 rfl) ?_
  refine rC_2_3 S hnX3 K hH (mG wd_84) dX3_cartOf_1 ?_
  refine lv_iload_n S.1 S.2.1 dX3_cartOf_4 rfl (lv_at hl 1 rfl) ?_
  refine lC_4 S K hH (vin (by omega) (by omega)) dX3_cartOf_5 ?_
  refine lv_topi (fun v1 e1 => ?_)
  refine lv_iconst (v := 3) S.1 S.2.1 dX3_cartOf_6 (by decide) ?_
  refine lv_ishr S.1 S.2.1 dX3_cartOf_7 ?_
  refine lv_topi (fun v2 e2 => ?_)
  refine lv_bipush (v := 15) S.1 S.2.1 dX3_cartOf_8 (by decide) ?_
  refine lv_iand S.1 S.2.1 dX3_cartOf_10 ?_
  refine lv_topi (fun v3 e3 => ?_)
  have i3 : 0 ≤ v3.toInt ∧ v3.toInt ≤ (15 : Int32).toInt := i_andr e3 (by omega)
  refine cW_iret S hr hk hH hS ?_ dX3_cartOf_11
  exact ⟨v3, rfl, rfl, rfl, by refine ⟨⟨by omega, ?_⟩, by rw [e3, e2, e1]⟩; have h9 := (hI.2.2.1 k.toNatClampNeg (by have := cl_eq (j := k) (by omega); omega)).1; rw [e3, e2, e1]; exact h9⟩
set_option maxHeartbeats 4000000 in
set_option maxRecDepth 100000 in
theorem k_X3_stopOf (l : Launch) (D : va_G) (B : Nat → ClassId) (L : QL) (A : Nat → Prop) (σ : QS) (τ : Int64) (k : Int32)  (hp0 : 0 ≤ k.toInt ∧ k.toInt ≤ 71) (hI : InvC σ) (hp2 : k.toInt < (σ 7 0 24).toInt) : cW cntC gC l D B L A yX3_stopOf wsX3_stopOf 0 0 [.ref (L 2 0), .int k] σ τ (pI (fun x σ' τ' => σ' = σ ∧ τ' = τ ∧ (0 ≤ x.toInt ∧ x.toInt ≤ 5) ∧ x = (7 : Int32) - ((σ 6 0 k.toNatClampNeg) &&& 7))) := by
  refine cW_of (cc := cX3_stopOf) (nL := 2) (ret := (some .int)) (by decide) rfl (Nat.le_of_ble_eq_true rfl) ?_
  intro p e s m below meth c S hr hk K hH hS ls hl
  have hnX3 : ∀ w ∈ wsX30, w ∈ wsX3_stopOf := fun w h => mG (tX3 w h)
  have l7 : (7 : Int32).toInt = 7 := by decide
  have hl : lv_has ls 2 [(0, .ref (L 2 0)), (1, .int k)] := hl
  refine lv_bipush (v := 7) S.1 S.2.1 dX3_stopOf_0 (by decide) ?_
  refine lv_aload_n S.1 S.2.1 dX3_stopOf_2 rfl (lv_at hl 0 rfl) ?_
  refine rC_2_3 S hnX3 K hH (mG wd_84) dX3_stopOf_3 ?_
  refine lv_iload_n S.1 S.2.1 dX3_stopOf_6 rfl (lv_at hl 1 rfl) ?_
  refine lC_4 S K hH (vin (by omega) (by omega)) dX3_stopOf_7 ?_
  refine lv_topi (fun v1 e1 => ?_)
  refine lv_bipush (v := 7) S.1 S.2.1 dX3_stopOf_8 (by decide) ?_
  refine lv_iand S.1 S.2.1 dX3_stopOf_10 ?_
  refine lv_topi (fun v2 e2 => ?_)
  have i2 : 0 ≤ v2.toInt ∧ v2.toInt ≤ (7 : Int32).toInt := i_andr e2 (by omega)
  refine lv_isub S.1 S.2.1 dX3_stopOf_11 ?_
  refine lv_topi (fun v3 e3 => ?_)
  have i3 : v3.toInt = (7 : Int32).toInt - v2.toInt := i_sub e3 (by omega) (by omega)
  refine cW_iret S hr hk hH hS ?_ dX3_stopOf_12
  exact ⟨v3, rfl, rfl, rfl, by refine ⟨?_, by rw [e3, e2, e1]⟩; have h9 := (hI.2.2.1 k.toNatClampNeg (by have := cl_eq (j := k) (by omega); omega)).2; rw [← e1, ← e2] at h9; omega⟩
set_option maxHeartbeats 4000000 in
set_option maxRecDepth 100000 in
theorem k_X3_growLinks (l : Launch) (D : va_G) (B : Nat → ClassId) (L : QL) (A : Nat → Prop) (σ : QS) (τ : Int64)  (N : Net) (hI : InvC σ) (hp1 : RepC σ N) : cW cntC gC l D B L A yX3_growLinks wsX3_growLinks 0 0 [.ref (L 2 0)] σ τ (pI (fun x σ' τ' => InvC σ' ∧ Keep [8] σ σ' ∧ τ' = τ ∧ ((x.toInt = 0 ∨ x.toInt = 1) ∧ glP N (σ 8 0) (σ' 8 0) x))) := by
  refine cW_of (cc := cX3_growLinks) (nL := 7) (ret := (some .boolean)) (by decide) rfl (Nat.le_of_ble_eq_true rfl) ?_
  intro p e s m below meth c S hr hk K hH hS ls hl
  have hnX0 : ∀ w ∈ wsX00, w ∈ wsX3_growLinks := fun w h => mG (tX0 w h)
  have hnX3 : ∀ w ∈ wsX30, w ∈ wsX3_growLinks := fun w h => mG (tX3 w h)
  have lm1 : ((-1) : Int32).toInt = -1 := by decide
  have l0 : (0 : Int32).toInt = 0 := by decide
  have l1 : (1 : Int32).toInt = 1 := by decide
  have hP : Keep [8] σ σ := Keep_r
  have hN9 := hp1.1
  have hl : lv_has ls 7 [(0, .ref (L 2 0))] := hl
  refine lv_iconst (v := 0) S.1 S.2.1 dX3_growLinks_0 (by decide) ?_
  refine lv_istore_n (lv' := [(1, .int 0), (0, .ref (L 2 0))]) S.1 S.2.1 dX3_growLinks_1 rfl hl (by decide) rfl (fun ls hl => ?_)
  refine lv_iconst (v := 0) S.1 S.2.1 dX3_growLinks_2 (by decide) ?_
  refine lv_istore_n (lv' := [(2, .int 0), (1, .int 0), (0, .ref (L 2 0))]) S.1 S.2.1 dX3_growLinks_3 rfl hl (by decide) rfl (fun ls hl => ?_)
  have cut_4_1 : ∀ (n : Nat) (x1_1 : Int32) (x2_1 : Int32) (σ_1 : QS) (H : Heap) (locs : List Loc) (ls : Array Slot), (12 - x2_1.toInt).toNat < n → 0 ≤ x1_1.toInt ∧ x1_1.toInt ≤ 1 → 0 ≤ x2_1.toInt ∧ x2_1.toInt ≤ 12 → (glI N (σ 8 0) (σ_1 8 0) x2_1.toNatClampNeg 6 0) → ((x1_1.toInt = 0 → σ_1 8 0 = σ 8 0)) → (x2_1.toInt ≤ nK N) → InvC σ_1 → Keep [8] σ σ_1 → hW cntC gC D B L σ_1 τ H → va_S A s.heap H locs → lv_has ls 7 [(0, .ref (L 2 0)), (1, .int x1_1), (2, .int x2_1)] → W p l e { frames := 0, cells := 0, slots := 0, locals := 0 } s m [.ref (L 2 0)].toArray below meth c H locs 0 0 (MQ below (QcW cntC gC D B L A (pI (fun x σ' τ' => InvC σ' ∧ Keep [8] σ σ' ∧ τ' = τ ∧ ((x.toInt = 0 ∨ x.toInt = 1) ∧ glP N (σ 8 0) (σ' 8 0) x)))) [.ref (L 2 0)].toArray s 0 0 A) (F0 m 4 ls []) := by
    intro n
    induction n with
    | zero => intro x1_1 x2_1 σ_1 H locs ls hm; exact absurd hm (Nat.not_lt_zero _)
    | succ n ih1 =>
      intro x1_1 x2_1 σ_1 H locs ls hm1 h1_0 h1_1 wg wc wk hI hP hH hS hl
      refine lv_iload_n S.1 S.2.1 dX3_growLinks_4 rfl (lv_at hl 2 rfl) ?_
      refine lv_aload_n S.1 S.2.1 dX3_growLinks_5 rfl (lv_at hl 0 rfl) ?_
      refine rC_2_1 S hnX3 K hH (mG wd_82) dX3_growLinks_6 ?_
      refine lv_topi (fun v2 e2 => ?_)
      have b2 : 0 ≤ v2.toInt ∧ v2.toInt ≤ 12 := by rw [e2]; exact hI.1 3 0 0
      have f6 : v2.toInt = nK N := by rw [e2, hP 3 (by decide)]; exact hp1.2.1
      refine lv_icmp_ge (tgt := 108) S.1 S.2.1 dX3_growLinks_9 (by decide) (fun c3 => ?_) (fun c3 => ?_)
      · have j3 := t_le c3
        refine lv_iload_n S.1 S.2.1 dX3_growLinks_108 rfl (lv_at hl 1 rfl) ?_
        refine cW_zret S hr hk hH hS (nz (by omega)) ?_ dX3_growLinks_109
        exact ⟨x1_1, rfl, hI, hP, rfl, by exact ⟨by omega, gl_end (by have z3 := cl_eq (j := x2_1) (by omega); omega) wg wc⟩⟩
      · have j3 := t_nle c3
        have kc : x2_1.toNatClampNeg < nK N := by have z3 := cl_eq (j := x2_1) (by omega); omega
        have kR := hp1.2.2 x2_1.toNatClampNeg kc
        refine lv_aload_n S.1 S.2.1 dX3_growLinks_12 rfl (lv_at hl 0 rfl) ?_
        refine rC_2_0 S hnX3 K hH (mG wd_81) dX3_growLinks_13 ?_
        refine lv_iload_n S.1 S.2.1 dX3_growLinks_16 rfl (lv_at hl 2 rfl) ?_
        refine lC_3 S K hH (vin (by omega) (by omega)) dX3_growLinks_17 ?_
        refine lv_astore_n (lv' := [(3, .ref (L 14 x2_1.toNatClampNeg)), (0, .ref (L 2 0)), (1, .int x1_1), (2, .int x2_1)]) S.1 S.2.1 dX3_growLinks_18 rfl hl (by decide) rfl (fun ls hl => ?_)
        refine lv_iconst (v := 0) S.1 S.2.1 dX3_growLinks_19 (by decide) ?_
        refine lv_istore (lv' := [(4, .int 0), (3, .ref (L 14 x2_1.toNatClampNeg)), (0, .ref (L 2 0)), (1, .int x1_1), (2, .int x2_1)]) S.1 S.2.1 dX3_growLinks_20 hl (by decide) rfl (fun ls hl => ?_)
        refine lv_aload_n S.1 S.2.1 dX3_growLinks_22 rfl (lv_at hl 1 rfl) ?_
        refine rC_14_0 S hnX0 K hH (cl_lt (n := 12) (by omega) (by omega)) (mG wd_92) dX3_growLinks_23 ?_
        refine lv_topi (fun v4 e4 => ?_)
        have f23 : v4.toInt = nW N x2_1.toNatClampNeg := by rw [e4, hP 21 (by decide)]; exact kR.1.2.2.1
        refine lv_if_ne (tgt := 33) S.1 S.2.1 dX3_growLinks_26 (by decide) (fun c5 => ?_) (fun c5 => ?_)
        · have j5 := t_neq c5
          refine lv_aload_n S.1 S.2.1 dX3_growLinks_33 rfl (lv_at hl 1 rfl) ?_
          refine rC_14_5 S hnX0 K hH (cl_lt (n := 12) (by omega) (by omega)) (mG wd_93) dX3_growLinks_34 ?_
          refine lv_topi (fun v6 e6 => ?_)
          have b6 : 0 ≤ v6.toInt ∧ v6.toInt ≤ 6 := by rw [e6]; exact hI.1 26 x2_1.toNatClampNeg 0
          have f34 : v6.toInt = nS N x2_1.toNatClampNeg := by rw [e6, hP 26 (by decide)]; exact kR.1.1
          refine lv_iconst (v := 1) S.1 S.2.1 dX3_growLinks_37 (by decide) ?_
          refine lv_isub S.1 S.2.1 dX3_growLinks_38 ?_
          refine lv_topi (fun v7 e7 => ?_)
          have i7 : v7.toInt = v6.toInt - (1 : Int32).toInt := i_sub e7 (by omega) (by omega)
          refine lv_istore (lv' := [(5, .int v7), (4, .int 0), (3, .ref (L 14 x2_1.toNatClampNeg)), (0, .ref (L 2 0)), (1, .int x1_1), (2, .int x2_1)]) S.1 S.2.1 dX3_growLinks_39 hl (by decide) rfl (fun ls hl => ?_)
          have cut_41_8 : ∀ (n : Nat) (x1_8 : Int32) (x4_8 : Int32) (x5_8 : Int32) (σ_8 : QS) (H : Heap) (locs : List Loc) (ls : Array Slot), (x5_8.toInt + 1).toNat < n → 0 ≤ x1_8.toInt ∧ x1_8.toInt ≤ 1 → -1 ≤ x5_8.toInt ∧ x5_8.toInt ≤ 5 → (glI N (σ 8 0) (σ_8 8 0) x2_1.toNatClampNeg x5_8.toInt x4_8) → ((x1_8.toInt = 0 → σ_8 8 0 = σ 8 0)) → (x5_8.toInt < nS N x2_1.toNatClampNeg) → InvC σ_8 → Keep [8] σ σ_8 → hW cntC gC D B L σ_8 τ H → va_S A s.heap H locs → lv_has ls 7 [(0, .ref (L 2 0)), (1, .int x1_8), (2, .int x2_1), (3, .ref (L 14 x2_1.toNatClampNeg)), (4, .int x4_8), (5, .int x5_8)] → W p l e { frames := 0, cells := 0, slots := 0, locals := 0 } s m [.ref (L 2 0)].toArray below meth c H locs 0 0 (MQ below (QcW cntC gC D B L A (pI (fun x σ' τ' => InvC σ' ∧ Keep [8] σ σ' ∧ τ' = τ ∧ ((x.toInt = 0 ∨ x.toInt = 1) ∧ glP N (σ 8 0) (σ' 8 0) x)))) [.ref (L 2 0)].toArray s 0 0 A) (F0 m 41 ls []) := by
            intro n
            induction n with
            | zero => intro x1_8 x4_8 x5_8 σ_8 H locs ls hm; exact absurd hm (Nat.not_lt_zero _)
            | succ n ih8 =>
              intro x1_8 x4_8 x5_8 σ_8 H locs ls hm8 h8_0 h8_1 wg wc ws hI hP hH hS hl
              refine lv_iload S.1 S.2.1 dX3_growLinks_41 (lv_at hl 5 rfl) ?_
              refine lv_if_lt (tgt := 102) S.1 S.2.1 dX3_growLinks_43 (by decide) (fun c9 => ?_) (fun c9 => ?_)
              · have j9 := t_lt c9
                obtain ⟨v10, e10⟩ : ∃ y_9 : Int32, y_9 = x2_1 + 1 := ⟨_, rfl⟩
                have i10 : v10.toInt = x2_1.toInt + 1 := i_addc e10 (by decide) (by omega) (by omega)
                refine lv_iinc (v := v10) (lv' := [(2, .int v10), (0, .ref (L 2 0)), (1, .int x1_8), (3, .ref (L 14 x2_1.toNatClampNeg)), (4, .int x4_8), (5, .int x5_8)]) S.1 S.2.1 dX3_growLinks_102 hl (k := 2) rfl (by rw [e10]; rfl) (by decide) rfl (fun ls hl => ?_)
                refine lv_goto (tgt := 4) S.1 S.2.1 dX3_growLinks_105 (by decide) ?_
                exact ih1 x1_8 v10 σ_8 _ _ ls (by omega) (by omega) (by omega) (by rw [cl_n1 i10 (by omega)]; exact gl_out hN9 (by have h9 : x5_8.toInt = -1 := (by omega); rw [← h9]; exact wg)) (by exact wc) (by omega) hI hP hH hS (lv_sub hl [1, 2, 0] rfl)
              · have j9 := t_nlt c9
                have k5 := cl_eq (j := x5_8) (by omega)
                have ks : x5_8.toNatClampNeg < nS N x2_1.toNatClampNeg := by omega
                refine lv_aload_n S.1 S.2.1 dX3_growLinks_46 rfl (lv_at hl 3 rfl) ?_
                refine rC_14_6 S hnX0 K hH (cl_lt (n := 12) (by omega) (by omega)) (mG wd_94) dX3_growLinks_47 ?_
                refine lv_iload S.1 S.2.1 dX3_growLinks_50 (lv_at hl 5 rfl) ?_
                refine lC_15 S K hH (cl_lt (n := 12) (by omega) (by omega)) (vin (by omega) (by omega)) dX3_growLinks_52 ?_
                refine lv_topi (fun v11 e11 => ?_)
                have b11 : 0 ≤ v11.toInt ∧ v11.toInt ≤ 11 := by rw [e11]; exact hI.1 27 x2_1.toNatClampNeg x5_8.toNatClampNeg
                have f52 : v11.toInt = nP N x2_1.toNatClampNeg x5_8.toNatClampNeg := by rw [e11, hP 27 (by decide)]; exact (kR.2.1 _ ks).1
                have kp : v11.toNatClampNeg = nP N x2_1.toNatClampNeg x5_8.toNatClampNeg := by have z3 := cl_eq (j := v11) (by omega); omega
                refine lv_istore (lv' := [(6, .int v11), (0, .ref (L 2 0)), (1, .int x1_8), (2, .int x2_1), (3, .ref (L 14 x2_1.toNatClampNeg)), (4, .int x4_8), (5, .int x5_8)]) S.1 S.2.1 dX3_growLinks_53 hl (by decide) rfl (fun ls hl => ?_)
                refine lv_iload S.1 S.2.1 dX3_growLinks_55 (lv_at hl 5 rfl) ?_
                refine lv_aload_n S.1 S.2.1 dX3_growLinks_57 rfl (lv_at hl 1 rfl) ?_
                refine rC_2_5 S hnX3 K hH (mG wd_86) dX3_growLinks_58 ?_
                refine lv_iload S.1 S.2.1 dX3_growLinks_61 (lv_at hl 0 rfl) ?_
                refine lC_6 S K hH (vin (by omega) (by omega)) dX3_growLinks_63 ?_
                refine lv_topi (fun v12 e12 => ?_)
                have f63 : v12 = σ_8 8 0 (nP N x2_1.toNatClampNeg x5_8.toNatClampNeg) := by rw [e12, kp]
                refine lv_iconst (v := (-1)) S.1 S.2.1 dX3_growLinks_64 (by decide) ?_
                refine lv_ixor S.1 S.2.1 dX3_growLinks_65 ?_
                refine lv_topi (fun v13 e13 => ?_)
                refine lv_iand S.1 S.2.1 dX3_growLinks_66 ?_
                refine lv_topi (fun v14 e14 => ?_)
                refine lv_if_eq (tgt := 84) S.1 S.2.1 dX3_growLinks_67 (by decide) (fun c15 => ?_) (fun c15 => ?_)
                · have j15 := t_eq c15
                  refine lv_iload S.1 S.2.1 dX3_growLinks_84 (lv_at hl 5 rfl) ?_
                  refine lv_aload_n S.1 S.2.1 dX3_growLinks_86 rfl (lv_at hl 1 rfl) ?_
                  refine rC_2_5 S hnX3 K hH (mG wd_86) dX3_growLinks_87 ?_
                  refine lv_iload S.1 S.2.1 dX3_growLinks_90 (lv_at hl 0 rfl) ?_
                  refine lC_6 S K hH (vin (by omega) (by omega)) dX3_growLinks_92 ?_
                  refine lv_topi (fun v16 e16 => ?_)
                  have k16 : v16.toInt = v12.toInt := by rw [e16]; rw [← e12]
                  have f92 : v16 = σ_8 8 0 (nP N x2_1.toNatClampNeg x5_8.toNatClampNeg) := by rw [e16, kp]
                  refine lv_ior S.1 S.2.1 dX3_growLinks_93 ?_
                  refine lv_topi (fun v17 e17 => ?_)
                  refine lv_istore (lv' := [(4, .int v17), (6, .int v11), (0, .ref (L 2 0)), (1, .int x1_8), (2, .int x2_1), (3, .ref (L 14 x2_1.toNatClampNeg)), (5, .int x5_8)]) S.1 S.2.1 dX3_growLinks_94 hl (by decide) rfl (fun ls hl => ?_)
                  obtain ⟨v18, e18⟩ : ∃ y_9 : Int32, y_9 = x5_8 + (-1) := ⟨_, rfl⟩
                  have i18 : v18.toInt = x5_8.toInt + (-1) := i_addc e18 (by decide) (by omega) (by omega)
                  refine lv_iinc (v := v18) (lv' := [(5, .int v18), (4, .int v17), (6, .int v11), (0, .ref (L 2 0)), (1, .int x1_8), (2, .int x2_1), (3, .ref (L 14 x2_1.toNatClampNeg))]) S.1 S.2.1 dX3_growLinks_96 hl (k := 6) rfl (by rw [e18]; rfl) (by decide) rfl (fun ls hl => ?_)
                  refine lv_goto (tgt := 41) S.1 S.2.1 dX3_growLinks_99 (by decide) ?_
                  exact ih8 x1_8 v17 v18 σ_8 _ _ ls (by omega) (by omega) (by omega) (by rw [i18]; first | exact gl_st hN9 kc ks k5 wg (Or.inl ⟨rfl, gl_sub (by rw [← f63, ← e13, ← e14]; assumption)⟩) (by rw [e17, f92]) | exact gl_st hN9 kc ks k5 wg (Or.inr (by rw [eσ9999, rs_self, kp, e9999, f77])) (by rw [e17, f92])) (by first | exact wc | (intro z; exact absurd z (by decide))) (by omega) hI hP hH hS (lv_sub hl [3, 4, 5, 6, 1, 0] rfl)
                · have j15 := t_neq c15
                  refine lv_aload_n S.1 S.2.1 dX3_growLinks_70 rfl (lv_at hl 1 rfl) ?_
                  refine rC_2_5 S hnX3 K hH (mG wd_86) dX3_growLinks_71 ?_
                  refine lv_iload S.1 S.2.1 dX3_growLinks_74 (lv_at hl 0 rfl) ?_
                  refine lv_dup2_11 S.1 S.2.1 dX3_growLinks_76 rfl rfl ?_
                  refine lC_6 S K hH (vin (by omega) (by omega)) dX3_growLinks_77 ?_
                  refine lv_topi (fun v19 e19 => ?_)
                  have k19 : v19.toInt = v12.toInt := by rw [e19]; rw [← e12]
                  have f77 : v19 = σ_8 8 0 (nP N x2_1.toNatClampNeg x5_8.toNatClampNeg) := by rw [e19, kp]
                  refine lv_iload S.1 S.2.1 dX3_growLinks_78 (lv_at hl 5 rfl) ?_
                  refine lv_ior S.1 S.2.1 dX3_growLinks_80 ?_
                  refine lv_topi (fun v20 e20 => ?_)
                  refine sC_6 S K hH hS (vin (by omega) (by omega)) dX3_growLinks_81 (fun H locs hH hS => ?_)
                  obtain ⟨σ21, eσ21⟩ : ∃ z_9 : QS, z_9 = rs σ_8 8 0 (upd (σ_8 8 0) v11.toNatClampNeg v20) := ⟨_, rfl⟩
                  rw [← eσ21] at hH
                  have hI := InvC_a eσ21 hI (by decide) (any32 _)
                  have hP := Keep_w eσ21 hP (by decide)
                  refine lv_iconst (v := 1) S.1 S.2.1 dX3_growLinks_82 (by decide) ?_
                  refine lv_istore_n (lv' := [(1, .int 1), (6, .int v11), (0, .ref (L 2 0)), (2, .int x2_1), (3, .ref (L 14 x2_1.toNatClampNeg)), (4, .int x4_8), (5, .int x5_8)]) S.1 S.2.1 dX3_growLinks_83 rfl hl (by decide) rfl (fun ls hl => ?_)
                  refine lv_iload S.1 S.2.1 dX3_growLinks_84 (lv_at hl 5 rfl) ?_
                  refine lv_aload_n S.1 S.2.1 dX3_growLinks_86 rfl (lv_at hl 2 rfl) ?_
                  refine rC_2_5 S hnX3 K hH (mG wd_86) dX3_growLinks_87 ?_
                  refine lv_iload S.1 S.2.1 dX3_growLinks_90 (lv_at hl 1 rfl) ?_
                  refine lC_6 S K hH (vin (by omega) (by omega)) dX3_growLinks_92 ?_
                  refine lv_topi (fun v22 e22 => ?_)
                  have f92 : v22 = σ21 8 0 (nP N x2_1.toNatClampNeg x5_8.toNatClampNeg) := by rw [e22, kp]
                  refine lv_ior S.1 S.2.1 dX3_growLinks_93 ?_
                  refine lv_topi (fun v23 e23 => ?_)
                  refine lv_istore (lv' := [(4, .int v23), (1, .int 1), (6, .int v11), (0, .ref (L 2 0)), (2, .int x2_1), (3, .ref (L 14 x2_1.toNatClampNeg)), (5, .int x5_8)]) S.1 S.2.1 dX3_growLinks_94 hl (by decide) rfl (fun ls hl => ?_)
                  obtain ⟨v24, e24⟩ : ∃ y_9 : Int32, y_9 = x5_8 + (-1) := ⟨_, rfl⟩
                  have i24 : v24.toInt = x5_8.toInt + (-1) := i_addc e24 (by decide) (by omega) (by omega)
                  refine lv_iinc (v := v24) (lv' := [(5, .int v24), (4, .int v23), (1, .int 1), (6, .int v11), (0, .ref (L 2 0)), (2, .int x2_1), (3, .ref (L 14 x2_1.toNatClampNeg))]) S.1 S.2.1 dX3_growLinks_96 hl (k := 6) rfl (by rw [e24]; rfl) (by decide) rfl (fun ls hl => ?_)
                  refine lv_goto (tgt := 41) S.1 S.2.1 dX3_growLinks_99 (by decide) ?_
                  exact ih8 1 v23 v24 σ21 _ _ ls (by omega) (by omega) (by omega) (by rw [i24]; first | exact gl_st hN9 kc ks k5 wg (Or.inl ⟨rfl, gl_sub (by rw [← f63, ← e13, ← e14]; assumption)⟩) (by rw [e23, f92]) | exact gl_st hN9 kc ks k5 wg (Or.inr (by rw [eσ21, rs_self, kp, e20, f77])) (by rw [e23, f92])) (by first | exact wc | (intro z; exact absurd z (by decide))) (by omega) hI hP hH hS (lv_sub hl [4, 2, 5, 6, 1, 0] rfl)
          exact cut_41_8 _ x1_1 0 v7 σ_1 _ _ ls (Nat.lt_succ_self _) (by omega) (by omega) (by exact gl_in hN9 kc wg (by first | exact Or.inl (by omega) | exact Or.inr (by omega))) (by exact wc) (by omega) hI hP hH hS (lv_sub hl [3, 4, 5, 2, 1, 0] rfl)
        · have j5 := t_eq c5
          refine lv_iconst (v := (-1)) S.1 S.2.1 dX3_growLinks_29 (by decide) ?_
          refine lv_goto (tgt := 39) S.1 S.2.1 dX3_growLinks_30 (by decide) ?_
          refine lv_istore (lv' := [(5, .int (-1)), (4, .int 0), (3, .ref (L 14 x2_1.toNatClampNeg)), (0, .ref (L 2 0)), (1, .int x1_1), (2, .int x2_1)]) S.1 S.2.1 dX3_growLinks_39 hl (by decide) rfl (fun ls hl => ?_)
          have cut_41_25 : ∀ (n : Nat) (x1_25 : Int32) (x4_25 : Int32) (x5_25 : Int32) (σ_25 : QS) (H : Heap) (locs : List Loc) (ls : Array Slot), (x5_25.toInt + 1).toNat < n → 0 ≤ x1_25.toInt ∧ x1_25.toInt ≤ 1 → -1 ≤ x5_25.toInt ∧ x5_25.toInt ≤ 5 → (glI N (σ 8 0) (σ_25 8 0) x2_1.toNatClampNeg x5_25.toInt x4_25) → ((x1_25.toInt = 0 → σ_25 8 0 = σ 8 0)) → (x5_25.toInt < nS N x2_1.toNatClampNeg) → InvC σ_25 → Keep [8] σ σ_25 → hW cntC gC D B L σ_25 τ H → va_S A s.heap H locs → lv_has ls 7 [(0, .ref (L 2 0)), (1, .int x1_25), (2, .int x2_1), (3, .ref (L 14 x2_1.toNatClampNeg)), (4, .int x4_25), (5, .int x5_25)] → W p l e { frames := 0, cells := 0, slots := 0, locals := 0 } s m [.ref (L 2 0)].toArray below meth c H locs 0 0 (MQ below (QcW cntC gC D B L A (pI (fun x σ' τ' => InvC σ' ∧ Keep [8] σ σ' ∧ τ' = τ ∧ ((x.toInt = 0 ∨ x.toInt = 1) ∧ glP N (σ 8 0) (σ' 8 0) x)))) [.ref (L 2 0)].toArray s 0 0 A) (F0 m 41 ls []) := by
            intro n
            induction n with
            | zero => intro x1_25 x4_25 x5_25 σ_25 H locs ls hm; exact absurd hm (Nat.not_lt_zero _)
            | succ n ih25 =>
              intro x1_25 x4_25 x5_25 σ_25 H locs ls hm25 h25_0 h25_1 wg wc ws hI hP hH hS hl
              refine lv_iload S.1 S.2.1 dX3_growLinks_41 (lv_at hl 5 rfl) ?_
              refine lv_if_lt (tgt := 102) S.1 S.2.1 dX3_growLinks_43 (by decide) (fun c26 => ?_) (fun c26 => ?_)
              · have j26 := t_lt c26
                obtain ⟨v27, e27⟩ : ∃ y_9 : Int32, y_9 = x2_1 + 1 := ⟨_, rfl⟩
                have i27 : v27.toInt = x2_1.toInt + 1 := i_addc e27 (by decide) (by omega) (by omega)
                refine lv_iinc (v := v27) (lv' := [(2, .int v27), (0, .ref (L 2 0)), (1, .int x1_25), (3, .ref (L 14 x2_1.toNatClampNeg)), (4, .int x4_25), (5, .int x5_25)]) S.1 S.2.1 dX3_growLinks_102 hl (k := 2) rfl (by rw [e27]; rfl) (by decide) rfl (fun ls hl => ?_)
                refine lv_goto (tgt := 4) S.1 S.2.1 dX3_growLinks_105 (by decide) ?_
                exact ih1 x1_25 v27 σ_25 _ _ ls (by omega) (by omega) (by omega) (by rw [cl_n1 i27 (by omega)]; exact gl_out hN9 (by have h9 : x5_25.toInt = -1 := (by omega); rw [← h9]; exact wg)) (by exact wc) (by omega) hI hP hH hS (lv_sub hl [1, 2, 0] rfl)
              · have j26 := t_nlt c26
                have k5 := cl_eq (j := x5_25) (by omega)
                have ks : x5_25.toNatClampNeg < nS N x2_1.toNatClampNeg := by omega
                refine lv_aload_n S.1 S.2.1 dX3_growLinks_46 rfl (lv_at hl 3 rfl) ?_
                refine rC_14_6 S hnX0 K hH (cl_lt (n := 12) (by omega) (by omega)) (mG wd_94) dX3_growLinks_47 ?_
                refine lv_iload S.1 S.2.1 dX3_growLinks_50 (lv_at hl 5 rfl) ?_
                refine lC_15 S K hH (cl_lt (n := 12) (by omega) (by omega)) (vin (by omega) (by omega)) dX3_growLinks_52 ?_
                refine lv_topi (fun v28 e28 => ?_)
                have b28 : 0 ≤ v28.toInt ∧ v28.toInt ≤ 11 := by rw [e28]; exact hI.1 27 x2_1.toNatClampNeg x5_25.toNatClampNeg
                have f52 : v28.toInt = nP N x2_1.toNatClampNeg x5_25.toNatClampNeg := by rw [e28, hP 27 (by decide)]; exact (kR.2.1 _ ks).1
                have kp : v28.toNatClampNeg = nP N x2_1.toNatClampNeg x5_25.toNatClampNeg := by have z3 := cl_eq (j := v28) (by omega); omega
                refine lv_istore (lv' := [(6, .int v28), (0, .ref (L 2 0)), (1, .int x1_25), (2, .int x2_1), (3, .ref (L 14 x2_1.toNatClampNeg)), (4, .int x4_25), (5, .int x5_25)]) S.1 S.2.1 dX3_growLinks_53 hl (by decide) rfl (fun ls hl => ?_)
                refine lv_iload S.1 S.2.1 dX3_growLinks_55 (lv_at hl 5 rfl) ?_
                refine lv_aload_n S.1 S.2.1 dX3_growLinks_57 rfl (lv_at hl 1 rfl) ?_
                refine rC_2_5 S hnX3 K hH (mG wd_86) dX3_growLinks_58 ?_
                refine lv_iload S.1 S.2.1 dX3_growLinks_61 (lv_at hl 0 rfl) ?_
                refine lC_6 S K hH (vin (by omega) (by omega)) dX3_growLinks_63 ?_
                refine lv_topi (fun v29 e29 => ?_)
                have f63 : v29 = σ_25 8 0 (nP N x2_1.toNatClampNeg x5_25.toNatClampNeg) := by rw [e29, kp]
                refine lv_iconst (v := (-1)) S.1 S.2.1 dX3_growLinks_64 (by decide) ?_
                refine lv_ixor S.1 S.2.1 dX3_growLinks_65 ?_
                refine lv_topi (fun v30 e30 => ?_)
                refine lv_iand S.1 S.2.1 dX3_growLinks_66 ?_
                refine lv_topi (fun v31 e31 => ?_)
                refine lv_if_eq (tgt := 84) S.1 S.2.1 dX3_growLinks_67 (by decide) (fun c32 => ?_) (fun c32 => ?_)
                · have j32 := t_eq c32
                  refine lv_iload S.1 S.2.1 dX3_growLinks_84 (lv_at hl 5 rfl) ?_
                  refine lv_aload_n S.1 S.2.1 dX3_growLinks_86 rfl (lv_at hl 1 rfl) ?_
                  refine rC_2_5 S hnX3 K hH (mG wd_86) dX3_growLinks_87 ?_
                  refine lv_iload S.1 S.2.1 dX3_growLinks_90 (lv_at hl 0 rfl) ?_
                  refine lC_6 S K hH (vin (by omega) (by omega)) dX3_growLinks_92 ?_
                  refine lv_topi (fun v33 e33 => ?_)
                  have k33 : v33.toInt = v29.toInt := by rw [e33]; rw [← e29]
                  have f92 : v33 = σ_25 8 0 (nP N x2_1.toNatClampNeg x5_25.toNatClampNeg) := by rw [e33, kp]
                  refine lv_ior S.1 S.2.1 dX3_growLinks_93 ?_
                  refine lv_topi (fun v34 e34 => ?_)
                  refine lv_istore (lv' := [(4, .int v34), (6, .int v28), (0, .ref (L 2 0)), (1, .int x1_25), (2, .int x2_1), (3, .ref (L 14 x2_1.toNatClampNeg)), (5, .int x5_25)]) S.1 S.2.1 dX3_growLinks_94 hl (by decide) rfl (fun ls hl => ?_)
                  obtain ⟨v35, e35⟩ : ∃ y_9 : Int32, y_9 = x5_25 + (-1) := ⟨_, rfl⟩
                  have i35 : v35.toInt = x5_25.toInt + (-1) := i_addc e35 (by decide) (by omega) (by omega)
                  refine lv_iinc (v := v35) (lv' := [(5, .int v35), (4, .int v34), (6, .int v28), (0, .ref (L 2 0)), (1, .int x1_25), (2, .int x2_1), (3, .ref (L 14 x2_1.toNatClampNeg))]) S.1 S.2.1 dX3_growLinks_96 hl (k := 6) rfl (by rw [e35]; rfl) (by decide) rfl (fun ls hl => ?_)
                  refine lv_goto (tgt := 41) S.1 S.2.1 dX3_growLinks_99 (by decide) ?_
                  exact ih25 x1_25 v34 v35 σ_25 _ _ ls (by omega) (by omega) (by omega) (by rw [i35]; first | exact gl_st hN9 kc ks k5 wg (Or.inl ⟨rfl, gl_sub (by rw [← f63, ← e30, ← e31]; assumption)⟩) (by rw [e34, f92]) | exact gl_st hN9 kc ks k5 wg (Or.inr (by rw [eσ21, rs_self, kp, e20, f77])) (by rw [e34, f92])) (by first | exact wc | (intro z; exact absurd z (by decide))) (by omega) hI hP hH hS (lv_sub hl [3, 4, 5, 6, 1, 0] rfl)
                · have j32 := t_neq c32
                  refine lv_aload_n S.1 S.2.1 dX3_growLinks_70 rfl (lv_at hl 1 rfl) ?_
                  refine rC_2_5 S hnX3 K hH (mG wd_86) dX3_growLinks_71 ?_
                  refine lv_iload S.1 S.2.1 dX3_growLinks_74 (lv_at hl 0 rfl) ?_
                  refine lv_dup2_11 S.1 S.2.1 dX3_growLinks_76 rfl rfl ?_
                  refine lC_6 S K hH (vin (by omega) (by omega)) dX3_growLinks_77 ?_
                  refine lv_topi (fun v36 e36 => ?_)
                  have k36 : v36.toInt = v29.toInt := by rw [e36]; rw [← e29]
                  have f77 : v36 = σ_25 8 0 (nP N x2_1.toNatClampNeg x5_25.toNatClampNeg) := by rw [e36, kp]
                  refine lv_iload S.1 S.2.1 dX3_growLinks_78 (lv_at hl 5 rfl) ?_
                  refine lv_ior S.1 S.2.1 dX3_growLinks_80 ?_
                  refine lv_topi (fun v37 e37 => ?_)
                  refine sC_6 S K hH hS (vin (by omega) (by omega)) dX3_growLinks_81 (fun H locs hH hS => ?_)
                  obtain ⟨σ38, eσ38⟩ : ∃ z_9 : QS, z_9 = rs σ_25 8 0 (upd (σ_25 8 0) v28.toNatClampNeg v37) := ⟨_, rfl⟩
                  rw [← eσ38] at hH
                  have hI := InvC_a eσ38 hI (by decide) (any32 _)
                  have hP := Keep_w eσ38 hP (by decide)
                  refine lv_iconst (v := 1) S.1 S.2.1 dX3_growLinks_82 (by decide) ?_
                  refine lv_istore_n (lv' := [(1, .int 1), (6, .int v28), (0, .ref (L 2 0)), (2, .int x2_1), (3, .ref (L 14 x2_1.toNatClampNeg)), (4, .int x4_25), (5, .int x5_25)]) S.1 S.2.1 dX3_growLinks_83 rfl hl (by decide) rfl (fun ls hl => ?_)
                  refine lv_iload S.1 S.2.1 dX3_growLinks_84 (lv_at hl 5 rfl) ?_
                  refine lv_aload_n S.1 S.2.1 dX3_growLinks_86 rfl (lv_at hl 2 rfl) ?_
                  refine rC_2_5 S hnX3 K hH (mG wd_86) dX3_growLinks_87 ?_
                  refine lv_iload S.1 S.2.1 dX3_growLinks_90 (lv_at hl 1 rfl) ?_
                  refine lC_6 S K hH (vin (by omega) (by omega)) dX3_growLinks_92 ?_
                  refine lv_topi (fun v39 e39 => ?_)
                  have f92 : v39 = σ38 8 0 (nP N x2_1.toNatClampNeg x5_25.toNatClampNeg) := by rw [e39, kp]
                  refine lv_ior S.1 S.2.1 dX3_growLinks_93 ?_
                  refine lv_topi (fun v40 e40 => ?_)
                  refine lv_istore (lv' := [(4, .int v40), (1, .int 1), (6, .int v28), (0, .ref (L 2 0)), (2, .int x2_1), (3, .ref (L 14 x2_1.toNatClampNeg)), (5, .int x5_25)]) S.1 S.2.1 dX3_growLinks_94 hl (by decide) rfl (fun ls hl => ?_)
                  obtain ⟨v41, e41⟩ : ∃ y_9 : Int32, y_9 = x5_25 + (-1) := ⟨_, rfl⟩
                  have i41 : v41.toInt = x5_25.toInt + (-1) := i_addc e41 (by decide) (by omega) (by omega)
                  refine lv_iinc (v := v41) (lv' := [(5, .int v41), (4, .int v40), (1, .int 1), (6, .int v28), (0, .ref (L 2 0)), (2, .int x2_1), (3, .ref (L 14 x2_1.toNatClampNeg))]) S.1 S.2.1 dX3_growLinks_96 hl (k := 6) rfl (by rw [e41]; rfl) (by decide) rfl (fun ls hl => ?_)
                  refine lv_goto (tgt := 41) S.1 S.2.1 dX3_growLinks_99 (by decide) ?_
                  exact ih25 1 v40 v41 σ38 _ _ ls (by omega) (by omega) (by omega) (by rw [i41]; first | exact gl_st hN9 kc ks k5 wg (Or.inl ⟨rfl, gl_sub (by rw [← f63, ← e30, ← e31]; assumption)⟩) (by rw [e40, f92]) | exact gl_st hN9 kc ks k5 wg (Or.inr (by rw [eσ38, rs_self, kp, e37, f77])) (by rw [e40, f92])) (by first | exact wc | (intro z; exact absurd z (by decide))) (by omega) hI hP hH hS (lv_sub hl [4, 2, 5, 6, 1, 0] rfl)
          exact cut_41_25 _ x1_1 0 (-1) σ_1 _ _ ls (Nat.lt_succ_self _) (by omega) (by omega) (by exact gl_in hN9 kc wg (by first | exact Or.inl (by omega) | exact Or.inr (by omega))) (by exact wc) (by omega) hI hP hH hS (lv_sub hl [3, 4, 5, 2, 1, 0] rfl)
  exact cut_4_1 _ 0 0 σ _ _ ls (Nat.lt_succ_self _) (by omega) (by omega) (by rw [show (0 : Int32).toNatClampNeg = 0 by decide]; exact gl_b hN9) (by intro _; rfl) (by omega) hI hP hH hS (lv_sub hl [2, 1, 0] rfl)
set_option maxHeartbeats 4000000 in
set_option maxRecDepth 100000 in
theorem k_X3_renew (l : Launch) (D : va_G) (B : Nat → ClassId) (L : QL) (A : Nat → Prop) (σ : QS) (τ : Int64)  (N : Net) (hI : InvC σ) (hp1 : RepC σ N) : cW cntC gC l D B L A yX3_renew wsX3_renew 1 26 [.ref (L 2 0)] σ τ (pV (fun σ' τ' => InvC σ' ∧ Keep [4, 8] σ σ' ∧ τ' = τ ∧ (LnkC (σ' 8 0) N ∧ (∀ p, p < 12 → b12 (σ' 8 0 p)) ∧ σ' 4 0 0 = σ 4 0 0 + 1))) := by
  refine cW_of (cc := cX3_renew) (nL := 2) (ret := none) (by decide) rfl (Nat.le_of_ble_eq_true rfl) ?_
  intro p e s m below meth c S hr hk K hH hS ls hl
  have hnX0 : ∀ w ∈ wsX00, w ∈ wsX3_renew := fun w h => mG (tX0 w h)
  have hnX3 : ∀ w ∈ wsX30, w ∈ wsX3_renew := fun w h => mG (tX3 w h)
  have l0 : (0 : Int32).toInt = 0 := by decide
  have l1 : (1 : Int32).toInt = 1 := by decide
  have l12 : (12 : Int32).toInt = 12 := by decide
  have hP : Keep [4, 8] σ σ := Keep_r
  have hN9 := hp1.1
  have hl : lv_has ls 2 [(0, .ref (L 2 0))] := hl
  refine lv_aload_n S.1 S.2.1 dX3_renew_0 rfl (lv_at hl 0 rfl) ?_
  refine lv_dup S.1 S.2.1 dX3_renew_1 rfl ?_
  refine rC_2_2 S hnX3 K hH (mG wd_83) dX3_renew_2 ?_
  refine lv_topi (fun v1 e1 => ?_)
  refine lv_iconst (v := 1) S.1 S.2.1 dX3_renew_5 (by decide) ?_
  refine lv_iadd S.1 S.2.1 dX3_renew_6 ?_
  refine lv_topi (fun v2 e2 => ?_)
  refine pC_2_2 S hnX3 K hH hS (mG wd_83) dX3_renew_7 (fun H locs hH hS => ?_)
  obtain ⟨σ3, eσ3⟩ : ∃ z_9 : QS, z_9 = rs σ 4 0 (fun _ => v2) := ⟨_, rfl⟩
  rw [← eσ3] at hH
  have hI := InvC_f eσ3 hI (by decide) (any32 _)
  have hP := Keep_w eσ3 hP (by decide)
  refine lv_iconst (v := 0) S.1 S.2.1 dX3_renew_10 (by decide) ?_
  refine lv_istore_n (lv' := [(1, .int 0), (0, .ref (L 2 0))]) S.1 S.2.1 dX3_renew_11 rfl hl (by decide) rfl (fun ls hl => ?_)
  have cut_12_4 : ∀ (n : Nat) (x1_4 : Int32) (σ_4 : QS) (H : Heap) (locs : List Loc) (ls : Array Slot), (12 - x1_4.toInt).toNat < n → 0 ≤ x1_4.toInt ∧ x1_4.toInt ≤ 12 → (∀ j : Nat, (j : Int) < x1_4.toInt → σ_4 8 0 j = pBI (nI j)) → (σ_4 4 0 0 = σ 4 0 0 + 1) → InvC σ_4 → Keep [4, 8] σ σ_4 → hW cntC gC D B L σ_4 τ H → va_S A s.heap H locs → lv_has ls 2 [(0, .ref (L 2 0)), (1, .int x1_4)] → W p l e { frames := 1, cells := 0, slots := 0, locals := 26 } s m [.ref (L 2 0)].toArray below meth c H locs 0 0 (MQ below (QcW cntC gC D B L A (pV (fun σ' τ' => InvC σ' ∧ Keep [4, 8] σ σ' ∧ τ' = τ ∧ (LnkC (σ' 8 0) N ∧ (∀ p, p < 12 → b12 (σ' 8 0 p)) ∧ σ' 4 0 0 = σ 4 0 0 + 1)))) [.ref (L 2 0)].toArray s 0 0 A) (F0 m 12 ls []) := by
    intro n
    induction n with
    | zero => intro x1_4 σ_4 H locs ls hm; exact absurd hm (Nat.not_lt_zero _)
    | succ n ih4 =>
      intro x1_4 σ_4 H locs ls hm4 h4_0 wf wv hI hP hH hS hl
      refine lv_iload_n S.1 S.2.1 dX3_renew_12 rfl (lv_at hl 1 rfl) ?_
      refine lv_bipush (v := 12) S.1 S.2.1 dX3_renew_13 (by decide) ?_
      refine lv_icmp_ge (tgt := 33) S.1 S.2.1 dX3_renew_15 (by decide) (fun c5 => ?_) (fun c5 => ?_)
      · have j5 := t_le c5
        refine lv_iconst (v := 0) S.1 S.2.1 dX3_renew_33 (by decide) ?_
        refine lv_istore_n (lv' := [(1, .int 0), (0, .ref (L 2 0))]) S.1 S.2.1 dX3_renew_34 rfl hl (by decide) rfl (fun ls hl => ?_)
        have cut_35_6 : ∀ (n : Nat) (x1_6 : Int32) (σ_6 : QS) (H : Heap) (locs : List Loc) (ls : Array Slot), (12 - x1_6.toInt).toNat < n → 0 ≤ x1_6.toInt ∧ x1_6.toInt ≤ 12 → (lkAt N x1_6.toNatClampNeg (σ_6 8 0)) → (∀ p, p < 12 → b12 (σ_6 8 0 p)) → (σ_6 4 0 0 = σ 4 0 0 + 1) → InvC σ_6 → Keep [4, 8] σ σ_6 → hW cntC gC D B L σ_6 τ H → va_S A s.heap H locs → lv_has ls 2 [(0, .ref (L 2 0)), (1, .int x1_6)] → W p l e { frames := 1, cells := 0, slots := 0, locals := 26 } s m [.ref (L 2 0)].toArray below meth c H locs 0 0 (MQ below (QcW cntC gC D B L A (pV (fun σ' τ' => InvC σ' ∧ Keep [4, 8] σ σ' ∧ τ' = τ ∧ (LnkC (σ' 8 0) N ∧ (∀ p, p < 12 → b12 (σ' 8 0 p)) ∧ σ' 4 0 0 = σ 4 0 0 + 1)))) [.ref (L 2 0)].toArray s 0 0 A) (F0 m 35 ls []) := by
          intro n
          induction n with
          | zero => intro x1_6 σ_6 H locs ls hm; exact absurd hm (Nat.not_lt_zero _)
          | succ n ih6 =>
            intro x1_6 σ_6 H locs ls hm6 h6_0 wl wb wv hI hP hH hS hl
            refine lv_iload_n S.1 S.2.1 dX3_renew_35 rfl (lv_at hl 1 rfl) ?_
            refine lv_bipush (v := 12) S.1 S.2.1 dX3_renew_36 (by decide) ?_
            refine lv_icmp_ge (tgt := 55) S.1 S.2.1 dX3_renew_38 (by decide) (fun c7 => ?_) (fun c7 => ?_)
            · have j7 := t_le c7
              refine cW_vret S hr hk hH hS ?_ dX3_renew_55
              exact ⟨rfl, hI, hP, rfl, by exact ⟨lk_full hN9 (by have h9 : x1_6.toNatClampNeg = 12 := (by have z3 := cl_eq (j := x1_6) (by omega); omega); rw [← h9]; exact wl), wb, wv⟩⟩
            · have j7 := t_nle c7
              refine lv_aload_n S.1 S.2.1 dX3_renew_41 rfl (lv_at hl 0 rfl) ?_
              refine cW_bi (cW_V (n := 0) (As := []) (rest := []) (k := 2) (i := 0) S K hH (by decide) rfl rfl (k_X3_growLinks l D B L A σ_6 τ  (N) hI (RepC_k hp1 hP (by decide))) gX3_renew_X3_growLinks rfl hdV_X3_growLinks ⟨Nat.le_of_ble_eq_true rfl, Nat.le_of_ble_eq_true rfl⟩ rfl hl.1 (Nat.le_of_ble_eq_true rfl) dX3_renew_42) hS (fun v8 σ8 τ8 H locs q8 hH hS => ?_)
              obtain ⟨hI, hP8, hτ8, q8⟩ := q8
              rw [hτ8] at hH
              have hP := Keep_t hP hP8 (by decide)
              refine lv_if_ne (tgt := 49) S.1 S.2.1 dX3_renew_45 (by decide) (fun c9 => ?_) (fun c9 => ?_)
              · have j9 := t_neq c9
                obtain ⟨v10, e10⟩ : ∃ y_9 : Int32, y_9 = x1_6 + 1 := ⟨_, rfl⟩
                have i10 : v10.toInt = x1_6.toInt + 1 := i_addc e10 (by decide) (by omega) (by omega)
                refine lv_iinc (v := v10) (lv' := [(1, .int v10), (0, .ref (L 2 0))]) S.1 S.2.1 dX3_renew_49 hl (k := 1) rfl (by rw [e10]; rfl) (by decide) rfl (fun ls hl => ?_)
                refine lv_goto (tgt := 35) S.1 S.2.1 dX3_renew_52 (by decide) ?_
                exact ih6 v10 σ8 _ _ ls (by omega) (by omega) (by rw [cl_n1 i10 (by omega)]; exact gl_next hN9 wl (q8).2) (by exact (q8).2.2.2.1 wb) (by rw [hP8 4 (by decide)]; exact wv) hI hP hH hS (lv_sub hl [1, 0] rfl)
              · have j9 := t_eq c9
                refine cW_vret S hr hk hH hS ?_ dX3_renew_48
                exact ⟨rfl, hI, hP, rfl, by exact ⟨gl_stop hN9 wl (q8).2 (by omega), (q8).2.2.2.1 wb, by rw [hP8 4 (by decide)]; exact wv⟩⟩
        exact cut_35_6 _ 0 σ_4 _ _ ls (Nat.lt_succ_self _) (by omega) (by rw [show (0 : Int32).toNatClampNeg = 0 by decide]; exact (lk_init (N := N) (fun j hj => wf j (by omega))).1) (by exact (lk_init (N := N) (fun j hj => wf j (by omega))).2) (by exact wv) hI hP hH hS (lv_sub hl [1, 0] rfl)
      · have j5 := t_nle c5
        refine lv_aload_n S.1 S.2.1 dX3_renew_18 rfl (lv_at hl 0 rfl) ?_
        refine rC_2_5 S hnX3 K hH (mG wd_86) dX3_renew_19 ?_
        refine lv_iload_n S.1 S.2.1 dX3_renew_22 rfl (lv_at hl 1 rfl) ?_
        refine lv_iconst (v := 1) S.1 S.2.1 dX3_renew_23 (by decide) ?_
        refine lv_iload_n S.1 S.2.1 dX3_renew_24 rfl (lv_at hl 1 rfl) ?_
        refine lv_ishl S.1 S.2.1 dX3_renew_25 ?_
        refine lv_topi (fun v11 e11 => ?_)
        refine sC_6 S K hH hS (vin (by omega) (by omega)) dX3_renew_26 (fun H locs hH hS => ?_)
        obtain ⟨σ12, eσ12⟩ : ∃ z_9 : QS, z_9 = rs σ_4 8 0 (upd (σ_4 8 0) x1_4.toNatClampNeg v11) := ⟨_, rfl⟩
        rw [← eσ12] at hH
        have hI := InvC_a eσ12 hI (by decide) (any32 _)
        have hP := Keep_w eσ12 hP (by decide)
        obtain ⟨v13, e13⟩ : ∃ y_9 : Int32, y_9 = x1_4 + 1 := ⟨_, rfl⟩
        have i13 : v13.toInt = x1_4.toInt + 1 := i_addc e13 (by decide) (by omega) (by omega)
        refine lv_iinc (v := v13) (lv' := [(1, .int v13), (0, .ref (L 2 0))]) S.1 S.2.1 dX3_renew_27 hl (k := 1) rfl (by rw [e13]; rfl) (by decide) rfl (fun ls hl => ?_)
        refine lv_goto (tgt := 12) S.1 S.2.1 dX3_renew_30 (by decide) ?_
        exact ih4 v13 σ12 _ _ ls (by omega) (by omega) (by exact init_s eσ12 wf i13 (by omega) (by rw [e11]; rfl)) (by rw [eσ12, rs_v (by decide)]; exact wv) hI hP hH hS (lv_sub hl [1, 0] rfl)
  exact cut_12_4 _ 0 σ3 _ _ ls (Nat.lt_succ_self _) (by omega) (by intro j h1; omega) (by rw [eσ3, rs_self, e2, e1]) hI hP hH hS (lv_sub hl [1, 0] rfl)
set_option maxHeartbeats 4000000 in
set_option maxRecDepth 100000 in
theorem k_X3_addHalt (l : Launch) (D : va_G) (B : Nat → ClassId) (L : QL) (A : Nat → Prop) (σ : QS) (τ : Int64) (a : Int32) (b : Int32) (t : Int32)  (hp0 : 0 ≤ a.toInt ∧ a.toInt ≤ 23) (hp1 : 0 ≤ b.toInt ∧ b.toInt ≤ 11) (hp2 : 0 ≤ t.toInt ∧ t.toInt ≤ 5) (hI : InvC σ) : cW cntC gC l D B L A yX3_addHalt wsX3_addHalt 0 0 [.ref (L 2 0), .int a, .int b, .int t] σ τ (pV (fun σ' τ' => InvC σ' ∧ Keep [6, 7] σ σ' ∧ τ' = τ ∧ ((72 ≤ (σ 7 0 24).toInt ∧ σ' = σ) ∨ ((σ 7 0 24).toInt < 72 ∧ insP (σ 6 0) (σ 7 0) (σ' 6 0) (σ' 7 0) (haV a b t) a.toInt)))) := by
  refine cW_of (cc := cX3_addHalt) (nL := 7) (ret := none) (by decide) rfl (Nat.le_of_ble_eq_true rfl) ?_
  intro p e s m below meth c S hr hk K hH hS ls hl
  have hnX3 : ∀ w ∈ wsX30, w ∈ wsX3_addHalt := fun w h => mG (tX3 w h)
  have lm1 : ((-1) : Int32).toInt = -1 := by decide
  have l0 : (0 : Int32).toInt = 0 := by decide
  have l1 : (1 : Int32).toInt = 1 := by decide
  have l3 : (3 : Int32).toInt = 3 := by decide
  have l4 : (4 : Int32).toInt = 4 := by decide
  have l7 : (7 : Int32).toInt = 7 := by decide
  have l24 : (24 : Int32).toInt = 24 := by decide
  have l72 : (72 : Int32).toInt = 72 := by decide
  have hl : lv_has ls 7 [(0, .ref (L 2 0)), (1, .int a), (2, .int b), (3, .int t)] := hl
  refine lv_iload_n S.1 S.2.1 dX3_addHalt_0 rfl (lv_at hl 1 rfl) ?_
  refine lv_iconst (v := 4) S.1 S.2.1 dX3_addHalt_1 (by decide) ?_
  refine lv_ishl S.1 S.2.1 dX3_addHalt_2 ?_
  refine lv_topi (fun v1 e1 => ?_)
  refine lv_iload_n S.1 S.2.1 dX3_addHalt_3 rfl (lv_at hl 2 rfl) ?_
  refine lv_ior S.1 S.2.1 dX3_addHalt_4 ?_
  refine lv_topi (fun v2 e2 => ?_)
  refine lv_iconst (v := 3) S.1 S.2.1 dX3_addHalt_5 (by decide) ?_
  refine lv_ishl S.1 S.2.1 dX3_addHalt_6 ?_
  refine lv_topi (fun v3 e3 => ?_)
  refine lv_bipush (v := 7) S.1 S.2.1 dX3_addHalt_7 (by decide) ?_
  refine lv_iload_n S.1 S.2.1 dX3_addHalt_9 rfl (lv_at hl 3 rfl) ?_
  refine lv_isub S.1 S.2.1 dX3_addHalt_10 ?_
  refine lv_topi (fun v4 e4 => ?_)
  have i4 : v4.toInt = (7 : Int32).toInt - t.toInt := i_sub e4 (by omega) (by omega)
  refine lv_ior S.1 S.2.1 dX3_addHalt_11 ?_
  refine lv_topi (fun v5 e5 => ?_)
  refine lv_istore (lv' := [(4, .int v5), (0, .ref (L 2 0)), (1, .int a), (2, .int b), (3, .int t)]) S.1 S.2.1 dX3_addHalt_12 hl (by decide) rfl (fun ls hl => ?_)
  have hv9 : v5 = haV a b t := by rw [e5, e4, e3, e2, e1]; rfl
  refine lv_aload_n S.1 S.2.1 dX3_addHalt_14 rfl (lv_at hl 1 rfl) ?_
  refine rC_2_4 S hnX3 K hH (mG wd_85) dX3_addHalt_15 ?_
  refine lv_bipush (v := 24) S.1 S.2.1 dX3_addHalt_18 (by decide) ?_
  refine lC_5 S K hH (vin (by omega) (by omega)) dX3_addHalt_20 ?_
  refine lv_topi (fun v6 e6 => ?_)
  have bv6 : 0 ≤ v6.toInt ∧ v6.toInt ≤ 72 := by rw [e6]; exact hI.1 7 0 _
  have fv6 : v6.toInt = (σ 7 0 24).toInt := by rw [e6, show (24 : Int32).toNatClampNeg = 24 by decide]
  refine lv_istore (lv' := [(5, .int v6), (4, .int v5), (0, .ref (L 2 0)), (1, .int a), (2, .int b), (3, .int t)]) S.1 S.2.1 dX3_addHalt_21 hl (by decide) rfl (fun ls hl => ?_)
  refine lv_iload S.1 S.2.1 dX3_addHalt_23 (lv_at hl 0 rfl) ?_
  refine lv_aload_n S.1 S.2.1 dX3_addHalt_25 rfl (lv_at hl 2 rfl) ?_
  refine rC_2_3 S hnX3 K hH (mG wd_84) dX3_addHalt_26 ?_
  refine q_alen (v := 72) S K.1 hH 4 0 (by decide) 0 rfl rfl (by decide) dX3_addHalt_29 ?_
  refine lv_icmp_lt (tgt := 34) S.1 S.2.1 dX3_addHalt_30 (by decide) (fun c7 => ?_) (fun c7 => ?_)
  · have j7 := t_lt c7
    have cut_34_8 : ∀ (n : Nat) (x5_8 : Int32) (σ_8 : QS) (H : Heap) (locs : List Loc) (ls : Array Slot), (x5_8.toInt).toNat < n → 0 ≤ x5_8.toInt ∧ x5_8.toInt ≤ 71 → (x5_8.toInt ≤ (σ 7 0 24).toInt) → (Keep [6] σ σ_8) → (∀ j : Nat, (j : Int) ≤ (σ 7 0 24).toInt → (j : Int) ≠ x5_8.toInt → hok (σ_8 6 0 j)) → (shI (σ 6 0) (σ_8 6 0) (σ 7 0 24).toInt x5_8.toInt (haV a b t)) → hW cntC gC D B L σ_8 τ H → va_S A s.heap H locs → lv_has ls 7 [(0, .ref (L 2 0)), (1, .int a), (4, .int v5), (5, .int x5_8)] → W p l e { frames := 0, cells := 0, slots := 0, locals := 0 } s m [.ref (L 2 0), .int a, .int b, .int t].toArray below meth c H locs 0 0 (MQ below (QcW cntC gC D B L A (pV (fun σ' τ' => InvC σ' ∧ Keep [6, 7] σ σ' ∧ τ' = τ ∧ ((72 ≤ (σ 7 0 24).toInt ∧ σ' = σ) ∨ ((σ 7 0 24).toInt < 72 ∧ insP (σ 6 0) (σ 7 0) (σ' 6 0) (σ' 7 0) (haV a b t) a.toInt))))) [.ref (L 2 0), .int a, .int b, .int t].toArray s 0 0 A) (F0 m 34 ls []) := by
      intro n
      induction n with
      | zero => intro x5_8 σ_8 H locs ls hm; exact absurd hm (Nat.not_lt_zero _)
      | succ n ih8 =>
        intro x5_8 σ_8 H locs ls hm8 h8_0 hat hkp hos hsh hH hS hl
        refine lv_iload S.1 S.2.1 dX3_addHalt_34 (lv_at hl 3 rfl) ?_
        refine lv_if_le (tgt := 75) S.1 S.2.1 dX3_addHalt_36 (by decide) (fun c9 => ?_) (fun c9 => ?_)
        · have j9 := t_le c9
          refine lv_aload_n S.1 S.2.1 dX3_addHalt_75 rfl (lv_at hl 0 rfl) ?_
          refine rC_2_3 S hnX3 K hH (mG wd_84) dX3_addHalt_76 ?_
          refine lv_iload S.1 S.2.1 dX3_addHalt_79 (lv_at hl 3 rfl) ?_
          refine lv_iload S.1 S.2.1 dX3_addHalt_81 (lv_at hl 2 rfl) ?_
          have hx9 : x5_8.toInt = 0 ∨ (σ_8 6 0 (x5_8.toNatClampNeg - 1)).toInt ≤ (haV a b t).toInt := by first | exact Or.inl (by omega) | exact Or.inr (by rw [← hv9, ← cl_m1 i9999 ⟨l1, by omega⟩, ← e9999]; omega)
          refine sC_4 S K hH hS (vin (by omega) (by omega)) dX3_addHalt_83 (fun H locs hH hS => ?_)
          obtain ⟨σ10, eσ10⟩ : ∃ z_9 : QS, z_9 = rs σ_8 6 0 (upd (σ_8 6 0) x5_8.toNatClampNeg v5) := ⟨_, rfl⟩
          rw [← eσ10] at hH
          refine lv_iload_n S.1 S.2.1 dX3_addHalt_84 rfl (lv_at hl 1 rfl) ?_
          refine lv_iconst (v := 1) S.1 S.2.1 dX3_addHalt_85 (by decide) ?_
          refine lv_iadd S.1 S.2.1 dX3_addHalt_86 ?_
          refine lv_topi (fun v11 e11 => ?_)
          have i11 : v11.toInt = a.toInt + (1 : Int32).toInt := i_add e11 (by omega) (by omega)
          refine lv_istore (lv' := [(6, .int v11), (0, .ref (L 2 0)), (1, .int a), (4, .int v5), (5, .int x5_8)]) S.1 S.2.1 dX3_addHalt_87 hl (by decide) rfl (fun ls hl => ?_)
          have cut_89_12 : ∀ (n : Nat) (x6_12 : Int32) (σ_12 : QS) (H : Heap) (locs : List Loc) (ls : Array Slot), (25 - x6_12.toInt).toNat < n → 1 ≤ x6_12.toInt ∧ x6_12.toInt ≤ 25 → (a.toInt + 1 ≤ x6_12.toInt) → (Keep [6, 7] σ σ_12) → (∀ j : Nat, (j : Int) ≤ (σ 7 0 24).toInt → hok (σ_12 6 0 j)) → (∀ q : Nat, (σ_12 7 0 q).toInt = (σ 7 0 q).toInt + (if a.toInt < (q : Int) ∧ (q : Int) < x6_12.toInt then 1 else 0)) → (∀ i : Nat, i ≠ 0 → σ_12 7 i = σ 7 i) → (insA (σ 6 0) (σ_12 6 0) (σ 7 0 24).toInt (haV a b t)) → hW cntC gC D B L σ_12 τ H → va_S A s.heap H locs → lv_has ls 7 [(0, .ref (L 2 0)), (1, .int a), (6, .int x6_12)] → W p l e { frames := 0, cells := 0, slots := 0, locals := 0 } s m [.ref (L 2 0), .int a, .int b, .int t].toArray below meth c H locs 0 0 (MQ below (QcW cntC gC D B L A (pV (fun σ' τ' => InvC σ' ∧ Keep [6, 7] σ σ' ∧ τ' = τ ∧ ((72 ≤ (σ 7 0 24).toInt ∧ σ' = σ) ∨ ((σ 7 0 24).toInt < 72 ∧ insP (σ 6 0) (σ 7 0) (σ' 6 0) (σ' 7 0) (haV a b t) a.toInt))))) [.ref (L 2 0), .int a, .int b, .int t].toArray s 0 0 A) (F0 m 89 ls []) := by
            intro n
            induction n with
            | zero => intro x6_12 σ_12 H locs ls hm; exact absurd hm (Nat.not_lt_zero _)
            | succ n ih12 =>
              intro x6_12 σ_12 H locs ls hm12 h12_0 hax hk2 ho2 hf2 h72 hin hH hS hl
              refine lv_iload S.1 S.2.1 dX3_addHalt_89 (lv_at hl 2 rfl) ?_
              refine lv_bipush (v := 24) S.1 S.2.1 dX3_addHalt_91 (by decide) ?_
              refine lv_icmp_gt (tgt := 113) S.1 S.2.1 dX3_addHalt_93 (by decide) (fun c13 => ?_) (fun c13 => ?_)
              · have j13 := t_lt c13
                refine cW_vret S hr hk hH hS ?_ dX3_addHalt_113
                exact ⟨rfl, by exact ⟨ah_end hI hk2 ho2 hf2 h72 hp0 (by omega) (by omega), hk2, rfl, Or.inr ⟨by omega, hin, ins_7 hf2 (by omega)⟩⟩⟩
              · have j13 := t_nlt c13
                refine lv_aload_n S.1 S.2.1 dX3_addHalt_96 rfl (lv_at hl 0 rfl) ?_
                refine rC_2_4 S hnX3 K hH (mG wd_85) dX3_addHalt_97 ?_
                refine lv_iload S.1 S.2.1 dX3_addHalt_100 (lv_at hl 2 rfl) ?_
                refine lv_dup2_11 S.1 S.2.1 dX3_addHalt_102 rfl rfl ?_
                refine lC_5 S K hH (vin (by omega) (by omega)) dX3_addHalt_103 ?_
                refine lv_topi (fun v14 e14 => ?_)
                have bv14 : 0 ≤ v14.toInt ∧ v14.toInt ≤ 72 := by rw [e14]; exact ah_b hI hf2 (by omega)
                refine lv_iconst (v := 1) S.1 S.2.1 dX3_addHalt_104 (by decide) ?_
                refine lv_iadd S.1 S.2.1 dX3_addHalt_105 ?_
                refine lv_topi (fun v15 e15 => ?_)
                have i15 : v15.toInt = v14.toInt + (1 : Int32).toInt := i_add e15 (by omega) (by omega)
                refine sC_5 S K hH hS (vin (by omega) (by omega)) dX3_addHalt_106 (fun H locs hH hS => ?_)
                obtain ⟨σ16, eσ16⟩ : ∃ z_9 : QS, z_9 = rs σ_12 7 0 (upd (σ_12 7 0) x6_12.toNatClampNeg v15) := ⟨_, rfl⟩
                rw [← eσ16] at hH
                obtain ⟨v17, e17⟩ : ∃ y_9 : Int32, y_9 = x6_12 + 1 := ⟨_, rfl⟩
                have i17 : v17.toInt = x6_12.toInt + 1 := i_addc e17 (by decide) (by omega) (by omega)
                refine lv_iinc (v := v17) (lv' := [(6, .int v17), (0, .ref (L 2 0)), (1, .int a)]) S.1 S.2.1 dX3_addHalt_107 hl (k := 2) rfl (by rw [e17]; rfl) (by decide) rfl (fun ls hl => ?_)
                refine lv_goto (tgt := 89) S.1 S.2.1 dX3_addHalt_110 (by decide) ?_
                exact ih12 v17 σ16 _ _ ls (by omega) (by omega) (by omega) (by exact Keep_w eσ16 hk2 (by decide)) (by intro j h1; rw [eσ16, rs_v (by decide)]; exact ho2 j h1) (by exact ah_n hf2 eσ16 (by rw [i15, e14, l1]) (by omega) (by omega) (by omega)) (by intro i hi; rw [eσ16, rs_i hi]; exact h72 i hi) (by rw [eσ16, rs_v (by decide)]; exact hin) hH hS (lv_sub hl [1, 2, 0] rfl)
          exact cut_89_12 _ v11 σ10 _ _ ls (Nat.lt_succ_self _) (by omega) (by omega) (by exact Keep_w eσ10 (Keep_m hkp (by decide)) (by decide)) (by exact ah_p hos eσ10 (hok_of hp0 hp1 hp2 (by rw [e5, e4, e3, e2, e1])) (by omega)) (by intro q; rw [eσ10, rs_v (by decide), hkp 7 (by decide), if_neg (by omega)]; omega) (by intro i hi; rw [eσ10, rs_v (by decide), hkp 7 (by decide)]) (by exact sh_e hsh (by rw [eσ10, hv9]) (by omega) hat hx9) hH hS (lv_sub hl [1, 2, 0] rfl)
        · have j9 := t_nle c9
          refine lv_aload_n S.1 S.2.1 dX3_addHalt_39 rfl (lv_at hl 0 rfl) ?_
          refine rC_2_3 S hnX3 K hH (mG wd_84) dX3_addHalt_40 ?_
          refine lv_iload S.1 S.2.1 dX3_addHalt_43 (lv_at hl 3 rfl) ?_
          refine lv_iconst (v := 1) S.1 S.2.1 dX3_addHalt_45 (by decide) ?_
          refine lv_isub S.1 S.2.1 dX3_addHalt_46 ?_
          refine lv_topi (fun v18 e18 => ?_)
          have i18 : v18.toInt = x5_8.toInt - (1 : Int32).toInt := i_sub e18 (by omega) (by omega)
          refine lC_4 S K hH (vin (by omega) (by omega)) dX3_addHalt_47 ?_
          refine lv_topi (fun v19 e19 => ?_)
          refine lv_iload S.1 S.2.1 dX3_addHalt_48 (lv_at hl 2 rfl) ?_
          refine lv_icmp_le (tgt := 75) S.1 S.2.1 dX3_addHalt_50 (by decide) (fun c20 => ?_) (fun c20 => ?_)
          · have j20 := t_le c20
            refine lv_aload_n S.1 S.2.1 dX3_addHalt_75 rfl (lv_at hl 0 rfl) ?_
            refine rC_2_3 S hnX3 K hH (mG wd_84) dX3_addHalt_76 ?_
            refine lv_iload S.1 S.2.1 dX3_addHalt_79 (lv_at hl 3 rfl) ?_
            refine lv_iload S.1 S.2.1 dX3_addHalt_81 (lv_at hl 2 rfl) ?_
            have hx9 : x5_8.toInt = 0 ∨ (σ_8 6 0 (x5_8.toNatClampNeg - 1)).toInt ≤ (haV a b t).toInt := by first | exact Or.inl (by omega) | exact Or.inr (by rw [← hv9, ← cl_m1 i18 ⟨l1, by omega⟩, ← e19]; omega)
            refine sC_4 S K hH hS (vin (by omega) (by omega)) dX3_addHalt_83 (fun H locs hH hS => ?_)
            obtain ⟨σ21, eσ21⟩ : ∃ z_9 : QS, z_9 = rs σ_8 6 0 (upd (σ_8 6 0) x5_8.toNatClampNeg v5) := ⟨_, rfl⟩
            rw [← eσ21] at hH
            refine lv_iload_n S.1 S.2.1 dX3_addHalt_84 rfl (lv_at hl 1 rfl) ?_
            refine lv_iconst (v := 1) S.1 S.2.1 dX3_addHalt_85 (by decide) ?_
            refine lv_iadd S.1 S.2.1 dX3_addHalt_86 ?_
            refine lv_topi (fun v22 e22 => ?_)
            have i22 : v22.toInt = a.toInt + (1 : Int32).toInt := i_add e22 (by omega) (by omega)
            refine lv_istore (lv' := [(6, .int v22), (0, .ref (L 2 0)), (1, .int a), (4, .int v5), (5, .int x5_8)]) S.1 S.2.1 dX3_addHalt_87 hl (by decide) rfl (fun ls hl => ?_)
            have cut_89_23 : ∀ (n : Nat) (x6_23 : Int32) (σ_23 : QS) (H : Heap) (locs : List Loc) (ls : Array Slot), (25 - x6_23.toInt).toNat < n → 1 ≤ x6_23.toInt ∧ x6_23.toInt ≤ 25 → (a.toInt + 1 ≤ x6_23.toInt) → (Keep [6, 7] σ σ_23) → (∀ j : Nat, (j : Int) ≤ (σ 7 0 24).toInt → hok (σ_23 6 0 j)) → (∀ q : Nat, (σ_23 7 0 q).toInt = (σ 7 0 q).toInt + (if a.toInt < (q : Int) ∧ (q : Int) < x6_23.toInt then 1 else 0)) → (∀ i : Nat, i ≠ 0 → σ_23 7 i = σ 7 i) → (insA (σ 6 0) (σ_23 6 0) (σ 7 0 24).toInt (haV a b t)) → hW cntC gC D B L σ_23 τ H → va_S A s.heap H locs → lv_has ls 7 [(0, .ref (L 2 0)), (1, .int a), (6, .int x6_23)] → W p l e { frames := 0, cells := 0, slots := 0, locals := 0 } s m [.ref (L 2 0), .int a, .int b, .int t].toArray below meth c H locs 0 0 (MQ below (QcW cntC gC D B L A (pV (fun σ' τ' => InvC σ' ∧ Keep [6, 7] σ σ' ∧ τ' = τ ∧ ((72 ≤ (σ 7 0 24).toInt ∧ σ' = σ) ∨ ((σ 7 0 24).toInt < 72 ∧ insP (σ 6 0) (σ 7 0) (σ' 6 0) (σ' 7 0) (haV a b t) a.toInt))))) [.ref (L 2 0), .int a, .int b, .int t].toArray s 0 0 A) (F0 m 89 ls []) := by
              intro n
              induction n with
              | zero => intro x6_23 σ_23 H locs ls hm; exact absurd hm (Nat.not_lt_zero _)
              | succ n ih23 =>
                intro x6_23 σ_23 H locs ls hm23 h23_0 hax hk2 ho2 hf2 h72 hin hH hS hl
                refine lv_iload S.1 S.2.1 dX3_addHalt_89 (lv_at hl 2 rfl) ?_
                refine lv_bipush (v := 24) S.1 S.2.1 dX3_addHalt_91 (by decide) ?_
                refine lv_icmp_gt (tgt := 113) S.1 S.2.1 dX3_addHalt_93 (by decide) (fun c24 => ?_) (fun c24 => ?_)
                · have j24 := t_lt c24
                  refine cW_vret S hr hk hH hS ?_ dX3_addHalt_113
                  exact ⟨rfl, by exact ⟨ah_end hI hk2 ho2 hf2 h72 hp0 (by omega) (by omega), hk2, rfl, Or.inr ⟨by omega, hin, ins_7 hf2 (by omega)⟩⟩⟩
                · have j24 := t_nlt c24
                  refine lv_aload_n S.1 S.2.1 dX3_addHalt_96 rfl (lv_at hl 0 rfl) ?_
                  refine rC_2_4 S hnX3 K hH (mG wd_85) dX3_addHalt_97 ?_
                  refine lv_iload S.1 S.2.1 dX3_addHalt_100 (lv_at hl 2 rfl) ?_
                  refine lv_dup2_11 S.1 S.2.1 dX3_addHalt_102 rfl rfl ?_
                  refine lC_5 S K hH (vin (by omega) (by omega)) dX3_addHalt_103 ?_
                  refine lv_topi (fun v25 e25 => ?_)
                  have bv25 : 0 ≤ v25.toInt ∧ v25.toInt ≤ 72 := by rw [e25]; exact ah_b hI hf2 (by omega)
                  refine lv_iconst (v := 1) S.1 S.2.1 dX3_addHalt_104 (by decide) ?_
                  refine lv_iadd S.1 S.2.1 dX3_addHalt_105 ?_
                  refine lv_topi (fun v26 e26 => ?_)
                  have i26 : v26.toInt = v25.toInt + (1 : Int32).toInt := i_add e26 (by omega) (by omega)
                  refine sC_5 S K hH hS (vin (by omega) (by omega)) dX3_addHalt_106 (fun H locs hH hS => ?_)
                  obtain ⟨σ27, eσ27⟩ : ∃ z_9 : QS, z_9 = rs σ_23 7 0 (upd (σ_23 7 0) x6_23.toNatClampNeg v26) := ⟨_, rfl⟩
                  rw [← eσ27] at hH
                  obtain ⟨v28, e28⟩ : ∃ y_9 : Int32, y_9 = x6_23 + 1 := ⟨_, rfl⟩
                  have i28 : v28.toInt = x6_23.toInt + 1 := i_addc e28 (by decide) (by omega) (by omega)
                  refine lv_iinc (v := v28) (lv' := [(6, .int v28), (0, .ref (L 2 0)), (1, .int a)]) S.1 S.2.1 dX3_addHalt_107 hl (k := 2) rfl (by rw [e28]; rfl) (by decide) rfl (fun ls hl => ?_)
                  refine lv_goto (tgt := 89) S.1 S.2.1 dX3_addHalt_110 (by decide) ?_
                  exact ih23 v28 σ27 _ _ ls (by omega) (by omega) (by omega) (by exact Keep_w eσ27 hk2 (by decide)) (by intro j h1; rw [eσ27, rs_v (by decide)]; exact ho2 j h1) (by exact ah_n hf2 eσ27 (by rw [i26, e25, l1]) (by omega) (by omega) (by omega)) (by intro i hi; rw [eσ27, rs_i hi]; exact h72 i hi) (by rw [eσ27, rs_v (by decide)]; exact hin) hH hS (lv_sub hl [1, 2, 0] rfl)
            exact cut_89_23 _ v22 σ21 _ _ ls (Nat.lt_succ_self _) (by omega) (by omega) (by exact Keep_w eσ21 (Keep_m hkp (by decide)) (by decide)) (by exact ah_p hos eσ21 (hok_of hp0 hp1 hp2 (by rw [e5, e4, e3, e2, e1])) (by omega)) (by intro q; rw [eσ21, rs_v (by decide), hkp 7 (by decide), if_neg (by omega)]; omega) (by intro i hi; rw [eσ21, rs_v (by decide), hkp 7 (by decide)]) (by exact sh_e hsh (by rw [eσ21, hv9]) (by omega) hat hx9) hH hS (lv_sub hl [1, 2, 0] rfl)
          · have j20 := t_nle c20
            refine lv_aload_n S.1 S.2.1 dX3_addHalt_53 rfl (lv_at hl 0 rfl) ?_
            refine rC_2_3 S hnX3 K hH (mG wd_84) dX3_addHalt_54 ?_
            refine lv_iload S.1 S.2.1 dX3_addHalt_57 (lv_at hl 3 rfl) ?_
            refine lv_aload_n S.1 S.2.1 dX3_addHalt_59 rfl (lv_at hl 0 rfl) ?_
            refine rC_2_3 S hnX3 K hH (mG wd_84) dX3_addHalt_60 ?_
            refine lv_iload S.1 S.2.1 dX3_addHalt_63 (lv_at hl 3 rfl) ?_
            refine lv_iconst (v := 1) S.1 S.2.1 dX3_addHalt_65 (by decide) ?_
            refine lv_isub S.1 S.2.1 dX3_addHalt_66 ?_
            refine lv_topi (fun v29 e29 => ?_)
            have i29 : v29.toInt = x5_8.toInt - (1 : Int32).toInt := i_sub e29 (by omega) (by omega)
            refine lC_4 S K hH (vin (by omega) (by omega)) dX3_addHalt_67 ?_
            refine lv_topi (fun v30 e30 => ?_)
            refine sC_4 S K hH hS (vin (by omega) (by omega)) dX3_addHalt_68 (fun H locs hH hS => ?_)
            obtain ⟨σ31, eσ31⟩ : ∃ z_9 : QS, z_9 = rs σ_8 6 0 (upd (σ_8 6 0) x5_8.toNatClampNeg v30) := ⟨_, rfl⟩
            rw [← eσ31] at hH
            obtain ⟨v32, e32⟩ : ∃ y_9 : Int32, y_9 = x5_8 + (-1) := ⟨_, rfl⟩
            have i32 : v32.toInt = x5_8.toInt + (-1) := i_addc e32 (by decide) (by omega) (by omega)
            refine lv_iinc (v := v32) (lv' := [(5, .int v32), (0, .ref (L 2 0)), (1, .int a), (4, .int v5)]) S.1 S.2.1 dX3_addHalt_69 hl (k := 3) rfl (by rw [e32]; rfl) (by decide) rfl (fun ls hl => ?_)
            refine lv_goto (tgt := 34) S.1 S.2.1 dX3_addHalt_72 (by decide) ?_
            exact ih8 v32 σ31 _ _ ls (by omega) (by omega) (by omega) (by exact Keep_w eσ31 hkp (by decide)) (by exact ah_s hos eσ31 e30 (by omega) (by omega) (by omega) (by omega)) (by exact sh_s hsh eσ31 e30 (by omega) (by omega) (by omega) (by rw [← hv9, show v30 = v19 by rw [e30, e19, cl_same (show v29.toInt = v18.toInt by omega)]]; omega)) hH hS (lv_sub hl [1, 2, 3, 0] rfl)
    exact cut_34_8 _ v6 σ _ _ ls (Nat.lt_succ_self _) (by omega) (by omega) (by exact Keep_r) (by intro j h1 h2; exact hI.2.2.1 j (by omega)) (by rw [fv6]; exact sh_0) hH hS (lv_sub hl [2, 3, 1, 0] rfl)
  · have j7 := t_nlt c7
    refine cW_vret S hr hk hH hS ?_ dX3_addHalt_33
    exact ⟨rfl, by exact ⟨hI, Keep_r, rfl, Or.inl ⟨by omega, rfl⟩⟩⟩
set_option maxHeartbeats 4000000 in
set_option maxRecDepth 100000 in
theorem k_X3_addStop (l : Launch) (D : va_G) (B : Nat → ClassId) (L : QL) (A : Nat → Prop) (σ : QS) (τ : Int64) (b : Int32) (place : Int32) (o : Int32) (N : Net) (M : Net) (hp0 : 0 ≤ b.toInt ∧ b.toInt ≤ 11) (hp1 : 0 ≤ place.toInt ∧ place.toInt ≤ 11) (hp2 : 0 ≤ o.toInt ∧ o.toInt ≤ 60) (hI : InvC σ) (hp4 : addOk σ N M b.toNatClampNeg place o) : cW cntC gC l D B L A yX3_addStop wsX3_addStop 2 47 [.ref (L 2 0), .int b, .int place, .int o] σ τ (pV (fun σ' τ' => InvC σ' ∧ Keep [27, 28, 26, 6, 7, 4, 8] σ σ' ∧ τ' = τ ∧ (RepC σ' M ∧ HalC (σ' 6 0) (σ' 7 0) M ∧ LnkC (σ' 8 0) M ∧ (∀ p, p < 12 → b12 (σ' 8 0 p)) ∧ σ' 4 0 0 = σ 4 0 0 + 1 ∧ (σ' 7 0 24).toInt = (σ 7 0 24).toInt + 1 ∧ σ' 26 = stU σ b.toNatClampNeg place o 26))) := by
  refine cW_of (cc := cX3_addStop) (nL := 6) (ret := none) (by decide) rfl (Nat.le_of_ble_eq_true rfl) ?_
  intro p e s m below meth c S hr hk K hH hS ls hl
  have hnX0 : ∀ w ∈ wsX00, w ∈ wsX3_addStop := fun w h => mG (tX0 w h)
  have hnX3 : ∀ w ∈ wsX30, w ∈ wsX3_addStop := fun w h => mG (tX3 w h)
  have l1 : (1 : Int32).toInt = 1 := by decide
  have l6 : (6 : Int32).toInt = 6 := by decide
  have l24 : (24 : Int32).toInt = 24 := by decide
  have hP : Keep [27, 28, 26, 6, 7, 4, 8] σ σ := Keep_r
  have hl : lv_has ls 6 [(0, .ref (L 2 0)), (1, .int b), (2, .int place), (3, .int o)] := hl
  refine lv_aload_n S.1 S.2.1 dX3_addStop_0 rfl (lv_at hl 0 rfl) ?_
  refine rC_2_0 S hnX3 K hH (mG wd_81) dX3_addStop_1 ?_
  refine lv_iload_n S.1 S.2.1 dX3_addStop_4 rfl (lv_at hl 1 rfl) ?_
  refine lC_3 S K hH (vin (by omega) (by omega)) dX3_addStop_5 ?_
  refine lv_astore (lv' := [(4, .ref (L 14 b.toNatClampNeg)), (0, .ref (L 2 0)), (1, .int b), (2, .int place), (3, .int o)]) S.1 S.2.1 dX3_addStop_6 hl (by decide) rfl (fun ls hl => ?_)
  refine lv_aload S.1 S.2.1 dX3_addStop_8 (lv_at hl 0 rfl) ?_
  refine rC_14_5 S hnX0 K hH (cl_lt (n := 12) (by omega) (by omega)) (mG wd_93) dX3_addStop_10 ?_
  refine lv_topi (fun v1 e1 => ?_)
  have b1 : 0 ≤ v1.toInt ∧ v1.toInt ≤ 6 := by rw [e1]; exact hI.1 26 b.toNatClampNeg 0
  have f10 : v1 = σ 26 b.toNatClampNeg 0 := e1
  have k10 : v1.toInt < 6 := by rw [f10]; exact hp4.2.2.2.2.2.2
  refine lv_istore (lv' := [(5, .int v1), (4, .ref (L 14 b.toNatClampNeg)), (0, .ref (L 2 0)), (1, .int b), (2, .int place), (3, .int o)]) S.1 S.2.1 dX3_addStop_13 hl (by decide) rfl (fun ls hl => ?_)
  refine lv_iload S.1 S.2.1 dX3_addStop_15 (lv_at hl 0 rfl) ?_
  refine lv_bipush (v := 6) S.1 S.2.1 dX3_addStop_17 (by decide) ?_
  refine lv_icmp_lt (tgt := 23) S.1 S.2.1 dX3_addStop_19 (by decide) (fun c2 => ?_) (fun c2 => ?_)
  · have j2 := t_lt c2
    refine lv_aload S.1 S.2.1 dX3_addStop_23 (lv_at hl 1 rfl) ?_
    refine rC_14_6 S hnX0 K hH (cl_lt (n := 12) (by omega) (by omega)) (mG wd_94) dX3_addStop_25 ?_
    refine lv_iload S.1 S.2.1 dX3_addStop_28 (lv_at hl 0 rfl) ?_
    refine lv_iload_n S.1 S.2.1 dX3_addStop_30 rfl (lv_at hl 4 rfl) ?_
    refine sC_15 S K hH hS (cl_lt (n := 12) (by omega) (by omega)) (vin (by omega) (by omega)) dX3_addStop_31 (fun H locs hH hS => ?_)
    obtain ⟨σ3, eσ3⟩ : ∃ z_9 : QS, z_9 = rs σ 27 b.toNatClampNeg (upd (σ 27 b.toNatClampNeg) v1.toNatClampNeg place) := ⟨_, rfl⟩
    rw [← eσ3] at hH
    have hI := InvC_a eσ3 hI (by decide) (show (0 : Int) ≤ place.toInt ∧ place.toInt ≤ 11 by omega)
    have hP := Keep_w eσ3 hP (by decide)
    refine lv_aload S.1 S.2.1 dX3_addStop_32 (lv_at hl 1 rfl) ?_
    refine rC_14_7 S hnX0 K hH (cl_lt (n := 12) (by omega) (by omega)) (mG wd_99) dX3_addStop_34 ?_
    refine lv_iload S.1 S.2.1 dX3_addStop_37 (lv_at hl 0 rfl) ?_
    refine lv_iload_n S.1 S.2.1 dX3_addStop_39 rfl (lv_at hl 5 rfl) ?_
    refine sC_16 S K hH hS (cl_lt (n := 12) (by omega) (by omega)) (vin (by omega) (by omega)) dX3_addStop_40 (fun H locs hH hS => ?_)
    obtain ⟨σ4, eσ4⟩ : ∃ z_9 : QS, z_9 = rs σ3 28 b.toNatClampNeg (upd (σ3 28 b.toNatClampNeg) v1.toNatClampNeg o) := ⟨_, rfl⟩
    rw [← eσ4] at hH
    have hI := InvC_a eσ4 hI (by decide) (show (0 : Int) ≤ o.toInt ∧ o.toInt ≤ 60 by omega)
    have hP := Keep_w eσ4 hP (by decide)
    refine lv_aload S.1 S.2.1 dX3_addStop_41 (lv_at hl 1 rfl) ?_
    refine lv_iload S.1 S.2.1 dX3_addStop_43 (lv_at hl 0 rfl) ?_
    refine lv_iconst (v := 1) S.1 S.2.1 dX3_addStop_45 (by decide) ?_
    refine lv_iadd S.1 S.2.1 dX3_addStop_46 ?_
    refine lv_topi (fun v5 e5 => ?_)
    have i5 : v5.toInt = v1.toInt + (1 : Int32).toInt := i_add e5 (by omega) (by omega)
    refine pC_14_5 S hnX0 K hH hS (cl_lt (n := 12) (by omega) (by omega)) (mG wd_93) dX3_addStop_47 (fun H locs hH hS => ?_)
    obtain ⟨σ6, eσ6⟩ : ∃ z_9 : QS, z_9 = rs σ4 26 b.toNatClampNeg (fun _ => v5) := ⟨_, rfl⟩
    rw [← eσ6] at hH
    have hI := InvC_f eσ6 hI (by decide) (show (0 : Int) ≤ v5.toInt ∧ v5.toInt ≤ 6 by omega)
    have hP := Keep_w eσ6 hP (by decide)
    have hst : σ6 = stU σ b.toNatClampNeg place o := stU_of eσ3 eσ4 eσ6 (by rw [f10]) (by rw [e5, f10])
    have hR9 : RepC σ6 M := by rw [hst]; exact hp4.1
    have y7 : σ6 7 = σ 7 := by rw [hst]; exact stU_v (by decide) (by decide) (by decide)
    have y6 : σ6 6 = σ 6 := by rw [hst]; exact stU_v (by decide) (by decide) (by decide)
    have y4 : σ6 4 = σ 4 := by rw [hst]; exact stU_v (by decide) (by decide) (by decide)
    have y26 : σ6 26 = stU σ b.toNatClampNeg place o 26 := by rw [hst]
    refine lv_aload_n S.1 S.2.1 dX3_addStop_50 rfl (lv_at hl 2 rfl) ?_
    refine lv_aload S.1 S.2.1 dX3_addStop_51 (lv_at hl 1 rfl) ?_
    refine rC_14_1 S hnX0 K hH (cl_lt (n := 12) (by omega) (by omega)) (mG wd_100) dX3_addStop_53 ?_
    refine lv_topi (fun v7 e7 => ?_)
    have b7 : 0 ≤ v7.toInt ∧ v7.toInt ≤ 23 := by rw [e7]; exact hI.1 22 b.toNatClampNeg 0
    have f53 : v7.toInt = (σ 22 b.toNatClampNeg 0).toInt := by rw [e7, hst, stU_v (by decide) (by decide) (by decide)]
    refine lv_iload_n S.1 S.2.1 dX3_addStop_56 rfl (lv_at hl 5 rfl) ?_
    refine lv_iadd S.1 S.2.1 dX3_addStop_57 ?_
    refine lv_topi (fun v8 e8 => ?_)
    have i8 : v8.toInt = v7.toInt + o.toInt := i_add e8 (by omega) (by omega)
    refine lv_bipush (v := 24) S.1 S.2.1 dX3_addStop_58 (by decide) ?_
    refine lv_irem S.1 S.2.1 dX3_addStop_60 (by decide) ?_
    refine lv_topi (fun v9 e9 => ?_)
    have i9 : v9.toInt = v8.toInt % 24 := i_rem e9 (by decide) (by decide) (by omega)
    refine lv_iload_n S.1 S.2.1 dX3_addStop_61 rfl (lv_at hl 3 rfl) ?_
    refine lv_iload S.1 S.2.1 dX3_addStop_62 (lv_at hl 0 rfl) ?_
    refine cW_bv (cW_V (n := 3) (As := [.int v9, .int b, .int v1]) (rest := []) (k := 2) (i := 0) S K hH (by decide) rfl rfl (k_X3_addHalt l D B L A σ6 τ v9 b v1 (by omega) (by omega) (by omega) hI) gX3_addStop_X3_addHalt rfl hdV_X3_addHalt ⟨Nat.le_of_ble_eq_true rfl, Nat.le_of_ble_eq_true rfl⟩ rfl hl.1 (Nat.le_of_ble_eq_true rfl) dX3_addStop_64) hS (fun σ10 τ10 H locs q10 hH hS => ?_)
    obtain ⟨hI, hP10, hτ10, q10⟩ := q10
    rw [hτ10] at hH
    have hP := Keep_t hP hP10 (by decide)
    have hi9 := ((q10).resolve_left (fun z => absurd z.1 (by rw [y7]; have := hp4.2.2.2.2.2.1; omega))).2
    rw [y6, y7] at hi9
    have hH9 : HalC (σ10 6 0) (σ10 7 0) M := add_hal hp4 (by omega) (cl_eq (by omega)).symm (by rw [f10]) (by omega) hi9
    refine lv_aload_n S.1 S.2.1 dX3_addStop_67 rfl (lv_at hl 2 rfl) ?_
    refine cW_bv (cW_V (n := 0) (As := []) (rest := []) (k := 2) (i := 0) S K hH (by decide) rfl rfl (k_X3_renew l D B L A σ10 τ  (M) hI (RepC_k hR9 hP10 (by decide))) gX3_addStop_X3_renew rfl hdV_X3_renew ⟨Nat.le_of_ble_eq_true rfl, Nat.le_of_ble_eq_true rfl⟩ rfl hl.1 (Nat.le_of_ble_eq_true rfl) dX3_addStop_68) hS (fun σ11 τ11 H locs q11 hH hS => ?_)
    obtain ⟨hI, hP11, hτ11, q11⟩ := q11
    rw [hτ11] at hH
    have hP := Keep_t hP hP11 (by decide)
    refine cW_vret S hr hk hH hS ?_ dX3_addStop_71
    exact ⟨rfl, hI, hP, rfl, by refine ⟨RepC_k hR9 (Keep_t (Keep_m hP10 (by decide)) hP11 (T := [4, 8]) (S := [4, 6, 7, 8]) (by decide)) (by decide), by rw [hP11 6 (by decide), hP11 7 (by decide)]; exact hH9, (q11).1, (q11).2.1, by rw [(q11).2.2, hP10 4 (by decide), y4], by rw [hP11 7 (by decide)]; exact add_cnt hi9 (by omega), by rw [hP11 26 (by decide), hP10 26 (by decide)]; exact y26⟩⟩
  · have j2 := t_nlt c2
    refine cW_vret S hr hk hH hS ?_ dX3_addStop_22
    exact ⟨rfl, hI, hP, rfl, by exact absurd k10 (by omega)⟩
set_option maxHeartbeats 4000000 in
set_option maxRecDepth 100000 in
theorem k_fill_7 (l : Launch) (D : va_G) (B : Nat → ClassId) (L : QL) (A : Nat → Prop) (σ : QS) (τ : Int64) (z : Int32)  (hI : InvC σ) : cW cntC gC l D B L A yJ7_fill_53178 wsJ7_fill_53178 0 0 [.ref (L 7 0), .int z] σ τ (pV (fun σ' τ' => InvC σ' ∧ Keep [9] σ σ' ∧ τ' = τ ∧ (∀ j : Nat, j < 12 → σ' 9 0 j = z))) := by
  refine cW_of (cc := cJ7_fill_53178) (nL := 4) (ret := none) (by decide) rfl (Nat.le_of_ble_eq_true rfl) ?_
  intro p e s m below meth c S hr hk K hH hS ls hl
  have l0 : (0 : Int32).toInt = 0 := by decide
  have l1 : (1 : Int32).toInt = 1 := by decide
  have l12 : (12 : Int32).toInt = 12 := by decide
  have hP : Keep [9] σ σ := Keep_r
  have hl : lv_has ls 4 [(0, .ref (L 7 0)), (1, .int z)] := hl
  refine lv_iconst (v := 0) S.1 S.2.1 dJ7_fill_53178_0 (by decide) ?_
  refine lv_istore_n (lv' := [(2, .int 0), (0, .ref (L 7 0)), (1, .int z)]) S.1 S.2.1 dJ7_fill_53178_1 rfl hl (by decide) rfl (fun ls hl => ?_)
  refine lv_aload_n S.1 S.2.1 dJ7_fill_53178_2 rfl (lv_at hl 1 rfl) ?_
  refine q_alen (v := 12) S K.1 hH 7 0 (by decide) 0 rfl rfl (by decide) dJ7_fill_53178_3 ?_
  refine lv_istore_n (lv' := [(3, .int 12), (2, .int 0), (0, .ref (L 7 0)), (1, .int z)]) S.1 S.2.1 dJ7_fill_53178_4 rfl hl (by decide) rfl (fun ls hl => ?_)
  have cut_5_1 : ∀ (n : Nat) (x2_1 : Int32) (σ_1 : QS) (H : Heap) (locs : List Loc) (ls : Array Slot), (12 - x2_1.toInt).toNat < n → 0 ≤ x2_1.toInt ∧ x2_1.toInt ≤ 12 → (∀ j : Nat, (j : Int) < x2_1.toInt → σ_1 9 0 j = z) → InvC σ_1 → Keep [9] σ σ_1 → hW cntC gC D B L σ_1 τ H → va_S A s.heap H locs → lv_has ls 4 [(0, .ref (L 7 0)), (1, .int z), (2, .int x2_1), (3, .int 12)] → W p l e { frames := 0, cells := 0, slots := 0, locals := 0 } s m [.ref (L 7 0), .int z].toArray below meth c H locs 0 0 (MQ below (QcW cntC gC D B L A (pV (fun σ' τ' => InvC σ' ∧ Keep [9] σ σ' ∧ τ' = τ ∧ (∀ j : Nat, j < 12 → σ' 9 0 j = z)))) [.ref (L 7 0), .int z].toArray s 0 0 A) (F0 m 5 ls []) := by
    intro n
    induction n with
    | zero => intro x2_1 σ_1 H locs ls hm; exact absurd hm (Nat.not_lt_zero _)
    | succ n ih1 =>
      intro x2_1 σ_1 H locs ls hm1 h1_0 wf hI hP hH hS hl
      refine lv_iload_n S.1 S.2.1 dJ7_fill_53178_5 rfl (lv_at hl 2 rfl) ?_
      refine lv_iload_n S.1 S.2.1 dJ7_fill_53178_6 rfl (lv_at hl 3 rfl) ?_
      refine lv_icmp_ge (tgt := 20) S.1 S.2.1 dJ7_fill_53178_7 (by decide) (fun c2 => ?_) (fun c2 => ?_)
      · have j2 := t_le c2
        refine cW_vret S hr hk hH hS ?_ dJ7_fill_53178_20
        exact ⟨rfl, hI, hP, rfl, by intro j hj; exact wf j (by omega)⟩
      · have j2 := t_nle c2
        refine lv_aload_n S.1 S.2.1 dJ7_fill_53178_10 rfl (lv_at hl 0 rfl) ?_
        refine lv_iload_n S.1 S.2.1 dJ7_fill_53178_11 rfl (lv_at hl 2 rfl) ?_
        refine lv_iload_n S.1 S.2.1 dJ7_fill_53178_12 rfl (lv_at hl 1 rfl) ?_
        refine sC_7 S K hH hS (vin (by omega) (by omega)) dJ7_fill_53178_13 (fun H locs hH hS => ?_)
        obtain ⟨σ3, eσ3⟩ : ∃ z_9 : QS, z_9 = rs σ_1 9 0 (upd (σ_1 9 0) x2_1.toNatClampNeg z) := ⟨_, rfl⟩
        rw [← eσ3] at hH
        have hI := InvC_a eσ3 hI (by decide) (any32 _)
        have hP := Keep_w eσ3 hP (by decide)
        obtain ⟨v4, e4⟩ : ∃ y_9 : Int32, y_9 = x2_1 + 1 := ⟨_, rfl⟩
        have i4 : v4.toInt = x2_1.toInt + 1 := i_addc e4 (by decide) (by omega) (by omega)
        refine lv_iinc (v := v4) (lv' := [(2, .int v4), (0, .ref (L 7 0)), (1, .int z), (3, .int 12)]) S.1 S.2.1 dJ7_fill_53178_14 hl (k := 2) rfl (by rw [e4]; rfl) (by decide) rfl (fun ls hl => ?_)
        refine lv_goto (tgt := 5) S.1 S.2.1 dJ7_fill_53178_17 (by decide) ?_
        exact ih1 v4 σ3 _ _ ls (by omega) (by omega) (by exact fill_s eσ3 wf i4 (by omega)) hI hP hH hS (lv_sub hl [1, 2, 0, 3] rfl)
  exact cut_5_1 _ 0 σ _ _ ls (Nat.lt_succ_self _) (by omega) (by intro j h1; omega) hI hP hH hS (lv_sub hl [2, 3, 1, 0] rfl)
set_option maxHeartbeats 4000000 in
set_option maxRecDepth 100000 in
theorem k_fill_8 (l : Launch) (D : va_G) (B : Nat → ClassId) (L : QL) (A : Nat → Prop) (σ : QS) (τ : Int64) (z : Int32)  (hI : InvC σ) : cW cntC gC l D B L A yJ7_fill_53178 wsJ7_fill_53178 0 0 [.ref (L 8 0), .int z] σ τ (pV (fun σ' τ' => InvC σ' ∧ Keep [10] σ σ' ∧ τ' = τ ∧ (∀ j : Nat, j < 12 → σ' 10 0 j = z))) := by
  refine cW_of (cc := cJ7_fill_53178) (nL := 4) (ret := none) (by decide) rfl (Nat.le_of_ble_eq_true rfl) ?_
  intro p e s m below meth c S hr hk K hH hS ls hl
  have l0 : (0 : Int32).toInt = 0 := by decide
  have l1 : (1 : Int32).toInt = 1 := by decide
  have l12 : (12 : Int32).toInt = 12 := by decide
  have hP : Keep [10] σ σ := Keep_r
  have hl : lv_has ls 4 [(0, .ref (L 8 0)), (1, .int z)] := hl
  refine lv_iconst (v := 0) S.1 S.2.1 dJ7_fill_53178_0 (by decide) ?_
  refine lv_istore_n (lv' := [(2, .int 0), (0, .ref (L 8 0)), (1, .int z)]) S.1 S.2.1 dJ7_fill_53178_1 rfl hl (by decide) rfl (fun ls hl => ?_)
  refine lv_aload_n S.1 S.2.1 dJ7_fill_53178_2 rfl (lv_at hl 1 rfl) ?_
  refine q_alen (v := 12) S K.1 hH 8 0 (by decide) 0 rfl rfl (by decide) dJ7_fill_53178_3 ?_
  refine lv_istore_n (lv' := [(3, .int 12), (2, .int 0), (0, .ref (L 8 0)), (1, .int z)]) S.1 S.2.1 dJ7_fill_53178_4 rfl hl (by decide) rfl (fun ls hl => ?_)
  have cut_5_1 : ∀ (n : Nat) (x2_1 : Int32) (σ_1 : QS) (H : Heap) (locs : List Loc) (ls : Array Slot), (12 - x2_1.toInt).toNat < n → 0 ≤ x2_1.toInt ∧ x2_1.toInt ≤ 12 → (∀ j : Nat, (j : Int) < x2_1.toInt → σ_1 10 0 j = z) → InvC σ_1 → Keep [10] σ σ_1 → hW cntC gC D B L σ_1 τ H → va_S A s.heap H locs → lv_has ls 4 [(0, .ref (L 8 0)), (1, .int z), (2, .int x2_1), (3, .int 12)] → W p l e { frames := 0, cells := 0, slots := 0, locals := 0 } s m [.ref (L 8 0), .int z].toArray below meth c H locs 0 0 (MQ below (QcW cntC gC D B L A (pV (fun σ' τ' => InvC σ' ∧ Keep [10] σ σ' ∧ τ' = τ ∧ (∀ j : Nat, j < 12 → σ' 10 0 j = z)))) [.ref (L 8 0), .int z].toArray s 0 0 A) (F0 m 5 ls []) := by
    intro n
    induction n with
    | zero => intro x2_1 σ_1 H locs ls hm; exact absurd hm (Nat.not_lt_zero _)
    | succ n ih1 =>
      intro x2_1 σ_1 H locs ls hm1 h1_0 wf hI hP hH hS hl
      refine lv_iload_n S.1 S.2.1 dJ7_fill_53178_5 rfl (lv_at hl 2 rfl) ?_
      refine lv_iload_n S.1 S.2.1 dJ7_fill_53178_6 rfl (lv_at hl 3 rfl) ?_
      refine lv_icmp_ge (tgt := 20) S.1 S.2.1 dJ7_fill_53178_7 (by decide) (fun c2 => ?_) (fun c2 => ?_)
      · have j2 := t_le c2
        refine cW_vret S hr hk hH hS ?_ dJ7_fill_53178_20
        exact ⟨rfl, hI, hP, rfl, by intro j hj; exact wf j (by omega)⟩
      · have j2 := t_nle c2
        refine lv_aload_n S.1 S.2.1 dJ7_fill_53178_10 rfl (lv_at hl 0 rfl) ?_
        refine lv_iload_n S.1 S.2.1 dJ7_fill_53178_11 rfl (lv_at hl 2 rfl) ?_
        refine lv_iload_n S.1 S.2.1 dJ7_fill_53178_12 rfl (lv_at hl 1 rfl) ?_
        refine sC_8 S K hH hS (vin (by omega) (by omega)) dJ7_fill_53178_13 (fun H locs hH hS => ?_)
        obtain ⟨σ3, eσ3⟩ : ∃ z_9 : QS, z_9 = rs σ_1 10 0 (upd (σ_1 10 0) x2_1.toNatClampNeg z) := ⟨_, rfl⟩
        rw [← eσ3] at hH
        have hI := InvC_a eσ3 hI (by decide) (any32 _)
        have hP := Keep_w eσ3 hP (by decide)
        obtain ⟨v4, e4⟩ : ∃ y_9 : Int32, y_9 = x2_1 + 1 := ⟨_, rfl⟩
        have i4 : v4.toInt = x2_1.toInt + 1 := i_addc e4 (by decide) (by omega) (by omega)
        refine lv_iinc (v := v4) (lv' := [(2, .int v4), (0, .ref (L 8 0)), (1, .int z), (3, .int 12)]) S.1 S.2.1 dJ7_fill_53178_14 hl (k := 2) rfl (by rw [e4]; rfl) (by decide) rfl (fun ls hl => ?_)
        refine lv_goto (tgt := 5) S.1 S.2.1 dJ7_fill_53178_17 (by decide) ?_
        exact ih1 v4 σ3 _ _ ls (by omega) (by omega) (by exact fill_s eσ3 wf i4 (by omega)) hI hP hH hS (lv_sub hl [1, 2, 0, 3] rfl)
  exact cut_5_1 _ 0 σ _ _ ls (Nat.lt_succ_self _) (by omega) (by intro j h1; omega) hI hP hH hS (lv_sub hl [2, 3, 1, 0] rfl)
set_option maxHeartbeats 4000000 in
set_option maxRecDepth 100000 in
theorem k_fill_21 (l : Launch) (D : va_G) (B : Nat → ClassId) (L : QL) (A : Nat → Prop) (σ : QS) (τ : Int64) (q : Nat) (z : Int32)  (hp0 : q < 60) (hI : InvC σ) : cW cntC gC l D B L A yJ7_fill_53178 wsJ7_fill_53178 0 0 [.ref (L 21 q), .int z] σ τ (pV (fun σ' τ' => InvC σ' ∧ Keep [43] σ σ' ∧ τ' = τ ∧ (∀ j : Nat, j < 12 → σ' 43 q j = z) ∧ ∀ i9 : Nat, i9 ≠ q → σ' 43 i9 = σ 43 i9)) := by
  refine cW_of (cc := cJ7_fill_53178) (nL := 4) (ret := none) (by decide) rfl (Nat.le_of_ble_eq_true rfl) ?_
  intro p e s m below meth c S hr hk K hH hS ls hl
  have l0 : (0 : Int32).toInt = 0 := by decide
  have l1 : (1 : Int32).toInt = 1 := by decide
  have l12 : (12 : Int32).toInt = 12 := by decide
  have hP : Keep [43] σ σ := Keep_r
  have hl : lv_has ls 4 [(0, .ref (L 21 q)), (1, .int z)] := hl
  refine lv_iconst (v := 0) S.1 S.2.1 dJ7_fill_53178_0 (by decide) ?_
  refine lv_istore_n (lv' := [(2, .int 0), (0, .ref (L 21 q)), (1, .int z)]) S.1 S.2.1 dJ7_fill_53178_1 rfl hl (by decide) rfl (fun ls hl => ?_)
  refine lv_aload_n S.1 S.2.1 dJ7_fill_53178_2 rfl (lv_at hl 1 rfl) ?_
  refine q_alen (v := 12) S K.1 hH 21 q (show q < 60 by omega) 0 rfl rfl (by decide) dJ7_fill_53178_3 ?_
  refine lv_istore_n (lv' := [(3, .int 12), (2, .int 0), (0, .ref (L 21 q)), (1, .int z)]) S.1 S.2.1 dJ7_fill_53178_4 rfl hl (by decide) rfl (fun ls hl => ?_)
  have cut_5_1 : ∀ (n : Nat) (x2_1 : Int32) (σ_1 : QS) (H : Heap) (locs : List Loc) (ls : Array Slot), (12 - x2_1.toInt).toNat < n → 0 ≤ x2_1.toInt ∧ x2_1.toInt ≤ 12 → (∀ j : Nat, (j : Int) < x2_1.toInt → σ_1 43 q j = z) → (∀ i9 : Nat, i9 ≠ q → σ_1 43 i9 = σ 43 i9) → InvC σ_1 → Keep [43] σ σ_1 → hW cntC gC D B L σ_1 τ H → va_S A s.heap H locs → lv_has ls 4 [(0, .ref (L 21 q)), (1, .int z), (2, .int x2_1), (3, .int 12)] → W p l e { frames := 0, cells := 0, slots := 0, locals := 0 } s m [.ref (L 21 q), .int z].toArray below meth c H locs 0 0 (MQ below (QcW cntC gC D B L A (pV (fun σ' τ' => InvC σ' ∧ Keep [43] σ σ' ∧ τ' = τ ∧ (∀ j : Nat, j < 12 → σ' 43 q j = z) ∧ ∀ i9 : Nat, i9 ≠ q → σ' 43 i9 = σ 43 i9))) [.ref (L 21 q), .int z].toArray s 0 0 A) (F0 m 5 ls []) := by
    intro n
    induction n with
    | zero => intro x2_1 σ_1 H locs ls hm; exact absurd hm (Nat.not_lt_zero _)
    | succ n ih1 =>
      intro x2_1 σ_1 H locs ls hm1 h1_0 wf wo hI hP hH hS hl
      refine lv_iload_n S.1 S.2.1 dJ7_fill_53178_5 rfl (lv_at hl 2 rfl) ?_
      refine lv_iload_n S.1 S.2.1 dJ7_fill_53178_6 rfl (lv_at hl 3 rfl) ?_
      refine lv_icmp_ge (tgt := 20) S.1 S.2.1 dJ7_fill_53178_7 (by decide) (fun c2 => ?_) (fun c2 => ?_)
      · have j2 := t_le c2
        refine cW_vret S hr hk hH hS ?_ dJ7_fill_53178_20
        exact ⟨rfl, hI, hP, rfl, by exact ⟨fun j hj => wf j (by omega), wo⟩⟩
      · have j2 := t_nle c2
        refine lv_aload_n S.1 S.2.1 dJ7_fill_53178_10 rfl (lv_at hl 0 rfl) ?_
        refine lv_iload_n S.1 S.2.1 dJ7_fill_53178_11 rfl (lv_at hl 2 rfl) ?_
        refine lv_iload_n S.1 S.2.1 dJ7_fill_53178_12 rfl (lv_at hl 1 rfl) ?_
        refine sC_21 S K hH hS (show q < 60 by omega) (vin (by omega) (by omega)) dJ7_fill_53178_13 (fun H locs hH hS => ?_)
        obtain ⟨σ3, eσ3⟩ : ∃ z_9 : QS, z_9 = rs σ_1 43 q (upd (σ_1 43 q) x2_1.toNatClampNeg z) := ⟨_, rfl⟩
        rw [← eσ3] at hH
        have hI := InvC_a eσ3 hI (by decide) (any32 _)
        have hP := Keep_w eσ3 hP (by decide)
        obtain ⟨v4, e4⟩ : ∃ y_9 : Int32, y_9 = x2_1 + 1 := ⟨_, rfl⟩
        have i4 : v4.toInt = x2_1.toInt + 1 := i_addc e4 (by decide) (by omega) (by omega)
        refine lv_iinc (v := v4) (lv' := [(2, .int v4), (0, .ref (L 21 q)), (1, .int z), (3, .int 12)]) S.1 S.2.1 dJ7_fill_53178_14 hl (k := 2) rfl (by rw [e4]; rfl) (by decide) rfl (fun ls hl => ?_)
        refine lv_goto (tgt := 5) S.1 S.2.1 dJ7_fill_53178_17 (by decide) ?_
        exact ih1 v4 σ3 _ _ ls (by omega) (by omega) (by exact fill_s eσ3 wf i4 (by omega)) (by intro i9 z9; rw [eσ3, rs_i z9]; exact wo i9 z9) hI hP hH hS (lv_sub hl [1, 2, 0, 3] rfl)
  exact cut_5_1 _ 0 σ _ _ ls (Nat.lt_succ_self _) (by omega) (by intro j h1; omega) (by intro i9 z9; rfl) hI hP hH hS (lv_sub hl [2, 3, 1, 0] rfl)
set_option maxHeartbeats 4000000 in
set_option maxRecDepth 100000 in
theorem k_X3_getDown (l : Launch) (D : va_G) (B : Nat → ClassId) (L : QL) (A : Nat → Prop) (σ : QS) (τ : Int64) (h : Int32) (N : Net) (act : Nat → Nat → Prop) (R : Nat → Prop) (hp0 : 0 ≤ h.toInt ∧ h.toInt ≤ 100000) (hI : InvC σ) (hp2 : RepC σ N) (hp3 : HalC (σ 6 0) (σ 7 0) N) (hp4 : actOk N h.toInt act) (hp5 : ridB N (σ 9 0) act) (hp6 : rchB (σ 5 0 0) R) : cW cntC gC l D B L A yX3_getDown wsX3_getDown 1 22 [.ref (L 2 0), .int h] σ τ (pV (fun σ' τ' => InvC σ' ∧ Keep [5, 9] σ σ' ∧ τ' = τ ∧ (ridB N (σ' 9 0) (fun c d => act c d ∧ htN N c d (lastS N c) ≠ h.toInt) ∧ rchB (σ' 5 0 0) (fun p => R p ∨ ∃ c d s, c < nK N ∧ s < nS N c ∧ act c d ∧ htN N c d s = h.toInt ∧ nP N c s = p)))) := by
  refine cW_of (cc := cX3_getDown) (nL := 8) (ret := none) (by decide) rfl (Nat.le_of_ble_eq_true rfl) ?_
  intro p e s m below meth c S hr hk K hH hS ls hl
  have hnX0 : ∀ w ∈ wsX00, w ∈ wsX3_getDown := fun w h => mG (tX0 w h)
  have hnX3 : ∀ w ∈ wsX30, w ∈ wsX3_getDown := fun w h => mG (tX3 w h)
  have lm1 : ((-1) : Int32).toInt = -1 := by decide
  have l0 : (0 : Int32).toInt = 0 := by decide
  have l1 : (1 : Int32).toInt = 1 := by decide
  have l3 : (3 : Int32).toInt = 3 := by decide
  have hP : Keep [5, 9] σ σ := Keep_r
  have hN9 := hp2.1
  have hq9 : (h.toInt % 24).toNat < 24 := by omega
  have hm9 : h.toInt % 24 = ((h.toInt % 24).toNat : Int) := by omega
  have hz9 : ∀ c, c < nK N → lastS N c < nS N c := fun c hc => last_lt hN9 hc
  have hl : lv_has ls 8 [(0, .ref (L 2 0)), (1, .int h)] := hl
  refine lv_aload_n S.1 S.2.1 dX3_getDown_0 rfl (lv_at hl 0 rfl) ?_
  refine lv_iload_n S.1 S.2.1 dX3_getDown_1 rfl (lv_at hl 1 rfl) ?_
  refine cW_bpi (cW_V (n := 1) (As := [.int h]) (rest := []) (k := 2) (i := 0) S K hH (by decide) rfl rfl (k_X3_haltsEnd l D B L A σ τ h (by omega) hI) gX3_getDown_X3_haltsEnd rfl hdV_X3_haltsEnd ⟨Nat.le_of_ble_eq_true rfl, Nat.le_of_ble_eq_true rfl⟩ rfl hl.1 (Nat.le_of_ble_eq_true rfl) dX3_getDown_2) hS (fun v1 H locs q1 hH hS => ?_)
  refine lv_istore_n (lv' := [(2, .int v1), (0, .ref (L 2 0)), (1, .int h)]) S.1 S.2.1 dX3_getDown_5 rfl hl (by decide) rfl (fun ls hl => ?_)
  refine lv_aload_n S.1 S.2.1 dX3_getDown_6 rfl (lv_at hl 1 rfl) ?_
  refine lv_iload_n S.1 S.2.1 dX3_getDown_7 rfl (lv_at hl 2 rfl) ?_
  refine cW_bpi (cW_V (n := 1) (As := [.int h]) (rest := []) (k := 2) (i := 0) S K hH (by decide) rfl rfl (k_X3_haltsBegin l D B L A σ τ h (by omega) hI) gX3_getDown_X3_haltsBegin rfl hdV_X3_haltsBegin ⟨Nat.le_of_ble_eq_true rfl, Nat.le_of_ble_eq_true rfl⟩ rfl hl.1 (Nat.le_of_ble_eq_true rfl) dX3_getDown_8) hS (fun v2 H locs q2 hH hS => ?_)
  refine lv_istore_n (lv' := [(3, .int v2), (2, .int v1), (0, .ref (L 2 0)), (1, .int h)]) S.1 S.2.1 dX3_getDown_11 rfl hl (by decide) rfl (fun ls hl => ?_)
  have cut_12_3 : ∀ (n : Nat) (x3_3 : Int32) (σ_3 : QS) (H : Heap) (locs : List Loc) (ls : Array Slot), (v1.toInt - x3_3.toInt).toNat < n → 0 ≤ x3_3.toInt ∧ x3_3.toInt ≤ 72 → (rdI N (σ 6 0) (σ 7 0 (h.toInt % 24).toNat).toInt x3_3.toInt h.toInt act (lastS N) (σ_3 9 0)) → (rchB (σ_3 5 0 0) (fun p => R p ∨ hitH N (σ 6 0) (σ 7 0 (h.toInt % 24).toNat).toInt x3_3.toInt h.toInt act p)) → ((σ 7 0 (h.toInt % 24).toNat).toInt ≤ x3_3.toInt) → (x3_3.toInt ≤ v1.toInt) → InvC σ_3 → Keep [5, 9] σ σ_3 → hW cntC gC D B L σ_3 τ H → va_S A s.heap H locs → lv_has ls 8 [(0, .ref (L 2 0)), (1, .int h), (2, .int v1), (3, .int x3_3)] → W p l e { frames := 1, cells := 0, slots := 0, locals := 22 } s m [.ref (L 2 0), .int h].toArray below meth c H locs 0 0 (MQ below (QcW cntC gC D B L A (pV (fun σ' τ' => InvC σ' ∧ Keep [5, 9] σ σ' ∧ τ' = τ ∧ (ridB N (σ' 9 0) (fun c d => act c d ∧ htN N c d (lastS N c) ≠ h.toInt) ∧ rchB (σ' 5 0 0) (fun p => R p ∨ ∃ c d s, c < nK N ∧ s < nS N c ∧ act c d ∧ htN N c d s = h.toInt ∧ nP N c s = p))))) [.ref (L 2 0), .int h].toArray s 0 0 A) (F0 m 12 ls []) := by
    intro n
    induction n with
    | zero => intro x3_3 σ_3 H locs ls hm; exact absurd hm (Nat.not_lt_zero _)
    | succ n ih3 =>
      intro x3_3 σ_3 H locs ls hm3 h3_0 wr wx wb we hI hP hH hS hl
      have y9 : (σ_3 7 0 24).toInt = (σ 7 0 24).toInt := by rw [hP 7 (by decide)]
      have hPo := hP
      refine lv_iload_n S.1 S.2.1 dX3_getDown_12 rfl (lv_at hl 3 rfl) ?_
      refine lv_iload_n S.1 S.2.1 dX3_getDown_13 rfl (lv_at hl 2 rfl) ?_
      refine lv_icmp_ge (tgt := 131) S.1 S.2.1 dX3_getDown_14 (by decide) (fun c4 => ?_) (fun c4 => ?_)
      · have j4 := t_le c4
        refine cW_vret S hr hk hH hS ?_ dX3_getDown_131
        exact ⟨rfl, hI, hP, rfl, by have h8 : x3_3.toInt = v1.toInt := (by omega); rw [h8, (q1).2] at wr wx; have h7 := rd_end hN9 hp3 hz9 hq9 hm9 wr; exact ⟨h7.1, fun p hp => (wx p hp).trans (or_congr Iff.rfl (h7.2 p))⟩⟩
      · have j4 := t_nle c4
        refine lv_aload_n S.1 S.2.1 dX3_getDown_17 rfl (lv_at hl 0 rfl) ?_
        refine lv_iload_n S.1 S.2.1 dX3_getDown_18 rfl (lv_at hl 3 rfl) ?_
        refine cW_bpi (cW_V (n := 1) (As := [.int x3_3]) (rest := []) (k := 2) (i := 0) S K hH (by decide) rfl rfl (k_X3_cartOf l D B L A σ_3 τ x3_3 (by omega) hI (by omega)) gX3_getDown_X3_cartOf rfl hdV_X3_cartOf ⟨Nat.le_of_ble_eq_true rfl, Nat.le_of_ble_eq_true rfl⟩ rfl hl.1 (Nat.le_of_ble_eq_true rfl) dX3_getDown_19) hS (fun v5 H locs q5 hH hS => ?_)
        refine lv_istore (lv' := [(4, .int v5), (0, .ref (L 2 0)), (1, .int h), (2, .int v1), (3, .int x3_3)]) S.1 S.2.1 dX3_getDown_22 hl (by decide) rfl (fun ls hl => ?_)
        have ki := cl_eq (j := x3_3) (by omega)
        obtain ⟨kC, kS, k1, k2, k3, k4, k5, k6⟩ := halt_at hN9 hp3 hq9 (i := x3_3.toInt) (k := x3_3.toNatClampNeg) wb (by rw [← (q1).2]; omega) ki
        have k7 : v5 = nI kC := by rw [(q5).2, hP 6 (by decide)]; exact k4
        have k9 : v5.toNatClampNeg = kC := by rw [k7]; exact (nI_cl (by have := hN9.1; omega)).1
        refine lv_aload_n S.1 S.2.1 dX3_getDown_24 rfl (lv_at hl 1 rfl) ?_
        refine rC_2_6 S hnX3 K hH (mG wd_87) dX3_getDown_25 ?_
        refine lv_iload S.1 S.2.1 dX3_getDown_28 (lv_at hl 0 rfl) ?_
        refine lC_7 S K hH (vin (by omega) (by omega)) dX3_getDown_30 ?_
        refine lv_topi (fun v6 e6 => ?_)
        have f30 : v6 = σ_3 9 0 kC := by rw [e6, k9]
        refine lv_if_ne (tgt := 37) S.1 S.2.1 dX3_getDown_31 (by decide) (fun c7 => ?_) (fun c7 => ?_)
        · have j7 := t_neq c7
          refine lv_aload_n S.1 S.2.1 dX3_getDown_37 rfl (lv_at hl 1 rfl) ?_
          refine rC_2_0 S hnX3 K hH (mG wd_81) dX3_getDown_38 ?_
          refine lv_iload S.1 S.2.1 dX3_getDown_41 (lv_at hl 0 rfl) ?_
          refine lC_3 S K hH (vin (by omega) (by omega)) dX3_getDown_43 ?_
          refine lv_astore (lv' := [(5, .ref (L 14 v5.toNatClampNeg)), (4, .int v5), (0, .ref (L 2 0)), (1, .int h), (2, .int v1), (3, .int x3_3)]) S.1 S.2.1 dX3_getDown_44 hl (by decide) rfl (fun ls hl => ?_)
          refine lv_aload_n S.1 S.2.1 dX3_getDown_46 rfl (lv_at hl 2 rfl) ?_
          refine lv_iload_n S.1 S.2.1 dX3_getDown_47 rfl (lv_at hl 5 rfl) ?_
          refine cW_bpi (cW_V (n := 1) (As := [.int x3_3]) (rest := []) (k := 2) (i := 0) S K hH (by decide) rfl rfl (k_X3_stopOf l D B L A σ_3 τ x3_3 (by omega) hI (by omega)) gX3_getDown_X3_stopOf rfl hdV_X3_stopOf ⟨Nat.le_of_ble_eq_true rfl, Nat.le_of_ble_eq_true rfl⟩ rfl hl.1 (Nat.le_of_ble_eq_true rfl) dX3_getDown_48) hS (fun v8 H locs q8 hH hS => ?_)
          refine lv_istore (lv' := [(6, .int v8), (5, .ref (L 14 v5.toNatClampNeg)), (4, .int v5), (0, .ref (L 2 0)), (1, .int h), (2, .int v1), (3, .int x3_3)]) S.1 S.2.1 dX3_getDown_51 hl (by decide) rfl (fun ls hl => ?_)
          have k10 : v8 = nI kS := by first | (rw [(q8).2, hP 6 (by decide)]; exact k5) | (rw [(q9999).2, hP 6 (by decide)]; exact k5)
          have k11 : v8.toNatClampNeg = kS := by rw [k10]; exact (nI_cl (by have := (hN9.2 kC k1).1; omega)).1
          have k12 : v8.toInt = kS := by have z3 := cl_eq (j := v8) (by omega); omega
          refine lv_iconst (v := 1) S.1 S.2.1 dX3_getDown_53 (by decide) ?_
          refine lv_aload S.1 S.2.1 dX3_getDown_54 (lv_at hl 1 rfl) ?_
          refine lv_iload S.1 S.2.1 dX3_getDown_56 (lv_at hl 0 rfl) ?_
          refine lv_iload_n S.1 S.2.1 dX3_getDown_58 rfl (lv_at hl 4 rfl) ?_
          refine cW_bpi (cW_V (n := 2) (As := [.int v8, .int h]) (rest := [.int 1]) (k := 14) (i := v5.toNatClampNeg) S K hH (cl_lt (n := 12) (by omega) (by omega)) rfl rfl (k_X0_dayOf l D B L A σ_3 τ v5.toNatClampNeg v8 h (cl_lt (n := 12) (by omega) (by omega)) (by omega) (by omega) hI) gX3_getDown_X0_dayOf rfl hdV_X0_dayOf ⟨Nat.le_of_ble_eq_true rfl, Nat.le_of_ble_eq_true rfl⟩ rfl hl.1 (Nat.le_of_ble_eq_true rfl) dX3_getDown_59) hS (fun v9 H locs q9 hH hS => ?_)
          have kd := dayW (h := h.toInt) (x := v9) hp2 k1 k2 (by omega) (by have z := (q9).2; rw [hP 22 (by decide), hP 28 (by decide), k9, k11] at z; exact z)
          refine lv_iconst (v := 3) S.1 S.2.1 dX3_getDown_62 (by decide) ?_
          refine lv_iand S.1 S.2.1 dX3_getDown_63 ?_
          refine lv_topi (fun v10 e10 => ?_)
          have i10 : 0 ≤ v10.toInt ∧ v10.toInt ≤ (3 : Int32).toInt := i_andr e10 (by omega)
          refine lv_ishl S.1 S.2.1 dX3_getDown_64 ?_
          refine lv_topi (fun v11 e11 => ?_)
          refine lv_istore (lv' := [(7, .int v11), (6, .int v8), (5, .ref (L 14 v5.toNatClampNeg)), (4, .int v5), (0, .ref (L 2 0)), (1, .int h), (2, .int v1), (3, .int x3_3)]) S.1 S.2.1 dX3_getDown_65 hl (by decide) rfl (fun ls hl => ?_)
          have kr : v11 = b4I v9 := by rw [e11, e10]; rfl
          refine lv_aload_n S.1 S.2.1 dX3_getDown_67 rfl (lv_at hl 4 rfl) ?_
          refine rC_2_6 S hnX3 K hH (mG wd_87) dX3_getDown_68 ?_
          refine lv_iload S.1 S.2.1 dX3_getDown_71 (lv_at hl 3 rfl) ?_
          refine lC_7 S K hH (vin (by omega) (by omega)) dX3_getDown_73 ?_
          refine lv_topi (fun v12 e12 => ?_)
          have k12 : v12.toInt = v6.toInt := by rw [e12]; rw [← e6]
          have f73 : v12 = σ_3 9 0 kC := by rw [e12, k9]
          refine lv_iload S.1 S.2.1 dX3_getDown_74 (lv_at hl 0 rfl) ?_
          refine lv_iand S.1 S.2.1 dX3_getDown_76 ?_
          refine lv_topi (fun v13 e13 => ?_)
          refine lv_if_eq (tgt := 125) S.1 S.2.1 dX3_getDown_77 (by decide) (fun c14 => ?_) (fun c14 => ?_)
          · have j14 := t_eq c14
            obtain ⟨v15, e15⟩ : ∃ y_9 : Int32, y_9 = x3_3 + 1 := ⟨_, rfl⟩
            have i15 : v15.toInt = x3_3.toInt + 1 := i_addc e15 (by decide) (by omega) (by omega)
            refine lv_iinc (v := v15) (lv' := [(3, .int v15), (7, .int v11), (6, .int v8), (5, .ref (L 14 v5.toNatClampNeg)), (4, .int v5), (0, .ref (L 2 0)), (1, .int h), (2, .int v1)]) S.1 S.2.1 dX3_getDown_125 hl (k := 7) rfl (by rw [e15]; rfl) (by decide) rfl (fun ls hl => ?_)
            refine lv_goto (tgt := 12) S.1 S.2.1 dX3_getDown_128 (by decide) ?_
            exact ih3 v15 σ_3 _ _ ls (by omega) (by omega) (by rw [i15]; first | exact (gd_w1 hN9 hp3 hz9 ki wb (by omega) k1 k2 k3 wr (f30.symm.trans (by assumption))).1 | exact (gd_w2 hN9 hp3 hz9 hp4 ki wb (by omega) k1 k2 k3 wr kd (by rw [← f73, ← kr, ← e13]; assumption)).1 | exact (gd_w3 hN9 hp3 hz9 hp4 ki wb (by omega) k1 k2 k3 wr kd (by rw [← f73, ← kr, ← e13]; assumption) (Or.inl ⟨by unfold lastS; omega, by rw [eσ9999, rs_v (by decide)]⟩)).1 | exact (gd_w3 hN9 hp3 hz9 hp4 ki wb (by omega) k1 k2 k3 wr kd (by rw [← f73, ← kr, ← e13]; assumption) (Or.inr ⟨by unfold lastS; omega, by rw [eσ9999, rs_self, eσ9999, rs_v (by decide), k9, e9999, e9999, e9999, kr, eσ9999, rs_v (by decide), k9]⟩)).1) (by rw [i15]; first | exact rch_same wx (gd_w1 hN9 hp3 hz9 ki wb (by omega) k1 k2 k3 wr (f30.symm.trans (by assumption))).2 | exact rch_same wx (gd_w2 hN9 hp3 hz9 hp4 ki wb (by omega) k1 k2 k3 wr kd (by rw [← f73, ← kr, ← e13]; assumption)).2 | (rw [eσ9999, rs_self]; exact rch_more hN9 k1 k2 wx (gd_hit hN9 hp3 hz9 hp4 ki wb (by omega) k1 k2 k3 wr kd (by rw [← f73, ← kr, ← e13]; assumption)) f93 (by rw [e9999, e9999, e9999]; rfl)) | (rw [eσ9999, rs_v (by decide), eσ9999, rs_self]; exact rch_more hN9 k1 k2 wx (gd_hit hN9 hp3 hz9 hp4 ki wb (by omega) k1 k2 k3 wr kd (by rw [← f73, ← kr, ← e13]; assumption)) f93 (by rw [e9999, e9999, e9999]; rfl))) (by omega) (by omega) hI hP hH hS (lv_sub hl [5, 6, 7, 0] rfl)
          · have j14 := t_neq c14
            refine lv_aload_n S.1 S.2.1 dX3_getDown_80 rfl (lv_at hl 4 rfl) ?_
            refine lv_dup S.1 S.2.1 dX3_getDown_81 rfl ?_
            refine rC_2_8 S hnX3 K hH (mG wd_89) dX3_getDown_82 ?_
            refine lv_topi (fun v16 e16 => ?_)
            refine lv_iconst (v := 1) S.1 S.2.1 dX3_getDown_85 (by decide) ?_
            refine lv_aload S.1 S.2.1 dX3_getDown_86 (lv_at hl 2 rfl) ?_
            refine rC_14_6 S hnX0 K hH (cl_lt (n := 12) (by omega) (by omega)) (mG wd_94) dX3_getDown_88 ?_
            refine lv_iload S.1 S.2.1 dX3_getDown_91 (lv_at hl 1 rfl) ?_
            refine lC_15 S K hH (cl_lt (n := 12) (by omega) (by omega)) (vin (by omega) (by omega)) dX3_getDown_93 ?_
            refine lv_topi (fun v17 e17 => ?_)
            have b17 : 0 ≤ v17.toInt ∧ v17.toInt ≤ 11 := by rw [e17]; exact hI.1 27 v5.toNatClampNeg v8.toNatClampNeg
            have f93 : v17.toInt = nP N kC kS := by rw [e17, hP 27 (by decide), k9, k11]; exact ((hp2.2.2 kC k1).2.1 kS k2).1
            refine lv_ishl S.1 S.2.1 dX3_getDown_94 ?_
            refine lv_topi (fun v18 e18 => ?_)
            refine lv_ior S.1 S.2.1 dX3_getDown_95 ?_
            refine lv_topi (fun v19 e19 => ?_)
            refine pC_2_8 S hnX3 K hH hS (mG wd_89) dX3_getDown_96 (fun H locs hH hS => ?_)
            obtain ⟨σ20, eσ20⟩ : ∃ z_9 : QS, z_9 = rs σ_3 5 0 (fun _ => v19) := ⟨_, rfl⟩
            rw [← eσ20] at hH
            have hI := InvC_f eσ20 hI (by decide) (any32 _)
            have hP := Keep_w eσ20 hP (by decide)
            refine lv_iload S.1 S.2.1 dX3_getDown_99 (lv_at hl 1 rfl) ?_
            refine lv_iconst (v := 1) S.1 S.2.1 dX3_getDown_101 (by decide) ?_
            refine lv_iadd S.1 S.2.1 dX3_getDown_102 ?_
            refine lv_topi (fun v21 e21 => ?_)
            have i21 : v21.toInt = v8.toInt + (1 : Int32).toInt := i_add e21 (by omega) (by omega)
            refine lv_aload S.1 S.2.1 dX3_getDown_103 (lv_at hl 2 rfl) ?_
            refine rC_14_5 S hnX0 K hH (cl_lt (n := 12) (by omega) (by omega)) (mG wd_93) dX3_getDown_105 ?_
            refine lv_topi (fun v22 e22 => ?_)
            have b22 : 0 ≤ v22.toInt ∧ v22.toInt ≤ 6 := by rw [e22]; exact hI.1 26 v5.toNatClampNeg 0
            have f105 : v22.toInt = nS N kC := by rw [e22, eσ20, rs_v (by decide), hPo 26 (by decide), k9]; exact ((hp2.2.2 kC k1).1).1
            refine lv_icmp_ne (tgt := 125) S.1 S.2.1 dX3_getDown_108 (by decide) (fun c23 => ?_) (fun c23 => ?_)
            · have j23 := t_neq c23
              obtain ⟨v24, e24⟩ : ∃ y_9 : Int32, y_9 = x3_3 + 1 := ⟨_, rfl⟩
              have i24 : v24.toInt = x3_3.toInt + 1 := i_addc e24 (by decide) (by omega) (by omega)
              refine lv_iinc (v := v24) (lv' := [(3, .int v24), (7, .int v11), (6, .int v8), (5, .ref (L 14 v5.toNatClampNeg)), (4, .int v5), (0, .ref (L 2 0)), (1, .int h), (2, .int v1)]) S.1 S.2.1 dX3_getDown_125 hl (k := 7) rfl (by rw [e24]; rfl) (by decide) rfl (fun ls hl => ?_)
              refine lv_goto (tgt := 12) S.1 S.2.1 dX3_getDown_128 (by decide) ?_
              exact ih3 v24 σ20 _ _ ls (by omega) (by omega) (by rw [i24]; first | exact (gd_w1 hN9 hp3 hz9 ki wb (by omega) k1 k2 k3 wr (f30.symm.trans (by assumption))).1 | exact (gd_w2 hN9 hp3 hz9 hp4 ki wb (by omega) k1 k2 k3 wr kd (by rw [← f73, ← kr, ← e13]; assumption)).1 | exact (gd_w3 hN9 hp3 hz9 hp4 ki wb (by omega) k1 k2 k3 wr kd (by rw [← f73, ← kr, ← e13]; assumption) (Or.inl ⟨by unfold lastS; omega, by rw [eσ20, rs_v (by decide)]⟩)).1 | exact (gd_w3 hN9 hp3 hz9 hp4 ki wb (by omega) k1 k2 k3 wr kd (by rw [← f73, ← kr, ← e13]; assumption) (Or.inr ⟨by unfold lastS; omega, by rw [eσ9999, rs_self, eσ20, rs_v (by decide), k9, e9999, e9999, e9999, kr, eσ20, rs_v (by decide), k9]⟩)).1) (by rw [i24]; first | exact rch_same wx (gd_w1 hN9 hp3 hz9 ki wb (by omega) k1 k2 k3 wr (f30.symm.trans (by assumption))).2 | exact rch_same wx (gd_w2 hN9 hp3 hz9 hp4 ki wb (by omega) k1 k2 k3 wr kd (by rw [← f73, ← kr, ← e13]; assumption)).2 | (rw [eσ20, rs_self]; exact rch_more hN9 k1 k2 wx (gd_hit hN9 hp3 hz9 hp4 ki wb (by omega) k1 k2 k3 wr kd (by rw [← f73, ← kr, ← e13]; assumption)) f93 (by rw [e19, e18, e16]; rfl)) | (rw [eσ9999, rs_v (by decide), eσ20, rs_self]; exact rch_more hN9 k1 k2 wx (gd_hit hN9 hp3 hz9 hp4 ki wb (by omega) k1 k2 k3 wr kd (by rw [← f73, ← kr, ← e13]; assumption)) f93 (by rw [e19, e18, e16]; rfl))) (by omega) (by omega) hI hP hH hS (lv_sub hl [5, 6, 7, 0] rfl)
            · have j23 := t_eq c23
              refine lv_aload_n S.1 S.2.1 dX3_getDown_111 rfl (lv_at hl 4 rfl) ?_
              refine rC_2_6 S hnX3 K hH (mG wd_87) dX3_getDown_112 ?_
              refine lv_iload S.1 S.2.1 dX3_getDown_115 (lv_at hl 3 rfl) ?_
              refine lv_dup2_11 S.1 S.2.1 dX3_getDown_117 rfl rfl ?_
              refine lC_7 S K hH (vin (by omega) (by omega)) dX3_getDown_118 ?_
              refine lv_topi (fun v25 e25 => ?_)
              have k25 : v25.toInt = v6.toInt := by rw [e25, eσ20, rs_v (by decide)]; rw [← e6]
              refine lv_iload S.1 S.2.1 dX3_getDown_119 (lv_at hl 0 rfl) ?_
              refine lv_iconst (v := (-1)) S.1 S.2.1 dX3_getDown_121 (by decide) ?_
              refine lv_ixor S.1 S.2.1 dX3_getDown_122 ?_
              refine lv_topi (fun v26 e26 => ?_)
              refine lv_iand S.1 S.2.1 dX3_getDown_123 ?_
              refine lv_topi (fun v27 e27 => ?_)
              refine sC_7 S K hH hS (vin (by omega) (by omega)) dX3_getDown_124 (fun H locs hH hS => ?_)
              obtain ⟨σ28, eσ28⟩ : ∃ z_9 : QS, z_9 = rs σ20 9 0 (upd (σ20 9 0) v5.toNatClampNeg v27) := ⟨_, rfl⟩
              rw [← eσ28] at hH
              have hI := InvC_a eσ28 hI (by decide) (any32 _)
              have hP := Keep_w eσ28 hP (by decide)
              obtain ⟨v29, e29⟩ : ∃ y_9 : Int32, y_9 = x3_3 + 1 := ⟨_, rfl⟩
              have i29 : v29.toInt = x3_3.toInt + 1 := i_addc e29 (by decide) (by omega) (by omega)
              refine lv_iinc (v := v29) (lv' := [(3, .int v29), (7, .int v11), (6, .int v8), (5, .ref (L 14 v5.toNatClampNeg)), (4, .int v5), (0, .ref (L 2 0)), (1, .int h), (2, .int v1)]) S.1 S.2.1 dX3_getDown_125 hl (k := 7) rfl (by rw [e29]; rfl) (by decide) rfl (fun ls hl => ?_)
              refine lv_goto (tgt := 12) S.1 S.2.1 dX3_getDown_128 (by decide) ?_
              exact ih3 v29 σ28 _ _ ls (by omega) (by omega) (by rw [i29]; first | exact (gd_w1 hN9 hp3 hz9 ki wb (by omega) k1 k2 k3 wr (f30.symm.trans (by assumption))).1 | exact (gd_w2 hN9 hp3 hz9 hp4 ki wb (by omega) k1 k2 k3 wr kd (by rw [← f73, ← kr, ← e13]; assumption)).1 | exact (gd_w3 hN9 hp3 hz9 hp4 ki wb (by omega) k1 k2 k3 wr kd (by rw [← f73, ← kr, ← e13]; assumption) (Or.inl ⟨by unfold lastS; omega, by rw [eσ20, rs_v (by decide)]⟩)).1 | exact (gd_w3 hN9 hp3 hz9 hp4 ki wb (by omega) k1 k2 k3 wr kd (by rw [← f73, ← kr, ← e13]; assumption) (Or.inr ⟨by unfold lastS; omega, by rw [eσ28, rs_self, eσ20, rs_v (by decide), k9, e27, e26, e25, kr, eσ20, rs_v (by decide), k9]⟩)).1) (by rw [i29]; first | exact rch_same wx (gd_w1 hN9 hp3 hz9 ki wb (by omega) k1 k2 k3 wr (f30.symm.trans (by assumption))).2 | exact rch_same wx (gd_w2 hN9 hp3 hz9 hp4 ki wb (by omega) k1 k2 k3 wr kd (by rw [← f73, ← kr, ← e13]; assumption)).2 | (rw [eσ20, rs_self]; exact rch_more hN9 k1 k2 wx (gd_hit hN9 hp3 hz9 hp4 ki wb (by omega) k1 k2 k3 wr kd (by rw [← f73, ← kr, ← e13]; assumption)) f93 (by rw [e19, e18, e16]; rfl)) | (rw [eσ28, rs_v (by decide), eσ20, rs_self]; exact rch_more hN9 k1 k2 wx (gd_hit hN9 hp3 hz9 hp4 ki wb (by omega) k1 k2 k3 wr kd (by rw [← f73, ← kr, ← e13]; assumption)) f93 (by rw [e19, e18, e16]; rfl))) (by omega) (by omega) hI hP hH hS (lv_sub hl [5, 6, 7, 0] rfl)
        · have j7 := t_eq c7
          refine lv_goto (tgt := 125) S.1 S.2.1 dX3_getDown_34 (by decide) ?_
          obtain ⟨v30, e30⟩ : ∃ y_9 : Int32, y_9 = x3_3 + 1 := ⟨_, rfl⟩
          have i30 : v30.toInt = x3_3.toInt + 1 := i_addc e30 (by decide) (by omega) (by omega)
          refine lv_iinc (v := v30) (lv' := [(3, .int v30), (4, .int v5), (0, .ref (L 2 0)), (1, .int h), (2, .int v1)]) S.1 S.2.1 dX3_getDown_125 hl (k := 4) rfl (by rw [e30]; rfl) (by decide) rfl (fun ls hl => ?_)
          refine lv_goto (tgt := 12) S.1 S.2.1 dX3_getDown_128 (by decide) ?_
          exact ih3 v30 σ_3 _ _ ls (by omega) (by omega) (by rw [i30]; first | exact (gd_w1 hN9 hp3 hz9 ki wb (by omega) k1 k2 k3 wr (f30.symm.trans (by assumption))).1 | exact (gd_w2 hN9 hp3 hz9 hp4 ki wb (by omega) k1 k2 k3 wr kd (by rw [← f73, ← kr, ← e13]; assumption)).1 | exact (gd_w3 hN9 hp3 hz9 hp4 ki wb (by omega) k1 k2 k3 wr kd (by rw [← f73, ← kr, ← e13]; assumption) (Or.inl ⟨by unfold lastS; omega, by rw [eσ20, rs_v (by decide)]⟩)).1 | exact (gd_w3 hN9 hp3 hz9 hp4 ki wb (by omega) k1 k2 k3 wr kd (by rw [← f73, ← kr, ← e13]; assumption) (Or.inr ⟨by unfold lastS; omega, by rw [eσ28, rs_self, eσ20, rs_v (by decide), k9, e27, e26, e25, kr, eσ20, rs_v (by decide), k9]⟩)).1) (by rw [i30]; first | exact rch_same wx (gd_w1 hN9 hp3 hz9 ki wb (by omega) k1 k2 k3 wr (f30.symm.trans (by assumption))).2 | exact rch_same wx (gd_w2 hN9 hp3 hz9 hp4 ki wb (by omega) k1 k2 k3 wr kd (by rw [← f73, ← kr, ← e13]; assumption)).2 | (rw [eσ20, rs_self]; exact rch_more hN9 k1 k2 wx (gd_hit hN9 hp3 hz9 hp4 ki wb (by omega) k1 k2 k3 wr kd (by rw [← f73, ← kr, ← e13]; assumption)) f93 (by rw [e19, e18, e16]; rfl)) | (rw [eσ28, rs_v (by decide), eσ20, rs_self]; exact rch_more hN9 k1 k2 wx (gd_hit hN9 hp3 hz9 hp4 ki wb (by omega) k1 k2 k3 wr kd (by rw [← f73, ← kr, ← e13]; assumption)) f93 (by rw [e19, e18, e16]; rfl))) (by omega) (by omega) hI hP hH hS (lv_sub hl [2, 3, 4, 0] rfl)
  exact cut_12_3 _ v2 σ _ _ ls (Nat.lt_succ_self _) (by omega) (by rw [(q2).2]; exact rd_0 hp5) (by rw [(q2).2]; exact rch_0 hp6) (by rw [(q2).2]; exact Int.le_refl _) (by rw [(q2).2, (q1).2]; exact hal_mono hp3 hq9) hI hP hH hS (lv_sub hl [2, 3, 1, 0] rfl)
set_option maxHeartbeats 4000000 in
set_option maxRecDepth 100000 in
theorem k_X3_getOn (l : Launch) (D : va_G) (B : Nat → ClassId) (L : QL) (A : Nat → Prop) (σ : QS) (τ : Int64) (h : Int32) (N : Net) (act : Nat → Nat → Prop) (R : Nat → Prop) (hp0 : 0 ≤ h.toInt ∧ h.toInt ≤ 100000) (hI : InvC σ) (hp2 : RepC σ N) (hp3 : HalC (σ 6 0) (σ 7 0) N) (hp4 : actOk N h.toInt act) (hp5 : ridB N (σ 9 0) act) (hp6 : rchB (σ 5 0 0) R) : cW cntC gC l D B L A yX3_getOn wsX3_getOn 1 22 [.ref (L 2 0), .int h] σ τ (pV (fun σ' τ' => InvC σ' ∧ Keep [9] σ σ' ∧ τ' = τ ∧ ridB N (σ' 9 0) (fun c d => act c d ∨ (c < nK N ∧ runN N c d ∧ ∃ s, s < nS N c ∧ (s + 1 < nS N c ∧ R (nP N c s)) ∧ htN N c d s = h.toInt)))) := by
  refine cW_of (cc := cX3_getOn) (nL := 8) (ret := none) (by decide) rfl (Nat.le_of_ble_eq_true rfl) ?_
  intro p e s m below meth c S hr hk K hH hS ls hl
  have hnX0 : ∀ w ∈ wsX00, w ∈ wsX3_getOn := fun w h => mG (tX0 w h)
  have hnX3 : ∀ w ∈ wsX30, w ∈ wsX3_getOn := fun w h => mG (tX3 w h)
  have l0 : (0 : Int32).toInt = 0 := by decide
  have l1 : (1 : Int32).toInt = 1 := by decide
  have l3 : (3 : Int32).toInt = 3 := by decide
  have hP : Keep [9] σ σ := Keep_r
  have hN9 := hp2.1
  have hq9 : (h.toInt % 24).toNat < 24 := by omega
  have hm9 : h.toInt % 24 = ((h.toInt % 24).toNat : Int) := by omega
  have hl : lv_has ls 8 [(0, .ref (L 2 0)), (1, .int h)] := hl
  refine lv_aload_n S.1 S.2.1 dX3_getOn_0 rfl (lv_at hl 0 rfl) ?_
  refine lv_iload_n S.1 S.2.1 dX3_getOn_1 rfl (lv_at hl 1 rfl) ?_
  refine cW_bpi (cW_V (n := 1) (As := [.int h]) (rest := []) (k := 2) (i := 0) S K hH (by decide) rfl rfl (k_X3_haltsEnd l D B L A σ τ h (by omega) hI) gX3_getOn_X3_haltsEnd rfl hdV_X3_haltsEnd ⟨Nat.le_of_ble_eq_true rfl, Nat.le_of_ble_eq_true rfl⟩ rfl hl.1 (Nat.le_of_ble_eq_true rfl) dX3_getOn_2) hS (fun v1 H locs q1 hH hS => ?_)
  refine lv_istore_n (lv' := [(2, .int v1), (0, .ref (L 2 0)), (1, .int h)]) S.1 S.2.1 dX3_getOn_5 rfl hl (by decide) rfl (fun ls hl => ?_)
  refine lv_aload_n S.1 S.2.1 dX3_getOn_6 rfl (lv_at hl 1 rfl) ?_
  refine lv_iload_n S.1 S.2.1 dX3_getOn_7 rfl (lv_at hl 2 rfl) ?_
  refine cW_bpi (cW_V (n := 1) (As := [.int h]) (rest := []) (k := 2) (i := 0) S K hH (by decide) rfl rfl (k_X3_haltsBegin l D B L A σ τ h (by omega) hI) gX3_getOn_X3_haltsBegin rfl hdV_X3_haltsBegin ⟨Nat.le_of_ble_eq_true rfl, Nat.le_of_ble_eq_true rfl⟩ rfl hl.1 (Nat.le_of_ble_eq_true rfl) dX3_getOn_8) hS (fun v2 H locs q2 hH hS => ?_)
  refine lv_istore_n (lv' := [(3, .int v2), (2, .int v1), (0, .ref (L 2 0)), (1, .int h)]) S.1 S.2.1 dX3_getOn_11 rfl hl (by decide) rfl (fun ls hl => ?_)
  have cut_12_3 : ∀ (n : Nat) (x3_3 : Int32) (σ_3 : QS) (H : Heap) (locs : List Loc) (ls : Array Slot), (v1.toInt - x3_3.toInt).toNat < n → 0 ≤ x3_3.toInt ∧ x3_3.toInt ≤ 72 → (goI N (σ 6 0) (σ 7 0 (h.toInt % 24).toNat).toInt x3_3.toInt h.toInt act (fun c s => s + 1 < nS N c ∧ R (nP N c s)) (σ_3 9 0)) → ((σ 7 0 (h.toInt % 24).toNat).toInt ≤ x3_3.toInt) → (x3_3.toInt ≤ v1.toInt) → InvC σ_3 → Keep [9] σ σ_3 → hW cntC gC D B L σ_3 τ H → va_S A s.heap H locs → lv_has ls 8 [(0, .ref (L 2 0)), (1, .int h), (2, .int v1), (3, .int x3_3)] → W p l e { frames := 1, cells := 0, slots := 0, locals := 22 } s m [.ref (L 2 0), .int h].toArray below meth c H locs 0 0 (MQ below (QcW cntC gC D B L A (pV (fun σ' τ' => InvC σ' ∧ Keep [9] σ σ' ∧ τ' = τ ∧ ridB N (σ' 9 0) (fun c d => act c d ∨ (c < nK N ∧ runN N c d ∧ ∃ s, s < nS N c ∧ (s + 1 < nS N c ∧ R (nP N c s)) ∧ htN N c d s = h.toInt))))) [.ref (L 2 0), .int h].toArray s 0 0 A) (F0 m 12 ls []) := by
    intro n
    induction n with
    | zero => intro x3_3 σ_3 H locs ls hm; exact absurd hm (Nat.not_lt_zero _)
    | succ n ih3 =>
      intro x3_3 σ_3 H locs ls hm3 h3_0 wr wb we hI hP hH hS hl
      have y9 : (σ_3 7 0 24).toInt = (σ 7 0 24).toInt := by rw [hP 7 (by decide)]
      have hPo := hP
      refine lv_iload_n S.1 S.2.1 dX3_getOn_12 rfl (lv_at hl 3 rfl) ?_
      refine lv_iload_n S.1 S.2.1 dX3_getOn_13 rfl (lv_at hl 2 rfl) ?_
      refine lv_icmp_ge (tgt := 115) S.1 S.2.1 dX3_getOn_14 (by decide) (fun c4 => ?_) (fun c4 => ?_)
      · have j4 := t_le c4
        refine cW_vret S hr hk hH hS ?_ dX3_getOn_115
        exact ⟨rfl, hI, hP, rfl, by have h8 : x3_3.toInt = v1.toInt := (by omega); rw [h8, (q1).2] at wr; exact go_end hN9 hp3 hq9 hm9 wr⟩
      · have j4 := t_nle c4
        refine lv_aload_n S.1 S.2.1 dX3_getOn_17 rfl (lv_at hl 0 rfl) ?_
        refine lv_iload_n S.1 S.2.1 dX3_getOn_18 rfl (lv_at hl 3 rfl) ?_
        refine cW_bpi (cW_V (n := 1) (As := [.int x3_3]) (rest := []) (k := 2) (i := 0) S K hH (by decide) rfl rfl (k_X3_cartOf l D B L A σ_3 τ x3_3 (by omega) hI (by omega)) gX3_getOn_X3_cartOf rfl hdV_X3_cartOf ⟨Nat.le_of_ble_eq_true rfl, Nat.le_of_ble_eq_true rfl⟩ rfl hl.1 (Nat.le_of_ble_eq_true rfl) dX3_getOn_19) hS (fun v5 H locs q5 hH hS => ?_)
        refine lv_istore (lv' := [(4, .int v5), (0, .ref (L 2 0)), (1, .int h), (2, .int v1), (3, .int x3_3)]) S.1 S.2.1 dX3_getOn_22 hl (by decide) rfl (fun ls hl => ?_)
        have ki := cl_eq (j := x3_3) (by omega)
        obtain ⟨kC, kS, k1, k2, k3, k4, k5, k6⟩ := halt_at hN9 hp3 hq9 (i := x3_3.toInt) (k := x3_3.toNatClampNeg) wb (by rw [← (q1).2]; omega) ki
        have k7 : v5 = nI kC := by rw [(q5).2, hP 6 (by decide)]; exact k4
        have k9 : v5.toNatClampNeg = kC := by rw [k7]; exact (nI_cl (by have := hN9.1; omega)).1
        refine lv_aload_n S.1 S.2.1 dX3_getOn_24 rfl (lv_at hl 1 rfl) ?_
        refine rC_2_0 S hnX3 K hH (mG wd_81) dX3_getOn_25 ?_
        refine lv_iload S.1 S.2.1 dX3_getOn_28 (lv_at hl 0 rfl) ?_
        refine lC_3 S K hH (vin (by omega) (by omega)) dX3_getOn_30 ?_
        refine lv_astore (lv' := [(5, .ref (L 14 v5.toNatClampNeg)), (4, .int v5), (0, .ref (L 2 0)), (1, .int h), (2, .int v1), (3, .int x3_3)]) S.1 S.2.1 dX3_getOn_31 hl (by decide) rfl (fun ls hl => ?_)
        refine lv_aload_n S.1 S.2.1 dX3_getOn_33 rfl (lv_at hl 2 rfl) ?_
        refine lv_iload_n S.1 S.2.1 dX3_getOn_34 rfl (lv_at hl 5 rfl) ?_
        refine cW_bpi (cW_V (n := 1) (As := [.int x3_3]) (rest := []) (k := 2) (i := 0) S K hH (by decide) rfl rfl (k_X3_stopOf l D B L A σ_3 τ x3_3 (by omega) hI (by omega)) gX3_getOn_X3_stopOf rfl hdV_X3_stopOf ⟨Nat.le_of_ble_eq_true rfl, Nat.le_of_ble_eq_true rfl⟩ rfl hl.1 (Nat.le_of_ble_eq_true rfl) dX3_getOn_35) hS (fun v6 H locs q6 hH hS => ?_)
        refine lv_istore (lv' := [(6, .int v6), (5, .ref (L 14 v5.toNatClampNeg)), (4, .int v5), (0, .ref (L 2 0)), (1, .int h), (2, .int v1), (3, .int x3_3)]) S.1 S.2.1 dX3_getOn_38 hl (by decide) rfl (fun ls hl => ?_)
        have k10 : v6 = nI kS := by first | (rw [(q9999).2, hP 6 (by decide)]; exact k5) | (rw [(q6).2, hP 6 (by decide)]; exact k5)
        have k11 : v6.toNatClampNeg = kS := by rw [k10]; exact (nI_cl (by have := (hN9.2 kC k1).1; omega)).1
        have k12 : v6.toInt = kS := by have z3 := cl_eq (j := v6) (by omega); omega
        refine lv_aload_n S.1 S.2.1 dX3_getOn_40 rfl (lv_at hl 3 rfl) ?_
        refine rC_2_8 S hnX3 K hH (mG wd_89) dX3_getOn_41 ?_
        refine lv_topi (fun v7 e7 => ?_)
        have f41 : v7 = σ 5 0 0 := by rw [e7, hP 5 (by decide)]
        refine lv_aload S.1 S.2.1 dX3_getOn_44 (lv_at hl 1 rfl) ?_
        refine rC_14_6 S hnX0 K hH (cl_lt (n := 12) (by omega) (by omega)) (mG wd_94) dX3_getOn_46 ?_
        refine lv_iload S.1 S.2.1 dX3_getOn_49 (lv_at hl 0 rfl) ?_
        refine lC_15 S K hH (cl_lt (n := 12) (by omega) (by omega)) (vin (by omega) (by omega)) dX3_getOn_51 ?_
        refine lv_topi (fun v8 e8 => ?_)
        have b8 : 0 ≤ v8.toInt ∧ v8.toInt ≤ 11 := by rw [e8]; exact hI.1 27 v5.toNatClampNeg v6.toNatClampNeg
        have f51 : v8.toInt = nP N kC kS := by rw [e8, hP 27 (by decide), k9, k11]; exact ((hp2.2.2 kC k1).2.1 kS k2).1
        refine lv_ishr S.1 S.2.1 dX3_getOn_52 ?_
        refine lv_topi (fun v9 e9 => ?_)
        refine lv_iconst (v := 1) S.1 S.2.1 dX3_getOn_53 (by decide) ?_
        refine lv_iand S.1 S.2.1 dX3_getOn_54 ?_
        refine lv_topi (fun v10 e10 => ?_)
        have i10 : 0 ≤ v10.toInt ∧ v10.toInt ≤ (1 : Int32).toInt := i_andr e10 (by omega)
        refine lv_if_eq (tgt := 109) S.1 S.2.1 dX3_getOn_55 (by decide) (fun c11 => ?_) (fun c11 => ?_)
        · have j11 := t_eq c11
          obtain ⟨v12, e12⟩ : ∃ y_9 : Int32, y_9 = x3_3 + 1 := ⟨_, rfl⟩
          have i12 : v12.toInt = x3_3.toInt + 1 := i_addc e12 (by decide) (by omega) (by omega)
          refine lv_iinc (v := v12) (lv' := [(3, .int v12), (6, .int v6), (5, .ref (L 14 v5.toNatClampNeg)), (4, .int v5), (0, .ref (L 2 0)), (1, .int h), (2, .int v1)]) S.1 S.2.1 dX3_getOn_109 hl (k := 6) rfl (by rw [e12]; rfl) (by decide) rfl (fun ls hl => ?_)
          refine lv_goto (tgt := 12) S.1 S.2.1 dX3_getOn_112 (by decide) ?_
          exact ih3 v12 σ_3 _ _ ls (by omega) (by omega) (by rw [i12]; first | exact go_no hN9 ki wb k1 k2 k3 wr (fun y => absurd y.2 (fun z => (pl_bit hN9 k1 k2 hp6 f51).mpr z (by rw [← f41, ← e9, ← e10]; assumption))) | exact go_no hN9 ki wb k1 k2 k3 wr (fun y => absurd y.1 (by omega)) | exact go_wn hN9 ki wb k1 k2 k3 wr kd (fun z => absurd ((gOn_run hp2 k1).mpr z) ((hg9.resolve_left (fun y => absurd y.1 (by omega))).2)) | exact go_w hN9 ki wb k1 k2 k3 wr kd ⟨by omega, (pl_bit hN9 k1 k2 hp6 f51).mp (by rw [← f41, ← e9, ← e10]; assumption)⟩ ((gOn_run hp2 k1).mp ((hg9.resolve_right (fun y => absurd y.1 (by omega))).2.2)) (by rw [eσ9999, rs_self, k9, e9999, e9999, e9999, e9999, k9]; rfl)) (by omega) (by omega) hI hP hH hS (lv_sub hl [4, 5, 6, 0] rfl)
        · have j11 := t_neq c11
          refine lv_iload S.1 S.2.1 dX3_getOn_58 (lv_at hl 0 rfl) ?_
          refine lv_iconst (v := 1) S.1 S.2.1 dX3_getOn_60 (by decide) ?_
          refine lv_iadd S.1 S.2.1 dX3_getOn_61 ?_
          refine lv_topi (fun v13 e13 => ?_)
          have i13 : v13.toInt = v6.toInt + (1 : Int32).toInt := i_add e13 (by omega) (by omega)
          refine lv_aload S.1 S.2.1 dX3_getOn_62 (lv_at hl 1 rfl) ?_
          refine rC_14_5 S hnX0 K hH (cl_lt (n := 12) (by omega) (by omega)) (mG wd_93) dX3_getOn_64 ?_
          refine lv_topi (fun v14 e14 => ?_)
          have b14 : 0 ≤ v14.toInt ∧ v14.toInt ≤ 6 := by rw [e14]; exact hI.1 26 v5.toNatClampNeg 0
          have f64 : v14.toInt = nS N kC := by rw [e14, hP 26 (by decide), k9]; exact ((hp2.2.2 kC k1).1).1
          refine lv_icmp_lt (tgt := 73) S.1 S.2.1 dX3_getOn_67 (by decide) (fun c15 => ?_) (fun c15 => ?_)
          · have j15 := t_lt c15
            refine lv_aload S.1 S.2.1 dX3_getOn_73 (lv_at hl 1 rfl) ?_
            refine lv_iload S.1 S.2.1 dX3_getOn_75 (lv_at hl 0 rfl) ?_
            refine lv_iload_n S.1 S.2.1 dX3_getOn_77 rfl (lv_at hl 4 rfl) ?_
            refine cW_bpi (cW_V (n := 2) (As := [.int v6, .int h]) (rest := []) (k := 14) (i := v5.toNatClampNeg) S K hH (cl_lt (n := 12) (by omega) (by omega)) rfl rfl (k_X0_dayOf l D B L A σ_3 τ v5.toNatClampNeg v6 h (cl_lt (n := 12) (by omega) (by omega)) (by omega) (by omega) hI) gX3_getOn_X0_dayOf rfl hdV_X0_dayOf ⟨Nat.le_of_ble_eq_true rfl, Nat.le_of_ble_eq_true rfl⟩ rfl hl.1 (Nat.le_of_ble_eq_true rfl) dX3_getOn_78) hS (fun v16 H locs q16 hH hS => ?_)
            refine lv_istore (lv' := [(7, .int v16), (6, .int v6), (5, .ref (L 14 v5.toNatClampNeg)), (4, .int v5), (0, .ref (L 2 0)), (1, .int h), (2, .int v1), (3, .int x3_3)]) S.1 S.2.1 dX3_getOn_81 hl (by decide) rfl (fun ls hl => ?_)
            have kd := dayW (h := h.toInt) (x := v16) hp2 k1 k2 (by omega) (by have z := (q16).2; rw [hP 22 (by decide), hP 28 (by decide), k9, k11] at z; exact z)
            refine lv_aload S.1 S.2.1 dX3_getOn_83 (lv_at hl 2 rfl) ?_
            refine lv_iload S.1 S.2.1 dX3_getOn_85 (lv_at hl 0 rfl) ?_
            refine cW_bpi (cW_V (n := 1) (As := [.int v16]) (rest := []) (k := 14) (i := v5.toNatClampNeg) S K hH (cl_lt (n := 12) (by omega) (by omega)) rfl rfl (k_X0_goesOn l D B L A σ_3 τ v5.toNatClampNeg v16 (cl_lt (n := 12) (by omega) (by omega))) gX3_getOn_X0_goesOn rfl hdV_X0_goesOn ⟨Nat.le_of_ble_eq_true rfl, Nat.le_of_ble_eq_true rfl⟩ rfl hl.1 (Nat.le_of_ble_eq_true rfl) dX3_getOn_87) hS (fun v17 H locs q17 hH hS => ?_)
            have hg9 := q17
            rw [hP 21 (by decide), hP 29 (by decide), k9] at hg9
            refine lv_if_eq (tgt := 109) S.1 S.2.1 dX3_getOn_90 (by decide) (fun c18 => ?_) (fun c18 => ?_)
            · have j18 := t_eq c18
              obtain ⟨v19, e19⟩ : ∃ y_9 : Int32, y_9 = x3_3 + 1 := ⟨_, rfl⟩
              have i19 : v19.toInt = x3_3.toInt + 1 := i_addc e19 (by decide) (by omega) (by omega)
              refine lv_iinc (v := v19) (lv' := [(3, .int v19), (7, .int v16), (6, .int v6), (5, .ref (L 14 v5.toNatClampNeg)), (4, .int v5), (0, .ref (L 2 0)), (1, .int h), (2, .int v1)]) S.1 S.2.1 dX3_getOn_109 hl (k := 7) rfl (by rw [e19]; rfl) (by decide) rfl (fun ls hl => ?_)
              refine lv_goto (tgt := 12) S.1 S.2.1 dX3_getOn_112 (by decide) ?_
              exact ih3 v19 σ_3 _ _ ls (by omega) (by omega) (by rw [i19]; first | exact go_no hN9 ki wb k1 k2 k3 wr (fun y => absurd y.2 (fun z => (pl_bit hN9 k1 k2 hp6 f51).mpr z (by rw [← f41, ← e9, ← e10]; assumption))) | exact go_no hN9 ki wb k1 k2 k3 wr (fun y => absurd y.1 (by omega)) | exact go_wn hN9 ki wb k1 k2 k3 wr kd (fun z => absurd ((gOn_run hp2 k1).mpr z) ((hg9.resolve_left (fun y => absurd y.1 (by omega))).2)) | exact go_w hN9 ki wb k1 k2 k3 wr kd ⟨by omega, (pl_bit hN9 k1 k2 hp6 f51).mp (by rw [← f41, ← e9, ← e10]; assumption)⟩ ((gOn_run hp2 k1).mp ((hg9.resolve_right (fun y => absurd y.1 (by omega))).2.2)) (by rw [eσ9999, rs_self, k9, e9999, e9999, e9999, e9999, k9]; rfl)) (by omega) (by omega) hI hP hH hS (lv_sub hl [5, 6, 7, 0] rfl)
            · have j18 := t_neq c18
              refine lv_aload_n S.1 S.2.1 dX3_getOn_93 rfl (lv_at hl 4 rfl) ?_
              refine rC_2_6 S hnX3 K hH (mG wd_87) dX3_getOn_94 ?_
              refine lv_iload S.1 S.2.1 dX3_getOn_97 (lv_at hl 3 rfl) ?_
              refine lv_dup2_11 S.1 S.2.1 dX3_getOn_99 rfl rfl ?_
              refine lC_7 S K hH (vin (by omega) (by omega)) dX3_getOn_100 ?_
              refine lv_topi (fun v20 e20 => ?_)
              refine lv_iconst (v := 1) S.1 S.2.1 dX3_getOn_101 (by decide) ?_
              refine lv_iload S.1 S.2.1 dX3_getOn_102 (lv_at hl 0 rfl) ?_
              refine lv_iconst (v := 3) S.1 S.2.1 dX3_getOn_104 (by decide) ?_
              refine lv_iand S.1 S.2.1 dX3_getOn_105 ?_
              refine lv_topi (fun v21 e21 => ?_)
              have i21 : 0 ≤ v21.toInt ∧ v21.toInt ≤ (3 : Int32).toInt := i_andr e21 (by omega)
              refine lv_ishl S.1 S.2.1 dX3_getOn_106 ?_
              refine lv_topi (fun v22 e22 => ?_)
              refine lv_ior S.1 S.2.1 dX3_getOn_107 ?_
              refine lv_topi (fun v23 e23 => ?_)
              refine sC_7 S K hH hS (vin (by omega) (by omega)) dX3_getOn_108 (fun H locs hH hS => ?_)
              obtain ⟨σ24, eσ24⟩ : ∃ z_9 : QS, z_9 = rs σ_3 9 0 (upd (σ_3 9 0) v5.toNatClampNeg v23) := ⟨_, rfl⟩
              rw [← eσ24] at hH
              have hI := InvC_a eσ24 hI (by decide) (any32 _)
              have hP := Keep_w eσ24 hP (by decide)
              obtain ⟨v25, e25⟩ : ∃ y_9 : Int32, y_9 = x3_3 + 1 := ⟨_, rfl⟩
              have i25 : v25.toInt = x3_3.toInt + 1 := i_addc e25 (by decide) (by omega) (by omega)
              refine lv_iinc (v := v25) (lv' := [(3, .int v25), (7, .int v16), (6, .int v6), (5, .ref (L 14 v5.toNatClampNeg)), (4, .int v5), (0, .ref (L 2 0)), (1, .int h), (2, .int v1)]) S.1 S.2.1 dX3_getOn_109 hl (k := 7) rfl (by rw [e25]; rfl) (by decide) rfl (fun ls hl => ?_)
              refine lv_goto (tgt := 12) S.1 S.2.1 dX3_getOn_112 (by decide) ?_
              exact ih3 v25 σ24 _ _ ls (by omega) (by omega) (by rw [i25]; first | exact go_no hN9 ki wb k1 k2 k3 wr (fun y => absurd y.2 (fun z => (pl_bit hN9 k1 k2 hp6 f51).mpr z (by rw [← f41, ← e9, ← e10]; assumption))) | exact go_no hN9 ki wb k1 k2 k3 wr (fun y => absurd y.1 (by omega)) | exact go_wn hN9 ki wb k1 k2 k3 wr kd (fun z => absurd ((gOn_run hp2 k1).mpr z) ((hg9.resolve_left (fun y => absurd y.1 (by omega))).2)) | exact go_w hN9 ki wb k1 k2 k3 wr kd ⟨by omega, (pl_bit hN9 k1 k2 hp6 f51).mp (by rw [← f41, ← e9, ← e10]; assumption)⟩ ((gOn_run hp2 k1).mp ((hg9.resolve_right (fun y => absurd y.1 (by omega))).2.2)) (by rw [eσ24, rs_self, k9, e23, e22, e21, e20, k9]; rfl)) (by omega) (by omega) hI hP hH hS (lv_sub hl [5, 6, 7, 0] rfl)
          · have j15 := t_nlt c15
            refine lv_goto (tgt := 109) S.1 S.2.1 dX3_getOn_70 (by decide) ?_
            obtain ⟨v26, e26⟩ : ∃ y_9 : Int32, y_9 = x3_3 + 1 := ⟨_, rfl⟩
            have i26 : v26.toInt = x3_3.toInt + 1 := i_addc e26 (by decide) (by omega) (by omega)
            refine lv_iinc (v := v26) (lv' := [(3, .int v26), (6, .int v6), (5, .ref (L 14 v5.toNatClampNeg)), (4, .int v5), (0, .ref (L 2 0)), (1, .int h), (2, .int v1)]) S.1 S.2.1 dX3_getOn_109 hl (k := 6) rfl (by rw [e26]; rfl) (by decide) rfl (fun ls hl => ?_)
            refine lv_goto (tgt := 12) S.1 S.2.1 dX3_getOn_112 (by decide) ?_
            exact ih3 v26 σ_3 _ _ ls (by omega) (by omega) (by rw [i26]; first | exact go_no hN9 ki wb k1 k2 k3 wr (fun y => absurd y.2 (fun z => (pl_bit hN9 k1 k2 hp6 f51).mpr z (by rw [← f41, ← e9, ← e10]; assumption))) | exact go_no hN9 ki wb k1 k2 k3 wr (fun y => absurd y.1 (by omega)) | exact go_wn hN9 ki wb k1 k2 k3 wr kd (fun z => absurd ((gOn_run hp2 k1).mpr z) ((hg9.resolve_left (fun y => absurd y.1 (by omega))).2)) | exact go_w hN9 ki wb k1 k2 k3 wr kd ⟨by omega, (pl_bit hN9 k1 k2 hp6 f51).mp (by rw [← f41, ← e9, ← e10]; assumption)⟩ ((gOn_run hp2 k1).mp ((hg9.resolve_right (fun y => absurd y.1 (by omega))).2.2)) (by rw [eσ24, rs_self, k9, e23, e22, e21, e20, k9]; rfl)) (by omega) (by omega) hI hP hH hS (lv_sub hl [4, 5, 6, 0] rfl)
  exact cut_12_3 _ v2 σ _ _ ls (Nat.lt_succ_self _) (by omega) (by rw [(q2).2]; exact go_0 hp5) (by rw [(q2).2]; exact Int.le_refl _) (by rw [(q2).2, (q1).2]; exact hal_mono hp3 hq9) hI hP hH hS (lv_sub hl [2, 3, 1, 0] rfl)
set_option maxHeartbeats 4000000 in
set_option maxRecDepth 100000 in
theorem k_X3_soonest (l : Launch) (D : va_G) (B : Nat → ClassId) (L : QL) (A : Nat → Prop) (σ : QS) (τ : Int64) (f : Int32) (a : Int32) (b : Int32) (w9 : Int32) (N : Net) (hp0 : 0 ≤ f.toInt ∧ f.toInt ≤ 11) (hp1 : 0 ≤ a.toInt ∧ a.toInt ≤ 100000) (hp2 : 0 ≤ b.toInt ∧ b.toInt ≤ 100000) (hI : InvC σ) (hp4 : RepC σ N) (hp5 : HalC (σ 6 0) (σ 7 0) N) (hp6 : LnkC (σ 8 0) N) : cW cntC gC l D B L A yX3_soonest wsX3_soonest 2 49 [.ref (L 2 0), .int f, .int a, .int b, .int w9] σ τ (pI (fun x σ' τ' => InvC σ' ∧ Keep [5, 9] σ σ' ∧ τ' = τ ∧ ((-1 ≤ x.toInt ∧ x.toInt ≤ 100000) ∧ sooP N f.toNatClampNeg a.toInt b.toInt w9 x ∧ (w9 &&& (σ 8 0 f.toNatClampNeg ^^^ (-1)) = 0 → sooR N f.toNatClampNeg a.toInt b.toInt (σ' 5 0 0) x)))) := by
  refine cW_of (cc := cX3_soonest) (nL := 6) (ret := (some .int)) (by decide) rfl (Nat.le_of_ble_eq_true rfl) ?_
  intro p e s m below meth c S hr hk K hH hS ls hl
  have hnX0 : ∀ w ∈ wsX00, w ∈ wsX3_soonest := fun w h => mG (tX0 w h)
  have hnX3 : ∀ w ∈ wsX30, w ∈ wsX3_soonest := fun w h => mG (tX3 w h)
  have lm1 : ((-1) : Int32).toInt = -1 := by decide
  have l0 : (0 : Int32).toInt = 0 := by decide
  have l1 : (1 : Int32).toInt = 1 := by decide
  have hP : Keep [5, 9] σ σ := Keep_r
  have hN9 := hp4.1
  have hf9 := cl_eq (j := f) (by omega)
  have hl : lv_has ls 6 [(0, .ref (L 2 0)), (1, .int f), (2, .int a), (3, .int b), (4, .int w9)] := hl
  refine lv_aload_n S.1 S.2.1 dX3_soonest_0 rfl (lv_at hl 0 rfl) ?_
  refine lv_iconst (v := 1) S.1 S.2.1 dX3_soonest_1 (by decide) ?_
  refine lv_iload_n S.1 S.2.1 dX3_soonest_2 rfl (lv_at hl 1 rfl) ?_
  refine lv_ishl S.1 S.2.1 dX3_soonest_3 ?_
  refine lv_topi (fun v1 e1 => ?_)
  refine pC_2_8 S hnX3 K hH hS (mG wd_89) dX3_soonest_4 (fun H locs hH hS => ?_)
  obtain ⟨σ2, eσ2⟩ : ∃ z_9 : QS, z_9 = rs σ 5 0 (fun _ => v1) := ⟨_, rfl⟩
  rw [← eσ2] at hH
  have hI := InvC_f eσ2 hI (by decide) (any32 _)
  have hP := Keep_w eσ2 hP (by decide)
  refine lv_iload S.1 S.2.1 dX3_soonest_7 (lv_at hl 4 rfl) ?_
  refine lv_aload_n S.1 S.2.1 dX3_soonest_9 rfl (lv_at hl 0 rfl) ?_
  refine rC_2_5 S hnX3 K hH (mG wd_86) dX3_soonest_10 ?_
  refine lv_iload_n S.1 S.2.1 dX3_soonest_13 rfl (lv_at hl 1 rfl) ?_
  refine lC_6 S K hH (vin (by omega) (by omega)) dX3_soonest_14 ?_
  refine lv_topi (fun v3 e3 => ?_)
  have f14 : v3 = σ 8 0 f.toNatClampNeg := by rw [e3, hP 8 (by decide)]
  refine lv_iconst (v := (-1)) S.1 S.2.1 dX3_soonest_15 (by decide) ?_
  refine lv_ixor S.1 S.2.1 dX3_soonest_16 ?_
  refine lv_topi (fun v4 e4 => ?_)
  refine lv_iand S.1 S.2.1 dX3_soonest_17 ?_
  refine lv_topi (fun v5 e5 => ?_)
  refine lv_if_eq (tgt := 23) S.1 S.2.1 dX3_soonest_18 (by decide) (fun c6 => ?_) (fun c6 => ?_)
  · have j6 := t_eq c6
    refine lv_aload_n S.1 S.2.1 dX3_soonest_23 rfl (lv_at hl 0 rfl) ?_
    refine rC_2_6 S hnX3 K hH (mG wd_87) dX3_soonest_24 ?_
    refine lv_iconst (v := 0) S.1 S.2.1 dX3_soonest_27 (by decide) ?_
    refine cW_bv (cW_S (n := 2) (As := [.ref (L 7 0), .int 0]) (rest := []) S K hH (k_fill_7 l D B L A σ2 τ 0 hI) gX3_soonest_J7_fill_53178 rfl hdS_J7_fill_53178 ⟨Nat.le_of_ble_eq_true rfl, Nat.le_of_ble_eq_true rfl⟩ rfl hl.1 (Nat.le_of_ble_eq_true rfl) dX3_soonest_28) hS (fun σ7 τ7 H locs q7 hH hS => ?_)
    obtain ⟨hI, hP7, hτ7, q7⟩ := q7
    rw [hτ7] at hH
    have hP := Keep_t hP hP7 (by decide)
    refine lv_iload_n S.1 S.2.1 dX3_soonest_31 rfl (lv_at hl 2 rfl) ?_
    refine lv_istore (lv' := [(5, .int a), (0, .ref (L 2 0)), (1, .int f), (2, .int a), (3, .int b), (4, .int w9)]) S.1 S.2.1 dX3_soonest_32 hl (by decide) rfl (fun ls hl => ?_)
    have cut_34_8 : ∀ (n : Nat) (x5_8 : Int32) (σ_8 : QS) (H : Heap) (locs : List Loc) (ls : Array Slot), (b.toInt + 1 - x5_8.toInt).toNat < n → 0 ≤ x5_8.toInt ∧ x5_8.toInt ≤ 100001 → (ridB N (σ_8 9 0) (actF N f.toNatClampNeg a.toInt (x5_8.toInt - 1))) → (rchB (σ_8 5 0 0) (rchF N f.toNatClampNeg a.toInt (x5_8.toInt - 1))) → (a.toInt ≤ x5_8.toInt) → (sooI N f.toNatClampNeg a.toInt x5_8.toInt w9) → ((x5_8.toInt ≤ b.toInt + 1 ∨ x5_8.toInt = a.toInt)) → InvC σ_8 → Keep [5, 9] σ σ_8 → hW cntC gC D B L σ_8 τ H → va_S A s.heap H locs → lv_has ls 6 [(0, .ref (L 2 0)), (3, .int b), (4, .int w9), (5, .int x5_8)] → W p l e { frames := 2, cells := 0, slots := 0, locals := 49 } s m [.ref (L 2 0), .int f, .int a, .int b, .int w9].toArray below meth c H locs 0 0 (MQ below (QcW cntC gC D B L A (pI (fun x σ' τ' => InvC σ' ∧ Keep [5, 9] σ σ' ∧ τ' = τ ∧ ((-1 ≤ x.toInt ∧ x.toInt ≤ 100000) ∧ sooP N f.toNatClampNeg a.toInt b.toInt w9 x ∧ (w9 &&& (σ 8 0 f.toNatClampNeg ^^^ (-1)) = 0 → sooR N f.toNatClampNeg a.toInt b.toInt (σ' 5 0 0) x))))) [.ref (L 2 0), .int f, .int a, .int b, .int w9].toArray s 0 0 A) (F0 m 34 ls []) := by
      intro n
      induction n with
      | zero => intro x5_8 σ_8 H locs ls hm; exact absurd hm (Nat.not_lt_zero _)
      | succ n ih8 =>
        intro x5_8 σ_8 H locs ls hm8 h8_0 wr wx wa wi wb hI hP hH hS hl
        refine lv_iload S.1 S.2.1 dX3_soonest_34 (lv_at hl 3 rfl) ?_
        refine lv_iload_n S.1 S.2.1 dX3_soonest_36 rfl (lv_at hl 1 rfl) ?_
        refine lv_icmp_gt (tgt := 73) S.1 S.2.1 dX3_soonest_37 (by decide) (fun c9 => ?_) (fun c9 => ?_)
        · have j9 := t_lt c9
          refine lv_iconst (v := (-1)) S.1 S.2.1 dX3_soonest_73 (by decide) ?_
          refine cW_iret S hr hk hH hS ?_ dX3_soonest_74
          exact ⟨(-1), rfl, hI, hP, rfl, by refine ⟨by omega, so_end wi (by omega) (by decide), fun _ => ⟨x5_8.toInt - 1, Or.inl ⟨by decide, by omega⟩, wx⟩⟩⟩
        · have j9 := t_nlt c9
          refine lv_aload_n S.1 S.2.1 dX3_soonest_40 rfl (lv_at hl 0 rfl) ?_
          refine lv_iload S.1 S.2.1 dX3_soonest_41 (lv_at hl 3 rfl) ?_
          refine cW_bv (cW_V (n := 1) (As := [.int x5_8]) (rest := []) (k := 2) (i := 0) S K hH (by decide) rfl rfl (k_X3_getDown l D B L A σ_8 τ x5_8 (N) (actF N f.toNatClampNeg a.toInt (x5_8.toInt - 1)) (rchF N f.toNatClampNeg a.toInt (x5_8.toInt - 1)) (by omega) hI (RepC_k hp4 hP (by decide)) (by rw [hP 6 (by decide), hP 7 (by decide)]; exact hp5) (so_ok) (wr) (wx)) gX3_soonest_X3_getDown rfl hdV_X3_getDown ⟨Nat.le_of_ble_eq_true rfl, Nat.le_of_ble_eq_true rfl⟩ rfl hl.1 (Nat.le_of_ble_eq_true rfl) dX3_soonest_43) hS (fun σ10 τ10 H locs q10 hH hS => ?_)
          obtain ⟨hI, hP10, hτ10, q10⟩ := q10
          rw [hτ10] at hH
          have hP := Keep_t hP hP10 (by decide)
          have hx9 := so_down hN9 wa (q10).2
          refine lv_aload_n S.1 S.2.1 dX3_soonest_46 rfl (lv_at hl 0 rfl) ?_
          refine rC_2_8 S hnX3 K hH (mG wd_89) dX3_soonest_47 ?_
          refine lv_topi (fun v11 e11 => ?_)
          have f47 : v11 = σ10 5 0 0 := e11
          refine lv_iload S.1 S.2.1 dX3_soonest_50 (lv_at hl 2 rfl) ?_
          refine lv_iand S.1 S.2.1 dX3_soonest_52 ?_
          refine lv_topi (fun v12 e12 => ?_)
          refine lv_iload S.1 S.2.1 dX3_soonest_53 (lv_at hl 2 rfl) ?_
          refine lv_icmp_ne (tgt := 61) S.1 S.2.1 dX3_soonest_55 (by decide) (fun c13 => ?_) (fun c13 => ?_)
          · have j13 := t_neq c13
            refine lv_aload_n S.1 S.2.1 dX3_soonest_61 rfl (lv_at hl 0 rfl) ?_
            refine lv_iload S.1 S.2.1 dX3_soonest_62 (lv_at hl 3 rfl) ?_
            refine cW_bv (cW_V (n := 1) (As := [.int x5_8]) (rest := []) (k := 2) (i := 0) S K hH (by decide) rfl rfl (k_X3_getOn l D B L A σ10 τ x5_8 (N) (fun c d => actF N f.toNatClampNeg a.toInt (x5_8.toInt - 1) c d ∧ htN N c d (lastS N c) ≠ x5_8.toInt) (rchF N f.toNatClampNeg a.toInt x5_8.toInt) (by omega) hI (RepC_k hp4 hP (by decide)) (by rw [hP 6 (by decide), hP 7 (by decide)]; exact hp5) (so_ok2) ((q10).1) (hx9)) gX3_soonest_X3_getOn rfl hdV_X3_getOn ⟨Nat.le_of_ble_eq_true rfl, Nat.le_of_ble_eq_true rfl⟩ rfl hl.1 (Nat.le_of_ble_eq_true rfl) dX3_soonest_64) hS (fun σ14 τ14 H locs q14 hH hS => ?_)
            obtain ⟨hI, hP14, hτ14, q14⟩ := q14
            rw [hτ14] at hH
            have hP := Keep_t hP hP14 (by decide)
            obtain ⟨v15, e15⟩ : ∃ y_9 : Int32, y_9 = x5_8 + 1 := ⟨_, rfl⟩
            have i15 : v15.toInt = x5_8.toInt + 1 := i_addc e15 (by decide) (by omega) (by omega)
            refine lv_iinc (v := v15) (lv' := [(5, .int v15), (0, .ref (L 2 0)), (3, .int b), (4, .int w9)]) S.1 S.2.1 dX3_soonest_67 hl (k := 3) rfl (by rw [e15]; rfl) (by decide) rfl (fun ls hl => ?_)
            refine lv_goto (tgt := 34) S.1 S.2.1 dX3_soonest_70 (by decide) ?_
            exact ih8 v15 σ14 _ _ ls (by omega) (by omega) (by rw [i15, Int.add_sub_cancel]; exact so_on hN9 wa q14) (by rw [hP14 5 (by decide), i15, Int.add_sub_cancel]; exact hx9) (by omega) (by rw [i15]; exact so_is wi hx9 (by rw [← f47, ← e12]; assumption)) (by omega) hI hP hH hS (lv_sub hl [1, 2, 3, 0] rfl)
          · have j13 := t_eq c13
            refine lv_iload S.1 S.2.1 dX3_soonest_58 (lv_at hl 3 rfl) ?_
            refine cW_iret S hr hk hH hS ?_ dX3_soonest_60
            exact ⟨x5_8, rfl, hI, hP, rfl, by refine ⟨by omega, so_hit wi wa (by omega) hx9 (by rw [← f47, ← e12]; assumption), fun _ => ⟨x5_8.toInt, Or.inr ⟨by omega, rfl⟩, hx9⟩⟩⟩
    exact cut_34_8 _ a σ7 _ _ ls (Nat.lt_succ_self _) (by omega) (by exact so_rid0 hN9 q7) (by rw [hP7 5 (by decide), eσ2, rs_self]; exact so_rch0 hN9 (by omega) (by rw [e1]; rfl)) (by omega) (by exact so_i0) (by omega) hI hP hH hS (lv_sub hl [1, 4, 5, 0] rfl)
  · have j6 := t_neq c6
    refine lv_iconst (v := (-1)) S.1 S.2.1 dX3_soonest_21 (by decide) ?_
    refine cW_iret S hr hk hH hS ?_ dX3_soonest_22
    exact ⟨(-1), rfl, hI, hP, rfl, by refine ⟨by omega, so_no hp6 (by omega) (fun z => absurd z (by rw [← f14, ← e4, ← e5]; assumption)) (by decide), fun z => absurd z (by rw [← f14, ← e4, ← e5]; assumption)⟩⟩
set_option maxHeartbeats 4000000 in
set_option maxRecDepth 100000 in
theorem k_byC_8 (l : Launch) (D : va_G) (B : Nat → ClassId) (L : QL) (A : Nat → Prop) (σ : QS) (τ : Int64) (h : Int32) (N : Net) (act : Nat → Nat → Prop) (hp0 : 0 ≤ h.toInt ∧ h.toInt ≤ 100000) (hI : InvC σ) (hp2 : RepC σ N) (hp3 : HalC (σ 6 0) (σ 7 0) N) (hp4 : actOk N h.toInt act) (hp5 : ridB N (σ 9 0) act) : cW cntC gC l D B L A yX3_lookWhereItCameBy wsX3_lookWhereItCameBy 1 22 [.ref (L 2 0), .int h, .ref (L 8 0)] σ τ (pV (fun σ' τ' => InvC σ' ∧ Keep [9, 10] σ σ' ∧ τ' = τ ∧ (ridB N (σ' 9 0) (fun c d => act c d ∧ htN N c d 0 ≠ h.toInt) ∧ ltE N h.toInt act (σ 10 0) (σ' 10 0)))) := by
  refine cW_of (cc := cX3_lookWhereItCameBy) (nL := 10) (ret := none) (by decide) rfl (Nat.le_of_ble_eq_true rfl) ?_
  intro p e s m below meth c S hr hk K hH hS ls hl
  have hnX0 : ∀ w ∈ wsX00, w ∈ wsX3_lookWhereItCameBy := fun w h => mG (tX0 w h)
  have hnX3 : ∀ w ∈ wsX30, w ∈ wsX3_lookWhereItCameBy := fun w h => mG (tX3 w h)
  have lm1 : ((-1) : Int32).toInt = -1 := by decide
  have l0 : (0 : Int32).toInt = 0 := by decide
  have l1 : (1 : Int32).toInt = 1 := by decide
  have l3 : (3 : Int32).toInt = 3 := by decide
  have hP : Keep [9, 10] σ σ := Keep_r
  have hN9 := hp2.1
  have hq9 : (h.toInt % 24).toNat < 24 := by omega
  have hm9 : h.toInt % 24 = ((h.toInt % 24).toNat : Int) := by omega
  have hz9 : ∀ c, c < nK N → (fun _ : Nat => 0) c < nS N c := fun c hc => by have := (hN9.2 c hc).1; show 0 < nS N c; omega
  have hl : lv_has ls 10 [(0, .ref (L 2 0)), (1, .int h), (2, .ref (L 8 0))] := hl
  refine lv_aload_n S.1 S.2.1 dX3_lookWhereItCameBy_0 rfl (lv_at hl 0 rfl) ?_
  refine lv_iload_n S.1 S.2.1 dX3_lookWhereItCameBy_1 rfl (lv_at hl 1 rfl) ?_
  refine cW_bpi (cW_V (n := 1) (As := [.int h]) (rest := []) (k := 2) (i := 0) S K hH (by decide) rfl rfl (k_X3_haltsEnd l D B L A σ τ h (by omega) hI) gX3_lookWhereItCameBy_X3_haltsEnd rfl hdV_X3_haltsEnd ⟨Nat.le_of_ble_eq_true rfl, Nat.le_of_ble_eq_true rfl⟩ rfl hl.1 (Nat.le_of_ble_eq_true rfl) dX3_lookWhereItCameBy_2) hS (fun v1 H locs q1 hH hS => ?_)
  refine lv_istore_n (lv' := [(3, .int v1), (0, .ref (L 2 0)), (1, .int h), (2, .ref (L 8 0))]) S.1 S.2.1 dX3_lookWhereItCameBy_5 rfl hl (by decide) rfl (fun ls hl => ?_)
  refine lv_aload_n S.1 S.2.1 dX3_lookWhereItCameBy_6 rfl (lv_at hl 1 rfl) ?_
  refine lv_iload_n S.1 S.2.1 dX3_lookWhereItCameBy_7 rfl (lv_at hl 2 rfl) ?_
  refine cW_bpi (cW_V (n := 1) (As := [.int h]) (rest := []) (k := 2) (i := 0) S K hH (by decide) rfl rfl (k_X3_haltsBegin l D B L A σ τ h (by omega) hI) gX3_lookWhereItCameBy_X3_haltsBegin rfl hdV_X3_haltsBegin ⟨Nat.le_of_ble_eq_true rfl, Nat.le_of_ble_eq_true rfl⟩ rfl hl.1 (Nat.le_of_ble_eq_true rfl) dX3_lookWhereItCameBy_8) hS (fun v2 H locs q2 hH hS => ?_)
  refine lv_istore (lv' := [(4, .int v2), (3, .int v1), (0, .ref (L 2 0)), (1, .int h), (2, .ref (L 8 0))]) S.1 S.2.1 dX3_lookWhereItCameBy_11 hl (by decide) rfl (fun ls hl => ?_)
  have cut_13_3 : ∀ (n : Nat) (x4_3 : Int32) (σ_3 : QS) (H : Heap) (locs : List Loc) (ls : Array Slot), (v1.toInt - x4_3.toInt).toNat < n → 0 ≤ x4_3.toInt ∧ x4_3.toInt ≤ 72 → (rdI N (σ 6 0) (σ 7 0 (h.toInt % 24).toNat).toInt x4_3.toInt h.toInt act (fun _ => 0) (σ_3 9 0)) → (ltI N (σ 6 0) (σ 7 0 (h.toInt % 24).toNat).toInt x4_3.toInt h.toInt act (σ 10 0) (σ_3 10 0)) → ((σ 7 0 (h.toInt % 24).toNat).toInt ≤ x4_3.toInt) → (x4_3.toInt ≤ v1.toInt) → InvC σ_3 → Keep [9, 10] σ σ_3 → hW cntC gC D B L σ_3 τ H → va_S A s.heap H locs → lv_has ls 10 [(0, .ref (L 2 0)), (1, .int h), (2, .ref (L 8 0)), (3, .int v1), (4, .int x4_3)] → W p l e { frames := 1, cells := 0, slots := 0, locals := 22 } s m [.ref (L 2 0), .int h, .ref (L 8 0)].toArray below meth c H locs 0 0 (MQ below (QcW cntC gC D B L A (pV (fun σ' τ' => InvC σ' ∧ Keep [9, 10] σ σ' ∧ τ' = τ ∧ (ridB N (σ' 9 0) (fun c d => act c d ∧ htN N c d 0 ≠ h.toInt) ∧ ltE N h.toInt act (σ 10 0) (σ' 10 0))))) [.ref (L 2 0), .int h, .ref (L 8 0)].toArray s 0 0 A) (F0 m 13 ls []) := by
    intro n
    induction n with
    | zero => intro x4_3 σ_3 H locs ls hm; exact absurd hm (Nat.not_lt_zero _)
    | succ n ih3 =>
      intro x4_3 σ_3 H locs ls hm3 h3_0 wr wx wb we hI hP hH hS hl
      have y9 : (σ_3 7 0 24).toInt = (σ 7 0 24).toInt := by rw [hP 7 (by decide)]
      have hPo := hP
      refine lv_iload S.1 S.2.1 dX3_lookWhereItCameBy_13 (lv_at hl 4 rfl) ?_
      refine lv_iload_n S.1 S.2.1 dX3_lookWhereItCameBy_15 rfl (lv_at hl 3 rfl) ?_
      refine lv_icmp_ge (tgt := 131) S.1 S.2.1 dX3_lookWhereItCameBy_16 (by decide) (fun c4 => ?_) (fun c4 => ?_)
      · have j4 := t_le c4
        refine cW_vret S hr hk hH hS ?_ dX3_lookWhereItCameBy_131
        exact ⟨rfl, hI, hP, rfl, by have h8 : x4_3.toInt = v1.toInt := (by omega); rw [h8, (q1).2] at wr wx; have h7 := rd_end hN9 hp3 hz9 hq9 hm9 wr; exact ⟨h7.1, lt_end wx h7.2⟩⟩
      · have j4 := t_nle c4
        refine lv_aload_n S.1 S.2.1 dX3_lookWhereItCameBy_19 rfl (lv_at hl 0 rfl) ?_
        refine lv_iload S.1 S.2.1 dX3_lookWhereItCameBy_20 (lv_at hl 4 rfl) ?_
        refine cW_bpi (cW_V (n := 1) (As := [.int x4_3]) (rest := []) (k := 2) (i := 0) S K hH (by decide) rfl rfl (k_X3_cartOf l D B L A σ_3 τ x4_3 (by omega) hI (by omega)) gX3_lookWhereItCameBy_X3_cartOf rfl hdV_X3_cartOf ⟨Nat.le_of_ble_eq_true rfl, Nat.le_of_ble_eq_true rfl⟩ rfl hl.1 (Nat.le_of_ble_eq_true rfl) dX3_lookWhereItCameBy_22) hS (fun v5 H locs q5 hH hS => ?_)
        refine lv_istore (lv' := [(5, .int v5), (0, .ref (L 2 0)), (1, .int h), (2, .ref (L 8 0)), (3, .int v1), (4, .int x4_3)]) S.1 S.2.1 dX3_lookWhereItCameBy_25 hl (by decide) rfl (fun ls hl => ?_)
        have ki := cl_eq (j := x4_3) (by omega)
        obtain ⟨kC, kS, k1, k2, k3, k4, k5, k6⟩ := halt_at hN9 hp3 hq9 (i := x4_3.toInt) (k := x4_3.toNatClampNeg) wb (by rw [← (q1).2]; omega) ki
        have k7 : v5 = nI kC := by rw [(q5).2, hP 6 (by decide)]; exact k4
        have k9 : v5.toNatClampNeg = kC := by rw [k7]; exact (nI_cl (by have := hN9.1; omega)).1
        refine lv_aload_n S.1 S.2.1 dX3_lookWhereItCameBy_27 rfl (lv_at hl 1 rfl) ?_
        refine rC_2_6 S hnX3 K hH (mG wd_87) dX3_lookWhereItCameBy_28 ?_
        refine lv_iload S.1 S.2.1 dX3_lookWhereItCameBy_31 (lv_at hl 0 rfl) ?_
        refine lC_7 S K hH (vin (by omega) (by omega)) dX3_lookWhereItCameBy_33 ?_
        refine lv_topi (fun v6 e6 => ?_)
        have f33 : v6 = σ_3 9 0 kC := by rw [e6, k9]
        refine lv_if_ne (tgt := 40) S.1 S.2.1 dX3_lookWhereItCameBy_34 (by decide) (fun c7 => ?_) (fun c7 => ?_)
        · have j7 := t_neq c7
          refine lv_aload_n S.1 S.2.1 dX3_lookWhereItCameBy_40 rfl (lv_at hl 1 rfl) ?_
          refine rC_2_0 S hnX3 K hH (mG wd_81) dX3_lookWhereItCameBy_41 ?_
          refine lv_iload S.1 S.2.1 dX3_lookWhereItCameBy_44 (lv_at hl 0 rfl) ?_
          refine lC_3 S K hH (vin (by omega) (by omega)) dX3_lookWhereItCameBy_46 ?_
          refine lv_astore (lv' := [(6, .ref (L 14 v5.toNatClampNeg)), (5, .int v5), (0, .ref (L 2 0)), (1, .int h), (2, .ref (L 8 0)), (3, .int v1), (4, .int x4_3)]) S.1 S.2.1 dX3_lookWhereItCameBy_47 hl (by decide) rfl (fun ls hl => ?_)
          refine lv_aload_n S.1 S.2.1 dX3_lookWhereItCameBy_49 rfl (lv_at hl 2 rfl) ?_
          refine lv_iload S.1 S.2.1 dX3_lookWhereItCameBy_50 (lv_at hl 6 rfl) ?_
          refine cW_bpi (cW_V (n := 1) (As := [.int x4_3]) (rest := []) (k := 2) (i := 0) S K hH (by decide) rfl rfl (k_X3_stopOf l D B L A σ_3 τ x4_3 (by omega) hI (by omega)) gX3_lookWhereItCameBy_X3_stopOf rfl hdV_X3_stopOf ⟨Nat.le_of_ble_eq_true rfl, Nat.le_of_ble_eq_true rfl⟩ rfl hl.1 (Nat.le_of_ble_eq_true rfl) dX3_lookWhereItCameBy_52) hS (fun v8 H locs q8 hH hS => ?_)
          refine lv_istore (lv' := [(7, .int v8), (6, .ref (L 14 v5.toNatClampNeg)), (5, .int v5), (0, .ref (L 2 0)), (1, .int h), (2, .ref (L 8 0)), (3, .int v1), (4, .int x4_3)]) S.1 S.2.1 dX3_lookWhereItCameBy_55 hl (by decide) rfl (fun ls hl => ?_)
          have k10 : v8 = nI kS := by rw [(q8).2, hP 6 (by decide)]; exact k5
          have k11 : v8.toNatClampNeg = kS := by rw [k10]; exact (nI_cl (by have := (hN9.2 kC k1).1; omega)).1
          have k12 : v8.toInt = kS := by have z3 := cl_eq (j := v8) (by omega); omega
          refine lv_iconst (v := 1) S.1 S.2.1 dX3_lookWhereItCameBy_57 (by decide) ?_
          refine lv_aload S.1 S.2.1 dX3_lookWhereItCameBy_58 (lv_at hl 1 rfl) ?_
          refine lv_iload S.1 S.2.1 dX3_lookWhereItCameBy_60 (lv_at hl 0 rfl) ?_
          refine lv_iload_n S.1 S.2.1 dX3_lookWhereItCameBy_62 rfl (lv_at hl 4 rfl) ?_
          refine cW_bpi (cW_V (n := 2) (As := [.int v8, .int h]) (rest := [.int 1]) (k := 14) (i := v5.toNatClampNeg) S K hH (cl_lt (n := 12) (by omega) (by omega)) rfl rfl (k_X0_dayOf l D B L A σ_3 τ v5.toNatClampNeg v8 h (cl_lt (n := 12) (by omega) (by omega)) (by omega) (by omega) hI) gX3_lookWhereItCameBy_X0_dayOf rfl hdV_X0_dayOf ⟨Nat.le_of_ble_eq_true rfl, Nat.le_of_ble_eq_true rfl⟩ rfl hl.1 (Nat.le_of_ble_eq_true rfl) dX3_lookWhereItCameBy_63) hS (fun v9 H locs q9 hH hS => ?_)
          have kd := dayW (h := h.toInt) (x := v9) hp2 k1 k2 (by omega) (by have z := (q9).2; rw [hP 22 (by decide), hP 28 (by decide), k9, k11] at z; exact z)
          refine lv_iconst (v := 3) S.1 S.2.1 dX3_lookWhereItCameBy_66 (by decide) ?_
          refine lv_iand S.1 S.2.1 dX3_lookWhereItCameBy_67 ?_
          refine lv_topi (fun v10 e10 => ?_)
          have i10 : 0 ≤ v10.toInt ∧ v10.toInt ≤ (3 : Int32).toInt := i_andr e10 (by omega)
          refine lv_ishl S.1 S.2.1 dX3_lookWhereItCameBy_68 ?_
          refine lv_topi (fun v11 e11 => ?_)
          refine lv_istore (lv' := [(8, .int v11), (7, .int v8), (6, .ref (L 14 v5.toNatClampNeg)), (5, .int v5), (0, .ref (L 2 0)), (1, .int h), (2, .ref (L 8 0)), (3, .int v1), (4, .int x4_3)]) S.1 S.2.1 dX3_lookWhereItCameBy_69 hl (by decide) rfl (fun ls hl => ?_)
          have kr : v11 = b4I v9 := by rw [e11, e10]; rfl
          refine lv_aload_n S.1 S.2.1 dX3_lookWhereItCameBy_71 rfl (lv_at hl 4 rfl) ?_
          refine rC_2_6 S hnX3 K hH (mG wd_87) dX3_lookWhereItCameBy_72 ?_
          refine lv_iload S.1 S.2.1 dX3_lookWhereItCameBy_75 (lv_at hl 3 rfl) ?_
          refine lC_7 S K hH (vin (by omega) (by omega)) dX3_lookWhereItCameBy_77 ?_
          refine lv_topi (fun v12 e12 => ?_)
          have k12 : v12.toInt = v6.toInt := by rw [e12]; rw [← e6]
          have f77 : v12 = σ_3 9 0 kC := by rw [e12, k9]
          refine lv_iload S.1 S.2.1 dX3_lookWhereItCameBy_78 (lv_at hl 0 rfl) ?_
          refine lv_iand S.1 S.2.1 dX3_lookWhereItCameBy_80 ?_
          refine lv_topi (fun v13 e13 => ?_)
          refine lv_if_eq (tgt := 125) S.1 S.2.1 dX3_lookWhereItCameBy_81 (by decide) (fun c14 => ?_) (fun c14 => ?_)
          · have j14 := t_eq c14
            obtain ⟨v15, e15⟩ : ∃ y_9 : Int32, y_9 = x4_3 + 1 := ⟨_, rfl⟩
            have i15 : v15.toInt = x4_3.toInt + 1 := i_addc e15 (by decide) (by omega) (by omega)
            refine lv_iinc (v := v15) (lv' := [(4, .int v15), (8, .int v11), (7, .int v8), (6, .ref (L 14 v5.toNatClampNeg)), (5, .int v5), (0, .ref (L 2 0)), (1, .int h), (2, .ref (L 8 0)), (3, .int v1)]) S.1 S.2.1 dX3_lookWhereItCameBy_125 hl (k := 8) rfl (by rw [e15]; rfl) (by decide) rfl (fun ls hl => ?_)
            refine lv_goto (tgt := 13) S.1 S.2.1 dX3_lookWhereItCameBy_128 (by decide) ?_
            exact ih3 v15 σ_3 _ _ ls (by omega) (by omega) (by rw [i15]; first | exact (gd_w1 hN9 hp3 hz9 ki wb (by omega) k1 k2 k3 wr (f33.symm.trans (by assumption))).1 | exact (gd_w2 hN9 hp3 hz9 hp4 ki wb (by omega) k1 k2 k3 wr kd (by rw [← f77, ← kr, ← e13]; assumption)).1 | exact (gd_w3 hN9 hp3 hz9 hp4 ki wb (by omega) k1 k2 k3 wr kd (by rw [← f77, ← kr, ← e13]; assumption) (Or.inl ⟨by show ¬ kS = 0; omega, by rw [eσ9999, rs_v (by decide)]⟩)).1 | exact (gd_w3 hN9 hp3 hz9 hp4 ki wb (by omega) k1 k2 k3 wr kd (by rw [← f77, ← kr, ← e13]; assumption) (Or.inr ⟨by show kS = 0; omega, by rw [eσ9999, rs_self, eσ9999, rs_v (by decide), k9, e9999, e9999, e9999, kr, eσ9999, rs_v (by decide), k9]⟩)).1) (by rw [i15]; first | exact lt_same wx (gd_w1 hN9 hp3 hz9 ki wb (by omega) k1 k2 k3 wr (f33.symm.trans (by assumption))).2 | exact lt_same wx (gd_w2 hN9 hp3 hz9 hp4 ki wb (by omega) k1 k2 k3 wr kd (by rw [← f77, ← kr, ← e13]; assumption)).2 | exact lt_more hN9 k1 k2 wx (gd_hit hN9 hp3 hz9 hp4 ki wb (by omega) k1 k2 k3 wr kd (by rw [← f77, ← kr, ← e13]; assumption)) (x := v9999) (by omega) (by rw [eσ9999, rs_self, kp]) | exact lt_more hN9 k1 k2 wx (gd_hit hN9 hp3 hz9 hp4 ki wb (by omega) k1 k2 k3 wr kd (by rw [← f77, ← kr, ← e13]; assumption)) (x := v9999) (by omega) (by rw [eσ9999, rs_v (by decide), eσ9999, rs_self, kp])) (by omega) (by omega) hI hP hH hS (lv_sub hl [5, 6, 7, 8, 0] rfl)
          · have j14 := t_neq c14
            refine lv_aload S.1 S.2.1 dX3_lookWhereItCameBy_84 (lv_at hl 2 rfl) ?_
            refine rC_14_6 S hnX0 K hH (cl_lt (n := 12) (by omega) (by omega)) (mG wd_94) dX3_lookWhereItCameBy_86 ?_
            refine lv_iload S.1 S.2.1 dX3_lookWhereItCameBy_89 (lv_at hl 1 rfl) ?_
            refine lC_15 S K hH (cl_lt (n := 12) (by omega) (by omega)) (vin (by omega) (by omega)) dX3_lookWhereItCameBy_91 ?_
            refine lv_topi (fun v16 e16 => ?_)
            have b16 : 0 ≤ v16.toInt ∧ v16.toInt ≤ 11 := by rw [e16]; exact hI.1 27 v5.toNatClampNeg v8.toNatClampNeg
            have f91 : v16.toInt = nP N kC kS := by rw [e16, hP 27 (by decide), k9, k11]; exact ((hp2.2.2 kC k1).2.1 kS k2).1
            refine lv_istore (lv' := [(9, .int v16), (8, .int v11), (7, .int v8), (6, .ref (L 14 v5.toNatClampNeg)), (5, .int v5), (0, .ref (L 2 0)), (1, .int h), (2, .ref (L 8 0)), (3, .int v1), (4, .int x4_3)]) S.1 S.2.1 dX3_lookWhereItCameBy_92 hl (by decide) rfl (fun ls hl => ?_)
            have kp : v16.toNatClampNeg = nP N kC kS := by have z3 := cl_eq (j := v16) (by omega); omega
            refine lv_aload_n S.1 S.2.1 dX3_lookWhereItCameBy_94 rfl (lv_at hl 7 rfl) ?_
            refine lv_iload S.1 S.2.1 dX3_lookWhereItCameBy_95 (lv_at hl 0 rfl) ?_
            refine lv_aload_n S.1 S.2.1 dX3_lookWhereItCameBy_97 rfl (lv_at hl 7 rfl) ?_
            refine lv_iload S.1 S.2.1 dX3_lookWhereItCameBy_98 (lv_at hl 0 rfl) ?_
            refine lC_8 S K hH (vin (by omega) (by omega)) dX3_lookWhereItCameBy_100 ?_
            refine lv_topi (fun v17 e17 => ?_)
            have f100 : v17.toInt = (σ_3 10 0 (nP N kC kS)).toInt := by rw [e17, kp]
            refine lv_iload_n S.1 S.2.1 dX3_lookWhereItCameBy_101 rfl (lv_at hl 6 rfl) ?_
            refine va_mmax S.1 S.2.1 (by rw [S.2.2.1]; exact hl.1.symm) S.2.2.2.1 (S.2.2.2.2 (.methodLink RX3 116 Lib.Math.max.name) (mG wd_134)) (S.2.2.2.2 (.static Lib.Math.max.name) (mG wd_135)) (S.2.2.2.2 (.initialized "java/lang/Math") (mG wd_41)) (S.2.2.2.2 (.code Lib.Math.max.name Lib.Math.max.code 2 (some .int)) (mG wd_643)) (Nat.le_of_ble_eq_true rfl) (Nat.le_of_ble_eq_true rfl) (Nat.zero_le _) (Nat.zero_le _) dX3_lookWhereItCameBy_102 ?_
            refine lv_topi (fun v18 e18 => ?_)
            have i18 : (v18.toInt = v17.toInt ∨ v18.toInt = h.toInt) ∧ v17.toInt ≤ v18.toInt ∧ h.toInt ≤ v18.toInt := i_mmax e18
            refine sC_8 S K hH hS (vin (by omega) (by omega)) dX3_lookWhereItCameBy_105 (fun H locs hH hS => ?_)
            obtain ⟨σ19, eσ19⟩ : ∃ z_9 : QS, z_9 = rs σ_3 10 0 (upd (σ_3 10 0) v16.toNatClampNeg v18) := ⟨_, rfl⟩
            rw [← eσ19] at hH
            have hI := InvC_a eσ19 hI (by decide) (any32 _)
            have hP := Keep_w eσ19 hP (by decide)
            refine lv_iload S.1 S.2.1 dX3_lookWhereItCameBy_106 (lv_at hl 2 rfl) ?_
            refine lv_if_ne (tgt := 125) S.1 S.2.1 dX3_lookWhereItCameBy_108 (by decide) (fun c20 => ?_) (fun c20 => ?_)
            · have j20 := t_neq c20
              obtain ⟨v21, e21⟩ : ∃ y_9 : Int32, y_9 = x4_3 + 1 := ⟨_, rfl⟩
              have i21 : v21.toInt = x4_3.toInt + 1 := i_addc e21 (by decide) (by omega) (by omega)
              refine lv_iinc (v := v21) (lv' := [(4, .int v21), (9, .int v16), (8, .int v11), (7, .int v8), (6, .ref (L 14 v5.toNatClampNeg)), (5, .int v5), (0, .ref (L 2 0)), (1, .int h), (2, .ref (L 8 0)), (3, .int v1)]) S.1 S.2.1 dX3_lookWhereItCameBy_125 hl (k := 9) rfl (by rw [e21]; rfl) (by decide) rfl (fun ls hl => ?_)
              refine lv_goto (tgt := 13) S.1 S.2.1 dX3_lookWhereItCameBy_128 (by decide) ?_
              exact ih3 v21 σ19 _ _ ls (by omega) (by omega) (by rw [i21]; first | exact (gd_w1 hN9 hp3 hz9 ki wb (by omega) k1 k2 k3 wr (f33.symm.trans (by assumption))).1 | exact (gd_w2 hN9 hp3 hz9 hp4 ki wb (by omega) k1 k2 k3 wr kd (by rw [← f77, ← kr, ← e13]; assumption)).1 | exact (gd_w3 hN9 hp3 hz9 hp4 ki wb (by omega) k1 k2 k3 wr kd (by rw [← f77, ← kr, ← e13]; assumption) (Or.inl ⟨by show ¬ kS = 0; omega, by rw [eσ19, rs_v (by decide)]⟩)).1 | exact (gd_w3 hN9 hp3 hz9 hp4 ki wb (by omega) k1 k2 k3 wr kd (by rw [← f77, ← kr, ← e13]; assumption) (Or.inr ⟨by show kS = 0; omega, by rw [eσ9999, rs_self, eσ19, rs_v (by decide), k9, e9999, e9999, e9999, kr, eσ19, rs_v (by decide), k9]⟩)).1) (by rw [i21]; first | exact lt_same wx (gd_w1 hN9 hp3 hz9 ki wb (by omega) k1 k2 k3 wr (f33.symm.trans (by assumption))).2 | exact lt_same wx (gd_w2 hN9 hp3 hz9 hp4 ki wb (by omega) k1 k2 k3 wr kd (by rw [← f77, ← kr, ← e13]; assumption)).2 | exact lt_more hN9 k1 k2 wx (gd_hit hN9 hp3 hz9 hp4 ki wb (by omega) k1 k2 k3 wr kd (by rw [← f77, ← kr, ← e13]; assumption)) (x := v18) (by omega) (by rw [eσ19, rs_self, kp]) | exact lt_more hN9 k1 k2 wx (gd_hit hN9 hp3 hz9 hp4 ki wb (by omega) k1 k2 k3 wr kd (by rw [← f77, ← kr, ← e13]; assumption)) (x := v18) (by omega) (by rw [eσ9999, rs_v (by decide), eσ19, rs_self, kp])) (by omega) (by omega) hI hP hH hS (lv_sub hl [6, 7, 8, 9, 0] rfl)
            · have j20 := t_eq c20
              refine lv_aload_n S.1 S.2.1 dX3_lookWhereItCameBy_111 rfl (lv_at hl 5 rfl) ?_
              refine rC_2_6 S hnX3 K hH (mG wd_87) dX3_lookWhereItCameBy_112 ?_
              refine lv_iload S.1 S.2.1 dX3_lookWhereItCameBy_115 (lv_at hl 4 rfl) ?_
              refine lv_dup2_11 S.1 S.2.1 dX3_lookWhereItCameBy_117 rfl rfl ?_
              refine lC_7 S K hH (vin (by omega) (by omega)) dX3_lookWhereItCameBy_118 ?_
              refine lv_topi (fun v22 e22 => ?_)
              have k22 : v22.toInt = v6.toInt := by rw [e22, eσ19, rs_v (by decide)]; rw [← e6]
              refine lv_iload S.1 S.2.1 dX3_lookWhereItCameBy_119 (lv_at hl 1 rfl) ?_
              refine lv_iconst (v := (-1)) S.1 S.2.1 dX3_lookWhereItCameBy_121 (by decide) ?_
              refine lv_ixor S.1 S.2.1 dX3_lookWhereItCameBy_122 ?_
              refine lv_topi (fun v23 e23 => ?_)
              refine lv_iand S.1 S.2.1 dX3_lookWhereItCameBy_123 ?_
              refine lv_topi (fun v24 e24 => ?_)
              refine sC_7 S K hH hS (vin (by omega) (by omega)) dX3_lookWhereItCameBy_124 (fun H locs hH hS => ?_)
              obtain ⟨σ25, eσ25⟩ : ∃ z_9 : QS, z_9 = rs σ19 9 0 (upd (σ19 9 0) v5.toNatClampNeg v24) := ⟨_, rfl⟩
              rw [← eσ25] at hH
              have hI := InvC_a eσ25 hI (by decide) (any32 _)
              have hP := Keep_w eσ25 hP (by decide)
              obtain ⟨v26, e26⟩ : ∃ y_9 : Int32, y_9 = x4_3 + 1 := ⟨_, rfl⟩
              have i26 : v26.toInt = x4_3.toInt + 1 := i_addc e26 (by decide) (by omega) (by omega)
              refine lv_iinc (v := v26) (lv' := [(4, .int v26), (9, .int v16), (8, .int v11), (7, .int v8), (6, .ref (L 14 v5.toNatClampNeg)), (5, .int v5), (0, .ref (L 2 0)), (1, .int h), (2, .ref (L 8 0)), (3, .int v1)]) S.1 S.2.1 dX3_lookWhereItCameBy_125 hl (k := 9) rfl (by rw [e26]; rfl) (by decide) rfl (fun ls hl => ?_)
              refine lv_goto (tgt := 13) S.1 S.2.1 dX3_lookWhereItCameBy_128 (by decide) ?_
              exact ih3 v26 σ25 _ _ ls (by omega) (by omega) (by rw [i26]; first | exact (gd_w1 hN9 hp3 hz9 ki wb (by omega) k1 k2 k3 wr (f33.symm.trans (by assumption))).1 | exact (gd_w2 hN9 hp3 hz9 hp4 ki wb (by omega) k1 k2 k3 wr kd (by rw [← f77, ← kr, ← e13]; assumption)).1 | exact (gd_w3 hN9 hp3 hz9 hp4 ki wb (by omega) k1 k2 k3 wr kd (by rw [← f77, ← kr, ← e13]; assumption) (Or.inl ⟨by show ¬ kS = 0; omega, by rw [eσ19, rs_v (by decide)]⟩)).1 | exact (gd_w3 hN9 hp3 hz9 hp4 ki wb (by omega) k1 k2 k3 wr kd (by rw [← f77, ← kr, ← e13]; assumption) (Or.inr ⟨by show kS = 0; omega, by rw [eσ25, rs_self, eσ19, rs_v (by decide), k9, e24, e23, e22, kr, eσ19, rs_v (by decide), k9]⟩)).1) (by rw [i26]; first | exact lt_same wx (gd_w1 hN9 hp3 hz9 ki wb (by omega) k1 k2 k3 wr (f33.symm.trans (by assumption))).2 | exact lt_same wx (gd_w2 hN9 hp3 hz9 hp4 ki wb (by omega) k1 k2 k3 wr kd (by rw [← f77, ← kr, ← e13]; assumption)).2 | exact lt_more hN9 k1 k2 wx (gd_hit hN9 hp3 hz9 hp4 ki wb (by omega) k1 k2 k3 wr kd (by rw [← f77, ← kr, ← e13]; assumption)) (x := v18) (by omega) (by rw [eσ19, rs_self, kp]) | exact lt_more hN9 k1 k2 wx (gd_hit hN9 hp3 hz9 hp4 ki wb (by omega) k1 k2 k3 wr kd (by rw [← f77, ← kr, ← e13]; assumption)) (x := v18) (by omega) (by rw [eσ25, rs_v (by decide), eσ19, rs_self, kp])) (by omega) (by omega) hI hP hH hS (lv_sub hl [6, 7, 8, 9, 0] rfl)
        · have j7 := t_eq c7
          refine lv_goto (tgt := 125) S.1 S.2.1 dX3_lookWhereItCameBy_37 (by decide) ?_
          obtain ⟨v27, e27⟩ : ∃ y_9 : Int32, y_9 = x4_3 + 1 := ⟨_, rfl⟩
          have i27 : v27.toInt = x4_3.toInt + 1 := i_addc e27 (by decide) (by omega) (by omega)
          refine lv_iinc (v := v27) (lv' := [(4, .int v27), (5, .int v5), (0, .ref (L 2 0)), (1, .int h), (2, .ref (L 8 0)), (3, .int v1)]) S.1 S.2.1 dX3_lookWhereItCameBy_125 hl (k := 5) rfl (by rw [e27]; rfl) (by decide) rfl (fun ls hl => ?_)
          refine lv_goto (tgt := 13) S.1 S.2.1 dX3_lookWhereItCameBy_128 (by decide) ?_
          exact ih3 v27 σ_3 _ _ ls (by omega) (by omega) (by rw [i27]; first | exact (gd_w1 hN9 hp3 hz9 ki wb (by omega) k1 k2 k3 wr (f33.symm.trans (by assumption))).1 | exact (gd_w2 hN9 hp3 hz9 hp4 ki wb (by omega) k1 k2 k3 wr kd (by rw [← f77, ← kr, ← e13]; assumption)).1 | exact (gd_w3 hN9 hp3 hz9 hp4 ki wb (by omega) k1 k2 k3 wr kd (by rw [← f77, ← kr, ← e13]; assumption) (Or.inl ⟨by show ¬ kS = 0; omega, by rw [eσ19, rs_v (by decide)]⟩)).1 | exact (gd_w3 hN9 hp3 hz9 hp4 ki wb (by omega) k1 k2 k3 wr kd (by rw [← f77, ← kr, ← e13]; assumption) (Or.inr ⟨by show kS = 0; omega, by rw [eσ25, rs_self, eσ19, rs_v (by decide), k9, e24, e23, e22, kr, eσ19, rs_v (by decide), k9]⟩)).1) (by rw [i27]; first | exact lt_same wx (gd_w1 hN9 hp3 hz9 ki wb (by omega) k1 k2 k3 wr (f33.symm.trans (by assumption))).2 | exact lt_same wx (gd_w2 hN9 hp3 hz9 hp4 ki wb (by omega) k1 k2 k3 wr kd (by rw [← f77, ← kr, ← e13]; assumption)).2 | exact lt_more hN9 k1 k2 wx (gd_hit hN9 hp3 hz9 hp4 ki wb (by omega) k1 k2 k3 wr kd (by rw [← f77, ← kr, ← e13]; assumption)) (x := v18) (by omega) (by rw [eσ19, rs_self, kp]) | exact lt_more hN9 k1 k2 wx (gd_hit hN9 hp3 hz9 hp4 ki wb (by omega) k1 k2 k3 wr kd (by rw [← f77, ← kr, ← e13]; assumption)) (x := v18) (by omega) (by rw [eσ25, rs_v (by decide), eσ19, rs_self, kp])) (by omega) (by omega) hI hP hH hS (lv_sub hl [2, 3, 4, 5, 0] rfl)
  exact cut_13_3 _ v2 σ _ _ ls (Nat.lt_succ_self _) (by omega) (by rw [(q2).2]; exact rd_0 hp5) (by rw [(q2).2]; exact ltI_0) (by rw [(q2).2]; exact Int.le_refl _) (by rw [(q2).2, (q1).2]; exact hal_mono hp3 hq9) hI hP hH hS (lv_sub hl [2, 3, 4, 1, 0] rfl)
set_option maxHeartbeats 4000000 in
set_option maxRecDepth 100000 in
theorem k_whC_8 (l : Launch) (D : va_G) (B : Nat → ClassId) (L : QL) (A : Nat → Prop) (σ : QS) (τ : Int64) (h : Int32) (w9 : Int32) (N : Net) (act : Nat → Nat → Prop) (g : Nat) (u : Int) (hp0 : 0 ≤ h.toInt ∧ h.toInt ≤ 100000) (hI : InvC σ) (hp2 : RepC σ N) (hp3 : HalC (σ 6 0) (σ 7 0) N) (hp4 : actOk N h.toInt act) (hp5 : ridB N (σ 9 0) act) (hp6 : LatI N w9.toInt g u h.toInt (σ 10 0)) (hp7 : h.toInt ≤ u) : cW cntC gC l D B L A yX3_lookWhatComes wsX3_lookWhatComes 1 22 [.ref (L 2 0), .int h, .int w9, .ref (L 8 0)] σ τ (pV (fun σ' τ' => InvC σ' ∧ Keep [9] σ σ' ∧ τ' = τ ∧ ridB N (σ' 9 0) (fun c d => act c d ∨ (c < nK N ∧ runN N c d ∧ ∃ s, s < nS N c ∧ ((c : Int) ≠ w9.toInt ∧ 0 < s ∧ bwR N w9.toInt g u (nP N c s) h.toInt) ∧ htN N c d s = h.toInt)))) := by
  refine cW_of (cc := cX3_lookWhatComes) (nL := 10) (ret := none) (by decide) rfl (Nat.le_of_ble_eq_true rfl) ?_
  intro p e s m below meth c S hr hk K hH hS ls hl
  have hnX0 : ∀ w ∈ wsX00, w ∈ wsX3_lookWhatComes := fun w h => mG (tX0 w h)
  have hnX3 : ∀ w ∈ wsX30, w ∈ wsX3_lookWhatComes := fun w h => mG (tX3 w h)
  have lm1 : ((-1) : Int32).toInt = -1 := by decide
  have l0 : (0 : Int32).toInt = 0 := by decide
  have l1 : (1 : Int32).toInt = 1 := by decide
  have l3 : (3 : Int32).toInt = 3 := by decide
  have hP : Keep [9] σ σ := Keep_r
  have hN9 := hp2.1
  have hq9 : (h.toInt % 24).toNat < 24 := by omega
  have hm9 : h.toInt % 24 = ((h.toInt % 24).toNat : Int) := by omega
  have hl : lv_has ls 10 [(0, .ref (L 2 0)), (1, .int h), (2, .int w9), (3, .ref (L 8 0))] := hl
  refine lv_aload_n S.1 S.2.1 dX3_lookWhatComes_0 rfl (lv_at hl 0 rfl) ?_
  refine lv_iload_n S.1 S.2.1 dX3_lookWhatComes_1 rfl (lv_at hl 1 rfl) ?_
  refine cW_bpi (cW_V (n := 1) (As := [.int h]) (rest := []) (k := 2) (i := 0) S K hH (by decide) rfl rfl (k_X3_haltsEnd l D B L A σ τ h (by omega) hI) gX3_lookWhatComes_X3_haltsEnd rfl hdV_X3_haltsEnd ⟨Nat.le_of_ble_eq_true rfl, Nat.le_of_ble_eq_true rfl⟩ rfl hl.1 (Nat.le_of_ble_eq_true rfl) dX3_lookWhatComes_2) hS (fun v1 H locs q1 hH hS => ?_)
  refine lv_istore (lv' := [(4, .int v1), (0, .ref (L 2 0)), (1, .int h), (2, .int w9), (3, .ref (L 8 0))]) S.1 S.2.1 dX3_lookWhatComes_5 hl (by decide) rfl (fun ls hl => ?_)
  refine lv_aload_n S.1 S.2.1 dX3_lookWhatComes_7 rfl (lv_at hl 1 rfl) ?_
  refine lv_iload_n S.1 S.2.1 dX3_lookWhatComes_8 rfl (lv_at hl 2 rfl) ?_
  refine cW_bpi (cW_V (n := 1) (As := [.int h]) (rest := []) (k := 2) (i := 0) S K hH (by decide) rfl rfl (k_X3_haltsBegin l D B L A σ τ h (by omega) hI) gX3_lookWhatComes_X3_haltsBegin rfl hdV_X3_haltsBegin ⟨Nat.le_of_ble_eq_true rfl, Nat.le_of_ble_eq_true rfl⟩ rfl hl.1 (Nat.le_of_ble_eq_true rfl) dX3_lookWhatComes_9) hS (fun v2 H locs q2 hH hS => ?_)
  refine lv_istore (lv' := [(5, .int v2), (4, .int v1), (0, .ref (L 2 0)), (1, .int h), (2, .int w9), (3, .ref (L 8 0))]) S.1 S.2.1 dX3_lookWhatComes_12 hl (by decide) rfl (fun ls hl => ?_)
  have cut_14_3 : ∀ (n : Nat) (x5_3 : Int32) (σ_3 : QS) (H : Heap) (locs : List Loc) (ls : Array Slot), (v1.toInt - x5_3.toInt).toNat < n → 0 ≤ x5_3.toInt ∧ x5_3.toInt ≤ 72 → (goI N (σ 6 0) (σ 7 0 (h.toInt % 24).toNat).toInt x5_3.toInt h.toInt act (fun c s => (c : Int) ≠ w9.toInt ∧ 0 < s ∧ bwR N w9.toInt g u (nP N c s) h.toInt) (σ_3 9 0)) → ((σ 7 0 (h.toInt % 24).toNat).toInt ≤ x5_3.toInt) → (x5_3.toInt ≤ v1.toInt) → InvC σ_3 → Keep [9] σ σ_3 → hW cntC gC D B L σ_3 τ H → va_S A s.heap H locs → lv_has ls 10 [(0, .ref (L 2 0)), (1, .int h), (2, .int w9), (3, .ref (L 8 0)), (4, .int v1), (5, .int x5_3)] → W p l e { frames := 1, cells := 0, slots := 0, locals := 22 } s m [.ref (L 2 0), .int h, .int w9, .ref (L 8 0)].toArray below meth c H locs 0 0 (MQ below (QcW cntC gC D B L A (pV (fun σ' τ' => InvC σ' ∧ Keep [9] σ σ' ∧ τ' = τ ∧ ridB N (σ' 9 0) (fun c d => act c d ∨ (c < nK N ∧ runN N c d ∧ ∃ s, s < nS N c ∧ ((c : Int) ≠ w9.toInt ∧ 0 < s ∧ bwR N w9.toInt g u (nP N c s) h.toInt) ∧ htN N c d s = h.toInt))))) [.ref (L 2 0), .int h, .int w9, .ref (L 8 0)].toArray s 0 0 A) (F0 m 14 ls []) := by
    intro n
    induction n with
    | zero => intro x5_3 σ_3 H locs ls hm; exact absurd hm (Nat.not_lt_zero _)
    | succ n ih3 =>
      intro x5_3 σ_3 H locs ls hm3 h3_0 wr wb we hI hP hH hS hl
      have y9 : (σ_3 7 0 24).toInt = (σ 7 0 24).toInt := by rw [hP 7 (by decide)]
      have hPo := hP
      refine lv_iload S.1 S.2.1 dX3_lookWhatComes_14 (lv_at hl 5 rfl) ?_
      refine lv_iload S.1 S.2.1 dX3_lookWhatComes_16 (lv_at hl 4 rfl) ?_
      refine lv_icmp_ge (tgt := 116) S.1 S.2.1 dX3_lookWhatComes_18 (by decide) (fun c4 => ?_) (fun c4 => ?_)
      · have j4 := t_le c4
        refine cW_vret S hr hk hH hS ?_ dX3_lookWhatComes_116
        exact ⟨rfl, hI, hP, rfl, by have h8 : x5_3.toInt = v1.toInt := (by omega); rw [h8, (q1).2] at wr; exact go_end hN9 hp3 hq9 hm9 wr⟩
      · have j4 := t_nle c4
        refine lv_aload_n S.1 S.2.1 dX3_lookWhatComes_21 rfl (lv_at hl 0 rfl) ?_
        refine lv_iload S.1 S.2.1 dX3_lookWhatComes_22 (lv_at hl 5 rfl) ?_
        refine cW_bpi (cW_V (n := 1) (As := [.int x5_3]) (rest := []) (k := 2) (i := 0) S K hH (by decide) rfl rfl (k_X3_cartOf l D B L A σ_3 τ x5_3 (by omega) hI (by omega)) gX3_lookWhatComes_X3_cartOf rfl hdV_X3_cartOf ⟨Nat.le_of_ble_eq_true rfl, Nat.le_of_ble_eq_true rfl⟩ rfl hl.1 (Nat.le_of_ble_eq_true rfl) dX3_lookWhatComes_24) hS (fun v5 H locs q5 hH hS => ?_)
        refine lv_istore (lv' := [(6, .int v5), (0, .ref (L 2 0)), (1, .int h), (2, .int w9), (3, .ref (L 8 0)), (4, .int v1), (5, .int x5_3)]) S.1 S.2.1 dX3_lookWhatComes_27 hl (by decide) rfl (fun ls hl => ?_)
        have ki := cl_eq (j := x5_3) (by omega)
        obtain ⟨kC, kS, k1, k2, k3, k4, k5, k6⟩ := halt_at hN9 hp3 hq9 (i := x5_3.toInt) (k := x5_3.toNatClampNeg) wb (by rw [← (q1).2]; omega) ki
        have k7 : v5 = nI kC := by rw [(q5).2, hP 6 (by decide)]; exact k4
        have k9 : v5.toNatClampNeg = kC := by rw [k7]; exact (nI_cl (by have := hN9.1; omega)).1
        have k8 : v5.toInt = kC := by have z3 := cl_eq (j := v5) (by omega); omega
        refine lv_aload_n S.1 S.2.1 dX3_lookWhatComes_29 rfl (lv_at hl 1 rfl) ?_
        refine lv_iload S.1 S.2.1 dX3_lookWhatComes_30 (lv_at hl 6 rfl) ?_
        refine cW_bpi (cW_V (n := 1) (As := [.int x5_3]) (rest := []) (k := 2) (i := 0) S K hH (by decide) rfl rfl (k_X3_stopOf l D B L A σ_3 τ x5_3 (by omega) hI (by omega)) gX3_lookWhatComes_X3_stopOf rfl hdV_X3_stopOf ⟨Nat.le_of_ble_eq_true rfl, Nat.le_of_ble_eq_true rfl⟩ rfl hl.1 (Nat.le_of_ble_eq_true rfl) dX3_lookWhatComes_32) hS (fun v6 H locs q6 hH hS => ?_)
        refine lv_istore (lv' := [(7, .int v6), (6, .int v5), (0, .ref (L 2 0)), (1, .int h), (2, .int w9), (3, .ref (L 8 0)), (4, .int v1), (5, .int x5_3)]) S.1 S.2.1 dX3_lookWhatComes_35 hl (by decide) rfl (fun ls hl => ?_)
        have k10 : v6 = nI kS := by rw [(q6).2, hP 6 (by decide)]; exact k5
        have k11 : v6.toNatClampNeg = kS := by rw [k10]; exact (nI_cl (by have := (hN9.2 kC k1).1; omega)).1
        have k12 : v6.toInt = kS := by have z3 := cl_eq (j := v6) (by omega); omega
        refine lv_aload_n S.1 S.2.1 dX3_lookWhatComes_37 rfl (lv_at hl 2 rfl) ?_
        refine rC_2_0 S hnX3 K hH (mG wd_81) dX3_lookWhatComes_38 ?_
        refine lv_iload S.1 S.2.1 dX3_lookWhatComes_41 (lv_at hl 1 rfl) ?_
        refine lC_3 S K hH (vin (by omega) (by omega)) dX3_lookWhatComes_43 ?_
        refine lv_astore (lv' := [(8, .ref (L 14 v5.toNatClampNeg)), (7, .int v6), (6, .int v5), (0, .ref (L 2 0)), (1, .int h), (2, .int w9), (3, .ref (L 8 0)), (4, .int v1), (5, .int x5_3)]) S.1 S.2.1 dX3_lookWhatComes_44 hl (by decide) rfl (fun ls hl => ?_)
        refine lv_iload S.1 S.2.1 dX3_lookWhatComes_46 (lv_at hl 2 rfl) ?_
        refine lv_iload_n S.1 S.2.1 dX3_lookWhatComes_48 rfl (lv_at hl 5 rfl) ?_
        refine lv_icmp_eq (tgt := 110) S.1 S.2.1 dX3_lookWhatComes_49 (by decide) (fun c7 => ?_) (fun c7 => ?_)
        · have j7 := t_eq c7
          obtain ⟨v8, e8⟩ : ∃ y_9 : Int32, y_9 = x5_3 + 1 := ⟨_, rfl⟩
          have i8 : v8.toInt = x5_3.toInt + 1 := i_addc e8 (by decide) (by omega) (by omega)
          refine lv_iinc (v := v8) (lv' := [(5, .int v8), (8, .ref (L 14 v5.toNatClampNeg)), (7, .int v6), (6, .int v5), (0, .ref (L 2 0)), (1, .int h), (2, .int w9), (3, .ref (L 8 0)), (4, .int v1)]) S.1 S.2.1 dX3_lookWhatComes_110 hl (k := 8) rfl (by rw [e8]; rfl) (by decide) rfl (fun ls hl => ?_)
          refine lv_goto (tgt := 14) S.1 S.2.1 dX3_lookWhatComes_113 (by decide) ?_
          exact ih3 v8 σ_3 _ _ ls (by omega) (by omega) (by rw [i8]; first | exact go_no hN9 ki wb k1 k2 k3 wr (fun y => absurd y.1 (by omega)) | exact go_no hN9 ki wb k1 k2 k3 wr (fun y => absurd y.2.1 (by omega)) | exact go_no hN9 ki wb k1 k2 k3 wr (fun y => absurd y.2.2 (hb9.mp (by omega))) | exact go_wn hN9 ki wb k1 k2 k3 wr kd (fun z => absurd ((gOn_run hp2 k1).mpr z) ((hg9.resolve_left (fun y => absurd y.1 (by omega))).2)) | exact go_w hN9 ki wb k1 k2 k3 wr kd ⟨by omega, by omega, Classical.byContradiction (fun z => absurd (hb9.mpr z) (by omega))⟩ ((gOn_run hp2 k1).mp ((hg9.resolve_right (fun y => absurd y.1 (by omega))).2.2)) (by rw [eσ9999, rs_self, k9, e9999, e9999, e9999, e9999, k9]; rfl)) (by omega) (by omega) hI hP hH hS (lv_sub hl [4, 5, 6, 7, 8, 0] rfl)
        · have j7 := t_neq c7
          refine lv_iload S.1 S.2.1 dX3_lookWhatComes_52 (lv_at hl 1 rfl) ?_
          refine lv_if_eq (tgt := 110) S.1 S.2.1 dX3_lookWhatComes_54 (by decide) (fun c9 => ?_) (fun c9 => ?_)
          · have j9 := t_eq c9
            obtain ⟨v10, e10⟩ : ∃ y_9 : Int32, y_9 = x5_3 + 1 := ⟨_, rfl⟩
            have i10 : v10.toInt = x5_3.toInt + 1 := i_addc e10 (by decide) (by omega) (by omega)
            refine lv_iinc (v := v10) (lv' := [(5, .int v10), (8, .ref (L 14 v5.toNatClampNeg)), (7, .int v6), (6, .int v5), (0, .ref (L 2 0)), (1, .int h), (2, .int w9), (3, .ref (L 8 0)), (4, .int v1)]) S.1 S.2.1 dX3_lookWhatComes_110 hl (k := 8) rfl (by rw [e10]; rfl) (by decide) rfl (fun ls hl => ?_)
            refine lv_goto (tgt := 14) S.1 S.2.1 dX3_lookWhatComes_113 (by decide) ?_
            exact ih3 v10 σ_3 _ _ ls (by omega) (by omega) (by rw [i10]; first | exact go_no hN9 ki wb k1 k2 k3 wr (fun y => absurd y.1 (by omega)) | exact go_no hN9 ki wb k1 k2 k3 wr (fun y => absurd y.2.1 (by omega)) | exact go_no hN9 ki wb k1 k2 k3 wr (fun y => absurd y.2.2 (hb9.mp (by omega))) | exact go_wn hN9 ki wb k1 k2 k3 wr kd (fun z => absurd ((gOn_run hp2 k1).mpr z) ((hg9.resolve_left (fun y => absurd y.1 (by omega))).2)) | exact go_w hN9 ki wb k1 k2 k3 wr kd ⟨by omega, by omega, Classical.byContradiction (fun z => absurd (hb9.mpr z) (by omega))⟩ ((gOn_run hp2 k1).mp ((hg9.resolve_right (fun y => absurd y.1 (by omega))).2.2)) (by rw [eσ9999, rs_self, k9, e9999, e9999, e9999, e9999, k9]; rfl)) (by omega) (by omega) hI hP hH hS (lv_sub hl [4, 5, 6, 7, 8, 0] rfl)
          · have j9 := t_neq c9
            refine lv_aload_n S.1 S.2.1 dX3_lookWhatComes_57 rfl (lv_at hl 6 rfl) ?_
            refine lv_aload S.1 S.2.1 dX3_lookWhatComes_58 (lv_at hl 0 rfl) ?_
            refine rC_14_6 S hnX0 K hH (cl_lt (n := 12) (by omega) (by omega)) (mG wd_94) dX3_lookWhatComes_60 ?_
            refine lv_iload S.1 S.2.1 dX3_lookWhatComes_63 (lv_at hl 1 rfl) ?_
            refine lC_15 S K hH (cl_lt (n := 12) (by omega) (by omega)) (vin (by omega) (by omega)) dX3_lookWhatComes_65 ?_
            refine lv_topi (fun v11 e11 => ?_)
            have b11 : 0 ≤ v11.toInt ∧ v11.toInt ≤ 11 := by rw [e11]; exact hI.1 27 v5.toNatClampNeg v6.toNatClampNeg
            have f65 : v11.toInt = nP N kC kS := by rw [e11, hP 27 (by decide), k9, k11]; exact ((hp2.2.2 kC k1).2.1 kS k2).1
            have kp : v11.toNatClampNeg = nP N kC kS := by have z3 := cl_eq (j := v11) (by omega); omega
            refine lC_8 S K hH (vin (by omega) (by omega)) dX3_lookWhatComes_66 ?_
            refine lv_topi (fun v12 e12 => ?_)
            have hb9 := la_none (h := h.toInt) (p := nP N kC kS) hp6 (by omega) hp7 (((hN9.2 kC k1).2.2.2.1) kS k2).1
            have f66 : v12.toInt = (σ 10 0 (nP N kC kS)).toInt := by rw [e12, hP 10 (by decide), kp]
            refine lv_iconst (v := (-1)) S.1 S.2.1 dX3_lookWhatComes_67 (by decide) ?_
            refine lv_icmp_ne (tgt := 74) S.1 S.2.1 dX3_lookWhatComes_68 (by decide) (fun c13 => ?_) (fun c13 => ?_)
            · have j13 := t_neq c13
              refine lv_aload S.1 S.2.1 dX3_lookWhatComes_74 (lv_at hl 0 rfl) ?_
              refine lv_iload S.1 S.2.1 dX3_lookWhatComes_76 (lv_at hl 1 rfl) ?_
              refine lv_iload_n S.1 S.2.1 dX3_lookWhatComes_78 rfl (lv_at hl 4 rfl) ?_
              refine cW_bpi (cW_V (n := 2) (As := [.int v6, .int h]) (rest := []) (k := 14) (i := v5.toNatClampNeg) S K hH (cl_lt (n := 12) (by omega) (by omega)) rfl rfl (k_X0_dayOf l D B L A σ_3 τ v5.toNatClampNeg v6 h (cl_lt (n := 12) (by omega) (by omega)) (by omega) (by omega) hI) gX3_lookWhatComes_X0_dayOf rfl hdV_X0_dayOf ⟨Nat.le_of_ble_eq_true rfl, Nat.le_of_ble_eq_true rfl⟩ rfl hl.1 (Nat.le_of_ble_eq_true rfl) dX3_lookWhatComes_79) hS (fun v14 H locs q14 hH hS => ?_)
              have kd := dayW (h := h.toInt) (x := v14) hp2 k1 k2 (by omega) (by have z := (q14).2; rw [hP 22 (by decide), hP 28 (by decide), k9, k11] at z; exact z)
              refine lv_istore (lv' := [(9, .int v14), (8, .ref (L 14 v5.toNatClampNeg)), (7, .int v6), (6, .int v5), (0, .ref (L 2 0)), (1, .int h), (2, .int w9), (3, .ref (L 8 0)), (4, .int v1), (5, .int x5_3)]) S.1 S.2.1 dX3_lookWhatComes_82 hl (by decide) rfl (fun ls hl => ?_)
              refine lv_aload S.1 S.2.1 dX3_lookWhatComes_84 (lv_at hl 1 rfl) ?_
              refine lv_iload S.1 S.2.1 dX3_lookWhatComes_86 (lv_at hl 0 rfl) ?_
              refine cW_bpi (cW_V (n := 1) (As := [.int v14]) (rest := []) (k := 14) (i := v5.toNatClampNeg) S K hH (cl_lt (n := 12) (by omega) (by omega)) rfl rfl (k_X0_goesOn l D B L A σ_3 τ v5.toNatClampNeg v14 (cl_lt (n := 12) (by omega) (by omega))) gX3_lookWhatComes_X0_goesOn rfl hdV_X0_goesOn ⟨Nat.le_of_ble_eq_true rfl, Nat.le_of_ble_eq_true rfl⟩ rfl hl.1 (Nat.le_of_ble_eq_true rfl) dX3_lookWhatComes_88) hS (fun v15 H locs q15 hH hS => ?_)
              have hg9 := q15
              rw [hP 21 (by decide), hP 29 (by decide), k9] at hg9
              refine lv_if_eq (tgt := 110) S.1 S.2.1 dX3_lookWhatComes_91 (by decide) (fun c16 => ?_) (fun c16 => ?_)
              · have j16 := t_eq c16
                obtain ⟨v17, e17⟩ : ∃ y_9 : Int32, y_9 = x5_3 + 1 := ⟨_, rfl⟩
                have i17 : v17.toInt = x5_3.toInt + 1 := i_addc e17 (by decide) (by omega) (by omega)
                refine lv_iinc (v := v17) (lv' := [(5, .int v17), (9, .int v14), (8, .ref (L 14 v5.toNatClampNeg)), (7, .int v6), (6, .int v5), (0, .ref (L 2 0)), (1, .int h), (2, .int w9), (3, .ref (L 8 0)), (4, .int v1)]) S.1 S.2.1 dX3_lookWhatComes_110 hl (k := 9) rfl (by rw [e17]; rfl) (by decide) rfl (fun ls hl => ?_)
                refine lv_goto (tgt := 14) S.1 S.2.1 dX3_lookWhatComes_113 (by decide) ?_
                exact ih3 v17 σ_3 _ _ ls (by omega) (by omega) (by rw [i17]; first | exact go_no hN9 ki wb k1 k2 k3 wr (fun y => absurd y.1 (by omega)) | exact go_no hN9 ki wb k1 k2 k3 wr (fun y => absurd y.2.1 (by omega)) | exact go_no hN9 ki wb k1 k2 k3 wr (fun y => absurd y.2.2 (hb9.mp (by omega))) | exact go_wn hN9 ki wb k1 k2 k3 wr kd (fun z => absurd ((gOn_run hp2 k1).mpr z) ((hg9.resolve_left (fun y => absurd y.1 (by omega))).2)) | exact go_w hN9 ki wb k1 k2 k3 wr kd ⟨by omega, by omega, Classical.byContradiction (fun z => absurd (hb9.mpr z) (by omega))⟩ ((gOn_run hp2 k1).mp ((hg9.resolve_right (fun y => absurd y.1 (by omega))).2.2)) (by rw [eσ9999, rs_self, k9, e9999, e9999, e9999, e9999, k9]; rfl)) (by omega) (by omega) hI hP hH hS (lv_sub hl [5, 6, 7, 8, 9, 0] rfl)
              · have j16 := t_neq c16
                refine lv_aload_n S.1 S.2.1 dX3_lookWhatComes_94 rfl (lv_at hl 4 rfl) ?_
                refine rC_2_6 S hnX3 K hH (mG wd_87) dX3_lookWhatComes_95 ?_
                refine lv_iload S.1 S.2.1 dX3_lookWhatComes_98 (lv_at hl 3 rfl) ?_
                refine lv_dup2_11 S.1 S.2.1 dX3_lookWhatComes_100 rfl rfl ?_
                refine lC_7 S K hH (vin (by omega) (by omega)) dX3_lookWhatComes_101 ?_
                refine lv_topi (fun v18 e18 => ?_)
                refine lv_iconst (v := 1) S.1 S.2.1 dX3_lookWhatComes_102 (by decide) ?_
                refine lv_iload S.1 S.2.1 dX3_lookWhatComes_103 (lv_at hl 0 rfl) ?_
                refine lv_iconst (v := 3) S.1 S.2.1 dX3_lookWhatComes_105 (by decide) ?_
                refine lv_iand S.1 S.2.1 dX3_lookWhatComes_106 ?_
                refine lv_topi (fun v19 e19 => ?_)
                have i19 : 0 ≤ v19.toInt ∧ v19.toInt ≤ (3 : Int32).toInt := i_andr e19 (by omega)
                refine lv_ishl S.1 S.2.1 dX3_lookWhatComes_107 ?_
                refine lv_topi (fun v20 e20 => ?_)
                refine lv_ior S.1 S.2.1 dX3_lookWhatComes_108 ?_
                refine lv_topi (fun v21 e21 => ?_)
                refine sC_7 S K hH hS (vin (by omega) (by omega)) dX3_lookWhatComes_109 (fun H locs hH hS => ?_)
                obtain ⟨σ22, eσ22⟩ : ∃ z_9 : QS, z_9 = rs σ_3 9 0 (upd (σ_3 9 0) v5.toNatClampNeg v21) := ⟨_, rfl⟩
                rw [← eσ22] at hH
                have hI := InvC_a eσ22 hI (by decide) (any32 _)
                have hP := Keep_w eσ22 hP (by decide)
                obtain ⟨v23, e23⟩ : ∃ y_9 : Int32, y_9 = x5_3 + 1 := ⟨_, rfl⟩
                have i23 : v23.toInt = x5_3.toInt + 1 := i_addc e23 (by decide) (by omega) (by omega)
                refine lv_iinc (v := v23) (lv' := [(5, .int v23), (9, .int v14), (8, .ref (L 14 v5.toNatClampNeg)), (7, .int v6), (6, .int v5), (0, .ref (L 2 0)), (1, .int h), (2, .int w9), (3, .ref (L 8 0)), (4, .int v1)]) S.1 S.2.1 dX3_lookWhatComes_110 hl (k := 9) rfl (by rw [e23]; rfl) (by decide) rfl (fun ls hl => ?_)
                refine lv_goto (tgt := 14) S.1 S.2.1 dX3_lookWhatComes_113 (by decide) ?_
                exact ih3 v23 σ22 _ _ ls (by omega) (by omega) (by rw [i23]; first | exact go_no hN9 ki wb k1 k2 k3 wr (fun y => absurd y.1 (by omega)) | exact go_no hN9 ki wb k1 k2 k3 wr (fun y => absurd y.2.1 (by omega)) | exact go_no hN9 ki wb k1 k2 k3 wr (fun y => absurd y.2.2 (hb9.mp (by omega))) | exact go_wn hN9 ki wb k1 k2 k3 wr kd (fun z => absurd ((gOn_run hp2 k1).mpr z) ((hg9.resolve_left (fun y => absurd y.1 (by omega))).2)) | exact go_w hN9 ki wb k1 k2 k3 wr kd ⟨by omega, by omega, Classical.byContradiction (fun z => absurd (hb9.mpr z) (by omega))⟩ ((gOn_run hp2 k1).mp ((hg9.resolve_right (fun y => absurd y.1 (by omega))).2.2)) (by rw [eσ22, rs_self, k9, e21, e20, e19, e18, k9]; rfl)) (by omega) (by omega) hI hP hH hS (lv_sub hl [5, 6, 7, 8, 9, 0] rfl)
            · have j13 := t_eq c13
              refine lv_goto (tgt := 110) S.1 S.2.1 dX3_lookWhatComes_71 (by decide) ?_
              obtain ⟨v24, e24⟩ : ∃ y_9 : Int32, y_9 = x5_3 + 1 := ⟨_, rfl⟩
              have i24 : v24.toInt = x5_3.toInt + 1 := i_addc e24 (by decide) (by omega) (by omega)
              refine lv_iinc (v := v24) (lv' := [(5, .int v24), (8, .ref (L 14 v5.toNatClampNeg)), (7, .int v6), (6, .int v5), (0, .ref (L 2 0)), (1, .int h), (2, .int w9), (3, .ref (L 8 0)), (4, .int v1)]) S.1 S.2.1 dX3_lookWhatComes_110 hl (k := 8) rfl (by rw [e24]; rfl) (by decide) rfl (fun ls hl => ?_)
              refine lv_goto (tgt := 14) S.1 S.2.1 dX3_lookWhatComes_113 (by decide) ?_
              exact ih3 v24 σ_3 _ _ ls (by omega) (by omega) (by rw [i24]; first | exact go_no hN9 ki wb k1 k2 k3 wr (fun y => absurd y.1 (by omega)) | exact go_no hN9 ki wb k1 k2 k3 wr (fun y => absurd y.2.1 (by omega)) | exact go_no hN9 ki wb k1 k2 k3 wr (fun y => absurd y.2.2 (hb9.mp (by omega))) | exact go_wn hN9 ki wb k1 k2 k3 wr kd (fun z => absurd ((gOn_run hp2 k1).mpr z) ((hg9.resolve_left (fun y => absurd y.1 (by omega))).2)) | exact go_w hN9 ki wb k1 k2 k3 wr kd ⟨by omega, by omega, Classical.byContradiction (fun z => absurd (hb9.mpr z) (by omega))⟩ ((gOn_run hp2 k1).mp ((hg9.resolve_right (fun y => absurd y.1 (by omega))).2.2)) (by rw [eσ22, rs_self, k9, e21, e20, e19, e18, k9]; rfl)) (by omega) (by omega) hI hP hH hS (lv_sub hl [4, 5, 6, 7, 8, 0] rfl)
  exact cut_14_3 _ v2 σ _ _ ls (Nat.lt_succ_self _) (by omega) (by rw [(q2).2]; exact go_0 hp5) (by rw [(q2).2]; exact Int.le_refl _) (by rw [(q2).2, (q1).2]; exact hal_mono hp3 hq9) hI hP hH hS (lv_sub hl [2, 3, 4, 5, 1, 0] rfl)
set_option maxHeartbeats 4000000 in
set_option maxRecDepth 100000 in
theorem k_fiL_8 (l : Launch) (D : va_G) (B : Nat → ClassId) (L : QL) (A : Nat → Prop) (σ : QS) (τ : Int64) (to : Int32) (a : Int32) (b : Int32) (w9 : Int32) (N : Net) (hp0 : 0 ≤ to.toInt ∧ to.toInt ≤ 11) (hp1 : 0 ≤ a.toInt ∧ a.toInt ≤ 100000) (hp2 : -1 ≤ b.toInt ∧ b.toInt ≤ 100000) (hI : InvC σ) (hp4 : RepC σ N) (hp5 : HalC (σ 6 0) (σ 7 0) N) : cW cntC gC l D B L A yX3_findLatest wsX3_findLatest 2 51 [.ref (L 2 0), .int to, .int a, .int b, .int w9, .ref (L 8 0)] σ τ (pV (fun σ' τ' => InvC σ' ∧ Keep [9, 10] σ σ' ∧ τ' = τ ∧ ((a.toInt ≤ b.toInt + 1 → LatI N w9.toInt to.toNatClampNeg b.toInt a.toInt (σ' 10 0))))) := by
  refine cW_of (cc := cX3_findLatest) (nL := 7) (ret := none) (by decide) rfl (Nat.le_of_ble_eq_true rfl) ?_
  intro p e s m below meth c S hr hk K hH hS ls hl
  have hnX0 : ∀ w ∈ wsX00, w ∈ wsX3_findLatest := fun w h => mG (tX0 w h)
  have hnX3 : ∀ w ∈ wsX30, w ∈ wsX3_findLatest := fun w h => mG (tX3 w h)
  have lm1 : ((-1) : Int32).toInt = -1 := by decide
  have l0 : (0 : Int32).toInt = 0 := by decide
  have hP : Keep [9, 10] σ σ := Keep_r
  have hN9 := hp4.1
  have hf9 := cl_eq (j := to) (by omega)
  have hl : lv_has ls 7 [(0, .ref (L 2 0)), (1, .int to), (2, .int a), (3, .int b), (4, .int w9), (5, .ref (L 8 0))] := hl
  refine lv_aload_n S.1 S.2.1 dX3_findLatest_0 rfl (lv_at hl 0 rfl) ?_
  refine rC_2_6 S hnX3 K hH (mG wd_87) dX3_findLatest_1 ?_
  refine lv_iconst (v := 0) S.1 S.2.1 dX3_findLatest_4 (by decide) ?_
  refine cW_bv (cW_S (n := 2) (As := [.ref (L 7 0), .int 0]) (rest := []) S K hH (k_fill_7 l D B L A σ τ 0 hI) gX3_findLatest_J7_fill_53178 rfl hdS_J7_fill_53178 ⟨Nat.le_of_ble_eq_true rfl, Nat.le_of_ble_eq_true rfl⟩ rfl hl.1 (Nat.le_of_ble_eq_true rfl) dX3_findLatest_5) hS (fun σ1 τ1 H locs q1 hH hS => ?_)
  obtain ⟨hI, hP1, hτ1, q1⟩ := q1
  rw [hτ1] at hH
  have hP := Keep_t hP hP1 (by decide)
  refine lv_aload S.1 S.2.1 dX3_findLatest_8 (lv_at hl 5 rfl) ?_
  refine lv_iconst (v := (-1)) S.1 S.2.1 dX3_findLatest_10 (by decide) ?_
  refine cW_bv (cW_S (n := 2) (As := [.ref (L 8 0), .int (-1)]) (rest := []) S K hH (k_fill_8 l D B L A σ1 τ (-1) hI) gX3_findLatest_J7_fill_53178 rfl hdS_J7_fill_53178 ⟨Nat.le_of_ble_eq_true rfl, Nat.le_of_ble_eq_true rfl⟩ rfl hl.1 (Nat.le_of_ble_eq_true rfl) dX3_findLatest_11) hS (fun σ2 τ2 H locs q2 hH hS => ?_)
  obtain ⟨hI, hP2, hτ2, q2⟩ := q2
  rw [hτ2] at hH
  have hP := Keep_t hP hP2 (by decide)
  refine lv_aload S.1 S.2.1 dX3_findLatest_14 (lv_at hl 5 rfl) ?_
  refine lv_iload_n S.1 S.2.1 dX3_findLatest_16 rfl (lv_at hl 1 rfl) ?_
  refine lv_iload_n S.1 S.2.1 dX3_findLatest_17 rfl (lv_at hl 3 rfl) ?_
  refine sC_8 S K hH hS (vin (by omega) (by omega)) dX3_findLatest_18 (fun H locs hH hS => ?_)
  obtain ⟨σ3, eσ3⟩ : ∃ z_9 : QS, z_9 = rs σ2 10 0 (upd (σ2 10 0) to.toNatClampNeg b) := ⟨_, rfl⟩
  rw [← eσ3] at hH
  have hI := InvC_a eσ3 hI (by decide) (any32 _)
  have hP := Keep_w eσ3 hP (by decide)
  refine lv_iload_n S.1 S.2.1 dX3_findLatest_19 rfl (lv_at hl 3 rfl) ?_
  refine lv_istore (lv' := [(6, .int b), (0, .ref (L 2 0)), (1, .int to), (2, .int a), (3, .int b), (4, .int w9), (5, .ref (L 8 0))]) S.1 S.2.1 dX3_findLatest_20 hl (by decide) rfl (fun ls hl => ?_)
  have cut_22_4 : ∀ (n : Nat) (x6_4 : Int32) (σ_4 : QS) (H : Heap) (locs : List Loc) (ls : Array Slot), (x6_4.toInt + 1).toNat < n → -1 ≤ x6_4.toInt ∧ x6_4.toInt ≤ 100000 → (ridB N (σ_4 9 0) (actB N w9.toInt to.toNatClampNeg b.toInt (x6_4.toInt + 1))) → (LatI N w9.toInt to.toNatClampNeg b.toInt (x6_4.toInt + 1) (σ_4 10 0)) → (x6_4.toInt ≤ b.toInt) → ((a.toInt ≤ x6_4.toInt + 1 ∨ b.toInt + 1 < a.toInt)) → InvC σ_4 → Keep [9, 10] σ σ_4 → hW cntC gC D B L σ_4 τ H → va_S A s.heap H locs → lv_has ls 7 [(0, .ref (L 2 0)), (2, .int a), (4, .int w9), (5, .ref (L 8 0)), (6, .int x6_4)] → W p l e { frames := 2, cells := 0, slots := 0, locals := 51 } s m [.ref (L 2 0), .int to, .int a, .int b, .int w9, .ref (L 8 0)].toArray below meth c H locs 0 0 (MQ below (QcW cntC gC D B L A (pV (fun σ' τ' => InvC σ' ∧ Keep [9, 10] σ σ' ∧ τ' = τ ∧ ((a.toInt ≤ b.toInt + 1 → LatI N w9.toInt to.toNatClampNeg b.toInt a.toInt (σ' 10 0)))))) [.ref (L 2 0), .int to, .int a, .int b, .int w9, .ref (L 8 0)].toArray s 0 0 A) (F0 m 22 ls []) := by
    intro n
    induction n with
    | zero => intro x6_4 σ_4 H locs ls hm; exact absurd hm (Nat.not_lt_zero _)
    | succ n ih4 =>
      intro x6_4 σ_4 H locs ls hm4 h4_0 wr wl we wm hI hP hH hS hl
      refine lv_iload S.1 S.2.1 dX3_findLatest_22 (lv_at hl 4 rfl) ?_
      refine lv_iload_n S.1 S.2.1 dX3_findLatest_24 rfl (lv_at hl 1 rfl) ?_
      refine lv_icmp_lt (tgt := 52) S.1 S.2.1 dX3_findLatest_25 (by decide) (fun c5 => ?_) (fun c5 => ?_)
      · have j5 := t_lt c5
        refine cW_vret S hr hk hH hS ?_ dX3_findLatest_52
        exact ⟨rfl, hI, hP, rfl, by intro h9; have h8 : x6_4.toInt + 1 = a.toInt := (by omega); rw [h8] at wl; exact wl⟩
      · have j5 := t_nlt c5
        refine lv_aload_n S.1 S.2.1 dX3_findLatest_28 rfl (lv_at hl 0 rfl) ?_
        refine lv_iload S.1 S.2.1 dX3_findLatest_29 (lv_at hl 4 rfl) ?_
        refine lv_aload S.1 S.2.1 dX3_findLatest_31 (lv_at hl 3 rfl) ?_
        refine cW_bv (cW_V (n := 2) (As := [.int x6_4, .ref (L 8 0)]) (rest := []) (k := 2) (i := 0) S K hH (by decide) rfl rfl (k_byC_8 l D B L A σ_4 τ x6_4 (N) (actB N w9.toInt to.toNatClampNeg b.toInt (x6_4.toInt + 1)) (by omega) hI (RepC_k hp4 hP (by decide)) (by rw [hP 6 (by decide), hP 7 (by decide)]; exact hp5) (ba_ok hN9) (wr)) gX3_findLatest_X3_lookWhereItCameBy rfl hdV_X3_lookWhereItCameBy ⟨Nat.le_of_ble_eq_true rfl, Nat.le_of_ble_eq_true rfl⟩ rfl hl.1 (Nat.le_of_ble_eq_true rfl) dX3_findLatest_33) hS (fun σ6 τ6 H locs q6 hH hS => ?_)
        obtain ⟨hI, hP6, hτ6, q6⟩ := q6
        rw [hτ6] at hH
        have hP := Keep_t hP hP6 (by decide)
        refine lv_aload_n S.1 S.2.1 dX3_findLatest_36 rfl (lv_at hl 0 rfl) ?_
        refine lv_iload S.1 S.2.1 dX3_findLatest_37 (lv_at hl 4 rfl) ?_
        refine lv_iload S.1 S.2.1 dX3_findLatest_39 (lv_at hl 2 rfl) ?_
        refine lv_aload S.1 S.2.1 dX3_findLatest_41 (lv_at hl 3 rfl) ?_
        refine cW_bv (cW_V (n := 3) (As := [.int x6_4, .int w9, .ref (L 8 0)]) (rest := []) (k := 2) (i := 0) S K hH (by decide) rfl rfl (k_whC_8 l D B L A σ6 τ x6_4 w9 (N) (fun c d => actB N w9.toInt to.toNatClampNeg b.toInt (x6_4.toInt + 1) c d ∧ htN N c d 0 ≠ x6_4.toInt) (to.toNatClampNeg) (b.toInt) (by omega) hI (RepC_k hp4 hP (by decide)) (by rw [hP 6 (by decide), hP 7 (by decide)]; exact hp5) (fun c d a => ba_ok hN9 c d a.1) ((q6).1) (la_by2 hN9 (by omega) (by omega) we wl (q6).2) (we)) gX3_findLatest_X3_lookWhatComes rfl hdV_X3_lookWhatComes ⟨Nat.le_of_ble_eq_true rfl, Nat.le_of_ble_eq_true rfl⟩ rfl hl.1 (Nat.le_of_ble_eq_true rfl) dX3_findLatest_43) hS (fun σ7 τ7 H locs q7 hH hS => ?_)
        obtain ⟨hI, hP7, hτ7, q7⟩ := q7
        rw [hτ7] at hH
        have hP := Keep_t hP hP7 (by decide)
        obtain ⟨v8, e8⟩ : ∃ y_9 : Int32, y_9 = x6_4 + (-1) := ⟨_, rfl⟩
        have i8 : v8.toInt = x6_4.toInt + (-1) := i_addc e8 (by decide) (by omega) (by omega)
        refine lv_iinc (v := v8) (lv' := [(6, .int v8), (0, .ref (L 2 0)), (2, .int a), (4, .int w9), (5, .ref (L 8 0))]) S.1 S.2.1 dX3_findLatest_46 hl (k := 4) rfl (by rw [e8]; rfl) (by decide) rfl (fun ls hl => ?_)
        refine lv_goto (tgt := 22) S.1 S.2.1 dX3_findLatest_49 (by decide) ?_
        exact ih4 v8 σ7 _ _ ls (by omega) (by omega) (by rw [show v8.toInt + 1 = (x6_4).toInt by omega]; exact ba_on hN9 q7) (by rw [show v8.toInt + 1 = (x6_4).toInt by omega, hP7 10 (by decide)]; exact la_by2 hN9 (by omega) (by omega) we wl (q6).2) (by omega) (by omega) hI hP hH hS (lv_sub hl [1, 2, 3, 4, 0] rfl)
  exact cut_22_4 _ b σ3 _ _ ls (Nat.lt_succ_self _) (by omega) (by rw [eσ3, rs_v (by decide), hP2 9 (by decide)]; exact ba_rid0 hN9 q1) (by exact la_fin hN9 (by rw [eσ3, rs_self]) (by decide) q2) (by omega) (by omega) hI hP hH hS (lv_sub hl [1, 3, 5, 6, 0] rfl)
set_option maxHeartbeats 4000000 in
set_option maxRecDepth 100000 in
theorem k_byC_21 (l : Launch) (D : va_G) (B : Nat → ClassId) (L : QL) (A : Nat → Prop) (σ : QS) (τ : Int64) (h : Int32) (q : Nat) (N : Net) (act : Nat → Nat → Prop) (hp0 : q < 60) (hp1 : 0 ≤ h.toInt ∧ h.toInt ≤ 100000) (hI : InvC σ) (hp3 : RepC σ N) (hp4 : HalC (σ 6 0) (σ 7 0) N) (hp5 : actOk N h.toInt act) (hp6 : ridB N (σ 9 0) act) : cW cntC gC l D B L A yX3_lookWhereItCameBy wsX3_lookWhereItCameBy 1 22 [.ref (L 2 0), .int h, .ref (L 21 q)] σ τ (pV (fun σ' τ' => InvC σ' ∧ Keep [9, 43] σ σ' ∧ τ' = τ ∧ (ridB N (σ' 9 0) (fun c d => act c d ∧ htN N c d 0 ≠ h.toInt) ∧ ltE N h.toInt act (σ 43 q) (σ' 43 q) ∧ ∀ i9 : Nat, i9 ≠ q → σ' 43 i9 = σ 43 i9))) := by
  refine cW_of (cc := cX3_lookWhereItCameBy) (nL := 10) (ret := none) (by decide) rfl (Nat.le_of_ble_eq_true rfl) ?_
  intro p e s m below meth c S hr hk K hH hS ls hl
  have hnX0 : ∀ w ∈ wsX00, w ∈ wsX3_lookWhereItCameBy := fun w h => mG (tX0 w h)
  have hnX3 : ∀ w ∈ wsX30, w ∈ wsX3_lookWhereItCameBy := fun w h => mG (tX3 w h)
  have lm1 : ((-1) : Int32).toInt = -1 := by decide
  have l0 : (0 : Int32).toInt = 0 := by decide
  have l1 : (1 : Int32).toInt = 1 := by decide
  have l3 : (3 : Int32).toInt = 3 := by decide
  have hP : Keep [9, 43] σ σ := Keep_r
  have hN9 := hp3.1
  have hq9 : (h.toInt % 24).toNat < 24 := by omega
  have hm9 : h.toInt % 24 = ((h.toInt % 24).toNat : Int) := by omega
  have hz9 : ∀ c, c < nK N → (fun _ : Nat => 0) c < nS N c := fun c hc => by have := (hN9.2 c hc).1; show 0 < nS N c; omega
  have hl : lv_has ls 10 [(0, .ref (L 2 0)), (1, .int h), (2, .ref (L 21 q))] := hl
  refine lv_aload_n S.1 S.2.1 dX3_lookWhereItCameBy_0 rfl (lv_at hl 0 rfl) ?_
  refine lv_iload_n S.1 S.2.1 dX3_lookWhereItCameBy_1 rfl (lv_at hl 1 rfl) ?_
  refine cW_bpi (cW_V (n := 1) (As := [.int h]) (rest := []) (k := 2) (i := 0) S K hH (by decide) rfl rfl (k_X3_haltsEnd l D B L A σ τ h (by omega) hI) gX3_lookWhereItCameBy_X3_haltsEnd rfl hdV_X3_haltsEnd ⟨Nat.le_of_ble_eq_true rfl, Nat.le_of_ble_eq_true rfl⟩ rfl hl.1 (Nat.le_of_ble_eq_true rfl) dX3_lookWhereItCameBy_2) hS (fun v1 H locs q1 hH hS => ?_)
  refine lv_istore_n (lv' := [(3, .int v1), (0, .ref (L 2 0)), (1, .int h), (2, .ref (L 21 q))]) S.1 S.2.1 dX3_lookWhereItCameBy_5 rfl hl (by decide) rfl (fun ls hl => ?_)
  refine lv_aload_n S.1 S.2.1 dX3_lookWhereItCameBy_6 rfl (lv_at hl 1 rfl) ?_
  refine lv_iload_n S.1 S.2.1 dX3_lookWhereItCameBy_7 rfl (lv_at hl 2 rfl) ?_
  refine cW_bpi (cW_V (n := 1) (As := [.int h]) (rest := []) (k := 2) (i := 0) S K hH (by decide) rfl rfl (k_X3_haltsBegin l D B L A σ τ h (by omega) hI) gX3_lookWhereItCameBy_X3_haltsBegin rfl hdV_X3_haltsBegin ⟨Nat.le_of_ble_eq_true rfl, Nat.le_of_ble_eq_true rfl⟩ rfl hl.1 (Nat.le_of_ble_eq_true rfl) dX3_lookWhereItCameBy_8) hS (fun v2 H locs q2 hH hS => ?_)
  refine lv_istore (lv' := [(4, .int v2), (3, .int v1), (0, .ref (L 2 0)), (1, .int h), (2, .ref (L 21 q))]) S.1 S.2.1 dX3_lookWhereItCameBy_11 hl (by decide) rfl (fun ls hl => ?_)
  have cut_13_3 : ∀ (n : Nat) (x4_3 : Int32) (σ_3 : QS) (H : Heap) (locs : List Loc) (ls : Array Slot), (v1.toInt - x4_3.toInt).toNat < n → 0 ≤ x4_3.toInt ∧ x4_3.toInt ≤ 72 → (rdI N (σ 6 0) (σ 7 0 (h.toInt % 24).toNat).toInt x4_3.toInt h.toInt act (fun _ => 0) (σ_3 9 0)) → (ltI N (σ 6 0) (σ 7 0 (h.toInt % 24).toNat).toInt x4_3.toInt h.toInt act (σ 43 q) (σ_3 43 q)) → ((σ 7 0 (h.toInt % 24).toNat).toInt ≤ x4_3.toInt) → (x4_3.toInt ≤ v1.toInt) → (∀ i9 : Nat, i9 ≠ q → σ_3 43 i9 = σ 43 i9) → InvC σ_3 → Keep [9, 43] σ σ_3 → hW cntC gC D B L σ_3 τ H → va_S A s.heap H locs → lv_has ls 10 [(0, .ref (L 2 0)), (1, .int h), (2, .ref (L 21 q)), (3, .int v1), (4, .int x4_3)] → W p l e { frames := 1, cells := 0, slots := 0, locals := 22 } s m [.ref (L 2 0), .int h, .ref (L 21 q)].toArray below meth c H locs 0 0 (MQ below (QcW cntC gC D B L A (pV (fun σ' τ' => InvC σ' ∧ Keep [9, 43] σ σ' ∧ τ' = τ ∧ (ridB N (σ' 9 0) (fun c d => act c d ∧ htN N c d 0 ≠ h.toInt) ∧ ltE N h.toInt act (σ 43 q) (σ' 43 q) ∧ ∀ i9 : Nat, i9 ≠ q → σ' 43 i9 = σ 43 i9)))) [.ref (L 2 0), .int h, .ref (L 21 q)].toArray s 0 0 A) (F0 m 13 ls []) := by
    intro n
    induction n with
    | zero => intro x4_3 σ_3 H locs ls hm; exact absurd hm (Nat.not_lt_zero _)
    | succ n ih3 =>
      intro x4_3 σ_3 H locs ls hm3 h3_0 wr wx wb we wo hI hP hH hS hl
      have y9 : (σ_3 7 0 24).toInt = (σ 7 0 24).toInt := by rw [hP 7 (by decide)]
      have hPo := hP
      refine lv_iload S.1 S.2.1 dX3_lookWhereItCameBy_13 (lv_at hl 4 rfl) ?_
      refine lv_iload_n S.1 S.2.1 dX3_lookWhereItCameBy_15 rfl (lv_at hl 3 rfl) ?_
      refine lv_icmp_ge (tgt := 131) S.1 S.2.1 dX3_lookWhereItCameBy_16 (by decide) (fun c4 => ?_) (fun c4 => ?_)
      · have j4 := t_le c4
        refine cW_vret S hr hk hH hS ?_ dX3_lookWhereItCameBy_131
        exact ⟨rfl, hI, hP, rfl, by have h8 : x4_3.toInt = v1.toInt := (by omega); rw [h8, (q1).2] at wr wx; have h7 := rd_end hN9 hp4 hz9 hq9 hm9 wr; exact ⟨h7.1, lt_end wx h7.2, wo⟩⟩
      · have j4 := t_nle c4
        refine lv_aload_n S.1 S.2.1 dX3_lookWhereItCameBy_19 rfl (lv_at hl 0 rfl) ?_
        refine lv_iload S.1 S.2.1 dX3_lookWhereItCameBy_20 (lv_at hl 4 rfl) ?_
        refine cW_bpi (cW_V (n := 1) (As := [.int x4_3]) (rest := []) (k := 2) (i := 0) S K hH (by decide) rfl rfl (k_X3_cartOf l D B L A σ_3 τ x4_3 (by omega) hI (by omega)) gX3_lookWhereItCameBy_X3_cartOf rfl hdV_X3_cartOf ⟨Nat.le_of_ble_eq_true rfl, Nat.le_of_ble_eq_true rfl⟩ rfl hl.1 (Nat.le_of_ble_eq_true rfl) dX3_lookWhereItCameBy_22) hS (fun v5 H locs q5 hH hS => ?_)
        refine lv_istore (lv' := [(5, .int v5), (0, .ref (L 2 0)), (1, .int h), (2, .ref (L 21 q)), (3, .int v1), (4, .int x4_3)]) S.1 S.2.1 dX3_lookWhereItCameBy_25 hl (by decide) rfl (fun ls hl => ?_)
        have ki := cl_eq (j := x4_3) (by omega)
        obtain ⟨kC, kS, k1, k2, k3, k4, k5, k6⟩ := halt_at hN9 hp4 hq9 (i := x4_3.toInt) (k := x4_3.toNatClampNeg) wb (by rw [← (q1).2]; omega) ki
        have k7 : v5 = nI kC := by rw [(q5).2, hP 6 (by decide)]; exact k4
        have k9 : v5.toNatClampNeg = kC := by rw [k7]; exact (nI_cl (by have := hN9.1; omega)).1
        refine lv_aload_n S.1 S.2.1 dX3_lookWhereItCameBy_27 rfl (lv_at hl 1 rfl) ?_
        refine rC_2_6 S hnX3 K hH (mG wd_87) dX3_lookWhereItCameBy_28 ?_
        refine lv_iload S.1 S.2.1 dX3_lookWhereItCameBy_31 (lv_at hl 0 rfl) ?_
        refine lC_7 S K hH (vin (by omega) (by omega)) dX3_lookWhereItCameBy_33 ?_
        refine lv_topi (fun v6 e6 => ?_)
        have f33 : v6 = σ_3 9 0 kC := by rw [e6, k9]
        refine lv_if_ne (tgt := 40) S.1 S.2.1 dX3_lookWhereItCameBy_34 (by decide) (fun c7 => ?_) (fun c7 => ?_)
        · have j7 := t_neq c7
          refine lv_aload_n S.1 S.2.1 dX3_lookWhereItCameBy_40 rfl (lv_at hl 1 rfl) ?_
          refine rC_2_0 S hnX3 K hH (mG wd_81) dX3_lookWhereItCameBy_41 ?_
          refine lv_iload S.1 S.2.1 dX3_lookWhereItCameBy_44 (lv_at hl 0 rfl) ?_
          refine lC_3 S K hH (vin (by omega) (by omega)) dX3_lookWhereItCameBy_46 ?_
          refine lv_astore (lv' := [(6, .ref (L 14 v5.toNatClampNeg)), (5, .int v5), (0, .ref (L 2 0)), (1, .int h), (2, .ref (L 21 q)), (3, .int v1), (4, .int x4_3)]) S.1 S.2.1 dX3_lookWhereItCameBy_47 hl (by decide) rfl (fun ls hl => ?_)
          refine lv_aload_n S.1 S.2.1 dX3_lookWhereItCameBy_49 rfl (lv_at hl 2 rfl) ?_
          refine lv_iload S.1 S.2.1 dX3_lookWhereItCameBy_50 (lv_at hl 6 rfl) ?_
          refine cW_bpi (cW_V (n := 1) (As := [.int x4_3]) (rest := []) (k := 2) (i := 0) S K hH (by decide) rfl rfl (k_X3_stopOf l D B L A σ_3 τ x4_3 (by omega) hI (by omega)) gX3_lookWhereItCameBy_X3_stopOf rfl hdV_X3_stopOf ⟨Nat.le_of_ble_eq_true rfl, Nat.le_of_ble_eq_true rfl⟩ rfl hl.1 (Nat.le_of_ble_eq_true rfl) dX3_lookWhereItCameBy_52) hS (fun v8 H locs q8 hH hS => ?_)
          refine lv_istore (lv' := [(7, .int v8), (6, .ref (L 14 v5.toNatClampNeg)), (5, .int v5), (0, .ref (L 2 0)), (1, .int h), (2, .ref (L 21 q)), (3, .int v1), (4, .int x4_3)]) S.1 S.2.1 dX3_lookWhereItCameBy_55 hl (by decide) rfl (fun ls hl => ?_)
          have k10 : v8 = nI kS := by rw [(q8).2, hP 6 (by decide)]; exact k5
          have k11 : v8.toNatClampNeg = kS := by rw [k10]; exact (nI_cl (by have := (hN9.2 kC k1).1; omega)).1
          have k12 : v8.toInt = kS := by have z3 := cl_eq (j := v8) (by omega); omega
          refine lv_iconst (v := 1) S.1 S.2.1 dX3_lookWhereItCameBy_57 (by decide) ?_
          refine lv_aload S.1 S.2.1 dX3_lookWhereItCameBy_58 (lv_at hl 1 rfl) ?_
          refine lv_iload S.1 S.2.1 dX3_lookWhereItCameBy_60 (lv_at hl 0 rfl) ?_
          refine lv_iload_n S.1 S.2.1 dX3_lookWhereItCameBy_62 rfl (lv_at hl 4 rfl) ?_
          refine cW_bpi (cW_V (n := 2) (As := [.int v8, .int h]) (rest := [.int 1]) (k := 14) (i := v5.toNatClampNeg) S K hH (cl_lt (n := 12) (by omega) (by omega)) rfl rfl (k_X0_dayOf l D B L A σ_3 τ v5.toNatClampNeg v8 h (cl_lt (n := 12) (by omega) (by omega)) (by omega) (by omega) hI) gX3_lookWhereItCameBy_X0_dayOf rfl hdV_X0_dayOf ⟨Nat.le_of_ble_eq_true rfl, Nat.le_of_ble_eq_true rfl⟩ rfl hl.1 (Nat.le_of_ble_eq_true rfl) dX3_lookWhereItCameBy_63) hS (fun v9 H locs q9 hH hS => ?_)
          have kd := dayW (h := h.toInt) (x := v9) hp3 k1 k2 (by omega) (by have z := (q9).2; rw [hP 22 (by decide), hP 28 (by decide), k9, k11] at z; exact z)
          refine lv_iconst (v := 3) S.1 S.2.1 dX3_lookWhereItCameBy_66 (by decide) ?_
          refine lv_iand S.1 S.2.1 dX3_lookWhereItCameBy_67 ?_
          refine lv_topi (fun v10 e10 => ?_)
          have i10 : 0 ≤ v10.toInt ∧ v10.toInt ≤ (3 : Int32).toInt := i_andr e10 (by omega)
          refine lv_ishl S.1 S.2.1 dX3_lookWhereItCameBy_68 ?_
          refine lv_topi (fun v11 e11 => ?_)
          refine lv_istore (lv' := [(8, .int v11), (7, .int v8), (6, .ref (L 14 v5.toNatClampNeg)), (5, .int v5), (0, .ref (L 2 0)), (1, .int h), (2, .ref (L 21 q)), (3, .int v1), (4, .int x4_3)]) S.1 S.2.1 dX3_lookWhereItCameBy_69 hl (by decide) rfl (fun ls hl => ?_)
          have kr : v11 = b4I v9 := by rw [e11, e10]; rfl
          refine lv_aload_n S.1 S.2.1 dX3_lookWhereItCameBy_71 rfl (lv_at hl 4 rfl) ?_
          refine rC_2_6 S hnX3 K hH (mG wd_87) dX3_lookWhereItCameBy_72 ?_
          refine lv_iload S.1 S.2.1 dX3_lookWhereItCameBy_75 (lv_at hl 3 rfl) ?_
          refine lC_7 S K hH (vin (by omega) (by omega)) dX3_lookWhereItCameBy_77 ?_
          refine lv_topi (fun v12 e12 => ?_)
          have k12 : v12.toInt = v6.toInt := by rw [e12]; rw [← e6]
          have f77 : v12 = σ_3 9 0 kC := by rw [e12, k9]
          refine lv_iload S.1 S.2.1 dX3_lookWhereItCameBy_78 (lv_at hl 0 rfl) ?_
          refine lv_iand S.1 S.2.1 dX3_lookWhereItCameBy_80 ?_
          refine lv_topi (fun v13 e13 => ?_)
          refine lv_if_eq (tgt := 125) S.1 S.2.1 dX3_lookWhereItCameBy_81 (by decide) (fun c14 => ?_) (fun c14 => ?_)
          · have j14 := t_eq c14
            obtain ⟨v15, e15⟩ : ∃ y_9 : Int32, y_9 = x4_3 + 1 := ⟨_, rfl⟩
            have i15 : v15.toInt = x4_3.toInt + 1 := i_addc e15 (by decide) (by omega) (by omega)
            refine lv_iinc (v := v15) (lv' := [(4, .int v15), (8, .int v11), (7, .int v8), (6, .ref (L 14 v5.toNatClampNeg)), (5, .int v5), (0, .ref (L 2 0)), (1, .int h), (2, .ref (L 21 q)), (3, .int v1)]) S.1 S.2.1 dX3_lookWhereItCameBy_125 hl (k := 8) rfl (by rw [e15]; rfl) (by decide) rfl (fun ls hl => ?_)
            refine lv_goto (tgt := 13) S.1 S.2.1 dX3_lookWhereItCameBy_128 (by decide) ?_
            exact ih3 v15 σ_3 _ _ ls (by omega) (by omega) (by rw [i15]; first | exact (gd_w1 hN9 hp4 hz9 ki wb (by omega) k1 k2 k3 wr (f33.symm.trans (by assumption))).1 | exact (gd_w2 hN9 hp4 hz9 hp5 ki wb (by omega) k1 k2 k3 wr kd (by rw [← f77, ← kr, ← e13]; assumption)).1 | exact (gd_w3 hN9 hp4 hz9 hp5 ki wb (by omega) k1 k2 k3 wr kd (by rw [← f77, ← kr, ← e13]; assumption) (Or.inl ⟨by show ¬ kS = 0; omega, by rw [eσ9999, rs_v (by decide)]⟩)).1 | exact (gd_w3 hN9 hp4 hz9 hp5 ki wb (by omega) k1 k2 k3 wr kd (by rw [← f77, ← kr, ← e13]; assumption) (Or.inr ⟨by show kS = 0; omega, by rw [eσ9999, rs_self, eσ9999, rs_v (by decide), k9, e9999, e9999, e9999, kr, eσ9999, rs_v (by decide), k9]⟩)).1) (by rw [i15]; first | exact lt_same wx (gd_w1 hN9 hp4 hz9 ki wb (by omega) k1 k2 k3 wr (f33.symm.trans (by assumption))).2 | exact lt_same wx (gd_w2 hN9 hp4 hz9 hp5 ki wb (by omega) k1 k2 k3 wr kd (by rw [← f77, ← kr, ← e13]; assumption)).2 | exact lt_more hN9 k1 k2 wx (gd_hit hN9 hp4 hz9 hp5 ki wb (by omega) k1 k2 k3 wr kd (by rw [← f77, ← kr, ← e13]; assumption)) (x := v9999) (by omega) (by rw [eσ9999, rs_self, kp]) | exact lt_more hN9 k1 k2 wx (gd_hit hN9 hp4 hz9 hp5 ki wb (by omega) k1 k2 k3 wr kd (by rw [← f77, ← kr, ← e13]; assumption)) (x := v9999) (by omega) (by rw [eσ9999, rs_v (by decide), eσ9999, rs_self, kp])) (by omega) (by omega) (by intro i9 z9; first | exact wo i9 z9 | (rw [eσ9999, rs_i z9]; exact wo i9 z9) | (rw [eσ9999, rs_v (by decide), eσ9999, rs_i z9]; exact wo i9 z9)) hI hP hH hS (lv_sub hl [5, 6, 7, 8, 0] rfl)
          · have j14 := t_neq c14
            refine lv_aload S.1 S.2.1 dX3_lookWhereItCameBy_84 (lv_at hl 2 rfl) ?_
            refine rC_14_6 S hnX0 K hH (cl_lt (n := 12) (by omega) (by omega)) (mG wd_94) dX3_lookWhereItCameBy_86 ?_
            refine lv_iload S.1 S.2.1 dX3_lookWhereItCameBy_89 (lv_at hl 1 rfl) ?_
            refine lC_15 S K hH (cl_lt (n := 12) (by omega) (by omega)) (vin (by omega) (by omega)) dX3_lookWhereItCameBy_91 ?_
            refine lv_topi (fun v16 e16 => ?_)
            have b16 : 0 ≤ v16.toInt ∧ v16.toInt ≤ 11 := by rw [e16]; exact hI.1 27 v5.toNatClampNeg v8.toNatClampNeg
            have f91 : v16.toInt = nP N kC kS := by rw [e16, hP 27 (by decide), k9, k11]; exact ((hp3.2.2 kC k1).2.1 kS k2).1
            refine lv_istore (lv' := [(9, .int v16), (8, .int v11), (7, .int v8), (6, .ref (L 14 v5.toNatClampNeg)), (5, .int v5), (0, .ref (L 2 0)), (1, .int h), (2, .ref (L 21 q)), (3, .int v1), (4, .int x4_3)]) S.1 S.2.1 dX3_lookWhereItCameBy_92 hl (by decide) rfl (fun ls hl => ?_)
            have kp : v16.toNatClampNeg = nP N kC kS := by have z3 := cl_eq (j := v16) (by omega); omega
            refine lv_aload_n S.1 S.2.1 dX3_lookWhereItCameBy_94 rfl (lv_at hl 7 rfl) ?_
            refine lv_iload S.1 S.2.1 dX3_lookWhereItCameBy_95 (lv_at hl 0 rfl) ?_
            refine lv_aload_n S.1 S.2.1 dX3_lookWhereItCameBy_97 rfl (lv_at hl 7 rfl) ?_
            refine lv_iload S.1 S.2.1 dX3_lookWhereItCameBy_98 (lv_at hl 0 rfl) ?_
            refine lC_21 S K hH (show q < 60 by omega) (vin (by omega) (by omega)) dX3_lookWhereItCameBy_100 ?_
            refine lv_topi (fun v17 e17 => ?_)
            have f100 : v17.toInt = (σ_3 43 q (nP N kC kS)).toInt := by rw [e17, kp]
            refine lv_iload_n S.1 S.2.1 dX3_lookWhereItCameBy_101 rfl (lv_at hl 6 rfl) ?_
            refine va_mmax S.1 S.2.1 (by rw [S.2.2.1]; exact hl.1.symm) S.2.2.2.1 (S.2.2.2.2 (.methodLink RX3 116 Lib.Math.max.name) (mG wd_134)) (S.2.2.2.2 (.static Lib.Math.max.name) (mG wd_135)) (S.2.2.2.2 (.initialized "java/lang/Math") (mG wd_41)) (S.2.2.2.2 (.code Lib.Math.max.name Lib.Math.max.code 2 (some .int)) (mG wd_643)) (Nat.le_of_ble_eq_true rfl) (Nat.le_of_ble_eq_true rfl) (Nat.zero_le _) (Nat.zero_le _) dX3_lookWhereItCameBy_102 ?_
            refine lv_topi (fun v18 e18 => ?_)
            have i18 : (v18.toInt = v17.toInt ∨ v18.toInt = h.toInt) ∧ v17.toInt ≤ v18.toInt ∧ h.toInt ≤ v18.toInt := i_mmax e18
            refine sC_21 S K hH hS (show q < 60 by omega) (vin (by omega) (by omega)) dX3_lookWhereItCameBy_105 (fun H locs hH hS => ?_)
            obtain ⟨σ19, eσ19⟩ : ∃ z_9 : QS, z_9 = rs σ_3 43 q (upd (σ_3 43 q) v16.toNatClampNeg v18) := ⟨_, rfl⟩
            rw [← eσ19] at hH
            have hI := InvC_a eσ19 hI (by decide) (any32 _)
            have hP := Keep_w eσ19 hP (by decide)
            refine lv_iload S.1 S.2.1 dX3_lookWhereItCameBy_106 (lv_at hl 2 rfl) ?_
            refine lv_if_ne (tgt := 125) S.1 S.2.1 dX3_lookWhereItCameBy_108 (by decide) (fun c20 => ?_) (fun c20 => ?_)
            · have j20 := t_neq c20
              obtain ⟨v21, e21⟩ : ∃ y_9 : Int32, y_9 = x4_3 + 1 := ⟨_, rfl⟩
              have i21 : v21.toInt = x4_3.toInt + 1 := i_addc e21 (by decide) (by omega) (by omega)
              refine lv_iinc (v := v21) (lv' := [(4, .int v21), (9, .int v16), (8, .int v11), (7, .int v8), (6, .ref (L 14 v5.toNatClampNeg)), (5, .int v5), (0, .ref (L 2 0)), (1, .int h), (2, .ref (L 21 q)), (3, .int v1)]) S.1 S.2.1 dX3_lookWhereItCameBy_125 hl (k := 9) rfl (by rw [e21]; rfl) (by decide) rfl (fun ls hl => ?_)
              refine lv_goto (tgt := 13) S.1 S.2.1 dX3_lookWhereItCameBy_128 (by decide) ?_
              exact ih3 v21 σ19 _ _ ls (by omega) (by omega) (by rw [i21]; first | exact (gd_w1 hN9 hp4 hz9 ki wb (by omega) k1 k2 k3 wr (f33.symm.trans (by assumption))).1 | exact (gd_w2 hN9 hp4 hz9 hp5 ki wb (by omega) k1 k2 k3 wr kd (by rw [← f77, ← kr, ← e13]; assumption)).1 | exact (gd_w3 hN9 hp4 hz9 hp5 ki wb (by omega) k1 k2 k3 wr kd (by rw [← f77, ← kr, ← e13]; assumption) (Or.inl ⟨by show ¬ kS = 0; omega, by rw [eσ19, rs_v (by decide)]⟩)).1 | exact (gd_w3 hN9 hp4 hz9 hp5 ki wb (by omega) k1 k2 k3 wr kd (by rw [← f77, ← kr, ← e13]; assumption) (Or.inr ⟨by show kS = 0; omega, by rw [eσ9999, rs_self, eσ19, rs_v (by decide), k9, e9999, e9999, e9999, kr, eσ19, rs_v (by decide), k9]⟩)).1) (by rw [i21]; first | exact lt_same wx (gd_w1 hN9 hp4 hz9 ki wb (by omega) k1 k2 k3 wr (f33.symm.trans (by assumption))).2 | exact lt_same wx (gd_w2 hN9 hp4 hz9 hp5 ki wb (by omega) k1 k2 k3 wr kd (by rw [← f77, ← kr, ← e13]; assumption)).2 | exact lt_more hN9 k1 k2 wx (gd_hit hN9 hp4 hz9 hp5 ki wb (by omega) k1 k2 k3 wr kd (by rw [← f77, ← kr, ← e13]; assumption)) (x := v18) (by omega) (by rw [eσ19, rs_self, kp]) | exact lt_more hN9 k1 k2 wx (gd_hit hN9 hp4 hz9 hp5 ki wb (by omega) k1 k2 k3 wr kd (by rw [← f77, ← kr, ← e13]; assumption)) (x := v18) (by omega) (by rw [eσ9999, rs_v (by decide), eσ19, rs_self, kp])) (by omega) (by omega) (by intro i9 z9; first | exact wo i9 z9 | (rw [eσ19, rs_i z9]; exact wo i9 z9) | (rw [eσ9999, rs_v (by decide), eσ19, rs_i z9]; exact wo i9 z9)) hI hP hH hS (lv_sub hl [6, 7, 8, 9, 0] rfl)
            · have j20 := t_eq c20
              refine lv_aload_n S.1 S.2.1 dX3_lookWhereItCameBy_111 rfl (lv_at hl 5 rfl) ?_
              refine rC_2_6 S hnX3 K hH (mG wd_87) dX3_lookWhereItCameBy_112 ?_
              refine lv_iload S.1 S.2.1 dX3_lookWhereItCameBy_115 (lv_at hl 4 rfl) ?_
              refine lv_dup2_11 S.1 S.2.1 dX3_lookWhereItCameBy_117 rfl rfl ?_
              refine lC_7 S K hH (vin (by omega) (by omega)) dX3_lookWhereItCameBy_118 ?_
              refine lv_topi (fun v22 e22 => ?_)
              have k22 : v22.toInt = v6.toInt := by rw [e22, eσ19, rs_v (by decide)]; rw [← e6]
              refine lv_iload S.1 S.2.1 dX3_lookWhereItCameBy_119 (lv_at hl 1 rfl) ?_
              refine lv_iconst (v := (-1)) S.1 S.2.1 dX3_lookWhereItCameBy_121 (by decide) ?_
              refine lv_ixor S.1 S.2.1 dX3_lookWhereItCameBy_122 ?_
              refine lv_topi (fun v23 e23 => ?_)
              refine lv_iand S.1 S.2.1 dX3_lookWhereItCameBy_123 ?_
              refine lv_topi (fun v24 e24 => ?_)
              refine sC_7 S K hH hS (vin (by omega) (by omega)) dX3_lookWhereItCameBy_124 (fun H locs hH hS => ?_)
              obtain ⟨σ25, eσ25⟩ : ∃ z_9 : QS, z_9 = rs σ19 9 0 (upd (σ19 9 0) v5.toNatClampNeg v24) := ⟨_, rfl⟩
              rw [← eσ25] at hH
              have hI := InvC_a eσ25 hI (by decide) (any32 _)
              have hP := Keep_w eσ25 hP (by decide)
              obtain ⟨v26, e26⟩ : ∃ y_9 : Int32, y_9 = x4_3 + 1 := ⟨_, rfl⟩
              have i26 : v26.toInt = x4_3.toInt + 1 := i_addc e26 (by decide) (by omega) (by omega)
              refine lv_iinc (v := v26) (lv' := [(4, .int v26), (9, .int v16), (8, .int v11), (7, .int v8), (6, .ref (L 14 v5.toNatClampNeg)), (5, .int v5), (0, .ref (L 2 0)), (1, .int h), (2, .ref (L 21 q)), (3, .int v1)]) S.1 S.2.1 dX3_lookWhereItCameBy_125 hl (k := 9) rfl (by rw [e26]; rfl) (by decide) rfl (fun ls hl => ?_)
              refine lv_goto (tgt := 13) S.1 S.2.1 dX3_lookWhereItCameBy_128 (by decide) ?_
              exact ih3 v26 σ25 _ _ ls (by omega) (by omega) (by rw [i26]; first | exact (gd_w1 hN9 hp4 hz9 ki wb (by omega) k1 k2 k3 wr (f33.symm.trans (by assumption))).1 | exact (gd_w2 hN9 hp4 hz9 hp5 ki wb (by omega) k1 k2 k3 wr kd (by rw [← f77, ← kr, ← e13]; assumption)).1 | exact (gd_w3 hN9 hp4 hz9 hp5 ki wb (by omega) k1 k2 k3 wr kd (by rw [← f77, ← kr, ← e13]; assumption) (Or.inl ⟨by show ¬ kS = 0; omega, by rw [eσ19, rs_v (by decide)]⟩)).1 | exact (gd_w3 hN9 hp4 hz9 hp5 ki wb (by omega) k1 k2 k3 wr kd (by rw [← f77, ← kr, ← e13]; assumption) (Or.inr ⟨by show kS = 0; omega, by rw [eσ25, rs_self, eσ19, rs_v (by decide), k9, e24, e23, e22, kr, eσ19, rs_v (by decide), k9]⟩)).1) (by rw [i26]; first | exact lt_same wx (gd_w1 hN9 hp4 hz9 ki wb (by omega) k1 k2 k3 wr (f33.symm.trans (by assumption))).2 | exact lt_same wx (gd_w2 hN9 hp4 hz9 hp5 ki wb (by omega) k1 k2 k3 wr kd (by rw [← f77, ← kr, ← e13]; assumption)).2 | exact lt_more hN9 k1 k2 wx (gd_hit hN9 hp4 hz9 hp5 ki wb (by omega) k1 k2 k3 wr kd (by rw [← f77, ← kr, ← e13]; assumption)) (x := v18) (by omega) (by rw [eσ19, rs_self, kp]) | exact lt_more hN9 k1 k2 wx (gd_hit hN9 hp4 hz9 hp5 ki wb (by omega) k1 k2 k3 wr kd (by rw [← f77, ← kr, ← e13]; assumption)) (x := v18) (by omega) (by rw [eσ25, rs_v (by decide), eσ19, rs_self, kp])) (by omega) (by omega) (by intro i9 z9; first | exact wo i9 z9 | (rw [eσ19, rs_i z9]; exact wo i9 z9) | (rw [eσ25, rs_v (by decide), eσ19, rs_i z9]; exact wo i9 z9)) hI hP hH hS (lv_sub hl [6, 7, 8, 9, 0] rfl)
        · have j7 := t_eq c7
          refine lv_goto (tgt := 125) S.1 S.2.1 dX3_lookWhereItCameBy_37 (by decide) ?_
          obtain ⟨v27, e27⟩ : ∃ y_9 : Int32, y_9 = x4_3 + 1 := ⟨_, rfl⟩
          have i27 : v27.toInt = x4_3.toInt + 1 := i_addc e27 (by decide) (by omega) (by omega)
          refine lv_iinc (v := v27) (lv' := [(4, .int v27), (5, .int v5), (0, .ref (L 2 0)), (1, .int h), (2, .ref (L 21 q)), (3, .int v1)]) S.1 S.2.1 dX3_lookWhereItCameBy_125 hl (k := 5) rfl (by rw [e27]; rfl) (by decide) rfl (fun ls hl => ?_)
          refine lv_goto (tgt := 13) S.1 S.2.1 dX3_lookWhereItCameBy_128 (by decide) ?_
          exact ih3 v27 σ_3 _ _ ls (by omega) (by omega) (by rw [i27]; first | exact (gd_w1 hN9 hp4 hz9 ki wb (by omega) k1 k2 k3 wr (f33.symm.trans (by assumption))).1 | exact (gd_w2 hN9 hp4 hz9 hp5 ki wb (by omega) k1 k2 k3 wr kd (by rw [← f77, ← kr, ← e13]; assumption)).1 | exact (gd_w3 hN9 hp4 hz9 hp5 ki wb (by omega) k1 k2 k3 wr kd (by rw [← f77, ← kr, ← e13]; assumption) (Or.inl ⟨by show ¬ kS = 0; omega, by rw [eσ19, rs_v (by decide)]⟩)).1 | exact (gd_w3 hN9 hp4 hz9 hp5 ki wb (by omega) k1 k2 k3 wr kd (by rw [← f77, ← kr, ← e13]; assumption) (Or.inr ⟨by show kS = 0; omega, by rw [eσ25, rs_self, eσ19, rs_v (by decide), k9, e24, e23, e22, kr, eσ19, rs_v (by decide), k9]⟩)).1) (by rw [i27]; first | exact lt_same wx (gd_w1 hN9 hp4 hz9 ki wb (by omega) k1 k2 k3 wr (f33.symm.trans (by assumption))).2 | exact lt_same wx (gd_w2 hN9 hp4 hz9 hp5 ki wb (by omega) k1 k2 k3 wr kd (by rw [← f77, ← kr, ← e13]; assumption)).2 | exact lt_more hN9 k1 k2 wx (gd_hit hN9 hp4 hz9 hp5 ki wb (by omega) k1 k2 k3 wr kd (by rw [← f77, ← kr, ← e13]; assumption)) (x := v18) (by omega) (by rw [eσ19, rs_self, kp]) | exact lt_more hN9 k1 k2 wx (gd_hit hN9 hp4 hz9 hp5 ki wb (by omega) k1 k2 k3 wr kd (by rw [← f77, ← kr, ← e13]; assumption)) (x := v18) (by omega) (by rw [eσ25, rs_v (by decide), eσ19, rs_self, kp])) (by omega) (by omega) (by intro i9 z9; first | exact wo i9 z9 | (rw [eσ19, rs_i z9]; exact wo i9 z9) | (rw [eσ25, rs_v (by decide), eσ19, rs_i z9]; exact wo i9 z9)) hI hP hH hS (lv_sub hl [2, 3, 4, 5, 0] rfl)
  exact cut_13_3 _ v2 σ _ _ ls (Nat.lt_succ_self _) (by omega) (by rw [(q2).2]; exact rd_0 hp6) (by rw [(q2).2]; exact ltI_0) (by rw [(q2).2]; exact Int.le_refl _) (by rw [(q2).2, (q1).2]; exact hal_mono hp4 hq9) (by intro i9 z9; rfl) hI hP hH hS (lv_sub hl [2, 3, 4, 1, 0] rfl)
set_option maxHeartbeats 4000000 in
set_option maxRecDepth 100000 in
theorem k_whC_21 (l : Launch) (D : va_G) (B : Nat → ClassId) (L : QL) (A : Nat → Prop) (σ : QS) (τ : Int64) (h : Int32) (w9 : Int32) (q : Nat) (N : Net) (act : Nat → Nat → Prop) (g : Nat) (u : Int) (hp0 : q < 60) (hp1 : 0 ≤ h.toInt ∧ h.toInt ≤ 100000) (hI : InvC σ) (hp3 : RepC σ N) (hp4 : HalC (σ 6 0) (σ 7 0) N) (hp5 : actOk N h.toInt act) (hp6 : ridB N (σ 9 0) act) (hp7 : LatI N w9.toInt g u h.toInt (σ 43 q)) (hp8 : h.toInt ≤ u) : cW cntC gC l D B L A yX3_lookWhatComes wsX3_lookWhatComes 1 22 [.ref (L 2 0), .int h, .int w9, .ref (L 21 q)] σ τ (pV (fun σ' τ' => InvC σ' ∧ Keep [9] σ σ' ∧ τ' = τ ∧ ridB N (σ' 9 0) (fun c d => act c d ∨ (c < nK N ∧ runN N c d ∧ ∃ s, s < nS N c ∧ ((c : Int) ≠ w9.toInt ∧ 0 < s ∧ bwR N w9.toInt g u (nP N c s) h.toInt) ∧ htN N c d s = h.toInt)))) := by
  refine cW_of (cc := cX3_lookWhatComes) (nL := 10) (ret := none) (by decide) rfl (Nat.le_of_ble_eq_true rfl) ?_
  intro p e s m below meth c S hr hk K hH hS ls hl
  have hnX0 : ∀ w ∈ wsX00, w ∈ wsX3_lookWhatComes := fun w h => mG (tX0 w h)
  have hnX3 : ∀ w ∈ wsX30, w ∈ wsX3_lookWhatComes := fun w h => mG (tX3 w h)
  have lm1 : ((-1) : Int32).toInt = -1 := by decide
  have l0 : (0 : Int32).toInt = 0 := by decide
  have l1 : (1 : Int32).toInt = 1 := by decide
  have l3 : (3 : Int32).toInt = 3 := by decide
  have hP : Keep [9] σ σ := Keep_r
  have hN9 := hp3.1
  have hq9 : (h.toInt % 24).toNat < 24 := by omega
  have hm9 : h.toInt % 24 = ((h.toInt % 24).toNat : Int) := by omega
  have hl : lv_has ls 10 [(0, .ref (L 2 0)), (1, .int h), (2, .int w9), (3, .ref (L 21 q))] := hl
  refine lv_aload_n S.1 S.2.1 dX3_lookWhatComes_0 rfl (lv_at hl 0 rfl) ?_
  refine lv_iload_n S.1 S.2.1 dX3_lookWhatComes_1 rfl (lv_at hl 1 rfl) ?_
  refine cW_bpi (cW_V (n := 1) (As := [.int h]) (rest := []) (k := 2) (i := 0) S K hH (by decide) rfl rfl (k_X3_haltsEnd l D B L A σ τ h (by omega) hI) gX3_lookWhatComes_X3_haltsEnd rfl hdV_X3_haltsEnd ⟨Nat.le_of_ble_eq_true rfl, Nat.le_of_ble_eq_true rfl⟩ rfl hl.1 (Nat.le_of_ble_eq_true rfl) dX3_lookWhatComes_2) hS (fun v1 H locs q1 hH hS => ?_)
  refine lv_istore (lv' := [(4, .int v1), (0, .ref (L 2 0)), (1, .int h), (2, .int w9), (3, .ref (L 21 q))]) S.1 S.2.1 dX3_lookWhatComes_5 hl (by decide) rfl (fun ls hl => ?_)
  refine lv_aload_n S.1 S.2.1 dX3_lookWhatComes_7 rfl (lv_at hl 1 rfl) ?_
  refine lv_iload_n S.1 S.2.1 dX3_lookWhatComes_8 rfl (lv_at hl 2 rfl) ?_
  refine cW_bpi (cW_V (n := 1) (As := [.int h]) (rest := []) (k := 2) (i := 0) S K hH (by decide) rfl rfl (k_X3_haltsBegin l D B L A σ τ h (by omega) hI) gX3_lookWhatComes_X3_haltsBegin rfl hdV_X3_haltsBegin ⟨Nat.le_of_ble_eq_true rfl, Nat.le_of_ble_eq_true rfl⟩ rfl hl.1 (Nat.le_of_ble_eq_true rfl) dX3_lookWhatComes_9) hS (fun v2 H locs q2 hH hS => ?_)
  refine lv_istore (lv' := [(5, .int v2), (4, .int v1), (0, .ref (L 2 0)), (1, .int h), (2, .int w9), (3, .ref (L 21 q))]) S.1 S.2.1 dX3_lookWhatComes_12 hl (by decide) rfl (fun ls hl => ?_)
  have cut_14_3 : ∀ (n : Nat) (x5_3 : Int32) (σ_3 : QS) (H : Heap) (locs : List Loc) (ls : Array Slot), (v1.toInt - x5_3.toInt).toNat < n → 0 ≤ x5_3.toInt ∧ x5_3.toInt ≤ 72 → (goI N (σ 6 0) (σ 7 0 (h.toInt % 24).toNat).toInt x5_3.toInt h.toInt act (fun c s => (c : Int) ≠ w9.toInt ∧ 0 < s ∧ bwR N w9.toInt g u (nP N c s) h.toInt) (σ_3 9 0)) → ((σ 7 0 (h.toInt % 24).toNat).toInt ≤ x5_3.toInt) → (x5_3.toInt ≤ v1.toInt) → InvC σ_3 → Keep [9] σ σ_3 → hW cntC gC D B L σ_3 τ H → va_S A s.heap H locs → lv_has ls 10 [(0, .ref (L 2 0)), (1, .int h), (2, .int w9), (3, .ref (L 21 q)), (4, .int v1), (5, .int x5_3)] → W p l e { frames := 1, cells := 0, slots := 0, locals := 22 } s m [.ref (L 2 0), .int h, .int w9, .ref (L 21 q)].toArray below meth c H locs 0 0 (MQ below (QcW cntC gC D B L A (pV (fun σ' τ' => InvC σ' ∧ Keep [9] σ σ' ∧ τ' = τ ∧ ridB N (σ' 9 0) (fun c d => act c d ∨ (c < nK N ∧ runN N c d ∧ ∃ s, s < nS N c ∧ ((c : Int) ≠ w9.toInt ∧ 0 < s ∧ bwR N w9.toInt g u (nP N c s) h.toInt) ∧ htN N c d s = h.toInt))))) [.ref (L 2 0), .int h, .int w9, .ref (L 21 q)].toArray s 0 0 A) (F0 m 14 ls []) := by
    intro n
    induction n with
    | zero => intro x5_3 σ_3 H locs ls hm; exact absurd hm (Nat.not_lt_zero _)
    | succ n ih3 =>
      intro x5_3 σ_3 H locs ls hm3 h3_0 wr wb we hI hP hH hS hl
      have y9 : (σ_3 7 0 24).toInt = (σ 7 0 24).toInt := by rw [hP 7 (by decide)]
      have hPo := hP
      refine lv_iload S.1 S.2.1 dX3_lookWhatComes_14 (lv_at hl 5 rfl) ?_
      refine lv_iload S.1 S.2.1 dX3_lookWhatComes_16 (lv_at hl 4 rfl) ?_
      refine lv_icmp_ge (tgt := 116) S.1 S.2.1 dX3_lookWhatComes_18 (by decide) (fun c4 => ?_) (fun c4 => ?_)
      · have j4 := t_le c4
        refine cW_vret S hr hk hH hS ?_ dX3_lookWhatComes_116
        exact ⟨rfl, hI, hP, rfl, by have h8 : x5_3.toInt = v1.toInt := (by omega); rw [h8, (q1).2] at wr; exact go_end hN9 hp4 hq9 hm9 wr⟩
      · have j4 := t_nle c4
        refine lv_aload_n S.1 S.2.1 dX3_lookWhatComes_21 rfl (lv_at hl 0 rfl) ?_
        refine lv_iload S.1 S.2.1 dX3_lookWhatComes_22 (lv_at hl 5 rfl) ?_
        refine cW_bpi (cW_V (n := 1) (As := [.int x5_3]) (rest := []) (k := 2) (i := 0) S K hH (by decide) rfl rfl (k_X3_cartOf l D B L A σ_3 τ x5_3 (by omega) hI (by omega)) gX3_lookWhatComes_X3_cartOf rfl hdV_X3_cartOf ⟨Nat.le_of_ble_eq_true rfl, Nat.le_of_ble_eq_true rfl⟩ rfl hl.1 (Nat.le_of_ble_eq_true rfl) dX3_lookWhatComes_24) hS (fun v5 H locs q5 hH hS => ?_)
        refine lv_istore (lv' := [(6, .int v5), (0, .ref (L 2 0)), (1, .int h), (2, .int w9), (3, .ref (L 21 q)), (4, .int v1), (5, .int x5_3)]) S.1 S.2.1 dX3_lookWhatComes_27 hl (by decide) rfl (fun ls hl => ?_)
        have ki := cl_eq (j := x5_3) (by omega)
        obtain ⟨kC, kS, k1, k2, k3, k4, k5, k6⟩ := halt_at hN9 hp4 hq9 (i := x5_3.toInt) (k := x5_3.toNatClampNeg) wb (by rw [← (q1).2]; omega) ki
        have k7 : v5 = nI kC := by rw [(q5).2, hP 6 (by decide)]; exact k4
        have k9 : v5.toNatClampNeg = kC := by rw [k7]; exact (nI_cl (by have := hN9.1; omega)).1
        have k8 : v5.toInt = kC := by have z3 := cl_eq (j := v5) (by omega); omega
        refine lv_aload_n S.1 S.2.1 dX3_lookWhatComes_29 rfl (lv_at hl 1 rfl) ?_
        refine lv_iload S.1 S.2.1 dX3_lookWhatComes_30 (lv_at hl 6 rfl) ?_
        refine cW_bpi (cW_V (n := 1) (As := [.int x5_3]) (rest := []) (k := 2) (i := 0) S K hH (by decide) rfl rfl (k_X3_stopOf l D B L A σ_3 τ x5_3 (by omega) hI (by omega)) gX3_lookWhatComes_X3_stopOf rfl hdV_X3_stopOf ⟨Nat.le_of_ble_eq_true rfl, Nat.le_of_ble_eq_true rfl⟩ rfl hl.1 (Nat.le_of_ble_eq_true rfl) dX3_lookWhatComes_32) hS (fun v6 H locs q6 hH hS => ?_)
        refine lv_istore (lv' := [(7, .int v6), (6, .int v5), (0, .ref (L 2 0)), (1, .int h), (2, .int w9), (3, .ref (L 21 q)), (4, .int v1), (5, .int x5_3)]) S.1 S.2.1 dX3_lookWhatComes_35 hl (by decide) rfl (fun ls hl => ?_)
        have k10 : v6 = nI kS := by rw [(q6).2, hP 6 (by decide)]; exact k5
        have k11 : v6.toNatClampNeg = kS := by rw [k10]; exact (nI_cl (by have := (hN9.2 kC k1).1; omega)).1
        have k12 : v6.toInt = kS := by have z3 := cl_eq (j := v6) (by omega); omega
        refine lv_aload_n S.1 S.2.1 dX3_lookWhatComes_37 rfl (lv_at hl 2 rfl) ?_
        refine rC_2_0 S hnX3 K hH (mG wd_81) dX3_lookWhatComes_38 ?_
        refine lv_iload S.1 S.2.1 dX3_lookWhatComes_41 (lv_at hl 1 rfl) ?_
        refine lC_3 S K hH (vin (by omega) (by omega)) dX3_lookWhatComes_43 ?_
        refine lv_astore (lv' := [(8, .ref (L 14 v5.toNatClampNeg)), (7, .int v6), (6, .int v5), (0, .ref (L 2 0)), (1, .int h), (2, .int w9), (3, .ref (L 21 q)), (4, .int v1), (5, .int x5_3)]) S.1 S.2.1 dX3_lookWhatComes_44 hl (by decide) rfl (fun ls hl => ?_)
        refine lv_iload S.1 S.2.1 dX3_lookWhatComes_46 (lv_at hl 2 rfl) ?_
        refine lv_iload_n S.1 S.2.1 dX3_lookWhatComes_48 rfl (lv_at hl 5 rfl) ?_
        refine lv_icmp_eq (tgt := 110) S.1 S.2.1 dX3_lookWhatComes_49 (by decide) (fun c7 => ?_) (fun c7 => ?_)
        · have j7 := t_eq c7
          obtain ⟨v8, e8⟩ : ∃ y_9 : Int32, y_9 = x5_3 + 1 := ⟨_, rfl⟩
          have i8 : v8.toInt = x5_3.toInt + 1 := i_addc e8 (by decide) (by omega) (by omega)
          refine lv_iinc (v := v8) (lv' := [(5, .int v8), (8, .ref (L 14 v5.toNatClampNeg)), (7, .int v6), (6, .int v5), (0, .ref (L 2 0)), (1, .int h), (2, .int w9), (3, .ref (L 21 q)), (4, .int v1)]) S.1 S.2.1 dX3_lookWhatComes_110 hl (k := 8) rfl (by rw [e8]; rfl) (by decide) rfl (fun ls hl => ?_)
          refine lv_goto (tgt := 14) S.1 S.2.1 dX3_lookWhatComes_113 (by decide) ?_
          exact ih3 v8 σ_3 _ _ ls (by omega) (by omega) (by rw [i8]; first | exact go_no hN9 ki wb k1 k2 k3 wr (fun y => absurd y.1 (by omega)) | exact go_no hN9 ki wb k1 k2 k3 wr (fun y => absurd y.2.1 (by omega)) | exact go_no hN9 ki wb k1 k2 k3 wr (fun y => absurd y.2.2 (hb9.mp (by omega))) | exact go_wn hN9 ki wb k1 k2 k3 wr kd (fun z => absurd ((gOn_run hp3 k1).mpr z) ((hg9.resolve_left (fun y => absurd y.1 (by omega))).2)) | exact go_w hN9 ki wb k1 k2 k3 wr kd ⟨by omega, by omega, Classical.byContradiction (fun z => absurd (hb9.mpr z) (by omega))⟩ ((gOn_run hp3 k1).mp ((hg9.resolve_right (fun y => absurd y.1 (by omega))).2.2)) (by rw [eσ9999, rs_self, k9, e9999, e9999, e9999, e9999, k9]; rfl)) (by omega) (by omega) hI hP hH hS (lv_sub hl [4, 5, 6, 7, 8, 0] rfl)
        · have j7 := t_neq c7
          refine lv_iload S.1 S.2.1 dX3_lookWhatComes_52 (lv_at hl 1 rfl) ?_
          refine lv_if_eq (tgt := 110) S.1 S.2.1 dX3_lookWhatComes_54 (by decide) (fun c9 => ?_) (fun c9 => ?_)
          · have j9 := t_eq c9
            obtain ⟨v10, e10⟩ : ∃ y_9 : Int32, y_9 = x5_3 + 1 := ⟨_, rfl⟩
            have i10 : v10.toInt = x5_3.toInt + 1 := i_addc e10 (by decide) (by omega) (by omega)
            refine lv_iinc (v := v10) (lv' := [(5, .int v10), (8, .ref (L 14 v5.toNatClampNeg)), (7, .int v6), (6, .int v5), (0, .ref (L 2 0)), (1, .int h), (2, .int w9), (3, .ref (L 21 q)), (4, .int v1)]) S.1 S.2.1 dX3_lookWhatComes_110 hl (k := 8) rfl (by rw [e10]; rfl) (by decide) rfl (fun ls hl => ?_)
            refine lv_goto (tgt := 14) S.1 S.2.1 dX3_lookWhatComes_113 (by decide) ?_
            exact ih3 v10 σ_3 _ _ ls (by omega) (by omega) (by rw [i10]; first | exact go_no hN9 ki wb k1 k2 k3 wr (fun y => absurd y.1 (by omega)) | exact go_no hN9 ki wb k1 k2 k3 wr (fun y => absurd y.2.1 (by omega)) | exact go_no hN9 ki wb k1 k2 k3 wr (fun y => absurd y.2.2 (hb9.mp (by omega))) | exact go_wn hN9 ki wb k1 k2 k3 wr kd (fun z => absurd ((gOn_run hp3 k1).mpr z) ((hg9.resolve_left (fun y => absurd y.1 (by omega))).2)) | exact go_w hN9 ki wb k1 k2 k3 wr kd ⟨by omega, by omega, Classical.byContradiction (fun z => absurd (hb9.mpr z) (by omega))⟩ ((gOn_run hp3 k1).mp ((hg9.resolve_right (fun y => absurd y.1 (by omega))).2.2)) (by rw [eσ9999, rs_self, k9, e9999, e9999, e9999, e9999, k9]; rfl)) (by omega) (by omega) hI hP hH hS (lv_sub hl [4, 5, 6, 7, 8, 0] rfl)
          · have j9 := t_neq c9
            refine lv_aload_n S.1 S.2.1 dX3_lookWhatComes_57 rfl (lv_at hl 6 rfl) ?_
            refine lv_aload S.1 S.2.1 dX3_lookWhatComes_58 (lv_at hl 0 rfl) ?_
            refine rC_14_6 S hnX0 K hH (cl_lt (n := 12) (by omega) (by omega)) (mG wd_94) dX3_lookWhatComes_60 ?_
            refine lv_iload S.1 S.2.1 dX3_lookWhatComes_63 (lv_at hl 1 rfl) ?_
            refine lC_15 S K hH (cl_lt (n := 12) (by omega) (by omega)) (vin (by omega) (by omega)) dX3_lookWhatComes_65 ?_
            refine lv_topi (fun v11 e11 => ?_)
            have b11 : 0 ≤ v11.toInt ∧ v11.toInt ≤ 11 := by rw [e11]; exact hI.1 27 v5.toNatClampNeg v6.toNatClampNeg
            have f65 : v11.toInt = nP N kC kS := by rw [e11, hP 27 (by decide), k9, k11]; exact ((hp3.2.2 kC k1).2.1 kS k2).1
            have kp : v11.toNatClampNeg = nP N kC kS := by have z3 := cl_eq (j := v11) (by omega); omega
            refine lC_21 S K hH (show q < 60 by omega) (vin (by omega) (by omega)) dX3_lookWhatComes_66 ?_
            refine lv_topi (fun v12 e12 => ?_)
            have hb9 := la_none (h := h.toInt) (p := nP N kC kS) hp7 (by omega) hp8 (((hN9.2 kC k1).2.2.2.1) kS k2).1
            have f66 : v12.toInt = (σ 43 q (nP N kC kS)).toInt := by rw [e12, hP 43 (by decide), kp]
            refine lv_iconst (v := (-1)) S.1 S.2.1 dX3_lookWhatComes_67 (by decide) ?_
            refine lv_icmp_ne (tgt := 74) S.1 S.2.1 dX3_lookWhatComes_68 (by decide) (fun c13 => ?_) (fun c13 => ?_)
            · have j13 := t_neq c13
              refine lv_aload S.1 S.2.1 dX3_lookWhatComes_74 (lv_at hl 0 rfl) ?_
              refine lv_iload S.1 S.2.1 dX3_lookWhatComes_76 (lv_at hl 1 rfl) ?_
              refine lv_iload_n S.1 S.2.1 dX3_lookWhatComes_78 rfl (lv_at hl 4 rfl) ?_
              refine cW_bpi (cW_V (n := 2) (As := [.int v6, .int h]) (rest := []) (k := 14) (i := v5.toNatClampNeg) S K hH (cl_lt (n := 12) (by omega) (by omega)) rfl rfl (k_X0_dayOf l D B L A σ_3 τ v5.toNatClampNeg v6 h (cl_lt (n := 12) (by omega) (by omega)) (by omega) (by omega) hI) gX3_lookWhatComes_X0_dayOf rfl hdV_X0_dayOf ⟨Nat.le_of_ble_eq_true rfl, Nat.le_of_ble_eq_true rfl⟩ rfl hl.1 (Nat.le_of_ble_eq_true rfl) dX3_lookWhatComes_79) hS (fun v14 H locs q14 hH hS => ?_)
              have kd := dayW (h := h.toInt) (x := v14) hp3 k1 k2 (by omega) (by have z := (q14).2; rw [hP 22 (by decide), hP 28 (by decide), k9, k11] at z; exact z)
              refine lv_istore (lv' := [(9, .int v14), (8, .ref (L 14 v5.toNatClampNeg)), (7, .int v6), (6, .int v5), (0, .ref (L 2 0)), (1, .int h), (2, .int w9), (3, .ref (L 21 q)), (4, .int v1), (5, .int x5_3)]) S.1 S.2.1 dX3_lookWhatComes_82 hl (by decide) rfl (fun ls hl => ?_)
              refine lv_aload S.1 S.2.1 dX3_lookWhatComes_84 (lv_at hl 1 rfl) ?_
              refine lv_iload S.1 S.2.1 dX3_lookWhatComes_86 (lv_at hl 0 rfl) ?_
              refine cW_bpi (cW_V (n := 1) (As := [.int v14]) (rest := []) (k := 14) (i := v5.toNatClampNeg) S K hH (cl_lt (n := 12) (by omega) (by omega)) rfl rfl (k_X0_goesOn l D B L A σ_3 τ v5.toNatClampNeg v14 (cl_lt (n := 12) (by omega) (by omega))) gX3_lookWhatComes_X0_goesOn rfl hdV_X0_goesOn ⟨Nat.le_of_ble_eq_true rfl, Nat.le_of_ble_eq_true rfl⟩ rfl hl.1 (Nat.le_of_ble_eq_true rfl) dX3_lookWhatComes_88) hS (fun v15 H locs q15 hH hS => ?_)
              have hg9 := q15
              rw [hP 21 (by decide), hP 29 (by decide), k9] at hg9
              refine lv_if_eq (tgt := 110) S.1 S.2.1 dX3_lookWhatComes_91 (by decide) (fun c16 => ?_) (fun c16 => ?_)
              · have j16 := t_eq c16
                obtain ⟨v17, e17⟩ : ∃ y_9 : Int32, y_9 = x5_3 + 1 := ⟨_, rfl⟩
                have i17 : v17.toInt = x5_3.toInt + 1 := i_addc e17 (by decide) (by omega) (by omega)
                refine lv_iinc (v := v17) (lv' := [(5, .int v17), (9, .int v14), (8, .ref (L 14 v5.toNatClampNeg)), (7, .int v6), (6, .int v5), (0, .ref (L 2 0)), (1, .int h), (2, .int w9), (3, .ref (L 21 q)), (4, .int v1)]) S.1 S.2.1 dX3_lookWhatComes_110 hl (k := 9) rfl (by rw [e17]; rfl) (by decide) rfl (fun ls hl => ?_)
                refine lv_goto (tgt := 14) S.1 S.2.1 dX3_lookWhatComes_113 (by decide) ?_
                exact ih3 v17 σ_3 _ _ ls (by omega) (by omega) (by rw [i17]; first | exact go_no hN9 ki wb k1 k2 k3 wr (fun y => absurd y.1 (by omega)) | exact go_no hN9 ki wb k1 k2 k3 wr (fun y => absurd y.2.1 (by omega)) | exact go_no hN9 ki wb k1 k2 k3 wr (fun y => absurd y.2.2 (hb9.mp (by omega))) | exact go_wn hN9 ki wb k1 k2 k3 wr kd (fun z => absurd ((gOn_run hp3 k1).mpr z) ((hg9.resolve_left (fun y => absurd y.1 (by omega))).2)) | exact go_w hN9 ki wb k1 k2 k3 wr kd ⟨by omega, by omega, Classical.byContradiction (fun z => absurd (hb9.mpr z) (by omega))⟩ ((gOn_run hp3 k1).mp ((hg9.resolve_right (fun y => absurd y.1 (by omega))).2.2)) (by rw [eσ9999, rs_self, k9, e9999, e9999, e9999, e9999, k9]; rfl)) (by omega) (by omega) hI hP hH hS (lv_sub hl [5, 6, 7, 8, 9, 0] rfl)
              · have j16 := t_neq c16
                refine lv_aload_n S.1 S.2.1 dX3_lookWhatComes_94 rfl (lv_at hl 4 rfl) ?_
                refine rC_2_6 S hnX3 K hH (mG wd_87) dX3_lookWhatComes_95 ?_
                refine lv_iload S.1 S.2.1 dX3_lookWhatComes_98 (lv_at hl 3 rfl) ?_
                refine lv_dup2_11 S.1 S.2.1 dX3_lookWhatComes_100 rfl rfl ?_
                refine lC_7 S K hH (vin (by omega) (by omega)) dX3_lookWhatComes_101 ?_
                refine lv_topi (fun v18 e18 => ?_)
                refine lv_iconst (v := 1) S.1 S.2.1 dX3_lookWhatComes_102 (by decide) ?_
                refine lv_iload S.1 S.2.1 dX3_lookWhatComes_103 (lv_at hl 0 rfl) ?_
                refine lv_iconst (v := 3) S.1 S.2.1 dX3_lookWhatComes_105 (by decide) ?_
                refine lv_iand S.1 S.2.1 dX3_lookWhatComes_106 ?_
                refine lv_topi (fun v19 e19 => ?_)
                have i19 : 0 ≤ v19.toInt ∧ v19.toInt ≤ (3 : Int32).toInt := i_andr e19 (by omega)
                refine lv_ishl S.1 S.2.1 dX3_lookWhatComes_107 ?_
                refine lv_topi (fun v20 e20 => ?_)
                refine lv_ior S.1 S.2.1 dX3_lookWhatComes_108 ?_
                refine lv_topi (fun v21 e21 => ?_)
                refine sC_7 S K hH hS (vin (by omega) (by omega)) dX3_lookWhatComes_109 (fun H locs hH hS => ?_)
                obtain ⟨σ22, eσ22⟩ : ∃ z_9 : QS, z_9 = rs σ_3 9 0 (upd (σ_3 9 0) v5.toNatClampNeg v21) := ⟨_, rfl⟩
                rw [← eσ22] at hH
                have hI := InvC_a eσ22 hI (by decide) (any32 _)
                have hP := Keep_w eσ22 hP (by decide)
                obtain ⟨v23, e23⟩ : ∃ y_9 : Int32, y_9 = x5_3 + 1 := ⟨_, rfl⟩
                have i23 : v23.toInt = x5_3.toInt + 1 := i_addc e23 (by decide) (by omega) (by omega)
                refine lv_iinc (v := v23) (lv' := [(5, .int v23), (9, .int v14), (8, .ref (L 14 v5.toNatClampNeg)), (7, .int v6), (6, .int v5), (0, .ref (L 2 0)), (1, .int h), (2, .int w9), (3, .ref (L 21 q)), (4, .int v1)]) S.1 S.2.1 dX3_lookWhatComes_110 hl (k := 9) rfl (by rw [e23]; rfl) (by decide) rfl (fun ls hl => ?_)
                refine lv_goto (tgt := 14) S.1 S.2.1 dX3_lookWhatComes_113 (by decide) ?_
                exact ih3 v23 σ22 _ _ ls (by omega) (by omega) (by rw [i23]; first | exact go_no hN9 ki wb k1 k2 k3 wr (fun y => absurd y.1 (by omega)) | exact go_no hN9 ki wb k1 k2 k3 wr (fun y => absurd y.2.1 (by omega)) | exact go_no hN9 ki wb k1 k2 k3 wr (fun y => absurd y.2.2 (hb9.mp (by omega))) | exact go_wn hN9 ki wb k1 k2 k3 wr kd (fun z => absurd ((gOn_run hp3 k1).mpr z) ((hg9.resolve_left (fun y => absurd y.1 (by omega))).2)) | exact go_w hN9 ki wb k1 k2 k3 wr kd ⟨by omega, by omega, Classical.byContradiction (fun z => absurd (hb9.mpr z) (by omega))⟩ ((gOn_run hp3 k1).mp ((hg9.resolve_right (fun y => absurd y.1 (by omega))).2.2)) (by rw [eσ22, rs_self, k9, e21, e20, e19, e18, k9]; rfl)) (by omega) (by omega) hI hP hH hS (lv_sub hl [5, 6, 7, 8, 9, 0] rfl)
            · have j13 := t_eq c13
              refine lv_goto (tgt := 110) S.1 S.2.1 dX3_lookWhatComes_71 (by decide) ?_
              obtain ⟨v24, e24⟩ : ∃ y_9 : Int32, y_9 = x5_3 + 1 := ⟨_, rfl⟩
              have i24 : v24.toInt = x5_3.toInt + 1 := i_addc e24 (by decide) (by omega) (by omega)
              refine lv_iinc (v := v24) (lv' := [(5, .int v24), (8, .ref (L 14 v5.toNatClampNeg)), (7, .int v6), (6, .int v5), (0, .ref (L 2 0)), (1, .int h), (2, .int w9), (3, .ref (L 21 q)), (4, .int v1)]) S.1 S.2.1 dX3_lookWhatComes_110 hl (k := 8) rfl (by rw [e24]; rfl) (by decide) rfl (fun ls hl => ?_)
              refine lv_goto (tgt := 14) S.1 S.2.1 dX3_lookWhatComes_113 (by decide) ?_
              exact ih3 v24 σ_3 _ _ ls (by omega) (by omega) (by rw [i24]; first | exact go_no hN9 ki wb k1 k2 k3 wr (fun y => absurd y.1 (by omega)) | exact go_no hN9 ki wb k1 k2 k3 wr (fun y => absurd y.2.1 (by omega)) | exact go_no hN9 ki wb k1 k2 k3 wr (fun y => absurd y.2.2 (hb9.mp (by omega))) | exact go_wn hN9 ki wb k1 k2 k3 wr kd (fun z => absurd ((gOn_run hp3 k1).mpr z) ((hg9.resolve_left (fun y => absurd y.1 (by omega))).2)) | exact go_w hN9 ki wb k1 k2 k3 wr kd ⟨by omega, by omega, Classical.byContradiction (fun z => absurd (hb9.mpr z) (by omega))⟩ ((gOn_run hp3 k1).mp ((hg9.resolve_right (fun y => absurd y.1 (by omega))).2.2)) (by rw [eσ22, rs_self, k9, e21, e20, e19, e18, k9]; rfl)) (by omega) (by omega) hI hP hH hS (lv_sub hl [4, 5, 6, 7, 8, 0] rfl)
  exact cut_14_3 _ v2 σ _ _ ls (Nat.lt_succ_self _) (by omega) (by rw [(q2).2]; exact go_0 hp6) (by rw [(q2).2]; exact Int.le_refl _) (by rw [(q2).2, (q1).2]; exact hal_mono hp4 hq9) hI hP hH hS (lv_sub hl [2, 3, 4, 5, 1, 0] rfl)
set_option maxHeartbeats 4000000 in
set_option maxRecDepth 100000 in
theorem k_fiL_21 (l : Launch) (D : va_G) (B : Nat → ClassId) (L : QL) (A : Nat → Prop) (σ : QS) (τ : Int64) (to : Int32) (a : Int32) (b : Int32) (w9 : Int32) (q : Nat) (N : Net) (hp0 : q < 60) (hp1 : 0 ≤ to.toInt ∧ to.toInt ≤ 11) (hp2 : 0 ≤ a.toInt ∧ a.toInt ≤ 100000) (hp3 : -1 ≤ b.toInt ∧ b.toInt ≤ 100000) (hI : InvC σ) (hp5 : RepC σ N) (hp6 : HalC (σ 6 0) (σ 7 0) N) : cW cntC gC l D B L A yX3_findLatest wsX3_findLatest 2 51 [.ref (L 2 0), .int to, .int a, .int b, .int w9, .ref (L 21 q)] σ τ (pV (fun σ' τ' => InvC σ' ∧ Keep [9, 43] σ σ' ∧ τ' = τ ∧ ((a.toInt ≤ b.toInt + 1 → LatI N w9.toInt to.toNatClampNeg b.toInt a.toInt (σ' 43 q)) ∧ ∀ i9 : Nat, i9 ≠ q → σ' 43 i9 = σ 43 i9))) := by
  refine cW_of (cc := cX3_findLatest) (nL := 7) (ret := none) (by decide) rfl (Nat.le_of_ble_eq_true rfl) ?_
  intro p e s m below meth c S hr hk K hH hS ls hl
  have hnX0 : ∀ w ∈ wsX00, w ∈ wsX3_findLatest := fun w h => mG (tX0 w h)
  have hnX3 : ∀ w ∈ wsX30, w ∈ wsX3_findLatest := fun w h => mG (tX3 w h)
  have lm1 : ((-1) : Int32).toInt = -1 := by decide
  have l0 : (0 : Int32).toInt = 0 := by decide
  have hP : Keep [9, 43] σ σ := Keep_r
  have hN9 := hp5.1
  have hf9 := cl_eq (j := to) (by omega)
  have hl : lv_has ls 7 [(0, .ref (L 2 0)), (1, .int to), (2, .int a), (3, .int b), (4, .int w9), (5, .ref (L 21 q))] := hl
  refine lv_aload_n S.1 S.2.1 dX3_findLatest_0 rfl (lv_at hl 0 rfl) ?_
  refine rC_2_6 S hnX3 K hH (mG wd_87) dX3_findLatest_1 ?_
  refine lv_iconst (v := 0) S.1 S.2.1 dX3_findLatest_4 (by decide) ?_
  refine cW_bv (cW_S (n := 2) (As := [.ref (L 7 0), .int 0]) (rest := []) S K hH (k_fill_7 l D B L A σ τ 0 hI) gX3_findLatest_J7_fill_53178 rfl hdS_J7_fill_53178 ⟨Nat.le_of_ble_eq_true rfl, Nat.le_of_ble_eq_true rfl⟩ rfl hl.1 (Nat.le_of_ble_eq_true rfl) dX3_findLatest_5) hS (fun σ1 τ1 H locs q1 hH hS => ?_)
  obtain ⟨hI, hP1, hτ1, q1⟩ := q1
  rw [hτ1] at hH
  have hP := Keep_t hP hP1 (by decide)
  refine lv_aload S.1 S.2.1 dX3_findLatest_8 (lv_at hl 5 rfl) ?_
  refine lv_iconst (v := (-1)) S.1 S.2.1 dX3_findLatest_10 (by decide) ?_
  refine cW_bv (cW_S (n := 2) (As := [.ref (L 21 q), .int (-1)]) (rest := []) S K hH (k_fill_21 l D B L A σ1 τ q (-1) (show q < 60 by omega) hI) gX3_findLatest_J7_fill_53178 rfl hdS_J7_fill_53178 ⟨Nat.le_of_ble_eq_true rfl, Nat.le_of_ble_eq_true rfl⟩ rfl hl.1 (Nat.le_of_ble_eq_true rfl) dX3_findLatest_11) hS (fun σ2 τ2 H locs q2 hH hS => ?_)
  obtain ⟨hI, hP2, hτ2, q2⟩ := q2
  rw [hτ2] at hH
  have hP := Keep_t hP hP2 (by decide)
  refine lv_aload S.1 S.2.1 dX3_findLatest_14 (lv_at hl 5 rfl) ?_
  refine lv_iload_n S.1 S.2.1 dX3_findLatest_16 rfl (lv_at hl 1 rfl) ?_
  refine lv_iload_n S.1 S.2.1 dX3_findLatest_17 rfl (lv_at hl 3 rfl) ?_
  refine sC_21 S K hH hS (show q < 60 by omega) (vin (by omega) (by omega)) dX3_findLatest_18 (fun H locs hH hS => ?_)
  obtain ⟨σ3, eσ3⟩ : ∃ z_9 : QS, z_9 = rs σ2 43 q (upd (σ2 43 q) to.toNatClampNeg b) := ⟨_, rfl⟩
  rw [← eσ3] at hH
  have hI := InvC_a eσ3 hI (by decide) (any32 _)
  have hP := Keep_w eσ3 hP (by decide)
  refine lv_iload_n S.1 S.2.1 dX3_findLatest_19 rfl (lv_at hl 3 rfl) ?_
  refine lv_istore (lv' := [(6, .int b), (0, .ref (L 2 0)), (1, .int to), (2, .int a), (3, .int b), (4, .int w9), (5, .ref (L 21 q))]) S.1 S.2.1 dX3_findLatest_20 hl (by decide) rfl (fun ls hl => ?_)
  have cut_22_4 : ∀ (n : Nat) (x6_4 : Int32) (σ_4 : QS) (H : Heap) (locs : List Loc) (ls : Array Slot), (x6_4.toInt + 1).toNat < n → -1 ≤ x6_4.toInt ∧ x6_4.toInt ≤ 100000 → (ridB N (σ_4 9 0) (actB N w9.toInt to.toNatClampNeg b.toInt (x6_4.toInt + 1))) → (LatI N w9.toInt to.toNatClampNeg b.toInt (x6_4.toInt + 1) (σ_4 43 q)) → (x6_4.toInt ≤ b.toInt) → ((a.toInt ≤ x6_4.toInt + 1 ∨ b.toInt + 1 < a.toInt)) → (∀ i9 : Nat, i9 ≠ q → σ_4 43 i9 = σ 43 i9) → InvC σ_4 → Keep [9, 43] σ σ_4 → hW cntC gC D B L σ_4 τ H → va_S A s.heap H locs → lv_has ls 7 [(0, .ref (L 2 0)), (2, .int a), (4, .int w9), (5, .ref (L 21 q)), (6, .int x6_4)] → W p l e { frames := 2, cells := 0, slots := 0, locals := 51 } s m [.ref (L 2 0), .int to, .int a, .int b, .int w9, .ref (L 21 q)].toArray below meth c H locs 0 0 (MQ below (QcW cntC gC D B L A (pV (fun σ' τ' => InvC σ' ∧ Keep [9, 43] σ σ' ∧ τ' = τ ∧ ((a.toInt ≤ b.toInt + 1 → LatI N w9.toInt to.toNatClampNeg b.toInt a.toInt (σ' 43 q)) ∧ ∀ i9 : Nat, i9 ≠ q → σ' 43 i9 = σ 43 i9)))) [.ref (L 2 0), .int to, .int a, .int b, .int w9, .ref (L 21 q)].toArray s 0 0 A) (F0 m 22 ls []) := by
    intro n
    induction n with
    | zero => intro x6_4 σ_4 H locs ls hm; exact absurd hm (Nat.not_lt_zero _)
    | succ n ih4 =>
      intro x6_4 σ_4 H locs ls hm4 h4_0 wr wl we wm wo hI hP hH hS hl
      refine lv_iload S.1 S.2.1 dX3_findLatest_22 (lv_at hl 4 rfl) ?_
      refine lv_iload_n S.1 S.2.1 dX3_findLatest_24 rfl (lv_at hl 1 rfl) ?_
      refine lv_icmp_lt (tgt := 52) S.1 S.2.1 dX3_findLatest_25 (by decide) (fun c5 => ?_) (fun c5 => ?_)
      · have j5 := t_lt c5
        refine cW_vret S hr hk hH hS ?_ dX3_findLatest_52
        exact ⟨rfl, hI, hP, rfl, by refine ⟨?_, wo⟩; intro h9; have h8 : x6_4.toInt + 1 = a.toInt := (by omega); rw [h8] at wl; exact wl⟩
      · have j5 := t_nlt c5
        refine lv_aload_n S.1 S.2.1 dX3_findLatest_28 rfl (lv_at hl 0 rfl) ?_
        refine lv_iload S.1 S.2.1 dX3_findLatest_29 (lv_at hl 4 rfl) ?_
        refine lv_aload S.1 S.2.1 dX3_findLatest_31 (lv_at hl 3 rfl) ?_
        refine cW_bv (cW_V (n := 2) (As := [.int x6_4, .ref (L 21 q)]) (rest := []) (k := 2) (i := 0) S K hH (by decide) rfl rfl (k_byC_21 l D B L A σ_4 τ x6_4 q (N) (actB N w9.toInt to.toNatClampNeg b.toInt (x6_4.toInt + 1)) (show q < 60 by omega) (by omega) hI (RepC_k hp5 hP (by decide)) (by rw [hP 6 (by decide), hP 7 (by decide)]; exact hp6) (ba_ok hN9) (wr)) gX3_findLatest_X3_lookWhereItCameBy rfl hdV_X3_lookWhereItCameBy ⟨Nat.le_of_ble_eq_true rfl, Nat.le_of_ble_eq_true rfl⟩ rfl hl.1 (Nat.le_of_ble_eq_true rfl) dX3_findLatest_33) hS (fun σ6 τ6 H locs q6 hH hS => ?_)
        obtain ⟨hI, hP6, hτ6, q6⟩ := q6
        rw [hτ6] at hH
        have hP := Keep_t hP hP6 (by decide)
        refine lv_aload_n S.1 S.2.1 dX3_findLatest_36 rfl (lv_at hl 0 rfl) ?_
        refine lv_iload S.1 S.2.1 dX3_findLatest_37 (lv_at hl 4 rfl) ?_
        refine lv_iload S.1 S.2.1 dX3_findLatest_39 (lv_at hl 2 rfl) ?_
        refine lv_aload S.1 S.2.1 dX3_findLatest_41 (lv_at hl 3 rfl) ?_
        refine cW_bv (cW_V (n := 3) (As := [.int x6_4, .int w9, .ref (L 21 q)]) (rest := []) (k := 2) (i := 0) S K hH (by decide) rfl rfl (k_whC_21 l D B L A σ6 τ x6_4 w9 q (N) (fun c d => actB N w9.toInt to.toNatClampNeg b.toInt (x6_4.toInt + 1) c d ∧ htN N c d 0 ≠ x6_4.toInt) (to.toNatClampNeg) (b.toInt) (show q < 60 by omega) (by omega) hI (RepC_k hp5 hP (by decide)) (by rw [hP 6 (by decide), hP 7 (by decide)]; exact hp6) (fun c d a => ba_ok hN9 c d a.1) ((q6).1) (la_by2 hN9 (by omega) (by omega) we wl (q6).2.1) (we)) gX3_findLatest_X3_lookWhatComes rfl hdV_X3_lookWhatComes ⟨Nat.le_of_ble_eq_true rfl, Nat.le_of_ble_eq_true rfl⟩ rfl hl.1 (Nat.le_of_ble_eq_true rfl) dX3_findLatest_43) hS (fun σ7 τ7 H locs q7 hH hS => ?_)
        obtain ⟨hI, hP7, hτ7, q7⟩ := q7
        rw [hτ7] at hH
        have hP := Keep_t hP hP7 (by decide)
        obtain ⟨v8, e8⟩ : ∃ y_9 : Int32, y_9 = x6_4 + (-1) := ⟨_, rfl⟩
        have i8 : v8.toInt = x6_4.toInt + (-1) := i_addc e8 (by decide) (by omega) (by omega)
        refine lv_iinc (v := v8) (lv' := [(6, .int v8), (0, .ref (L 2 0)), (2, .int a), (4, .int w9), (5, .ref (L 21 q))]) S.1 S.2.1 dX3_findLatest_46 hl (k := 4) rfl (by rw [e8]; rfl) (by decide) rfl (fun ls hl => ?_)
        refine lv_goto (tgt := 22) S.1 S.2.1 dX3_findLatest_49 (by decide) ?_
        exact ih4 v8 σ7 _ _ ls (by omega) (by omega) (by rw [show v8.toInt + 1 = (x6_4).toInt by omega]; exact ba_on hN9 q7) (by rw [show v8.toInt + 1 = (x6_4).toInt by omega, hP7 43 (by decide)]; exact la_by2 hN9 (by omega) (by omega) we wl (q6).2.1) (by omega) (by omega) (by intro i9 z9; rw [hP7 43 (by decide), (q6).2.2 i9 z9]; exact wo i9 z9) hI hP hH hS (lv_sub hl [1, 2, 3, 4, 0] rfl)
  exact cut_22_4 _ b σ3 _ _ ls (Nat.lt_succ_self _) (by omega) (by rw [eσ3, rs_v (by decide), hP2 9 (by decide)]; exact ba_rid0 hN9 q1) (by exact la_fin hN9 (by rw [eσ3, rs_self]) (by decide) (q2).1) (by omega) (by omega) (by intro i9 z9; rw [eσ3, rs_i z9, (q2).2 i9 z9, hP1 43 (by decide)]) hI hP hH hS (lv_sub hl [1, 3, 5, 6, 0] rfl)
set_option maxHeartbeats 4000000 in
set_option maxRecDepth 100000 in
theorem k_X3_startsFor (l : Launch) (D : va_G) (B : Nat → ClassId) (L : QL) (A : Nat → Prop) (σ : QS) (τ : Int64) (to : Int32) (h : Int32) (w9 : Int32) (N : Net) (hp0 : 0 ≤ to.toInt ∧ to.toInt ≤ 11) (hp1 : 0 ≤ h.toInt ∧ h.toInt ≤ 6000) (hI : InvC σ) (hp3 : RepC σ N) (hp4 : HalC (σ 6 0) (σ 7 0) N) : cW cntC gC l D B L A yX3_startsFor wsX3_startsFor 3 77 [.ref (L 2 0), .int to, .int h, .int w9] σ τ (pI (fun x σ' τ' => InvC σ' ∧ Keep [9, 10] σ σ' ∧ τ' = τ ∧ (rchB x (fun p => bwR N w9.toInt to.toNatClampNeg (h.toInt + 336) p h.toInt) ∧ b12 x))) := by
  refine cW_of (cc := cX3_startsFor) (nL := 6) (ret := (some .int)) (by decide) rfl (Nat.le_of_ble_eq_true rfl) ?_
  intro p e s m below meth c S hr hk K hH hS ls hl
  have hnX0 : ∀ w ∈ wsX00, w ∈ wsX3_startsFor := fun w h => mG (tX0 w h)
  have hnX3 : ∀ w ∈ wsX30, w ∈ wsX3_startsFor := fun w h => mG (tX3 w h)
  have lm1 : ((-1) : Int32).toInt = -1 := by decide
  have l0 : (0 : Int32).toInt = 0 := by decide
  have l1 : (1 : Int32).toInt = 1 := by decide
  have l12 : (12 : Int32).toInt = 12 := by decide
  have l336 : (336 : Int32).toInt = 336 := by decide
  have hP : Keep [9, 10] σ σ := Keep_r
  have hl : lv_has ls 6 [(0, .ref (L 2 0)), (1, .int to), (2, .int h), (3, .int w9)] := hl
  refine lv_aload_n S.1 S.2.1 dX3_startsFor_0 rfl (lv_at hl 0 rfl) ?_
  refine lv_iload_n S.1 S.2.1 dX3_startsFor_1 rfl (lv_at hl 1 rfl) ?_
  refine lv_iload_n S.1 S.2.1 dX3_startsFor_2 rfl (lv_at hl 2 rfl) ?_
  refine lv_iload_n S.1 S.2.1 dX3_startsFor_3 rfl (lv_at hl 2 rfl) ?_
  refine lv_sipush (v := 336) S.1 S.2.1 dX3_startsFor_4 (by decide) ?_
  refine lv_iadd S.1 S.2.1 dX3_startsFor_7 ?_
  refine lv_topi (fun v1 e1 => ?_)
  have i1 : v1.toInt = h.toInt + (336 : Int32).toInt := i_add e1 (by omega) (by omega)
  refine lv_iload_n S.1 S.2.1 dX3_startsFor_8 rfl (lv_at hl 3 rfl) ?_
  refine lv_aload_n S.1 S.2.1 dX3_startsFor_9 rfl (lv_at hl 0 rfl) ?_
  refine rC_2_7 S hnX3 K hH (mG wd_88) dX3_startsFor_10 ?_
  refine cW_bv (cW_V (n := 5) (As := [.int to, .int h, .int v1, .int w9, .ref (L 8 0)]) (rest := []) (k := 2) (i := 0) S K hH (by decide) rfl rfl (k_fiL_8 l D B L A σ τ to h v1 w9 (N) (by omega) (by omega) (by omega) hI (hp3) (hp4)) gX3_startsFor_X3_findLatest rfl hdV_X3_findLatest ⟨Nat.le_of_ble_eq_true rfl, Nat.le_of_ble_eq_true rfl⟩ rfl hl.1 (Nat.le_of_ble_eq_true rfl) dX3_startsFor_13) hS (fun σ2 τ2 H locs q2 hH hS => ?_)
  obtain ⟨hI, hP2, hτ2, q2⟩ := q2
  rw [hτ2] at hH
  have hP := Keep_t hP hP2 (by decide)
  have hl9 := (q2) (by omega)
  rw [show v1.toInt = h.toInt + 336 by omega] at hl9
  refine lv_iconst (v := 0) S.1 S.2.1 dX3_startsFor_16 (by decide) ?_
  refine lv_istore (lv' := [(4, .int 0), (0, .ref (L 2 0)), (1, .int to), (2, .int h), (3, .int w9)]) S.1 S.2.1 dX3_startsFor_17 hl (by decide) rfl (fun ls hl => ?_)
  refine lv_iconst (v := 0) S.1 S.2.1 dX3_startsFor_19 (by decide) ?_
  refine lv_istore (lv' := [(5, .int 0), (4, .int 0), (0, .ref (L 2 0)), (1, .int to), (2, .int h), (3, .int w9)]) S.1 S.2.1 dX3_startsFor_20 hl (by decide) rfl (fun ls hl => ?_)
  have cut_22_3 : ∀ (n : Nat) (x4_3 : Int32) (x5_3 : Int32) (σ_3 : QS) (H : Heap) (locs : List Loc) (ls : Array Slot), (12 - x5_3.toInt).toNat < n → 0 ≤ x5_3.toInt ∧ x5_3.toInt ≤ 12 → (stI (fun p => bwR N w9.toInt to.toNatClampNeg (h.toInt + 336) p h.toInt) x4_3 x5_3.toInt) → (LatI N w9.toInt to.toNatClampNeg (h.toInt + 336) h.toInt (σ_3 10 0)) → InvC σ_3 → Keep [9, 10] σ σ_3 → hW cntC gC D B L σ_3 τ H → va_S A s.heap H locs → lv_has ls 6 [(0, .ref (L 2 0)), (4, .int x4_3), (5, .int x5_3)] → W p l e { frames := 3, cells := 0, slots := 0, locals := 77 } s m [.ref (L 2 0), .int to, .int h, .int w9].toArray below meth c H locs 0 0 (MQ below (QcW cntC gC D B L A (pI (fun x σ' τ' => InvC σ' ∧ Keep [9, 10] σ σ' ∧ τ' = τ ∧ (rchB x (fun p => bwR N w9.toInt to.toNatClampNeg (h.toInt + 336) p h.toInt) ∧ b12 x)))) [.ref (L 2 0), .int to, .int h, .int w9].toArray s 0 0 A) (F0 m 22 ls []) := by
    intro n
    induction n with
    | zero => intro x4_3 x5_3 σ_3 H locs ls hm; exact absurd hm (Nat.not_lt_zero _)
    | succ n ih3 =>
      intro x4_3 x5_3 σ_3 H locs ls hm3 h3_0 ws wl hI hP hH hS hl
      refine lv_iload S.1 S.2.1 dX3_startsFor_22 (lv_at hl 2 rfl) ?_
      refine lv_bipush (v := 12) S.1 S.2.1 dX3_startsFor_24 (by decide) ?_
      refine lv_icmp_ge (tgt := 55) S.1 S.2.1 dX3_startsFor_26 (by decide) (fun c4 => ?_) (fun c4 => ?_)
      · have j4 := t_le c4
        refine lv_iload S.1 S.2.1 dX3_startsFor_55 (lv_at hl 1 rfl) ?_
        refine cW_iret S hr hk hH hS ?_ dX3_startsFor_57
        exact ⟨x4_3, rfl, hI, hP, rfl, by exact st_e ws (by omega)⟩
      · have j4 := t_nle c4
        refine lv_aload_n S.1 S.2.1 dX3_startsFor_29 rfl (lv_at hl 0 rfl) ?_
        refine rC_2_7 S hnX3 K hH (mG wd_88) dX3_startsFor_30 ?_
        refine lv_iload S.1 S.2.1 dX3_startsFor_33 (lv_at hl 2 rfl) ?_
        refine lC_8 S K hH (vin (by omega) (by omega)) dX3_startsFor_35 ?_
        refine lv_topi (fun v5 e5 => ?_)
        have f35 : v5.toInt = (σ_3 10 0 x5_3.toNatClampNeg).toInt := by rw [e5]
        have hb9 := la_none wl (by omega) (by omega) (p := x5_3.toNatClampNeg) (by have z3 := cl_eq (j := x5_3) (by omega); omega)
        refine lv_iconst (v := (-1)) S.1 S.2.1 dX3_startsFor_36 (by decide) ?_
        refine lv_icmp_eq (tgt := 49) S.1 S.2.1 dX3_startsFor_37 (by decide) (fun c6 => ?_) (fun c6 => ?_)
        · have j6 := t_eq c6
          obtain ⟨v7, e7⟩ : ∃ y_9 : Int32, y_9 = x5_3 + 1 := ⟨_, rfl⟩
          have i7 : v7.toInt = x5_3.toInt + 1 := i_addc e7 (by decide) (by omega) (by omega)
          refine lv_iinc (v := v7) (lv' := [(5, .int v7), (0, .ref (L 2 0)), (4, .int x4_3)]) S.1 S.2.1 dX3_startsFor_49 hl (k := 2) rfl (by rw [e7]; rfl) (by decide) rfl (fun ls hl => ?_)
          refine lv_goto (tgt := 22) S.1 S.2.1 dX3_startsFor_52 (by decide) ?_
          exact ih3 x4_3 v7 σ_3 _ _ ls (by omega) (by omega) (by rw [i7]; first | exact st_n ws (by omega) (hb9.mp (by omega)) | exact st_y ws (by omega) (Classical.byContradiction (fun z => absurd (hb9.mpr z) (by omega))) (by rw [e9999, e9999]; rfl)) (by exact wl) hI hP hH hS (lv_sub hl [1, 2, 0] rfl)
        · have j6 := t_neq c6
          refine lv_iload S.1 S.2.1 dX3_startsFor_40 (lv_at hl 1 rfl) ?_
          refine lv_iconst (v := 1) S.1 S.2.1 dX3_startsFor_42 (by decide) ?_
          refine lv_iload S.1 S.2.1 dX3_startsFor_43 (lv_at hl 2 rfl) ?_
          refine lv_ishl S.1 S.2.1 dX3_startsFor_45 ?_
          refine lv_topi (fun v8 e8 => ?_)
          refine lv_ior S.1 S.2.1 dX3_startsFor_46 ?_
          refine lv_topi (fun v9 e9 => ?_)
          refine lv_istore (lv' := [(4, .int v9), (0, .ref (L 2 0)), (5, .int x5_3)]) S.1 S.2.1 dX3_startsFor_47 hl (by decide) rfl (fun ls hl => ?_)
          obtain ⟨v10, e10⟩ : ∃ y_9 : Int32, y_9 = x5_3 + 1 := ⟨_, rfl⟩
          have i10 : v10.toInt = x5_3.toInt + 1 := i_addc e10 (by decide) (by omega) (by omega)
          refine lv_iinc (v := v10) (lv' := [(5, .int v10), (4, .int v9), (0, .ref (L 2 0))]) S.1 S.2.1 dX3_startsFor_49 hl (k := 2) rfl (by rw [e10]; rfl) (by decide) rfl (fun ls hl => ?_)
          refine lv_goto (tgt := 22) S.1 S.2.1 dX3_startsFor_52 (by decide) ?_
          exact ih3 v9 v10 σ_3 _ _ ls (by omega) (by omega) (by rw [i10]; first | exact st_n ws (by omega) (hb9.mp (by omega)) | exact st_y ws (by omega) (Classical.byContradiction (fun z => absurd (hb9.mpr z) (by omega))) (by rw [e9, e8]; rfl)) (by exact wl) hI hP hH hS (lv_sub hl [2, 1, 0] rfl)
  exact cut_22_3 _ 0 0 σ2 _ _ ls (Nat.lt_succ_self _) (by omega) (by exact st_0) (by exact hl9) hI hP hH hS (lv_sub hl [2, 1, 0] rfl)
set_option maxHeartbeats 4000000 in
set_option maxRecDepth 100000 in
theorem k_X3_earnedInAll (l : Launch) (D : va_G) (B : Nat → ClassId) (L : QL) (A : Nat → Prop) (σ : QS) (τ : Int64)   (hI : InvC σ) : cW cntC gC l D B L A yX3_earnedInAll wsX3_earnedInAll 0 0 [.ref (L 2 0)] σ τ (pI (fun x σ' τ' => σ' = σ ∧ τ' = τ ∧ x = smI (eC σ) (σ 3 0 0).toNatClampNeg)) := by
  refine cW_of (cc := cX3_earnedInAll) (nL := 3) (ret := (some .int)) (by decide) rfl (Nat.le_of_ble_eq_true rfl) ?_
  intro p e s m below meth c S hr hk K hH hS ls hl
  have hnX0 : ∀ w ∈ wsX00, w ∈ wsX3_earnedInAll := fun w h => mG (tX0 w h)
  have hnX3 : ∀ w ∈ wsX30, w ∈ wsX3_earnedInAll := fun w h => mG (tX3 w h)
  have l0 : (0 : Int32).toInt = 0 := by decide
  have l1 : (1 : Int32).toInt = 1 := by decide
  have hl : lv_has ls 3 [(0, .ref (L 2 0))] := hl
  refine lv_iconst (v := 0) S.1 S.2.1 dX3_earnedInAll_0 (by decide) ?_
  refine lv_istore_n (lv' := [(1, .int 0), (0, .ref (L 2 0))]) S.1 S.2.1 dX3_earnedInAll_1 rfl hl (by decide) rfl (fun ls hl => ?_)
  refine lv_iconst (v := 0) S.1 S.2.1 dX3_earnedInAll_2 (by decide) ?_
  refine lv_istore_n (lv' := [(2, .int 0), (1, .int 0), (0, .ref (L 2 0))]) S.1 S.2.1 dX3_earnedInAll_3 rfl hl (by decide) rfl (fun ls hl => ?_)
  have cut_4_1 : ∀ (n : Nat) (x1_1 : Int32) (x2_1 : Int32)  (H : Heap) (locs : List Loc) (ls : Array Slot), (12 - x2_1.toInt).toNat < n → 0 ≤ x2_1.toInt ∧ x2_1.toInt ≤ 12 → (x1_1 = smI (eC σ) x2_1.toNatClampNeg) → (x2_1.toInt ≤ (σ 3 0 0).toInt) → hW cntC gC D B L σ τ H → va_S A s.heap H locs → lv_has ls 3 [(0, .ref (L 2 0)), (1, .int x1_1), (2, .int x2_1)] → W p l e { frames := 0, cells := 0, slots := 0, locals := 0 } s m [.ref (L 2 0)].toArray below meth c H locs 0 0 (MQ below (QcW cntC gC D B L A (pI (fun x σ' τ' => σ' = σ ∧ τ' = τ ∧ x = smI (eC σ) (σ 3 0 0).toNatClampNeg))) [.ref (L 2 0)].toArray s 0 0 A) (F0 m 4 ls []) := by
    intro n
    induction n with
    | zero => intro x1_1 x2_1 H locs ls hm; exact absurd hm (Nat.not_lt_zero _)
    | succ n ih1 =>
      intro x1_1 x2_1 H locs ls hm1 h1_0 ws wl hH hS hl
      refine lv_iload_n S.1 S.2.1 dX3_earnedInAll_4 rfl (lv_at hl 2 rfl) ?_
      refine lv_aload_n S.1 S.2.1 dX3_earnedInAll_5 rfl (lv_at hl 0 rfl) ?_
      refine rC_2_1 S hnX3 K hH (mG wd_82) dX3_earnedInAll_6 ?_
      refine lv_topi (fun v2 e2 => ?_)
      have b2 : 0 ≤ v2.toInt ∧ v2.toInt ≤ 12 := by rw [e2]; exact hI.1 3 0 0
      have f6 : v2.toInt = (σ 3 0 0).toInt := by rw [e2]
      refine lv_icmp_ge (tgt := 30) S.1 S.2.1 dX3_earnedInAll_9 (by decide) (fun c3 => ?_) (fun c3 => ?_)
      · have j3 := t_le c3
        refine lv_iload_n S.1 S.2.1 dX3_earnedInAll_30 rfl (lv_at hl 1 rfl) ?_
        refine cW_iret S hr hk hH hS ?_ dX3_earnedInAll_31
        exact ⟨x1_1, rfl, rfl, rfl, by rw [ws, cl_same (show x2_1.toInt = (σ 3 0 0).toInt by omega)]⟩
      · have j3 := t_nle c3
        refine lv_iload_n S.1 S.2.1 dX3_earnedInAll_12 rfl (lv_at hl 1 rfl) ?_
        refine lv_aload_n S.1 S.2.1 dX3_earnedInAll_13 rfl (lv_at hl 0 rfl) ?_
        refine rC_2_0 S hnX3 K hH (mG wd_81) dX3_earnedInAll_14 ?_
        refine lv_iload_n S.1 S.2.1 dX3_earnedInAll_17 rfl (lv_at hl 2 rfl) ?_
        refine lC_3 S K hH (vin (by omega) (by omega)) dX3_earnedInAll_18 ?_
        refine rC_14_4 S hnX0 K hH (cl_lt (n := 12) (by omega) (by omega)) (mG wd_145) dX3_earnedInAll_19 ?_
        refine lv_topi (fun v4 e4 => ?_)
        refine lv_iadd S.1 S.2.1 dX3_earnedInAll_22 ?_
        refine lv_topi (fun v5 e5 => ?_)
        refine lv_istore_n (lv' := [(1, .int v5), (0, .ref (L 2 0)), (2, .int x2_1)]) S.1 S.2.1 dX3_earnedInAll_23 rfl hl (by decide) rfl (fun ls hl => ?_)
        obtain ⟨v6, e6⟩ : ∃ y_9 : Int32, y_9 = x2_1 + 1 := ⟨_, rfl⟩
        have i6 : v6.toInt = x2_1.toInt + 1 := i_addc e6 (by decide) (by omega) (by omega)
        refine lv_iinc (v := v6) (lv' := [(2, .int v6), (1, .int v5), (0, .ref (L 2 0))]) S.1 S.2.1 dX3_earnedInAll_24 hl (k := 2) rfl (by rw [e6]; rfl) (by decide) rfl (fun ls hl => ?_)
        refine lv_goto (tgt := 4) S.1 S.2.1 dX3_earnedInAll_27 (by decide) ?_
        exact ih1 v5 v6 _ _ ls (by omega) (by omega) (by rw [cl_n1 i6 (by omega)]; show _ = smI (eC σ) _ + eC σ _; rw [e5, ws, e4]; unfold eC; rw [if_pos (cl_lt (n := 12) (by omega) (by omega))]) (by omega) hH hS (lv_sub hl [2, 1, 0] rfl)
  exact cut_4_1 _ 0 0 _ _ ls (Nat.lt_succ_self _) (by omega) (by rfl) (by have z9 : 0 ≤ (σ 3 0 0).toInt ∧ (σ 3 0 0).toInt ≤ 12 := hI.1 3 0 0; omega) hH hS (lv_sub hl [2, 1, 0] rfl)
