set_option maxHeartbeats 4000000 in
set_option maxRecDepth 100000 in
theorem k_X4_isIn (l : Launch) (D : va_G) (B : Nat → ClassId) (L : QL) (A : Nat → Prop) (σ : QS) (τ : Int64) (value : Int32) (least : Int32) (most : Int32)   : cW cntC gC l D B L A yX4_isIn wsX4_isIn 0 0 [.int value, .int least, .int most] σ τ (pI (fun x σ' τ' => σ' = σ ∧ τ' = τ ∧ ((x.toInt = 1 ∧ least.toInt ≤ value.toInt ∧ value.toInt ≤ most.toInt) ∨ (x.toInt = 0 ∧ (value.toInt < least.toInt ∨ most.toInt < value.toInt))))) := by
  refine cW_of (cc := cX4_isIn) (nL := 3) (ret := (some .boolean)) (by decide) rfl (Nat.le_of_ble_eq_true rfl) ?_
  intro p e s m below meth c S hr hk K hH hS ls hl
  have l0 : (0 : Int32).toInt = 0 := by decide
  have l1 : (1 : Int32).toInt = 1 := by decide
  have hl : lv_has ls 3 [(0, .int value), (1, .int least), (2, .int most)] := hl
  refine lv_iload_n S.1 S.2.1 dX4_isIn_0 rfl (lv_at hl 0 rfl) ?_
  refine lv_iload_n S.1 S.2.1 dX4_isIn_1 rfl (lv_at hl 1 rfl) ?_
  refine lv_icmp_lt (tgt := 14) S.1 S.2.1 dX4_isIn_2 (by decide) (fun c1 => ?_) (fun c1 => ?_)
  · have j1 := t_lt c1
    refine lv_iconst (v := 0) S.1 S.2.1 dX4_isIn_14 (by decide) ?_
    refine cW_zret S hr hk hH hS (by decide) ?_ dX4_isIn_15
    exact ⟨0, rfl, rfl, rfl, by omega⟩
  · have j1 := t_nlt c1
    refine lv_iload_n S.1 S.2.1 dX4_isIn_5 rfl (lv_at hl 0 rfl) ?_
    refine lv_iload_n S.1 S.2.1 dX4_isIn_6 rfl (lv_at hl 2 rfl) ?_
    refine lv_icmp_gt (tgt := 14) S.1 S.2.1 dX4_isIn_7 (by decide) (fun c2 => ?_) (fun c2 => ?_)
    · have j2 := t_lt c2
      refine lv_iconst (v := 0) S.1 S.2.1 dX4_isIn_14 (by decide) ?_
      refine cW_zret S hr hk hH hS (by decide) ?_ dX4_isIn_15
      exact ⟨0, rfl, rfl, rfl, by omega⟩
    · have j2 := t_nlt c2
      refine lv_iconst (v := 1) S.1 S.2.1 dX4_isIn_10 (by decide) ?_
      refine lv_goto (tgt := 15) S.1 S.2.1 dX4_isIn_11 (by decide) ?_
      refine cW_zret S hr hk hH hS (by decide) ?_ dX4_isIn_15
      exact ⟨1, rfl, rfl, rfl, by omega⟩
set_option maxHeartbeats 4000000 in
set_option maxRecDepth 100000 in
theorem k_X0_setTerms (l : Launch) (D : va_G) (B : Nat → ClassId) (L : QL) (A : Nat → Prop) (σ : QS) (τ : Int64) (i : Nat) (a : Int32) (b : Int32) (c9 : Int32)  (hp0 : i < 12) (hp1 : 0 ≤ b.toInt ∧ b.toInt ≤ 50) (hI : InvC σ) : cW cntC gC l D B L A yX0_setTerms wsX0_setTerms 0 0 [.ref (L 14 i), .int a, .int b, .int c9] σ τ (pV (fun σ' τ' => InvC σ' ∧ Keep [21, 23, 24] σ σ' ∧ τ' = τ ∧ (σ' 21 = rs σ 21 i (fun _ => a) 21 ∧ σ' 23 = rs σ 23 i (fun _ => b) 23 ∧ σ' 24 = rs σ 24 i (fun _ => c9) 24))) := by
  refine cW_of (cc := cX0_setTerms) (nL := 4) (ret := none) (by decide) rfl (Nat.le_of_ble_eq_true rfl) ?_
  intro p e s m below meth c S hr hk K hH hS ls hl
  have hnX0 : ∀ w ∈ wsX00, w ∈ wsX0_setTerms := fun w h => mG (tX0 w h)
  have hP : Keep [21, 23, 24] σ σ := Keep_r
  have hl : lv_has ls 4 [(0, .ref (L 14 i)), (1, .int a), (2, .int b), (3, .int c9)] := hl
  refine lv_aload_n S.1 S.2.1 dX0_setTerms_0 rfl (lv_at hl 0 rfl) ?_
  refine lv_iload_n S.1 S.2.1 dX0_setTerms_1 rfl (lv_at hl 1 rfl) ?_
  refine pC_14_0 S hnX0 K hH hS (show i < 12 by omega) (mG wd_2) dX0_setTerms_2 (fun H locs hH hS => ?_)
  obtain ⟨σ1, eσ1⟩ : ∃ z_9 : QS, z_9 = rs σ 21 i (fun _ => a) := ⟨_, rfl⟩
  rw [← eσ1] at hH
  have hI := InvC_f eσ1 hI (by decide) (any32 _)
  have hP := Keep_w eσ1 hP (by decide)
  refine lv_aload_n S.1 S.2.1 dX0_setTerms_5 rfl (lv_at hl 0 rfl) ?_
  refine lv_iload_n S.1 S.2.1 dX0_setTerms_6 rfl (lv_at hl 2 rfl) ?_
  refine pC_14_2 S hnX0 K hH hS (show i < 12 by omega) (mG wd_4) dX0_setTerms_7 (fun H locs hH hS => ?_)
  obtain ⟨σ2, eσ2⟩ : ∃ z_9 : QS, z_9 = rs σ1 23 i (fun _ => b) := ⟨_, rfl⟩
  rw [← eσ2] at hH
  have hI := InvC_f eσ2 hI (by decide) (show (0 : Int) ≤ b.toInt ∧ b.toInt ≤ 50 by omega)
  have hP := Keep_w eσ2 hP (by decide)
  refine lv_aload_n S.1 S.2.1 dX0_setTerms_10 rfl (lv_at hl 0 rfl) ?_
  refine lv_iload_n S.1 S.2.1 dX0_setTerms_11 rfl (lv_at hl 3 rfl) ?_
  refine pC_14_3 S hnX0 K hH hS (show i < 12 by omega) (mG wd_5) dX0_setTerms_12 (fun H locs hH hS => ?_)
  obtain ⟨σ3, eσ3⟩ : ∃ z_9 : QS, z_9 = rs σ2 24 i (fun _ => c9) := ⟨_, rfl⟩
  rw [← eσ3] at hH
  have hI := InvC_f eσ3 hI (by decide) (any32 _)
  have hP := Keep_w eσ3 hP (by decide)
  refine cW_vret S hr hk hH hS ?_ dX0_setTerms_15
  exact ⟨rfl, hI, hP, rfl, by exact ⟨by rw [eσ3, rs_v (by decide), eσ2, rs_v (by decide), eσ1], by rw [eσ3, rs_v (by decide), eσ2]; exact rs_tw (by rw [eσ1, rs_v (by decide)]), by rw [eσ3]; exact rs_tw (by rw [eσ2, rs_v (by decide), eσ1, rs_v (by decide)])⟩⟩
set_option maxHeartbeats 4000000 in
set_option maxRecDepth 100000 in
theorem k_X0_lastOffset (l : Launch) (D : va_G) (B : Nat → ClassId) (L : QL) (A : Nat → Prop) (σ : QS) (τ : Int64) (i : Nat)  (hp0 : i < 12) (hI : InvC σ) : cW cntC gC l D B L A yX0_lastOffset wsX0_lastOffset 0 0 [.ref (L 14 i)] σ τ (pI (fun x σ' τ' => σ' = σ ∧ τ' = τ ∧ (-1 ≤ x.toInt ∧ x.toInt ≤ 60) ∧ (((σ 26 i 0).toInt = 0 ∧ x.toInt = -1) ∨ ((σ 26 i 0).toInt ≠ 0 ∧ x = σ 28 i ((σ 26 i 0).toNatClampNeg - 1))))) := by
  refine cW_of (cc := cX0_lastOffset) (nL := 1) (ret := (some .int)) (by decide) rfl (Nat.le_of_ble_eq_true rfl) ?_
  intro p e s m below meth c S hr hk K hH hS ls hl
  have hnX0 : ∀ w ∈ wsX00, w ∈ wsX0_lastOffset := fun w h => mG (tX0 w h)
  have lm1 : ((-1) : Int32).toInt = -1 := by decide
  have l0 : (0 : Int32).toInt = 0 := by decide
  have l1 : (1 : Int32).toInt = 1 := by decide
  have hl : lv_has ls 1 [(0, .ref (L 14 i))] := hl
  refine lv_aload_n S.1 S.2.1 dX0_lastOffset_0 rfl (lv_at hl 0 rfl) ?_
  refine rC_14_5 S hnX0 K hH (show i < 12 by omega) (mG wd_7) dX0_lastOffset_1 ?_
  refine lv_topi (fun v1 e1 => ?_)
  have b1 : 0 ≤ v1.toInt ∧ v1.toInt ≤ 6 := by rw [e1]; exact hI.1 26 i 0
  have f1 : v1.toInt = (σ 26 i 0).toInt := by rw [e1]
  refine lv_if_ne (tgt := 11) S.1 S.2.1 dX0_lastOffset_4 (by decide) (fun c2 => ?_) (fun c2 => ?_)
  · have j2 := t_neq c2
    refine lv_aload_n S.1 S.2.1 dX0_lastOffset_11 rfl (lv_at hl 0 rfl) ?_
    refine rC_14_7 S hnX0 K hH (show i < 12 by omega) (mG wd_10) dX0_lastOffset_12 ?_
    refine lv_aload_n S.1 S.2.1 dX0_lastOffset_15 rfl (lv_at hl 0 rfl) ?_
    refine rC_14_5 S hnX0 K hH (show i < 12 by omega) (mG wd_7) dX0_lastOffset_16 ?_
    refine lv_topi (fun v3 e3 => ?_)
    have b3 : 0 ≤ v3.toInt ∧ v3.toInt ≤ 6 := by rw [e3]; exact hI.1 26 i 0
    have k3 : v3.toInt = v1.toInt := by rw [e3]; rw [← e1]
    have f16 : v3.toInt = (σ 26 i 0).toInt := by rw [e3]
    refine lv_iconst (v := 1) S.1 S.2.1 dX0_lastOffset_19 (by decide) ?_
    refine lv_isub S.1 S.2.1 dX0_lastOffset_20 ?_
    refine lv_topi (fun v4 e4 => ?_)
    have i4 : v4.toInt = v3.toInt - (1 : Int32).toInt := i_sub e4 (by omega) (by omega)
    refine lC_16 S K hH (show i < 12 by omega) (vin (by omega) (by omega)) dX0_lastOffset_21 ?_
    refine lv_topi (fun v5 e5 => ?_)
    have b5 : 0 ≤ v5.toInt ∧ v5.toInt ≤ 60 := by rw [e5]; exact hI.1 28 i v4.toNatClampNeg
    refine cW_iret S hr hk hH hS ?_ dX0_lastOffset_22
    exact ⟨v5, rfl, rfl, rfl, by refine ⟨by omega, ?_⟩; first | exact Or.inl ⟨by omega, by decide⟩ | exact Or.inr ⟨by omega, by rw [e5, cl_m1 i4 ⟨l1, by omega⟩, cl_same f16]⟩⟩
  · have j2 := t_eq c2
    refine lv_iconst (v := (-1)) S.1 S.2.1 dX0_lastOffset_7 (by decide) ?_
    refine lv_goto (tgt := 22) S.1 S.2.1 dX0_lastOffset_8 (by decide) ?_
    refine cW_iret S hr hk hH hS ?_ dX0_lastOffset_22
    exact ⟨(-1), rfl, rfl, rfl, by refine ⟨by omega, ?_⟩; first | exact Or.inl ⟨by omega, by decide⟩ | exact Or.inr ⟨by omega, by rw [e5, cl_m1 i4 ⟨l1, by omega⟩, cl_same f16]⟩⟩
set_option maxHeartbeats 4000000 in
set_option maxRecDepth 100000 in
theorem k_X0_isSnowedIn (l : Launch) (D : va_G) (B : Nat → ClassId) (L : QL) (A : Nat → Prop) (σ : QS) (τ : Int64) (i : Nat) (day : Int32)  (hp0 : i < 12) : cW cntC gC l D B L A yX0_isSnowedIn wsX0_isSnowedIn 1 22 [.ref (L 14 i), .int day] σ τ (pI (fun x σ' τ' => σ' = σ ∧ τ' = τ ∧ ((x.toInt = 1 ∧ 0 ≤ day.toInt ∧ day.toInt ≤ 300 ∧ snB (σ 29 i) day ≠ 0) ∨ (x.toInt = 0 ∧ (0 ≤ day.toInt → day.toInt ≤ 300 → snB (σ 29 i) day = 0))))) := by
  refine cW_of (cc := cX0_isSnowedIn) (nL := 2) (ret := (some .boolean)) (by decide) rfl (Nat.le_of_ble_eq_true rfl) ?_
  intro p e s m below meth c S hr hk K hH hS ls hl
  have hnX0 : ∀ w ∈ wsX00, w ∈ wsX0_isSnowedIn := fun w h => mG (tX0 w h)
  have l0 : (0 : Int32).toInt = 0 := by decide
  have l1 : (1 : Int32).toInt = 1 := by decide
  have l32 : (32 : Int32).toInt = 32 := by decide
  have l300 : (300 : Int32).toInt = 300 := by decide
  have hl : lv_has ls 2 [(0, .ref (L 14 i)), (1, .int day)] := hl
  refine lv_iload_n S.1 S.2.1 dX0_isSnowedIn_0 rfl (lv_at hl 1 rfl) ?_
  refine lv_iconst (v := 0) S.1 S.2.1 dX0_isSnowedIn_1 (by decide) ?_
  refine lv_sipush (v := 300) S.1 S.2.1 dX0_isSnowedIn_2 (by decide) ?_
  refine cW_bpi (cW_SN (n := 3) (As := [.int day, .int 0, .int 300]) (rest := []) S K hH (k_X4_isIn l D B L A σ τ day 0 300 ) ggX0_isSnowedIn_X4_isIn (S.2.2.2.2 (.static yX4_isIn) (mG wd_14)) (S.2.2.2.2 (.initialized RX4) (mG wd_15)) rfl hdS_X4_isIn ⟨Nat.le_of_ble_eq_true rfl, Nat.le_of_ble_eq_true rfl⟩ rfl hl.1 (Nat.le_of_ble_eq_true rfl) dX0_isSnowedIn_5) hS (fun v1 H locs q1 hH hS => ?_)
  refine lv_if_eq (tgt := 34) S.1 S.2.1 dX0_isSnowedIn_8 (by decide) (fun c2 => ?_) (fun c2 => ?_)
  · have j2 := t_eq c2
    refine lv_iconst (v := 0) S.1 S.2.1 dX0_isSnowedIn_34 (by decide) ?_
    refine cW_zret S hr hk hH hS (by decide) ?_ dX0_isSnowedIn_35
    exact ⟨0, rfl, rfl, rfl, by first | exact Or.inr ⟨by decide, fun h1 h2 => absurd h1 (by omega)⟩ | exact Or.inr ⟨by decide, fun _ _ => hs.trans (by assumption)⟩ | exact Or.inl ⟨by decide, by omega, by omega, fun h9 => absurd (hs.symm.trans h9) (by assumption)⟩⟩
  · have j2 := t_neq c2
    refine lv_aload_n S.1 S.2.1 dX0_isSnowedIn_11 rfl (lv_at hl 0 rfl) ?_
    refine rC_14_8 S hnX0 K hH (show i < 12 by omega) (mG wd_11) dX0_isSnowedIn_12 ?_
    refine lv_iload_n S.1 S.2.1 dX0_isSnowedIn_15 rfl (lv_at hl 1 rfl) ?_
    refine lv_bipush (v := 32) S.1 S.2.1 dX0_isSnowedIn_16 (by decide) ?_
    refine lv_idiv S.1 S.2.1 dX0_isSnowedIn_18 (by decide) ?_
    refine lv_topi (fun v3 e3 => ?_)
    have i3 : v3.toInt = day.toInt / 32 := i_div e3 (by decide) (by decide) (by omega)
    refine lC_17 S K hH (show i < 12 by omega) (vin (by omega) (by omega)) dX0_isSnowedIn_19 ?_
    refine lv_topi (fun v4 e4 => ?_)
    refine lv_iload_n S.1 S.2.1 dX0_isSnowedIn_20 rfl (lv_at hl 1 rfl) ?_
    refine lv_bipush (v := 32) S.1 S.2.1 dX0_isSnowedIn_21 (by decide) ?_
    refine lv_irem S.1 S.2.1 dX0_isSnowedIn_23 (by decide) ?_
    refine lv_topi (fun v5 e5 => ?_)
    have i5 : v5.toInt = day.toInt % 32 := i_rem e5 (by decide) (by decide) (by omega)
    refine lv_ishr S.1 S.2.1 dX0_isSnowedIn_24 ?_
    refine lv_topi (fun v6 e6 => ?_)
    refine lv_iconst (v := 1) S.1 S.2.1 dX0_isSnowedIn_25 (by decide) ?_
    refine lv_iand S.1 S.2.1 dX0_isSnowedIn_26 ?_
    refine lv_topi (fun v7 e7 => ?_)
    have i7 : 0 ≤ v7.toInt ∧ v7.toInt ≤ (1 : Int32).toInt := i_andr e7 (by omega)
    have hs : snB (σ 29 i) day = v7 := by rw [e7, e6, e5, e4, e3]; rfl
    refine lv_if_eq (tgt := 34) S.1 S.2.1 dX0_isSnowedIn_27 (by decide) (fun c8 => ?_) (fun c8 => ?_)
    · have j8 := t_eq c8
      refine lv_iconst (v := 0) S.1 S.2.1 dX0_isSnowedIn_34 (by decide) ?_
      refine cW_zret S hr hk hH hS (by decide) ?_ dX0_isSnowedIn_35
      exact ⟨0, rfl, rfl, rfl, by first | exact Or.inr ⟨by decide, fun h1 h2 => absurd h1 (by omega)⟩ | exact Or.inr ⟨by decide, fun _ _ => hs.trans (by assumption)⟩ | exact Or.inl ⟨by decide, by omega, by omega, fun h9 => absurd (hs.symm.trans h9) (by assumption)⟩⟩
    · have j8 := t_neq c8
      refine lv_iconst (v := 1) S.1 S.2.1 dX0_isSnowedIn_30 (by decide) ?_
      refine lv_goto (tgt := 35) S.1 S.2.1 dX0_isSnowedIn_31 (by decide) ?_
      refine cW_zret S hr hk hH hS (by decide) ?_ dX0_isSnowedIn_35
      exact ⟨1, rfl, rfl, rfl, by first | exact Or.inr ⟨by decide, fun h1 h2 => absurd h1 (by omega)⟩ | exact Or.inr ⟨by decide, fun _ _ => hs.trans (by assumption)⟩ | exact Or.inl ⟨by decide, by omega, by omega, fun h9 => absurd (hs.symm.trans h9) (by assumption)⟩⟩
set_option maxHeartbeats 4000000 in
set_option maxRecDepth 100000 in
theorem k_X0_addSnow (l : Launch) (D : va_G) (B : Nat → ClassId) (L : QL) (A : Nat → Prop) (σ : QS) (τ : Int64) (i : Nat) (day : Int32)  (hp0 : i < 12) (hp1 : 0 ≤ day.toInt ∧ day.toInt ≤ 300) (hI : InvC σ) : cW cntC gC l D B L A yX0_addSnow wsX0_addSnow 0 0 [.ref (L 14 i), .int day] σ τ (pV (fun σ' τ' => InvC σ' ∧ Keep [29] σ σ' ∧ τ' = τ ∧ σ' 29 = rs σ 29 i (snA (σ 29 i) day) 29)) := by
  refine cW_of (cc := cX0_addSnow) (nL := 2) (ret := none) (by decide) rfl (Nat.le_of_ble_eq_true rfl) ?_
  intro p e s m below meth c S hr hk K hH hS ls hl
  have hnX0 : ∀ w ∈ wsX00, w ∈ wsX0_addSnow := fun w h => mG (tX0 w h)
  have l1 : (1 : Int32).toInt = 1 := by decide
  have l32 : (32 : Int32).toInt = 32 := by decide
  have hP : Keep [29] σ σ := Keep_r
  have hl : lv_has ls 2 [(0, .ref (L 14 i)), (1, .int day)] := hl
  refine lv_aload_n S.1 S.2.1 dX0_addSnow_0 rfl (lv_at hl 0 rfl) ?_
  refine rC_14_8 S hnX0 K hH (show i < 12 by omega) (mG wd_11) dX0_addSnow_1 ?_
  refine lv_iload_n S.1 S.2.1 dX0_addSnow_4 rfl (lv_at hl 1 rfl) ?_
  refine lv_bipush (v := 32) S.1 S.2.1 dX0_addSnow_5 (by decide) ?_
  refine lv_idiv S.1 S.2.1 dX0_addSnow_7 (by decide) ?_
  refine lv_topi (fun v1 e1 => ?_)
  have i1 : v1.toInt = day.toInt / 32 := i_div e1 (by decide) (by decide) (by omega)
  refine lv_dup2_11 S.1 S.2.1 dX0_addSnow_8 rfl rfl ?_
  refine lC_17 S K hH (show i < 12 by omega) (vin (by omega) (by omega)) dX0_addSnow_9 ?_
  refine lv_topi (fun v2 e2 => ?_)
  refine lv_iconst (v := 1) S.1 S.2.1 dX0_addSnow_10 (by decide) ?_
  refine lv_iload_n S.1 S.2.1 dX0_addSnow_11 rfl (lv_at hl 1 rfl) ?_
  refine lv_bipush (v := 32) S.1 S.2.1 dX0_addSnow_12 (by decide) ?_
  refine lv_irem S.1 S.2.1 dX0_addSnow_14 (by decide) ?_
  refine lv_topi (fun v3 e3 => ?_)
  have i3 : v3.toInt = day.toInt % 32 := i_rem e3 (by decide) (by decide) (by omega)
  refine lv_ishl S.1 S.2.1 dX0_addSnow_15 ?_
  refine lv_topi (fun v4 e4 => ?_)
  refine lv_ior S.1 S.2.1 dX0_addSnow_16 ?_
  refine lv_topi (fun v5 e5 => ?_)
  refine sC_17 S K hH hS (show i < 12 by omega) (vin (by omega) (by omega)) dX0_addSnow_17 (fun H locs hH hS => ?_)
  obtain ⟨σ6, eσ6⟩ : ∃ z_9 : QS, z_9 = rs σ 29 i (upd (σ 29 i) v1.toNatClampNeg v5) := ⟨_, rfl⟩
  rw [← eσ6] at hH
  have hI := InvC_a eσ6 hI (by decide) (any32 _)
  have hP := Keep_w eσ6 hP (by decide)
  refine cW_vret S hr hk hH hS ?_ dX0_addSnow_18
  exact ⟨rfl, hI, hP, rfl, by rw [eσ6, e5, e4, e3, e2, e1]; try rfl⟩
set_option maxHeartbeats 4000000 in
set_option maxRecDepth 100000 in
theorem k_X0_goesOn (l : Launch) (D : va_G) (B : Nat → ClassId) (L : QL) (A : Nat → Prop) (σ : QS) (τ : Int64) (i : Nat) (day : Int32)  (hp0 : i < 12) : cW cntC gC l D B L A yX0_goesOn wsX0_goesOn 0 0 [.ref (L 14 i), .int day] σ τ (pI (fun x σ' τ' => σ' = σ ∧ τ' = τ ∧ ((x.toInt = 1 ∧ 0 ≤ day.toInt ∧ gOn (σ 21 i 0) (σ 29 i) day) ∨ (x.toInt = 0 ∧ ¬ gOn (σ 21 i 0) (σ 29 i) day)))) := by
  refine cW_of (cc := cX0_goesOn) (nL := 2) (ret := (some .boolean)) (by decide) rfl (Nat.le_of_ble_eq_true rfl) ?_
  intro p e s m below meth c S hr hk K hH hS ls hl
  have hnX0 : ∀ w ∈ wsX00, w ∈ wsX0_goesOn := fun w h => mG (tX0 w h)
  have l0 : (0 : Int32).toInt = 0 := by decide
  have l1 : (1 : Int32).toInt = 1 := by decide
  have l7 : (7 : Int32).toInt = 7 := by decide
  have l32 : (32 : Int32).toInt = 32 := by decide
  have l300 : (300 : Int32).toInt = 300 := by decide
  have hl : lv_has ls 2 [(0, .ref (L 14 i)), (1, .int day)] := hl
  refine lv_iload_n S.1 S.2.1 dX0_goesOn_0 rfl (lv_at hl 1 rfl) ?_
  refine lv_if_lt (tgt := 18) S.1 S.2.1 dX0_goesOn_1 (by decide) (fun c1 => ?_) (fun c1 => ?_)
  · have j1 := t_lt c1
    refine lv_iconst (v := 0) S.1 S.2.1 dX0_goesOn_18 (by decide) ?_
    refine cW_zret S hr hk hH hS (by decide) ?_ dX0_goesOn_19
    exact ⟨0, rfl, rfl, rfl, by first | exact Or.inr ⟨by decide, fun z => absurd z.1 (by omega)⟩ | exact Or.inr ⟨by decide, fun z => z.2.1 (hw9.trans (by assumption))⟩⟩
  · have j1 := t_nlt c1
    refine lv_aload_n S.1 S.2.1 dX0_goesOn_4 rfl (lv_at hl 0 rfl) ?_
    refine rC_14_0 S hnX0 K hH (show i < 12 by omega) (mG wd_2) dX0_goesOn_5 ?_
    refine lv_topi (fun v2 e2 => ?_)
    refine lv_iload_n S.1 S.2.1 dX0_goesOn_8 rfl (lv_at hl 1 rfl) ?_
    refine lv_bipush (v := 7) S.1 S.2.1 dX0_goesOn_9 (by decide) ?_
    refine lv_irem S.1 S.2.1 dX0_goesOn_11 (by decide) ?_
    refine lv_topi (fun v3 e3 => ?_)
    have i3 : v3.toInt = day.toInt % 7 := i_rem e3 (by decide) (by decide) (by omega)
    refine lv_ishr S.1 S.2.1 dX0_goesOn_12 ?_
    refine lv_topi (fun v4 e4 => ?_)
    refine lv_iconst (v := 1) S.1 S.2.1 dX0_goesOn_13 (by decide) ?_
    refine lv_iand S.1 S.2.1 dX0_goesOn_14 ?_
    refine lv_topi (fun v5 e5 => ?_)
    have i5 : 0 ≤ v5.toInt ∧ v5.toInt ≤ (1 : Int32).toInt := i_andr e5 (by omega)
    have hw9 : ((σ 21 i 0) >>> ((day - day / 7 * 7) &&& 31)) &&& 1 = v5 := by rw [e5, e4, e3, e2]
    refine lv_if_ne (tgt := 20) S.1 S.2.1 dX0_goesOn_15 (by decide) (fun c6 => ?_) (fun c6 => ?_)
    · have j6 := t_neq c6
      refine lv_iload_n S.1 S.2.1 dX0_goesOn_20 rfl (lv_at hl 1 rfl) ?_
      refine lv_sipush (v := 300) S.1 S.2.1 dX0_goesOn_21 (by decide) ?_
      refine lv_icmp_gt (tgt := 46) S.1 S.2.1 dX0_goesOn_24 (by decide) (fun c7 => ?_) (fun c7 => ?_)
      · have j7 := t_lt c7
        refine lv_iconst (v := 1) S.1 S.2.1 dX0_goesOn_46 (by decide) ?_
        refine lv_goto (tgt := 51) S.1 S.2.1 dX0_goesOn_47 (by decide) ?_
        refine cW_zret S hr hk hH hS (by decide) ?_ dX0_goesOn_51
        exact ⟨1, rfl, rfl, rfl, by first | exact Or.inl ⟨by decide, by omega, by omega, fun z => absurd (hw9.symm.trans z) (by assumption), Or.inl (by omega)⟩ | exact Or.inl ⟨by decide, by omega, by omega, fun z => absurd (hw9.symm.trans z) (by assumption), Or.inr (hs9.trans (by assumption))⟩ | exact Or.inr ⟨by decide, fun z => z.2.2.elim (fun y => absurd y (by omega)) (fun y => absurd (hs9.symm.trans y) (by assumption))⟩⟩
      · have j7 := t_nlt c7
        refine lv_aload_n S.1 S.2.1 dX0_goesOn_27 rfl (lv_at hl 0 rfl) ?_
        refine rC_14_8 S hnX0 K hH (show i < 12 by omega) (mG wd_11) dX0_goesOn_28 ?_
        refine lv_iload_n S.1 S.2.1 dX0_goesOn_31 rfl (lv_at hl 1 rfl) ?_
        refine lv_bipush (v := 32) S.1 S.2.1 dX0_goesOn_32 (by decide) ?_
        refine lv_idiv S.1 S.2.1 dX0_goesOn_34 (by decide) ?_
        refine lv_topi (fun v8 e8 => ?_)
        have i8 : v8.toInt = day.toInt / 32 := i_div e8 (by decide) (by decide) (by omega)
        refine lC_17 S K hH (show i < 12 by omega) (vin (by omega) (by omega)) dX0_goesOn_35 ?_
        refine lv_topi (fun v9 e9 => ?_)
        refine lv_iload_n S.1 S.2.1 dX0_goesOn_36 rfl (lv_at hl 1 rfl) ?_
        refine lv_bipush (v := 32) S.1 S.2.1 dX0_goesOn_37 (by decide) ?_
        refine lv_irem S.1 S.2.1 dX0_goesOn_39 (by decide) ?_
        refine lv_topi (fun v10 e10 => ?_)
        have i10 : v10.toInt = day.toInt % 32 := i_rem e10 (by decide) (by decide) (by omega)
        refine lv_ishr S.1 S.2.1 dX0_goesOn_40 ?_
        refine lv_topi (fun v11 e11 => ?_)
        refine lv_iconst (v := 1) S.1 S.2.1 dX0_goesOn_41 (by decide) ?_
        refine lv_iand S.1 S.2.1 dX0_goesOn_42 ?_
        refine lv_topi (fun v12 e12 => ?_)
        have i12 : 0 ≤ v12.toInt ∧ v12.toInt ≤ (1 : Int32).toInt := i_andr e12 (by omega)
        have hs9 : snB (σ 29 i) day = v12 := by rw [e12, e11, e10, e9, e8]; rfl
        refine lv_if_ne (tgt := 50) S.1 S.2.1 dX0_goesOn_43 (by decide) (fun c13 => ?_) (fun c13 => ?_)
        · have j13 := t_neq c13
          refine lv_iconst (v := 0) S.1 S.2.1 dX0_goesOn_50 (by decide) ?_
          refine cW_zret S hr hk hH hS (by decide) ?_ dX0_goesOn_51
          exact ⟨0, rfl, rfl, rfl, by first | exact Or.inl ⟨by decide, by omega, by omega, fun z => absurd (hw9.symm.trans z) (by assumption), Or.inl (by omega)⟩ | exact Or.inl ⟨by decide, by omega, by omega, fun z => absurd (hw9.symm.trans z) (by assumption), Or.inr (hs9.trans (by assumption))⟩ | exact Or.inr ⟨by decide, fun z => z.2.2.elim (fun y => absurd y (by omega)) (fun y => absurd (hs9.symm.trans y) (by assumption))⟩⟩
        · have j13 := t_eq c13
          refine lv_iconst (v := 1) S.1 S.2.1 dX0_goesOn_46 (by decide) ?_
          refine lv_goto (tgt := 51) S.1 S.2.1 dX0_goesOn_47 (by decide) ?_
          refine cW_zret S hr hk hH hS (by decide) ?_ dX0_goesOn_51
          exact ⟨1, rfl, rfl, rfl, by first | exact Or.inl ⟨by decide, by omega, by omega, fun z => absurd (hw9.symm.trans z) (by assumption), Or.inl (by omega)⟩ | exact Or.inl ⟨by decide, by omega, by omega, fun z => absurd (hw9.symm.trans z) (by assumption), Or.inr (hs9.trans (by assumption))⟩ | exact Or.inr ⟨by decide, fun z => z.2.2.elim (fun y => absurd y (by omega)) (fun y => absurd (hs9.symm.trans y) (by assumption))⟩⟩
    · have j6 := t_eq c6
      refine lv_iconst (v := 0) S.1 S.2.1 dX0_goesOn_18 (by decide) ?_
      refine cW_zret S hr hk hH hS (by decide) ?_ dX0_goesOn_19
      exact ⟨0, rfl, rfl, rfl, by first | exact Or.inr ⟨by decide, fun z => absurd z.1 (by omega)⟩ | exact Or.inr ⟨by decide, fun z => z.2.1 (hw9.trans (by assumption))⟩⟩
set_option maxHeartbeats 4000000 in
set_option maxRecDepth 100000 in
theorem k_X0_hourAt (l : Launch) (D : va_G) (B : Nat → ClassId) (L : QL) (A : Nat → Prop) (σ : QS) (τ : Int64) (i : Nat) (stop : Int32) (day : Int32)  (hp0 : i < 12) (hp1 : 0 ≤ stop.toInt ∧ stop.toInt ≤ 5) (hp2 : -5000 ≤ day.toInt ∧ day.toInt ≤ 5000) (hI : InvC σ) : cW cntC gC l D B L A yX0_hourAt wsX0_hourAt 0 0 [.ref (L 14 i), .int stop, .int day] σ τ (pI (fun x σ' τ' => σ' = σ ∧ τ' = τ ∧ x.toInt = 24 * day.toInt + (σ 22 i 0).toInt + (σ 28 i stop.toNatClampNeg).toInt)) := by
  refine cW_of (cc := cX0_hourAt) (nL := 3) (ret := (some .int)) (by decide) rfl (Nat.le_of_ble_eq_true rfl) ?_
  intro p e s m below meth c S hr hk K hH hS ls hl
  have hnX0 : ∀ w ∈ wsX00, w ∈ wsX0_hourAt := fun w h => mG (tX0 w h)
  have l24 : (24 : Int32).toInt = 24 := by decide
  have hl : lv_has ls 3 [(0, .ref (L 14 i)), (1, .int stop), (2, .int day)] := hl
  refine lv_bipush (v := 24) S.1 S.2.1 dX0_hourAt_0 (by decide) ?_
  refine lv_iload_n S.1 S.2.1 dX0_hourAt_2 rfl (lv_at hl 2 rfl) ?_
  refine lv_imul S.1 S.2.1 dX0_hourAt_3 ?_
  refine lv_topi (fun v1 e1 => ?_)
  have i1 : v1.toInt = 24 * day.toInt := i_mulcl e1 (by decide) (by omega) (by omega)
  refine lv_aload_n S.1 S.2.1 dX0_hourAt_4 rfl (lv_at hl 0 rfl) ?_
  refine rC_14_1 S hnX0 K hH (show i < 12 by omega) (mG wd_3) dX0_hourAt_5 ?_
  refine lv_topi (fun v2 e2 => ?_)
  have b2 : 0 ≤ v2.toInt ∧ v2.toInt ≤ 23 := by rw [e2]; exact hI.1 22 i 0
  refine lv_iadd S.1 S.2.1 dX0_hourAt_8 ?_
  refine lv_topi (fun v3 e3 => ?_)
  have i3 : v3.toInt = v1.toInt + v2.toInt := i_add e3 (by omega) (by omega)
  refine lv_aload_n S.1 S.2.1 dX0_hourAt_9 rfl (lv_at hl 0 rfl) ?_
  refine rC_14_7 S hnX0 K hH (show i < 12 by omega) (mG wd_10) dX0_hourAt_10 ?_
  refine lv_iload_n S.1 S.2.1 dX0_hourAt_13 rfl (lv_at hl 1 rfl) ?_
  refine lC_16 S K hH (show i < 12 by omega) (vin (by omega) (by omega)) dX0_hourAt_14 ?_
  refine lv_topi (fun v4 e4 => ?_)
  have b4 : 0 ≤ v4.toInt ∧ v4.toInt ≤ 60 := by rw [e4]; exact hI.1 28 i stop.toNatClampNeg
  refine lv_iadd S.1 S.2.1 dX0_hourAt_15 ?_
  refine lv_topi (fun v5 e5 => ?_)
  have i5 : v5.toInt = v3.toInt + v4.toInt := i_add e5 (by omega) (by omega)
  refine cW_iret S hr hk hH hS ?_ dX0_hourAt_16
  exact ⟨v5, rfl, rfl, rfl, by rw [i5, i3, i1, e2, e4]⟩
set_option maxHeartbeats 4000000 in
set_option maxRecDepth 100000 in
theorem k_X0_dayOf (l : Launch) (D : va_G) (B : Nat → ClassId) (L : QL) (A : Nat → Prop) (σ : QS) (τ : Int64) (i : Nat) (stop : Int32) (h : Int32)  (hp0 : i < 12) (hp1 : 0 ≤ stop.toInt ∧ stop.toInt ≤ 5) (hp2 : 0 ≤ h.toInt ∧ h.toInt ≤ 100000) (hI : InvC σ) : cW cntC gC l D B L A yX0_dayOf wsX0_dayOf 0 0 [.ref (L 14 i), .int stop, .int h] σ τ (pI (fun x σ' τ' => σ' = σ ∧ τ' = τ ∧ (-4171 ≤ x.toInt ∧ x.toInt ≤ 4171) ∧ ∀ k : Int, h.toInt - (σ 22 i 0).toInt - (σ 28 i stop.toNatClampNeg).toInt = 24 * k → x.toInt = k)) := by
  refine cW_of (cc := cX0_dayOf) (nL := 3) (ret := (some .int)) (by decide) rfl (Nat.le_of_ble_eq_true rfl) ?_
  intro p e s m below meth c S hr hk K hH hS ls hl
  have hnX0 : ∀ w ∈ wsX00, w ∈ wsX0_dayOf := fun w h => mG (tX0 w h)
  have l24 : (24 : Int32).toInt = 24 := by decide
  have hl : lv_has ls 3 [(0, .ref (L 14 i)), (1, .int stop), (2, .int h)] := hl
  refine lv_iload_n S.1 S.2.1 dX0_dayOf_0 rfl (lv_at hl 2 rfl) ?_
  refine lv_aload_n S.1 S.2.1 dX0_dayOf_1 rfl (lv_at hl 0 rfl) ?_
  refine rC_14_1 S hnX0 K hH (show i < 12 by omega) (mG wd_3) dX0_dayOf_2 ?_
  refine lv_topi (fun v1 e1 => ?_)
  have b1 : 0 ≤ v1.toInt ∧ v1.toInt ≤ 23 := by rw [e1]; exact hI.1 22 i 0
  refine lv_isub S.1 S.2.1 dX0_dayOf_5 ?_
  refine lv_topi (fun v2 e2 => ?_)
  have i2 : v2.toInt = h.toInt - v1.toInt := i_sub e2 (by omega) (by omega)
  refine lv_aload_n S.1 S.2.1 dX0_dayOf_6 rfl (lv_at hl 0 rfl) ?_
  refine rC_14_7 S hnX0 K hH (show i < 12 by omega) (mG wd_10) dX0_dayOf_7 ?_
  refine lv_iload_n S.1 S.2.1 dX0_dayOf_10 rfl (lv_at hl 1 rfl) ?_
  refine lC_16 S K hH (show i < 12 by omega) (vin (by omega) (by omega)) dX0_dayOf_11 ?_
  refine lv_topi (fun v3 e3 => ?_)
  have b3 : 0 ≤ v3.toInt ∧ v3.toInt ≤ 60 := by rw [e3]; exact hI.1 28 i stop.toNatClampNeg
  refine lv_isub S.1 S.2.1 dX0_dayOf_12 ?_
  refine lv_topi (fun v4 e4 => ?_)
  have i4 : v4.toInt = v2.toInt - v3.toInt := i_sub e4 (by omega) (by omega)
  refine lv_bipush (v := 24) S.1 S.2.1 dX0_dayOf_13 (by decide) ?_
  refine lv_idiv S.1 S.2.1 dX0_dayOf_15 (by decide) ?_
  refine lv_topi (fun v5 e5 => ?_)
  refine cW_iret S hr hk hH hS ?_ dX0_dayOf_16
  exact ⟨v5, rfl, rfl, rfl, by refine ⟨i_div24b e5 (by omega) (by omega), ?_⟩; intro k hk; exact i_div24 e5 (by rw [i4, i2, e1, e3]; exact hk)⟩
set_option maxHeartbeats 4000000 in
set_option maxRecDepth 100000 in
theorem k_X0_takesFrom (l : Launch) (D : va_G) (B : Nat → ClassId) (L : QL) (A : Nat → Prop) (σ : QS) (τ : Int64) (i : Nat) (place : Int32) (stop : Int32)  (hp0 : i < 12) (hp1 : 0 ≤ stop.toInt ∧ stop.toInt ≤ 5) (hI : InvC σ) : cW cntC gC l D B L A yX0_takesFrom wsX0_takesFrom 0 0 [.ref (L 14 i), .int place, .int stop] σ τ (pI (fun x σ' τ' => σ' = σ ∧ τ' = τ ∧ ((x.toInt = 1 ∧ (0 ≤ place.toInt ∧ place.toInt ≤ 11) ∧ (σ 27 i stop.toNatClampNeg).toInt = place.toInt ∧ stop.toInt + 1 < (σ 26 i 0).toInt) ∨ (x.toInt = 0 ∧ ¬ ((σ 27 i stop.toNatClampNeg).toInt = place.toInt ∧ stop.toInt + 1 < (σ 26 i 0).toInt))))) := by
  refine cW_of (cc := cX0_takesFrom) (nL := 3) (ret := (some .boolean)) (by decide) rfl (Nat.le_of_ble_eq_true rfl) ?_
  intro p e s m below meth c S hr hk K hH hS ls hl
  have hnX0 : ∀ w ∈ wsX00, w ∈ wsX0_takesFrom := fun w h => mG (tX0 w h)
  have l0 : (0 : Int32).toInt = 0 := by decide
  have l1 : (1 : Int32).toInt = 1 := by decide
  have hl : lv_has ls 3 [(0, .ref (L 14 i)), (1, .int place), (2, .int stop)] := hl
  refine lv_aload_n S.1 S.2.1 dX0_takesFrom_0 rfl (lv_at hl 0 rfl) ?_
  refine rC_14_6 S hnX0 K hH (show i < 12 by omega) (mG wd_9) dX0_takesFrom_1 ?_
  refine lv_iload_n S.1 S.2.1 dX0_takesFrom_4 rfl (lv_at hl 2 rfl) ?_
  refine lC_15 S K hH (show i < 12 by omega) (vin (by omega) (by omega)) dX0_takesFrom_5 ?_
  refine lv_topi (fun v1 e1 => ?_)
  have b1 : 0 ≤ v1.toInt ∧ v1.toInt ≤ 11 := by rw [e1]; exact hI.1 27 i stop.toNatClampNeg
  have f5 : v1.toInt = (σ 27 i stop.toNatClampNeg).toInt := by rw [e1]
  refine lv_iload_n S.1 S.2.1 dX0_takesFrom_6 rfl (lv_at hl 1 rfl) ?_
  refine lv_icmp_ne (tgt := 24) S.1 S.2.1 dX0_takesFrom_7 (by decide) (fun c2 => ?_) (fun c2 => ?_)
  · have j2 := t_neq c2
    refine lv_iconst (v := 0) S.1 S.2.1 dX0_takesFrom_24 (by decide) ?_
    refine cW_zret S hr hk hH hS (by decide) ?_ dX0_takesFrom_25
    exact ⟨0, rfl, rfl, rfl, by omega⟩
  · have j2 := t_eq c2
    refine lv_iload_n S.1 S.2.1 dX0_takesFrom_10 rfl (lv_at hl 2 rfl) ?_
    refine lv_iconst (v := 1) S.1 S.2.1 dX0_takesFrom_11 (by decide) ?_
    refine lv_iadd S.1 S.2.1 dX0_takesFrom_12 ?_
    refine lv_topi (fun v3 e3 => ?_)
    have i3 : v3.toInt = stop.toInt + (1 : Int32).toInt := i_add e3 (by omega) (by omega)
    refine lv_aload_n S.1 S.2.1 dX0_takesFrom_13 rfl (lv_at hl 0 rfl) ?_
    refine rC_14_5 S hnX0 K hH (show i < 12 by omega) (mG wd_7) dX0_takesFrom_14 ?_
    refine lv_topi (fun v4 e4 => ?_)
    have b4 : 0 ≤ v4.toInt ∧ v4.toInt ≤ 6 := by rw [e4]; exact hI.1 26 i 0
    have f14 : v4.toInt = (σ 26 i 0).toInt := by rw [e4]
    refine lv_icmp_ge (tgt := 24) S.1 S.2.1 dX0_takesFrom_17 (by decide) (fun c5 => ?_) (fun c5 => ?_)
    · have j5 := t_le c5
      refine lv_iconst (v := 0) S.1 S.2.1 dX0_takesFrom_24 (by decide) ?_
      refine cW_zret S hr hk hH hS (by decide) ?_ dX0_takesFrom_25
      exact ⟨0, rfl, rfl, rfl, by omega⟩
    · have j5 := t_nle c5
      refine lv_iconst (v := 1) S.1 S.2.1 dX0_takesFrom_20 (by decide) ?_
      refine lv_goto (tgt := 25) S.1 S.2.1 dX0_takesFrom_21 (by decide) ?_
      refine cW_zret S hr hk hH hS (by decide) ?_ dX0_takesFrom_25
      exact ⟨1, rfl, rfl, rfl, by omega⟩
set_option maxHeartbeats 4000000 in
set_option maxRecDepth 100000 in
theorem k_X0_lastInTime (l : Launch) (D : va_G) (B : Nat → ClassId) (L : QL) (A : Nat → Prop) (σ : QS) (τ : Int64) (i : Nat) (stop : Int32) (day : Int32) (q : Nat)  (hp0 : i < 12) (hp1 : q < 60) (hp2 : 0 ≤ stop.toInt ∧ stop.toInt ≤ 5) (hp3 : -5000 ≤ day.toInt ∧ day.toInt ≤ 5000) (hI : InvC σ) : cW cntC gC l D B L A yX0_lastInTime wsX0_lastInTime 1 22 [.ref (L 14 i), .int stop, .int day, .ref (L 21 q)] σ τ (pI (fun x σ' τ' => σ' = σ ∧ τ' = τ ∧ (-1 ≤ x.toInt ∧ x.toInt ≤ 5) ∧ lsT σ i stop.toInt day.toInt (σ 43 q) x)) := by
  refine cW_of (cc := cX0_lastInTime) (nL := 5) (ret := (some .int)) (by decide) rfl (Nat.le_of_ble_eq_true rfl) ?_
  intro p e s m below meth c S hr hk K hH hS ls hl
  have hnX0 : ∀ w ∈ wsX00, w ∈ wsX0_lastInTime := fun w h => mG (tX0 w h)
  have lm1 : ((-1) : Int32).toInt = -1 := by decide
  have l1 : (1 : Int32).toInt = 1 := by decide
  have hl : lv_has ls 5 [(0, .ref (L 14 i)), (1, .int stop), (2, .int day), (3, .ref (L 21 q))] := hl
  refine lv_aload_n S.1 S.2.1 dX0_lastInTime_0 rfl (lv_at hl 0 rfl) ?_
  refine rC_14_5 S hnX0 K hH (show i < 12 by omega) (mG wd_7) dX0_lastInTime_1 ?_
  refine lv_topi (fun v1 e1 => ?_)
  have b1 : 0 ≤ v1.toInt ∧ v1.toInt ≤ 6 := by rw [e1]; exact hI.1 26 i 0
  have f1 : v1.toInt = (σ 26 i 0).toInt := by rw [e1]
  refine lv_iconst (v := 1) S.1 S.2.1 dX0_lastInTime_4 (by decide) ?_
  refine lv_isub S.1 S.2.1 dX0_lastInTime_5 ?_
  refine lv_topi (fun v2 e2 => ?_)
  have i2 : v2.toInt = v1.toInt - (1 : Int32).toInt := i_sub e2 (by omega) (by omega)
  refine lv_istore (lv' := [(4, .int v2), (0, .ref (L 14 i)), (1, .int stop), (2, .int day), (3, .ref (L 21 q))]) S.1 S.2.1 dX0_lastInTime_6 hl (by decide) rfl (fun ls hl => ?_)
  have cut_8_3 : ∀ (n : Nat) (x4_3 : Int32)  (H : Heap) (locs : List Loc) (ls : Array Slot), (x4_3.toInt + 1).toNat < n → -1 ≤ x4_3.toInt ∧ x4_3.toInt ≤ 5 → (∀ s : Nat, x4_3.toInt < (s : Int) → (s : Int) < (σ 26 i 0).toInt → ¬ inT σ i day.toInt (σ 43 q) s) → (x4_3.toInt < (σ 26 i 0).toInt) → hW cntC gC D B L σ τ H → va_S A s.heap H locs → lv_has ls 5 [(0, .ref (L 14 i)), (1, .int stop), (2, .int day), (3, .ref (L 21 q)), (4, .int x4_3)] → W p l e { frames := 1, cells := 0, slots := 0, locals := 22 } s m [.ref (L 14 i), .int stop, .int day, .ref (L 21 q)].toArray below meth c H locs 0 0 (MQ below (QcW cntC gC D B L A (pI (fun x σ' τ' => σ' = σ ∧ τ' = τ ∧ (-1 ≤ x.toInt ∧ x.toInt ≤ 5) ∧ lsT σ i stop.toInt day.toInt (σ 43 q) x))) [.ref (L 14 i), .int stop, .int day, .ref (L 21 q)].toArray s 0 0 A) (F0 m 8 ls []) := by
    intro n
    induction n with
    | zero => intro x4_3 H locs ls hm; exact absurd hm (Nat.not_lt_zero _)
    | succ n ih3 =>
      intro x4_3 H locs ls hm3 h3_0 wt wz hH hS hl
      refine lv_iload S.1 S.2.1 dX0_lastInTime_8 (lv_at hl 4 rfl) ?_
      refine lv_iload_n S.1 S.2.1 dX0_lastInTime_10 rfl (lv_at hl 1 rfl) ?_
      refine lv_icmp_le (tgt := 42) S.1 S.2.1 dX0_lastInTime_11 (by decide) (fun c4 => ?_) (fun c4 => ?_)
      · have j4 := t_le c4
        refine lv_iconst (v := (-1)) S.1 S.2.1 dX0_lastInTime_42 (by decide) ?_
        refine cW_iret S hr hk hH hS ?_ dX0_lastInTime_43
        exact ⟨(-1), rfl, rfl, rfl, by exact ⟨by omega, Or.inl ⟨by decide, fun s z1 z2 => wt s (by omega) z2⟩⟩⟩
      · have j4 := t_nle c4
        refine lv_aload_n S.1 S.2.1 dX0_lastInTime_14 rfl (lv_at hl 0 rfl) ?_
        refine lv_iload S.1 S.2.1 dX0_lastInTime_15 (lv_at hl 4 rfl) ?_
        refine lv_iload_n S.1 S.2.1 dX0_lastInTime_17 rfl (lv_at hl 2 rfl) ?_
        refine cW_bpi (cW_V (n := 2) (As := [.int x4_3, .int day]) (rest := []) (k := 14) (i := i) S K hH (show i < 12 by omega) rfl rfl (k_X0_hourAt l D B L A σ τ i x4_3 day (show i < 12 by omega) (by omega) (by omega) hI) gX0_lastInTime_X0_hourAt rfl hdV_X0_hourAt ⟨Nat.le_of_ble_eq_true rfl, Nat.le_of_ble_eq_true rfl⟩ rfl hl.1 (Nat.le_of_ble_eq_true rfl) dX0_lastInTime_18) hS (fun v5 H locs q5 hH hS => ?_)
        refine lv_aload_n S.1 S.2.1 dX0_lastInTime_21 rfl (lv_at hl 3 rfl) ?_
        refine lv_aload_n S.1 S.2.1 dX0_lastInTime_22 rfl (lv_at hl 0 rfl) ?_
        refine rC_14_6 S hnX0 K hH (show i < 12 by omega) (mG wd_9) dX0_lastInTime_23 ?_
        refine lv_iload S.1 S.2.1 dX0_lastInTime_26 (lv_at hl 4 rfl) ?_
        refine lC_15 S K hH (show i < 12 by omega) (vin (by omega) (by omega)) dX0_lastInTime_28 ?_
        refine lv_topi (fun v6 e6 => ?_)
        have b6 : 0 ≤ v6.toInt ∧ v6.toInt ≤ 11 := by rw [e6]; exact hI.1 27 i x4_3.toNatClampNeg
        refine lC_21 S K hH (show q < 60 by omega) (vin (by omega) (by omega)) dX0_lastInTime_29 ?_
        refine lv_topi (fun v7 e7 => ?_)
        have f29 : v7.toInt = (σ 43 q (σ 27 i x4_3.toNatClampNeg).toNatClampNeg).toInt := by rw [e7, e6]
        refine lv_icmp_gt (tgt := 36) S.1 S.2.1 dX0_lastInTime_30 (by decide) (fun c8 => ?_) (fun c8 => ?_)
        · have j8 := t_lt c8
          obtain ⟨v9, e9⟩ : ∃ y_9 : Int32, y_9 = x4_3 + (-1) := ⟨_, rfl⟩
          have i9 : v9.toInt = x4_3.toInt + (-1) := i_addc e9 (by decide) (by omega) (by omega)
          refine lv_iinc (v := v9) (lv' := [(4, .int v9), (0, .ref (L 14 i)), (1, .int stop), (2, .int day), (3, .ref (L 21 q))]) S.1 S.2.1 dX0_lastInTime_36 hl (k := 4) rfl (by rw [e9]; rfl) (by decide) rfl (fun ls hl => ?_)
          refine lv_goto (tgt := 8) S.1 S.2.1 dX0_lastInTime_39 (by decide) ?_
          exact ih3 v9 _ _ ls (by omega) (by omega) (by intro s z1 z2; by_cases z : (s : Int) = (x4_3).toInt; have z3 := cl_eq (j := x4_3) (by omega); have z4 : s = (x4_3).toNatClampNeg := (by omega); rw [z4]; unfold inT; rw [← q5, ← f29]; omega; exact wt s (by omega) z2) (by omega) hH hS (lv_sub hl [1, 2, 3, 4, 0] rfl)
        · have j8 := t_nlt c8
          refine lv_iload S.1 S.2.1 dX0_lastInTime_33 (lv_at hl 4 rfl) ?_
          refine cW_iret S hr hk hH hS ?_ dX0_lastInTime_35
          exact ⟨x4_3, rfl, rfl, rfl, by refine ⟨by omega, Or.inr ⟨by omega, by omega, ?_, wt⟩⟩; unfold inT; rw [← q5, ← f29]; omega⟩
  exact cut_8_3 _ v2 _ _ ls (Nat.lt_succ_self _) (by omega) (by intro s z1 z2; omega) (by omega) hH hS (lv_sub hl [1, 2, 3, 4, 0] rfl)
set_option maxHeartbeats 4000000 in
set_option maxRecDepth 100000 in
theorem k_X0_roomLeft (l : Launch) (D : va_G) (B : Nat → ClassId) (L : QL) (A : Nat → Prop) (σ : QS) (τ : Int64) (i : Nat) (day : Int32)  (hp0 : i < 12) (hp1 : 0 ≤ day.toInt) : cW cntC gC l D B L A yX0_roomLeft wsX0_roomLeft 0 0 [.ref (L 14 i), .int day] σ τ (pI (fun x σ' τ' => σ' = σ ∧ τ' = τ ∧ ((σ 31 i (day.toNatClampNeg % 4) = day ∧ x = σ 23 i 0 - σ 30 i (day.toNatClampNeg % 4)) ∨ (σ 31 i (day.toNatClampNeg % 4) ≠ day ∧ x = σ 23 i 0)))) := by
  refine cW_of (cc := cX0_roomLeft) (nL := 3) (ret := (some .int)) (by decide) rfl (Nat.le_of_ble_eq_true rfl) ?_
  intro p e s m below meth c S hr hk K hH hS ls hl
  have hnX0 : ∀ w ∈ wsX00, w ∈ wsX0_roomLeft := fun w h => mG (tX0 w h)
  have l4 : (4 : Int32).toInt = 4 := by decide
  have hl : lv_has ls 3 [(0, .ref (L 14 i)), (1, .int day)] := hl
  refine lv_iload_n S.1 S.2.1 dX0_roomLeft_0 rfl (lv_at hl 1 rfl) ?_
  refine lv_iconst (v := 4) S.1 S.2.1 dX0_roomLeft_1 (by decide) ?_
  refine lv_irem S.1 S.2.1 dX0_roomLeft_2 (by decide) ?_
  refine lv_topi (fun v1 e1 => ?_)
  have i1 : v1.toInt = day.toInt % 4 := i_rem e1 (by decide) (by decide) (by omega)
  refine lv_istore_n (lv' := [(2, .int v1), (0, .ref (L 14 i)), (1, .int day)]) S.1 S.2.1 dX0_roomLeft_3 rfl hl (by decide) rfl (fun ls hl => ?_)
  refine lv_aload_n S.1 S.2.1 dX0_roomLeft_4 rfl (lv_at hl 1 rfl) ?_
  refine rC_14_10 S hnX0 K hH (show i < 12 by omega) (mG wd_13) dX0_roomLeft_5 ?_
  refine lv_iload_n S.1 S.2.1 dX0_roomLeft_8 rfl (lv_at hl 0 rfl) ?_
  refine lC_19 S K hH (show i < 12 by omega) (vin (by omega) (by omega)) dX0_roomLeft_9 ?_
  refine lv_topi (fun v2 e2 => ?_)
  have f9 : v2 = σ 31 i (day.toNatClampNeg % 4) := by rw [e2, cl_mod4 i1 (by omega)]
  refine lv_iload_n S.1 S.2.1 dX0_roomLeft_10 rfl (lv_at hl 2 rfl) ?_
  refine lv_icmp_ne (tgt := 28) S.1 S.2.1 dX0_roomLeft_11 (by decide) (fun c3 => ?_) (fun c3 => ?_)
  · have j3 := t_neq c3
    refine lv_aload_n S.1 S.2.1 dX0_roomLeft_28 rfl (lv_at hl 1 rfl) ?_
    refine rC_14_2 S hnX0 K hH (show i < 12 by omega) (mG wd_4) dX0_roomLeft_29 ?_
    refine lv_topi (fun v4 e4 => ?_)
    refine cW_iret S hr hk hH hS ?_ dX0_roomLeft_32
    exact ⟨v4, rfl, rfl, rfl, by first | exact Or.inl ⟨f9.symm.trans (by assumption), by rw [e9999, e9999, f23]⟩ | exact Or.inr ⟨fun z => absurd (f9.trans z) (by assumption), by rw [e4]⟩⟩
  · have j3 := t_eq c3
    refine lv_aload_n S.1 S.2.1 dX0_roomLeft_14 rfl (lv_at hl 1 rfl) ?_
    refine rC_14_2 S hnX0 K hH (show i < 12 by omega) (mG wd_4) dX0_roomLeft_15 ?_
    refine lv_topi (fun v5 e5 => ?_)
    refine lv_aload_n S.1 S.2.1 dX0_roomLeft_18 rfl (lv_at hl 1 rfl) ?_
    refine rC_14_9 S hnX0 K hH (show i < 12 by omega) (mG wd_12) dX0_roomLeft_19 ?_
    refine lv_iload_n S.1 S.2.1 dX0_roomLeft_22 rfl (lv_at hl 0 rfl) ?_
    refine lC_18 S K hH (show i < 12 by omega) (vin (by omega) (by omega)) dX0_roomLeft_23 ?_
    refine lv_topi (fun v6 e6 => ?_)
    have f23 : v6 = σ 30 i (day.toNatClampNeg % 4) := by rw [e6, cl_mod4 i1 (by omega)]
    refine lv_isub S.1 S.2.1 dX0_roomLeft_24 ?_
    refine lv_topi (fun v7 e7 => ?_)
    refine lv_goto (tgt := 32) S.1 S.2.1 dX0_roomLeft_25 (by decide) ?_
    refine cW_iret S hr hk hH hS ?_ dX0_roomLeft_32
    exact ⟨v7, rfl, rfl, rfl, by first | exact Or.inl ⟨f9.symm.trans (by assumption), by rw [e7, e5, f23]⟩ | exact Or.inr ⟨fun z => absurd (f9.trans z) (by assumption), by rw [e4]⟩⟩
set_option maxHeartbeats 4000000 in
set_option maxRecDepth 100000 in
theorem k_X0_load (l : Launch) (D : va_G) (B : Nat → ClassId) (L : QL) (A : Nat → Prop) (σ : QS) (τ : Int64) (i : Nat) (day : Int32) (size : Int32)  (hp0 : i < 12) (hp1 : 0 ≤ day.toInt) (hI : InvC σ) : cW cntC gC l D B L A yX0_load wsX0_load 0 0 [.ref (L 14 i), .int day, .int size] σ τ (pV (fun σ' τ' => InvC σ' ∧ Keep [30, 31] σ σ' ∧ τ' = τ ∧ ((σ 31 i (day.toNatClampNeg % 4) = day ∧ σ' 31 = σ 31 ∧ at2 (σ' 30) (σ 30) i (day.toNatClampNeg % 4) (σ 30 i (day.toNatClampNeg % 4) + size)) ∨ (σ 31 i (day.toNatClampNeg % 4) ≠ day ∧ at2 (σ' 31) (σ 31) i (day.toNatClampNeg % 4) day ∧ at2 (σ' 30) (σ 30) i (day.toNatClampNeg % 4) (0 + size))))) := by
  refine cW_of (cc := cX0_load) (nL := 4) (ret := none) (by decide) rfl (Nat.le_of_ble_eq_true rfl) ?_
  intro p e s m below meth c S hr hk K hH hS ls hl
  have hnX0 : ∀ w ∈ wsX00, w ∈ wsX0_load := fun w h => mG (tX0 w h)
  have l0 : (0 : Int32).toInt = 0 := by decide
  have l4 : (4 : Int32).toInt = 4 := by decide
  have hP : Keep [30, 31] σ σ := Keep_r
  have hl : lv_has ls 4 [(0, .ref (L 14 i)), (1, .int day), (2, .int size)] := hl
  refine lv_iload_n S.1 S.2.1 dX0_load_0 rfl (lv_at hl 1 rfl) ?_
  refine lv_iconst (v := 4) S.1 S.2.1 dX0_load_1 (by decide) ?_
  refine lv_irem S.1 S.2.1 dX0_load_2 (by decide) ?_
  refine lv_topi (fun v1 e1 => ?_)
  have i1 : v1.toInt = day.toInt % 4 := i_rem e1 (by decide) (by decide) (by omega)
  refine lv_istore_n (lv' := [(3, .int v1), (0, .ref (L 14 i)), (1, .int day), (2, .int size)]) S.1 S.2.1 dX0_load_3 rfl hl (by decide) rfl (fun ls hl => ?_)
  refine lv_aload_n S.1 S.2.1 dX0_load_4 rfl (lv_at hl 1 rfl) ?_
  refine rC_14_10 S hnX0 K hH (show i < 12 by omega) (mG wd_13) dX0_load_5 ?_
  refine lv_iload_n S.1 S.2.1 dX0_load_8 rfl (lv_at hl 0 rfl) ?_
  refine lC_19 S K hH (show i < 12 by omega) (vin (by omega) (by omega)) dX0_load_9 ?_
  refine lv_topi (fun v2 e2 => ?_)
  have f9 : v2 = σ 31 i (day.toNatClampNeg % 4) := by rw [e2, cl_mod4 i1 (by omega)]
  refine lv_iload_n S.1 S.2.1 dX0_load_10 rfl (lv_at hl 2 rfl) ?_
  refine lv_icmp_eq (tgt := 28) S.1 S.2.1 dX0_load_11 (by decide) (fun c3 => ?_) (fun c3 => ?_)
  · have j3 := t_eq c3
    refine lv_aload_n S.1 S.2.1 dX0_load_28 rfl (lv_at hl 1 rfl) ?_
    refine rC_14_9 S hnX0 K hH (show i < 12 by omega) (mG wd_12) dX0_load_29 ?_
    refine lv_iload_n S.1 S.2.1 dX0_load_32 rfl (lv_at hl 0 rfl) ?_
    refine lv_dup2_11 S.1 S.2.1 dX0_load_33 rfl rfl ?_
    refine lC_18 S K hH (show i < 12 by omega) (vin (by omega) (by omega)) dX0_load_34 ?_
    refine lv_topi (fun v4 e4 => ?_)
    refine lv_iload_n S.1 S.2.1 dX0_load_35 rfl (lv_at hl 3 rfl) ?_
    refine lv_iadd S.1 S.2.1 dX0_load_36 ?_
    refine lv_topi (fun v5 e5 => ?_)
    refine sC_18 S K hH hS (show i < 12 by omega) (vin (by omega) (by omega)) dX0_load_37 (fun H locs hH hS => ?_)
    obtain ⟨σ6, eσ6⟩ : ∃ z_9 : QS, z_9 = rs σ 30 i (upd (σ 30 i) v1.toNatClampNeg v5) := ⟨_, rfl⟩
    rw [← eσ6] at hH
    have hI := InvC_a eσ6 hI (by decide) (any32 _)
    have hP := Keep_w eσ6 hP (by decide)
    refine cW_vret S hr hk hH hS ?_ dX0_load_38
    exact ⟨rfl, hI, hP, rfl, by first | exact Or.inl ⟨f9.symm.trans (by assumption), by rw [eσ6, rs_v (by decide)], at2_w (by rw [eσ6, e5, e4, cl_mod4 i1 (by omega)])⟩ | exact Or.inr ⟨fun z => absurd (f9.trans z) (by assumption), by rw [eσ6, rs_v (by decide), eσ9999, rs_v (by decide)]; exact at2_w (by rw [eσ9999, cl_mod4 i1 (by omega)]), by rw [eσ6, e5, e4, eσ9999, cl_mod4 i1 (by omega), rs_self, upd_self]; exact at2_ww (by rw [eσ9999, rs_v (by decide)])⟩⟩
  · have j3 := t_neq c3
    refine lv_aload_n S.1 S.2.1 dX0_load_14 rfl (lv_at hl 1 rfl) ?_
    refine rC_14_10 S hnX0 K hH (show i < 12 by omega) (mG wd_13) dX0_load_15 ?_
    refine lv_iload_n S.1 S.2.1 dX0_load_18 rfl (lv_at hl 0 rfl) ?_
    refine lv_iload_n S.1 S.2.1 dX0_load_19 rfl (lv_at hl 2 rfl) ?_
    refine sC_19 S K hH hS (show i < 12 by omega) (vin (by omega) (by omega)) dX0_load_20 (fun H locs hH hS => ?_)
    obtain ⟨σ7, eσ7⟩ : ∃ z_9 : QS, z_9 = rs σ 31 i (upd (σ 31 i) v1.toNatClampNeg day) := ⟨_, rfl⟩
    rw [← eσ7] at hH
    have hI := InvC_a eσ7 hI (by decide) (any32 _)
    have hP := Keep_w eσ7 hP (by decide)
    refine lv_aload_n S.1 S.2.1 dX0_load_21 rfl (lv_at hl 1 rfl) ?_
    refine rC_14_9 S hnX0 K hH (show i < 12 by omega) (mG wd_12) dX0_load_22 ?_
    refine lv_iload_n S.1 S.2.1 dX0_load_25 rfl (lv_at hl 0 rfl) ?_
    refine lv_iconst (v := 0) S.1 S.2.1 dX0_load_26 (by decide) ?_
    refine sC_18 S K hH hS (show i < 12 by omega) (vin (by omega) (by omega)) dX0_load_27 (fun H locs hH hS => ?_)
    obtain ⟨σ8, eσ8⟩ : ∃ z_9 : QS, z_9 = rs σ7 30 i (upd (σ7 30 i) v1.toNatClampNeg 0) := ⟨_, rfl⟩
    rw [← eσ8] at hH
    have hI := InvC_a eσ8 hI (by decide) (any32 _)
    have hP := Keep_w eσ8 hP (by decide)
    refine lv_aload_n S.1 S.2.1 dX0_load_28 rfl (lv_at hl 1 rfl) ?_
    refine rC_14_9 S hnX0 K hH (show i < 12 by omega) (mG wd_12) dX0_load_29 ?_
    refine lv_iload_n S.1 S.2.1 dX0_load_32 rfl (lv_at hl 0 rfl) ?_
    refine lv_dup2_11 S.1 S.2.1 dX0_load_33 rfl rfl ?_
    refine lC_18 S K hH (show i < 12 by omega) (vin (by omega) (by omega)) dX0_load_34 ?_
    refine lv_topi (fun v9 e9 => ?_)
    refine lv_iload_n S.1 S.2.1 dX0_load_35 rfl (lv_at hl 3 rfl) ?_
    refine lv_iadd S.1 S.2.1 dX0_load_36 ?_
    refine lv_topi (fun v10 e10 => ?_)
    refine sC_18 S K hH hS (show i < 12 by omega) (vin (by omega) (by omega)) dX0_load_37 (fun H locs hH hS => ?_)
    obtain ⟨σ11, eσ11⟩ : ∃ z_9 : QS, z_9 = rs σ8 30 i (upd (σ8 30 i) v1.toNatClampNeg v10) := ⟨_, rfl⟩
    rw [← eσ11] at hH
    have hI := InvC_a eσ11 hI (by decide) (any32 _)
    have hP := Keep_w eσ11 hP (by decide)
    refine cW_vret S hr hk hH hS ?_ dX0_load_38
    exact ⟨rfl, hI, hP, rfl, by first | exact Or.inl ⟨f9.symm.trans (by assumption), by rw [eσ11, rs_v (by decide)], at2_w (by rw [eσ11, e10, e9, cl_mod4 i1 (by omega)])⟩ | exact Or.inr ⟨fun z => absurd (f9.trans z) (by assumption), by rw [eσ11, rs_v (by decide), eσ8, rs_v (by decide)]; exact at2_w (by rw [eσ7, cl_mod4 i1 (by omega)]), by rw [eσ11, e10, e9, eσ8, cl_mod4 i1 (by omega), rs_self, upd_self]; exact at2_ww (by rw [eσ7, rs_v (by decide)])⟩⟩
set_option maxHeartbeats 4000000 in
set_option maxRecDepth 100000 in
theorem k_X0_unload (l : Launch) (D : va_G) (B : Nat → ClassId) (L : QL) (A : Nat → Prop) (σ : QS) (τ : Int64) (i : Nat) (day : Int32) (size : Int32)  (hp0 : i < 12) (hp1 : 0 ≤ day.toInt) (hI : InvC σ) : cW cntC gC l D B L A yX0_unload wsX0_unload 0 0 [.ref (L 14 i), .int day, .int size] σ τ (pV (fun σ' τ' => InvC σ' ∧ Keep [30, 25] σ σ' ∧ τ' = τ ∧ (at2 (σ' 30) (σ 30) i (day.toNatClampNeg % 4) (σ 30 i (day.toNatClampNeg % 4) - size) ∧ σ' 25 = rs σ 25 i (fun _ => σ 25 i 0 + size * σ 24 i 0) 25))) := by
  refine cW_of (cc := cX0_unload) (nL := 3) (ret := none) (by decide) rfl (Nat.le_of_ble_eq_true rfl) ?_
  intro p e s m below meth c S hr hk K hH hS ls hl
  have hnX0 : ∀ w ∈ wsX00, w ∈ wsX0_unload := fun w h => mG (tX0 w h)
  have l4 : (4 : Int32).toInt = 4 := by decide
  have hP : Keep [30, 25] σ σ := Keep_r
  have hl : lv_has ls 3 [(0, .ref (L 14 i)), (1, .int day), (2, .int size)] := hl
  refine lv_aload_n S.1 S.2.1 dX0_unload_0 rfl (lv_at hl 0 rfl) ?_
  refine rC_14_9 S hnX0 K hH (show i < 12 by omega) (mG wd_12) dX0_unload_1 ?_
  refine lv_iload_n S.1 S.2.1 dX0_unload_4 rfl (lv_at hl 1 rfl) ?_
  refine lv_iconst (v := 4) S.1 S.2.1 dX0_unload_5 (by decide) ?_
  refine lv_irem S.1 S.2.1 dX0_unload_6 (by decide) ?_
  refine lv_topi (fun v1 e1 => ?_)
  have i1 : v1.toInt = day.toInt % 4 := i_rem e1 (by decide) (by decide) (by omega)
  refine lv_dup2_11 S.1 S.2.1 dX0_unload_7 rfl rfl ?_
  refine lC_18 S K hH (show i < 12 by omega) (vin (by omega) (by omega)) dX0_unload_8 ?_
  refine lv_topi (fun v2 e2 => ?_)
  refine lv_iload_n S.1 S.2.1 dX0_unload_9 rfl (lv_at hl 2 rfl) ?_
  refine lv_isub S.1 S.2.1 dX0_unload_10 ?_
  refine lv_topi (fun v3 e3 => ?_)
  refine sC_18 S K hH hS (show i < 12 by omega) (vin (by omega) (by omega)) dX0_unload_11 (fun H locs hH hS => ?_)
  obtain ⟨σ4, eσ4⟩ : ∃ z_9 : QS, z_9 = rs σ 30 i (upd (σ 30 i) v1.toNatClampNeg v3) := ⟨_, rfl⟩
  rw [← eσ4] at hH
  have hI := InvC_a eσ4 hI (by decide) (any32 _)
  have hP := Keep_w eσ4 hP (by decide)
  refine lv_aload_n S.1 S.2.1 dX0_unload_12 rfl (lv_at hl 0 rfl) ?_
  refine lv_dup S.1 S.2.1 dX0_unload_13 rfl ?_
  refine rC_14_4 S hnX0 K hH (show i < 12 by omega) (mG wd_6) dX0_unload_14 ?_
  refine lv_topi (fun v5 e5 => ?_)
  refine lv_iload_n S.1 S.2.1 dX0_unload_17 rfl (lv_at hl 2 rfl) ?_
  refine lv_aload_n S.1 S.2.1 dX0_unload_18 rfl (lv_at hl 0 rfl) ?_
  refine rC_14_3 S hnX0 K hH (show i < 12 by omega) (mG wd_5) dX0_unload_19 ?_
  refine lv_topi (fun v6 e6 => ?_)
  refine lv_imul S.1 S.2.1 dX0_unload_22 ?_
  refine lv_topi (fun v7 e7 => ?_)
  refine lv_iadd S.1 S.2.1 dX0_unload_23 ?_
  refine lv_topi (fun v8 e8 => ?_)
  refine pC_14_4 S hnX0 K hH hS (show i < 12 by omega) (mG wd_6) dX0_unload_24 (fun H locs hH hS => ?_)
  obtain ⟨σ9, eσ9⟩ : ∃ z_9 : QS, z_9 = rs σ4 25 i (fun _ => v8) := ⟨_, rfl⟩
  rw [← eσ9] at hH
  have hI := InvC_f eσ9 hI (by decide) (any32 _)
  have hP := Keep_w eσ9 hP (by decide)
  refine cW_vret S hr hk hH hS ?_ dX0_unload_27
  exact ⟨rfl, hI, hP, rfl, by refine ⟨by rw [eσ9, rs_v (by decide)]; exact at2_w (by rw [eσ4, e3, e2, cl_mod4 i1 (by omega)]), ?_⟩; rw [eσ9, e8, e7, e5, e6, eσ4, rs_v (a := 24) (v := 30) (by decide), rs_v (a := 25) (v := 30) (by decide)]; exact rs_tw (rs_v (by decide))⟩
set_option maxHeartbeats 4000000 in
set_option maxRecDepth 100000 in
theorem k_X0_isLaden (l : Launch) (D : va_G) (B : Nat → ClassId) (L : QL) (A : Nat → Prop) (σ : QS) (τ : Int64) (i : Nat)  (hp0 : i < 12) : cW cntC gC l D B L A yX0_isLaden wsX0_isLaden 0 0 [.ref (L 14 i)] σ τ (pI (fun x σ' τ' => σ' = σ ∧ τ' = τ ∧ ((x.toInt = 1 ∧ ldn (σ 30 i)) ∨ (x.toInt = 0 ∧ ¬ ldn (σ 30 i))))) := by
  refine cW_of (cc := cX0_isLaden) (nL := 2) (ret := (some .boolean)) (by decide) rfl (Nat.le_of_ble_eq_true rfl) ?_
  intro p e s m below meth c S hr hk K hH hS ls hl
  have hnX0 : ∀ w ∈ wsX00, w ∈ wsX0_isLaden := fun w h => mG (tX0 w h)
  have l0 : (0 : Int32).toInt = 0 := by decide
  have l1 : (1 : Int32).toInt = 1 := by decide
  have l4 : (4 : Int32).toInt = 4 := by decide
  have hl : lv_has ls 2 [(0, .ref (L 14 i))] := hl
  refine lv_iconst (v := 0) S.1 S.2.1 dX0_isLaden_0 (by decide) ?_
  refine lv_istore_n (lv' := [(1, .int 0), (0, .ref (L 14 i))]) S.1 S.2.1 dX0_isLaden_1 rfl hl (by decide) rfl (fun ls hl => ?_)
  have cut_2_1 : ∀ (n : Nat) (x1_1 : Int32)  (H : Heap) (locs : List Loc) (ls : Array Slot), (4 - x1_1.toInt).toNat < n → 0 ≤ x1_1.toInt ∧ x1_1.toInt ≤ 4 → (∀ q : Nat, (q : Int) < x1_1.toInt → ¬ 0 < (σ 30 i q).toInt) → hW cntC gC D B L σ τ H → va_S A s.heap H locs → lv_has ls 2 [(0, .ref (L 14 i)), (1, .int x1_1)] → W p l e { frames := 0, cells := 0, slots := 0, locals := 0 } s m [.ref (L 14 i)].toArray below meth c H locs 0 0 (MQ below (QcW cntC gC D B L A (pI (fun x σ' τ' => σ' = σ ∧ τ' = τ ∧ ((x.toInt = 1 ∧ ldn (σ 30 i)) ∨ (x.toInt = 0 ∧ ¬ ldn (σ 30 i)))))) [.ref (L 14 i)].toArray s 0 0 A) (F0 m 2 ls []) := by
    intro n
    induction n with
    | zero => intro x1_1 H locs ls hm; exact absurd hm (Nat.not_lt_zero _)
    | succ n ih1 =>
      intro x1_1 H locs ls hm1 h1_0 wl hH hS hl
      refine lv_iload_n S.1 S.2.1 dX0_isLaden_2 rfl (lv_at hl 1 rfl) ?_
      refine lv_iconst (v := 4) S.1 S.2.1 dX0_isLaden_3 (by decide) ?_
      refine lv_icmp_ge (tgt := 24) S.1 S.2.1 dX0_isLaden_4 (by decide) (fun c2 => ?_) (fun c2 => ?_)
      · have j2 := t_le c2
        refine lv_iconst (v := 0) S.1 S.2.1 dX0_isLaden_24 (by decide) ?_
        refine cW_zret S hr hk hH hS (by decide) ?_ dX0_isLaden_25
        exact ⟨0, rfl, rfl, rfl, by exact Or.inr ⟨by decide, fun z => by obtain ⟨q, z1, z2⟩ := z; exact wl q (by omega) z2⟩⟩
      · have j2 := t_nle c2
        refine lv_aload_n S.1 S.2.1 dX0_isLaden_7 rfl (lv_at hl 0 rfl) ?_
        refine rC_14_9 S hnX0 K hH (show i < 12 by omega) (mG wd_12) dX0_isLaden_8 ?_
        refine lv_iload_n S.1 S.2.1 dX0_isLaden_11 rfl (lv_at hl 1 rfl) ?_
        refine lC_18 S K hH (show i < 12 by omega) (vin (by omega) (by omega)) dX0_isLaden_12 ?_
        refine lv_topi (fun v3 e3 => ?_)
        have f12 : v3.toInt = (σ 30 i x1_1.toNatClampNeg).toInt := by rw [e3]
        refine lv_if_le (tgt := 18) S.1 S.2.1 dX0_isLaden_13 (by decide) (fun c4 => ?_) (fun c4 => ?_)
        · have j4 := t_le c4
          obtain ⟨v5, e5⟩ : ∃ y_9 : Int32, y_9 = x1_1 + 1 := ⟨_, rfl⟩
          have i5 : v5.toInt = x1_1.toInt + 1 := i_addc e5 (by decide) (by omega) (by omega)
          refine lv_iinc (v := v5) (lv' := [(1, .int v5), (0, .ref (L 14 i))]) S.1 S.2.1 dX0_isLaden_18 hl (k := 1) rfl (by rw [e5]; rfl) (by decide) rfl (fun ls hl => ?_)
          refine lv_goto (tgt := 2) S.1 S.2.1 dX0_isLaden_21 (by decide) ?_
          exact ih1 v5 _ _ ls (by omega) (by omega) (by intro q z; have z3 := cl_eq (j := x1_1) (by omega); by_cases y : q = (x1_1).toNatClampNeg; rw [y]; omega; exact wl q (by omega)) hH hS (lv_sub hl [1, 0] rfl)
        · have j4 := t_nle c4
          refine lv_iconst (v := 1) S.1 S.2.1 dX0_isLaden_16 (by decide) ?_
          refine cW_zret S hr hk hH hS (by decide) ?_ dX0_isLaden_17
          exact ⟨1, rfl, rfl, rfl, by exact Or.inl ⟨by decide, x1_1.toNatClampNeg, by have z3 := cl_eq (j := x1_1) (by omega); omega, by omega⟩⟩
  exact cut_2_1 _ 0 _ _ ls (Nat.lt_succ_self _) (by omega) (by intro q z; omega) hH hS (lv_sub hl [1, 0] rfl)
