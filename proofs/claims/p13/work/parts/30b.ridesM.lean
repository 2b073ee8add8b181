set_option maxHeartbeats 4000000 in
set_option maxRecDepth 100000 in
theorem k_X5_parcel (l : Launch) (D : va_G) (B : Nat → ClassId) (L : QL) (A : Nat → Prop) (σ : QS) (τ : Int64) (a : Int32) (b : Int32) (z : Int32)  (hI : InvM σ) (hp1 : ((σ 4 0 0).toInt < 60 → σ 26 0 (σ 4 0 0).toNatClampNeg = 0)) : cW cntM gM l D B L A yX5_parcel wsX5_parcel 1 22 [.ref (L 0 0), .int a, .int b, .int z] σ τ (pI (fun x σ' τ' => InvM σ' ∧ Keep [0, 18, 19, 20, 21, 22, 23, 25, 4] σ σ' ∧ τ' = τ ∧ (((x.toInt = -1 ∧ σ' 4 = σ 4 ∧ ¬ (0 ≤ a.toInt ∧ a.toInt ≤ 11 ∧ 0 ≤ b.toInt ∧ b.toInt ≤ 11 ∧ a.toInt ≠ b.toInt ∧ 1 ≤ z.toInt ∧ z.toInt ≤ 20 ∧ (σ 4 0 0).toInt < 60)) ∨ ((0 ≤ a.toInt ∧ a.toInt ≤ 11 ∧ 0 ≤ b.toInt ∧ b.toInt ≤ 11 ∧ a.toInt ≠ b.toInt ∧ 1 ≤ z.toInt ∧ z.toInt ≤ 20 ∧ (σ 4 0 0).toInt < 60) ∧ x.toInt = (σ 4 0 0).toInt ∧ (σ' 4 0 0).toInt = (σ 4 0 0).toInt + 1)) ∧ ((x.toInt = -1 ∧ Keep [0] σ σ') ∨ (x.toInt ≠ -1 ∧ pM σ' = gvA (pM σ) (σ 4 0 0).toNatClampNeg a b z))))) := by
  refine cW_of (cc := cX5_parcel) (nL := 4) (ret := (some .int)) (by decide) rfl (Nat.le_of_ble_eq_true rfl) ?_
  intro p e s m below meth c S hr hk K hH hS ls hl
  have hnX5 : ∀ w ∈ wsX50, w ∈ wsX5_parcel := fun w h => mG (tX5 w h)
  have lm1 : ((-1) : Int32).toInt = -1 := by decide
  have l0 : (0 : Int32).toInt = 0 := by decide
  have l1 : (1 : Int32).toInt = 1 := by decide
  have l20 : (20 : Int32).toInt = 20 := by decide
  have l60 : (60 : Int32).toInt = 60 := by decide
  have hP : Keep [0, 18, 19, 20, 21, 22, 23, 25, 4] σ σ := Keep_r
  have hl : lv_has ls 4 [(0, .ref (L 0 0)), (1, .int a), (2, .int b), (3, .int z)] := hl
  refine lv_aload_n S.1 S.2.1 dX5_parcel_0 rfl (lv_at hl 0 rfl) ?_
  refine lv_iconst (v := 0) S.1 S.2.1 dX5_parcel_1 (by decide) ?_
  refine pM_0_0 S hnX5 K hH hS (mG wd_337) dX5_parcel_2 (fun H locs hH hS => ?_)
  obtain ⟨σ1, eσ1⟩ : ∃ z_9 : QS, z_9 = rs σ 0 0 (fun _ => 0) := ⟨_, rfl⟩
  rw [← eσ1] at hH
  have hI := InvM_f eσ1 hI (by decide) (any32 _)
  have hP := Keep_w eσ1 hP (by decide)
  refine lv_aload_n S.1 S.2.1 dX5_parcel_5 rfl (lv_at hl 0 rfl) ?_
  refine rM_0_4 S hnX5 K hH (mG wd_336) dX5_parcel_6 ?_
  refine lv_topi (fun v2 e2 => ?_)
  have b2 : 0 ≤ v2.toInt ∧ v2.toInt ≤ 60 := by rw [e2]; exact hI.1 4 0 0
  have fv2 : v2.toInt = (σ 4 0 0).toInt := by rw [e2, eσ1, rs_v (by decide)]
  refine lv_bipush (v := 60) S.1 S.2.1 dX5_parcel_9 (by decide) ?_
  refine lv_icmp_eq (tgt := 43) S.1 S.2.1 dX5_parcel_11 (by decide) (fun c3 => ?_) (fun c3 => ?_)
  · have j3 := t_eq c3
    refine lv_iconst (v := (-1)) S.1 S.2.1 dX5_parcel_43 (by decide) ?_
    refine cW_iret S hr hk hH hS ?_ dX5_parcel_44
    exact ⟨(-1), rfl, hI, hP, rfl, by exact ⟨Or.inl ⟨by decide, by rw [eσ1, rs_v (by decide)], by omega⟩, Or.inl ⟨by decide, Keep_w eσ1 Keep_r (by decide)⟩⟩⟩
  · have j3 := t_neq c3
    refine lv_iload_n S.1 S.2.1 dX5_parcel_14 rfl (lv_at hl 1 rfl) ?_
    refine cW_bpi (cW_S (n := 1) (As := [.int a]) (rest := []) S K hH (k_X5_isPlace l D B L A σ1 τ a ) gX5_parcel_X5_isPlace rfl hdS_X5_isPlace ⟨Nat.le_of_ble_eq_true rfl, Nat.le_of_ble_eq_true rfl⟩ rfl hl.1 (Nat.le_of_ble_eq_true rfl) dX5_parcel_15) hS (fun v4 H locs q4 hH hS => ?_)
    refine lv_if_eq (tgt := 43) S.1 S.2.1 dX5_parcel_18 (by decide) (fun c5 => ?_) (fun c5 => ?_)
    · have j5 := t_eq c5
      refine lv_iconst (v := (-1)) S.1 S.2.1 dX5_parcel_43 (by decide) ?_
      refine cW_iret S hr hk hH hS ?_ dX5_parcel_44
      exact ⟨(-1), rfl, hI, hP, rfl, by exact ⟨Or.inl ⟨by decide, by rw [eσ1, rs_v (by decide)], by omega⟩, Or.inl ⟨by decide, Keep_w eσ1 Keep_r (by decide)⟩⟩⟩
    · have j5 := t_neq c5
      refine lv_iload_n S.1 S.2.1 dX5_parcel_21 rfl (lv_at hl 2 rfl) ?_
      refine cW_bpi (cW_S (n := 1) (As := [.int b]) (rest := []) S K hH (k_X5_isPlace l D B L A σ1 τ b ) gX5_parcel_X5_isPlace rfl hdS_X5_isPlace ⟨Nat.le_of_ble_eq_true rfl, Nat.le_of_ble_eq_true rfl⟩ rfl hl.1 (Nat.le_of_ble_eq_true rfl) dX5_parcel_22) hS (fun v6 H locs q6 hH hS => ?_)
      refine lv_if_eq (tgt := 43) S.1 S.2.1 dX5_parcel_25 (by decide) (fun c7 => ?_) (fun c7 => ?_)
      · have j7 := t_eq c7
        refine lv_iconst (v := (-1)) S.1 S.2.1 dX5_parcel_43 (by decide) ?_
        refine cW_iret S hr hk hH hS ?_ dX5_parcel_44
        exact ⟨(-1), rfl, hI, hP, rfl, by exact ⟨Or.inl ⟨by decide, by rw [eσ1, rs_v (by decide)], by omega⟩, Or.inl ⟨by decide, Keep_w eσ1 Keep_r (by decide)⟩⟩⟩
      · have j7 := t_neq c7
        refine lv_iload_n S.1 S.2.1 dX5_parcel_28 rfl (lv_at hl 1 rfl) ?_
        refine lv_iload_n S.1 S.2.1 dX5_parcel_29 rfl (lv_at hl 2 rfl) ?_
        refine lv_icmp_eq (tgt := 43) S.1 S.2.1 dX5_parcel_30 (by decide) (fun c8 => ?_) (fun c8 => ?_)
        · have j8 := t_eq c8
          refine lv_iconst (v := (-1)) S.1 S.2.1 dX5_parcel_43 (by decide) ?_
          refine cW_iret S hr hk hH hS ?_ dX5_parcel_44
          exact ⟨(-1), rfl, hI, hP, rfl, by exact ⟨Or.inl ⟨by decide, by rw [eσ1, rs_v (by decide)], by omega⟩, Or.inl ⟨by decide, Keep_w eσ1 Keep_r (by decide)⟩⟩⟩
        · have j8 := t_neq c8
          refine lv_iload_n S.1 S.2.1 dX5_parcel_33 rfl (lv_at hl 3 rfl) ?_
          refine lv_iconst (v := 1) S.1 S.2.1 dX5_parcel_34 (by decide) ?_
          refine lv_bipush (v := 20) S.1 S.2.1 dX5_parcel_35 (by decide) ?_
          refine cW_bpi (cW_S (n := 3) (As := [.int z, .int 1, .int 20]) (rest := []) S K hH (k_X5_isIn l D B L A σ1 τ z 1 20 ) gX5_parcel_X5_isIn rfl hdS_X5_isIn ⟨Nat.le_of_ble_eq_true rfl, Nat.le_of_ble_eq_true rfl⟩ rfl hl.1 (Nat.le_of_ble_eq_true rfl) dX5_parcel_37) hS (fun v9 H locs q9 hH hS => ?_)
          refine lv_if_ne (tgt := 45) S.1 S.2.1 dX5_parcel_40 (by decide) (fun c10 => ?_) (fun c10 => ?_)
          · have j10 := t_neq c10
            refine lv_aload_n S.1 S.2.1 dX5_parcel_45 rfl (lv_at hl 0 rfl) ?_
            refine rM_0_18 S hnX5 K hH (mG wd_319) dX5_parcel_46 ?_
            refine lv_aload_n S.1 S.2.1 dX5_parcel_49 rfl (lv_at hl 0 rfl) ?_
            refine rM_0_4 S hnX5 K hH (mG wd_336) dX5_parcel_50 ?_
            refine lv_topi (fun v11 e11 => ?_)
            have b11 : 0 ≤ v11.toInt ∧ v11.toInt ≤ 60 := by rw [e11]; exact hI.1 4 0 0
            have k11 : v11.toInt = v2.toInt := by rw [e11]; rw [← e2]
            have g50 : v11.toNatClampNeg = (σ 4 0 0).toNatClampNeg := cl_same (by omega)
            refine lv_iload_n S.1 S.2.1 dX5_parcel_53 rfl (lv_at hl 2 rfl) ?_
            refine sM_18 S K hH hS (vin (by omega) (by omega)) dX5_parcel_54 (fun H locs hH hS => ?_)
            obtain ⟨σ12, eσ12⟩ : ∃ z_9 : QS, z_9 = rs σ1 18 0 (upd (σ1 18 0) v11.toNatClampNeg b) := ⟨_, rfl⟩
            rw [← eσ12] at hH
            have hI := InvM_a eσ12 hI (by decide) (show (0 : Int) ≤ b.toInt ∧ b.toInt ≤ 11 by omega)
            have hP := Keep_w eσ12 hP (by decide)
            refine lv_aload_n S.1 S.2.1 dX5_parcel_55 rfl (lv_at hl 0 rfl) ?_
            refine rM_0_19 S hnX5 K hH (mG wd_320) dX5_parcel_56 ?_
            refine lv_aload_n S.1 S.2.1 dX5_parcel_59 rfl (lv_at hl 0 rfl) ?_
            refine rM_0_4 S hnX5 K hH (mG wd_336) dX5_parcel_60 ?_
            refine lv_topi (fun v13 e13 => ?_)
            have b13 : 0 ≤ v13.toInt ∧ v13.toInt ≤ 60 := by rw [e13]; exact hI.1 4 0 0
            have k13 : v13.toInt = v2.toInt := by rw [e13, eσ12, rs_v (by decide)]; rw [← e2]
            have g60 : v13.toNatClampNeg = (σ 4 0 0).toNatClampNeg := cl_same (by omega)
            refine lv_iload_n S.1 S.2.1 dX5_parcel_63 rfl (lv_at hl 3 rfl) ?_
            refine sM_19 S K hH hS (vin (by omega) (by omega)) dX5_parcel_64 (fun H locs hH hS => ?_)
            obtain ⟨σ14, eσ14⟩ : ∃ z_9 : QS, z_9 = rs σ12 19 0 (upd (σ12 19 0) v13.toNatClampNeg z) := ⟨_, rfl⟩
            rw [← eσ14] at hH
            have hI := InvM_a eσ14 hI (by decide) (show (0 : Int) ≤ z.toInt ∧ z.toInt ≤ 20 by omega)
            have hP := Keep_w eσ14 hP (by decide)
            refine lv_aload_n S.1 S.2.1 dX5_parcel_65 rfl (lv_at hl 0 rfl) ?_
            refine rM_0_20 S hnX5 K hH (mG wd_321) dX5_parcel_66 ?_
            refine lv_aload_n S.1 S.2.1 dX5_parcel_69 rfl (lv_at hl 0 rfl) ?_
            refine rM_0_4 S hnX5 K hH (mG wd_336) dX5_parcel_70 ?_
            refine lv_topi (fun v15 e15 => ?_)
            have b15 : 0 ≤ v15.toInt ∧ v15.toInt ≤ 60 := by rw [e15]; exact hI.1 4 0 0
            have k15 : v15.toInt = v2.toInt := by rw [e15, eσ14, rs_v (by decide), eσ12, rs_v (by decide)]; rw [← e2]
            have g70 : v15.toNatClampNeg = (σ 4 0 0).toNatClampNeg := cl_same (by omega)
            refine lv_iload_n S.1 S.2.1 dX5_parcel_73 rfl (lv_at hl 1 rfl) ?_
            refine sM_20 S K hH hS (vin (by omega) (by omega)) dX5_parcel_74 (fun H locs hH hS => ?_)
            obtain ⟨σ16, eσ16⟩ : ∃ z_9 : QS, z_9 = rs σ14 20 0 (upd (σ14 20 0) v15.toNatClampNeg a) := ⟨_, rfl⟩
            rw [← eσ16] at hH
            have hI := InvM_a eσ16 hI (by decide) (show ((-1) : Int) ≤ a.toInt ∧ a.toInt ≤ 11 by omega)
            have hP := Keep_w eσ16 hP (by decide)
            refine lv_aload_n S.1 S.2.1 dX5_parcel_75 rfl (lv_at hl 0 rfl) ?_
            refine rM_0_21 S hnX5 K hH (mG wd_322) dX5_parcel_76 ?_
            refine lv_aload_n S.1 S.2.1 dX5_parcel_79 rfl (lv_at hl 0 rfl) ?_
            refine rM_0_4 S hnX5 K hH (mG wd_336) dX5_parcel_80 ?_
            refine lv_topi (fun v17 e17 => ?_)
            have b17 : 0 ≤ v17.toInt ∧ v17.toInt ≤ 60 := by rw [e17]; exact hI.1 4 0 0
            have k17 : v17.toInt = v2.toInt := by rw [e17, eσ16, rs_v (by decide), eσ14, rs_v (by decide), eσ12, rs_v (by decide)]; rw [← e2]
            have g80 : v17.toNatClampNeg = (σ 4 0 0).toNatClampNeg := cl_same (by omega)
            refine lv_iconst (v := (-1)) S.1 S.2.1 dX5_parcel_83 (by decide) ?_
            refine sM_21 S K hH hS (vin (by omega) (by omega)) dX5_parcel_84 (fun H locs hH hS => ?_)
            obtain ⟨σ18, eσ18⟩ : ∃ z_9 : QS, z_9 = rs σ16 21 0 (upd (σ16 21 0) v17.toNatClampNeg (-1)) := ⟨_, rfl⟩
            rw [← eσ18] at hH
            have hI := InvM_a eσ18 hI (by decide) (show ((-1) : Int) ≤ (-1 : Int32).toInt ∧ (-1 : Int32).toInt ≤ 11 by omega)
            have hP := Keep_w eσ18 hP (by decide)
            refine lv_aload_n S.1 S.2.1 dX5_parcel_85 rfl (lv_at hl 0 rfl) ?_
            refine rM_0_22 S hnX5 K hH (mG wd_323) dX5_parcel_86 ?_
            refine lv_aload_n S.1 S.2.1 dX5_parcel_89 rfl (lv_at hl 0 rfl) ?_
            refine rM_0_4 S hnX5 K hH (mG wd_336) dX5_parcel_90 ?_
            refine lv_topi (fun v19 e19 => ?_)
            have b19 : 0 ≤ v19.toInt ∧ v19.toInt ≤ 60 := by rw [e19]; exact hI.1 4 0 0
            have k19 : v19.toInt = v2.toInt := by rw [e19, eσ18, rs_v (by decide), eσ16, rs_v (by decide), eσ14, rs_v (by decide), eσ12, rs_v (by decide)]; rw [← e2]
            have g90 : v19.toNatClampNeg = (σ 4 0 0).toNatClampNeg := cl_same (by omega)
            refine lv_iconst (v := (-1)) S.1 S.2.1 dX5_parcel_93 (by decide) ?_
            refine sM_22 S K hH hS (vin (by omega) (by omega)) dX5_parcel_94 (fun H locs hH hS => ?_)
            obtain ⟨σ20, eσ20⟩ : ∃ z_9 : QS, z_9 = rs σ18 22 0 (upd (σ18 22 0) v19.toNatClampNeg (-1)) := ⟨_, rfl⟩
            rw [← eσ20] at hH
            have hI := InvM_a eσ20 hI (by decide) (any32 _)
            have hP := Keep_w eσ20 hP (by decide)
            refine lv_aload_n S.1 S.2.1 dX5_parcel_95 rfl (lv_at hl 0 rfl) ?_
            refine rM_0_23 S hnX5 K hH (mG wd_324) dX5_parcel_96 ?_
            refine lv_aload_n S.1 S.2.1 dX5_parcel_99 rfl (lv_at hl 0 rfl) ?_
            refine rM_0_4 S hnX5 K hH (mG wd_336) dX5_parcel_100 ?_
            refine lv_topi (fun v21 e21 => ?_)
            have b21 : 0 ≤ v21.toInt ∧ v21.toInt ≤ 60 := by rw [e21]; exact hI.1 4 0 0
            have k21 : v21.toInt = v2.toInt := by rw [e21, eσ20, rs_v (by decide), eσ18, rs_v (by decide), eσ16, rs_v (by decide), eσ14, rs_v (by decide), eσ12, rs_v (by decide)]; rw [← e2]
            have g100 : v21.toNatClampNeg = (σ 4 0 0).toNatClampNeg := cl_same (by omega)
            refine lv_iconst (v := (-1)) S.1 S.2.1 dX5_parcel_103 (by decide) ?_
            refine sM_23 S K hH hS (vin (by omega) (by omega)) dX5_parcel_104 (fun H locs hH hS => ?_)
            obtain ⟨σ22, eσ22⟩ : ∃ z_9 : QS, z_9 = rs σ20 23 0 (upd (σ20 23 0) v21.toNatClampNeg (-1)) := ⟨_, rfl⟩
            rw [← eσ22] at hH
            have hI := InvM_a eσ22 hI (by decide) (any32 _)
            have hP := Keep_w eσ22 hP (by decide)
            refine lv_aload_n S.1 S.2.1 dX5_parcel_105 rfl (lv_at hl 0 rfl) ?_
            refine rM_0_25 S hnX5 K hH (mG wd_326) dX5_parcel_106 ?_
            refine lv_aload_n S.1 S.2.1 dX5_parcel_109 rfl (lv_at hl 0 rfl) ?_
            refine rM_0_4 S hnX5 K hH (mG wd_336) dX5_parcel_110 ?_
            refine lv_topi (fun v23 e23 => ?_)
            have b23 : 0 ≤ v23.toInt ∧ v23.toInt ≤ 60 := by rw [e23]; exact hI.1 4 0 0
            have k23 : v23.toInt = v2.toInt := by rw [e23, eσ22, rs_v (by decide), eσ20, rs_v (by decide), eσ18, rs_v (by decide), eσ16, rs_v (by decide), eσ14, rs_v (by decide), eσ12, rs_v (by decide)]; rw [← e2]
            have g110 : v23.toNatClampNeg = (σ 4 0 0).toNatClampNeg := cl_same (by omega)
            refine lv_iconst (v := (-1)) S.1 S.2.1 dX5_parcel_113 (by decide) ?_
            refine sM_25 S K hH hS (vin (by omega) (by omega)) dX5_parcel_114 (fun H locs hH hS => ?_)
            obtain ⟨σ24, eσ24⟩ : ∃ z_9 : QS, z_9 = rs σ22 25 0 (upd (σ22 25 0) v23.toNatClampNeg (-1)) := ⟨_, rfl⟩
            rw [← eσ24] at hH
            have hI := InvM_a eσ24 hI (by decide) (any32 _)
            have hP := Keep_w eσ24 hP (by decide)
            refine lv_aload_n S.1 S.2.1 dX5_parcel_115 rfl (lv_at hl 0 rfl) ?_
            refine lv_dup S.1 S.2.1 dX5_parcel_116 rfl ?_
            refine rM_0_4 S hnX5 K hH (mG wd_336) dX5_parcel_117 ?_
            refine lv_topi (fun v25 e25 => ?_)
            have b25 : 0 ≤ v25.toInt ∧ v25.toInt ≤ 60 := by rw [e25]; exact hI.1 4 0 0
            have k25 : v25.toInt = v2.toInt := by rw [e25, eσ24, rs_v (by decide), eσ22, rs_v (by decide), eσ20, rs_v (by decide), eσ18, rs_v (by decide), eσ16, rs_v (by decide), eσ14, rs_v (by decide), eσ12, rs_v (by decide)]; rw [← e2]
            refine lv_iconst (v := 1) S.1 S.2.1 dX5_parcel_120 (by decide) ?_
            refine lv_iadd S.1 S.2.1 dX5_parcel_121 ?_
            refine lv_topi (fun v26 e26 => ?_)
            have i26 : v26.toInt = v25.toInt + (1 : Int32).toInt := i_add e26 (by omega) (by omega)
            refine pM_0_4 S hnX5 K hH hS (mG wd_336) dX5_parcel_122 (fun H locs hH hS => ?_)
            obtain ⟨σ27, eσ27⟩ : ∃ z_9 : QS, z_9 = rs σ24 4 0 (fun _ => v26) := ⟨_, rfl⟩
            rw [← eσ27] at hH
            have hI := InvM_f eσ27 hI (by decide) (show (0 : Int) ≤ v26.toInt ∧ v26.toInt ≤ 60 by omega)
            have hP := Keep_w eσ27 hP (by decide)
            have yk : ∀ v' : Nat, v' ∈ [24, 26] → σ27 v' = σ v' := fun v' hv' => by rw [eσ27, rs_v (by intro z9; subst z9; revert hv'; decide), eσ24, rs_v (by intro z9; subst z9; revert hv'; decide), eσ22, rs_v (by intro z9; subst z9; revert hv'; decide), eσ20, rs_v (by intro z9; subst z9; revert hv'; decide), eσ18, rs_v (by intro z9; subst z9; revert hv'; decide), eσ16, rs_v (by intro z9; subst z9; revert hv'; decide), eσ14, rs_v (by intro z9; subst z9; revert hv'; decide), eσ12, rs_v (by intro z9; subst z9; revert hv'; decide), eσ1, rs_v (by intro z9; subst z9; revert hv'; decide)]
            refine lv_aload_n S.1 S.2.1 dX5_parcel_125 rfl (lv_at hl 0 rfl) ?_
            refine rM_0_4 S hnX5 K hH (mG wd_336) dX5_parcel_126 ?_
            refine lv_topi (fun v28 e28 => ?_)
            have b28 : 0 ≤ v28.toInt ∧ v28.toInt ≤ 60 := by rw [e28]; exact hI.1 4 0 0
            have k28 : v28.toInt = v26.toInt := by rw [e28, eσ27, rs_self]
            refine lv_iconst (v := 1) S.1 S.2.1 dX5_parcel_129 (by decide) ?_
            refine lv_isub S.1 S.2.1 dX5_parcel_130 ?_
            refine lv_topi (fun v29 e29 => ?_)
            have i29 : v29.toInt = v28.toInt - (1 : Int32).toInt := i_sub e29 (by omega) (by omega)
            refine cW_iret S hr hk hH hS ?_ dX5_parcel_131
            exact ⟨v29, rfl, hI, hP, rfl, by refine ⟨Or.inr ?_, Or.inr ⟨by omega, gvM_p (cl_eq (by omega)) (by rw [eσ27, rs_self]; omega) (hp1 (by omega)) (by rw [eσ27, rs_v (by decide), eσ24, rs_v (by decide), eσ22, rs_v (by decide), eσ20, rs_v (by decide), eσ18, rs_v (by decide), eσ16, rs_v (by decide), eσ14, rs_v (by decide), eσ12, rs_self, g50, eσ1, rs_v (by decide)]) (by rw [eσ27, rs_v (by decide), eσ24, rs_v (by decide), eσ22, rs_v (by decide), eσ20, rs_v (by decide), eσ18, rs_v (by decide), eσ16, rs_v (by decide), eσ14, rs_self, g60, eσ12, rs_v (by decide), eσ1, rs_v (by decide)]) (by rw [eσ27, rs_v (by decide), eσ24, rs_v (by decide), eσ22, rs_v (by decide), eσ20, rs_v (by decide), eσ18, rs_v (by decide), eσ16, rs_self, g70, eσ14, rs_v (by decide), eσ12, rs_v (by decide), eσ1, rs_v (by decide)]) (by rw [eσ27, rs_v (by decide), eσ24, rs_v (by decide), eσ22, rs_v (by decide), eσ20, rs_v (by decide), eσ18, rs_self, g80, eσ16, rs_v (by decide), eσ14, rs_v (by decide), eσ12, rs_v (by decide), eσ1, rs_v (by decide)]) (by rw [eσ27, rs_v (by decide), eσ24, rs_v (by decide), eσ22, rs_v (by decide), eσ20, rs_self, g90, eσ18, rs_v (by decide), eσ16, rs_v (by decide), eσ14, rs_v (by decide), eσ12, rs_v (by decide), eσ1, rs_v (by decide)]) (by rw [eσ27, rs_v (by decide), eσ24, rs_v (by decide), eσ22, rs_self, g100, eσ20, rs_v (by decide), eσ18, rs_v (by decide), eσ16, rs_v (by decide), eσ14, rs_v (by decide), eσ12, rs_v (by decide), eσ1, rs_v (by decide)]) (by rw [eσ27, rs_v (by decide), eσ24, rs_self, g110, eσ22, rs_v (by decide), eσ20, rs_v (by decide), eσ18, rs_v (by decide), eσ16, rs_v (by decide), eσ14, rs_v (by decide), eσ12, rs_v (by decide), eσ1, rs_v (by decide)]) yk⟩⟩; rw [eσ27, rs_self]; omega⟩
          · have j10 := t_eq c10
            refine lv_iconst (v := (-1)) S.1 S.2.1 dX5_parcel_43 (by decide) ?_
            refine cW_iret S hr hk hH hS ?_ dX5_parcel_44
            exact ⟨(-1), rfl, hI, hP, rfl, by exact ⟨Or.inl ⟨by decide, by rw [eσ1, rs_v (by decide)], by omega⟩, Or.inl ⟨by decide, Keep_w eσ1 Keep_r (by decide)⟩⟩⟩
set_option maxHeartbeats 4000000 in
set_option maxRecDepth 100000 in
theorem k_X5_roomLeft (l : Launch) (D : va_G) (B : Nat → ClassId) (L : QL) (A : Nat → Prop) (σ : QS) (τ : Int64) (c9 : Int32) (d : Int32)  (hp0 : 0 ≤ c9.toInt ∧ c9.toInt ≤ 11) (hI : InvM σ) : cW cntM gM l D B L A yX5_roomLeft wsX5_roomLeft 0 0 [.ref (L 0 0), .int c9, .int d] σ τ (pI (fun x σ' τ' => σ' = σ ∧ τ' = τ ∧ (-1200 ≤ x.toInt ∧ x.toInt ≤ 50) ∧ x.toInt = capM σ c9.toNatClampNeg - onP (pM σ) c9.toInt d.toInt)) := by
  refine cW_of (cc := cX5_roomLeft) (nL := 5) (ret := (some .int)) (by decide) rfl (Nat.le_of_ble_eq_true rfl) ?_
  intro p e s m below meth c S hr hk K hH hS ls hl
  have hnX5 : ∀ w ∈ wsX50, w ∈ wsX5_roomLeft := fun w h => mG (tX5 w h)
  have l0 : (0 : Int32).toInt = 0 := by decide
  have l1 : (1 : Int32).toInt = 1 := by decide
  have hl : lv_has ls 5 [(0, .ref (L 0 0)), (1, .int c9), (2, .int d)] := hl
  refine lv_aload_n S.1 S.2.1 dX5_roomLeft_0 rfl (lv_at hl 0 rfl) ?_
  refine rM_0_7 S hnX5 K hH (mG wd_305) dX5_roomLeft_1 ?_
  refine lv_iload_n S.1 S.2.1 dX5_roomLeft_4 rfl (lv_at hl 1 rfl) ?_
  refine lM_7 S K hH (vin (by omega) (by omega)) dX5_roomLeft_5 ?_
  refine lv_topi (fun v1 e1 => ?_)
  have b1 : 0 ≤ v1.toInt ∧ v1.toInt ≤ 50 := by rw [e1]; exact hI.1 7 0 c9.toNatClampNeg
  have f5 : v1.toInt = capM σ c9.toNatClampNeg := by rw [e1]; unfold capM; rw [if_pos (cl_lt (n := 12) (by omega) (by omega))]
  refine lv_istore_n (lv' := [(3, .int v1), (0, .ref (L 0 0)), (1, .int c9), (2, .int d)]) S.1 S.2.1 dX5_roomLeft_6 rfl hl (by decide) rfl (fun ls hl => ?_)
  refine lv_iconst (v := 0) S.1 S.2.1 dX5_roomLeft_7 (by decide) ?_
  refine lv_istore (lv' := [(4, .int 0), (3, .int v1), (0, .ref (L 0 0)), (1, .int c9), (2, .int d)]) S.1 S.2.1 dX5_roomLeft_8 hl (by decide) rfl (fun ls hl => ?_)
  have cut_10_2 : ∀ (n : Nat) (x3_2 : Int32) (x4_2 : Int32)  (H : Heap) (locs : List Loc) (ls : Array Slot), (60 - x4_2.toInt).toNat < n → -1200 ≤ x3_2.toInt ∧ x3_2.toInt ≤ 50 → 0 ≤ x4_2.toInt ∧ x4_2.toInt ≤ 60 → (x3_2.toInt = capM σ c9.toNatClampNeg - sumP (pM σ) c9.toInt (fun x => decide (x = d.toInt)) x4_2.toNatClampNeg) → (-20 * x4_2.toInt ≤ x3_2.toInt) → (x4_2.toInt ≤ (σ 4 0 0).toInt) → hW cntM gM D B L σ τ H → va_S A s.heap H locs → lv_has ls 5 [(0, .ref (L 0 0)), (1, .int c9), (2, .int d), (3, .int x3_2), (4, .int x4_2)] → W p l e { frames := 0, cells := 0, slots := 0, locals := 0 } s m [.ref (L 0 0), .int c9, .int d].toArray below meth c H locs 0 0 (MQ below (QcW cntM gM D B L A (pI (fun x σ' τ' => σ' = σ ∧ τ' = τ ∧ (-1200 ≤ x.toInt ∧ x.toInt ≤ 50) ∧ x.toInt = capM σ c9.toNatClampNeg - onP (pM σ) c9.toInt d.toInt))) [.ref (L 0 0), .int c9, .int d].toArray s 0 0 A) (F0 m 10 ls []) := by
    intro n
    induction n with
    | zero => intro x3_2 x4_2 H locs ls hm; exact absurd hm (Nat.not_lt_zero _)
    | succ n ih2 =>
      intro x3_2 x4_2 H locs ls hm2 h2_0 h2_1 ws wl wn hH hS hl
      have k4 := cl_eq (j := x4_2) (by omega)
      refine lv_iload S.1 S.2.1 dX5_roomLeft_10 (lv_at hl 4 rfl) ?_
      refine lv_aload_n S.1 S.2.1 dX5_roomLeft_12 rfl (lv_at hl 0 rfl) ?_
      refine rM_0_4 S hnX5 K hH (mG wd_336) dX5_roomLeft_13 ?_
      refine lv_topi (fun v3 e3 => ?_)
      have b3 : 0 ≤ v3.toInt ∧ v3.toInt ≤ 60 := by rw [e3]; exact hI.1 4 0 0
      have f13 : v3.toInt = (σ 4 0 0).toInt := by rw [e3]
      refine lv_icmp_ge (tgt := 61) S.1 S.2.1 dX5_roomLeft_16 (by decide) (fun c4 => ?_) (fun c4 => ?_)
      · have j4 := t_le c4
        refine lv_iload_n S.1 S.2.1 dX5_roomLeft_61 rfl (lv_at hl 3 rfl) ?_
        refine cW_iret S hr hk hH hS ?_ dX5_roomLeft_62
        exact ⟨x3_2, rfl, rfl, rfl, by refine ⟨by omega, ?_⟩; rw [ws]; have z3 : sumP (pM σ) c9.toInt (fun x => decide (x = d.toInt)) (x4_2.toNatClampNeg + (60 - x4_2.toNatClampNeg)) = _ := sumP_up (fun i9 hi9 y9 => absurd y9.1 (by rw [pM_out (by omega), show (dfl 3).toInt = -1 by decide]; omega)); rw [← z3, show x4_2.toNatClampNeg + (60 - x4_2.toNatClampNeg) = 60 by omega]⟩
      · have j4 := t_nle c4
        refine lv_iload_n S.1 S.2.1 dX5_roomLeft_19 rfl (lv_at hl 3 rfl) ?_
        refine lv_aload_n S.1 S.2.1 dX5_roomLeft_20 rfl (lv_at hl 0 rfl) ?_
        refine rM_0_21 S hnX5 K hH (mG wd_322) dX5_roomLeft_21 ?_
        refine lv_iload S.1 S.2.1 dX5_roomLeft_24 (lv_at hl 4 rfl) ?_
        refine lM_21 S K hH (vin (by omega) (by omega)) dX5_roomLeft_26 ?_
        refine lv_topi (fun v5 e5 => ?_)
        have b5 : (-1) ≤ v5.toInt ∧ v5.toInt ≤ 11 := by rw [e5]; exact hI.1 21 0 x4_2.toNatClampNeg
        have f26 : v5 = pM σ x4_2.toNatClampNeg 3 := by rw [e5]; exact (pM_f (σ := σ) (f := 3) (by omega) (by decide) (by decide)).symm
        refine lv_iload_n S.1 S.2.1 dX5_roomLeft_27 rfl (lv_at hl 1 rfl) ?_
        refine lv_icmp_ne (tgt := 52) S.1 S.2.1 dX5_roomLeft_28 (by decide) (fun c6 => ?_) (fun c6 => ?_)
        · have j6 := t_neq c6
          refine lv_iconst (v := 0) S.1 S.2.1 dX5_roomLeft_52 (by decide) ?_
          refine lv_isub S.1 S.2.1 dX5_roomLeft_53 ?_
          refine lv_topi (fun v7 e7 => ?_)
          have i7 : v7.toInt = x3_2.toInt - (0 : Int32).toInt := i_sub e7 (by omega) (by omega)
          refine lv_istore_n (lv' := [(3, .int v7), (0, .ref (L 0 0)), (1, .int c9), (2, .int d), (4, .int x4_2)]) S.1 S.2.1 dX5_roomLeft_54 rfl hl (by decide) rfl (fun ls hl => ?_)
          obtain ⟨v8, e8⟩ : ∃ y_9 : Int32, y_9 = x4_2 + 1 := ⟨_, rfl⟩
          have i8 : v8.toInt = x4_2.toInt + 1 := i_addc e8 (by decide) (by omega) (by omega)
          refine lv_iinc (v := v8) (lv' := [(4, .int v8), (3, .int v7), (0, .ref (L 0 0)), (1, .int c9), (2, .int d)]) S.1 S.2.1 dX5_roomLeft_55 hl (k := 4) rfl (by rw [e8]; rfl) (by decide) rfl (fun ls hl => ?_)
          refine lv_goto (tgt := 10) S.1 S.2.1 dX5_roomLeft_58 (by decide) ?_
          exact ih2 v7 v8 _ _ ls (by omega) (by omega) (by omega) (by rw [cl_n1 i8 (by omega)]; first | exact rm_step ws i7 (Or.inl ⟨by rw [← f26]; omega, by rw [← f37]; omega, by rw [← f48]⟩) | exact rm_step ws i7 (Or.inr ⟨fun y9 => absurd y9.2 (by rw [← f37]; omega), by decide⟩) | exact rm_step ws i7 (Or.inr ⟨fun y9 => absurd y9.1 (by rw [← f26]; omega), by decide⟩)) (by omega) (by omega) hH hS (lv_sub hl [2, 3, 4, 1, 0] rfl)
        · have j6 := t_eq c6
          refine lv_aload_n S.1 S.2.1 dX5_roomLeft_31 rfl (lv_at hl 0 rfl) ?_
          refine rM_0_22 S hnX5 K hH (mG wd_323) dX5_roomLeft_32 ?_
          refine lv_iload S.1 S.2.1 dX5_roomLeft_35 (lv_at hl 4 rfl) ?_
          refine lM_22 S K hH (vin (by omega) (by omega)) dX5_roomLeft_37 ?_
          refine lv_topi (fun v9 e9 => ?_)
          have f37 : v9 = pM σ x4_2.toNatClampNeg 4 := by rw [e9]; exact (pM_f (σ := σ) (f := 4) (by omega) (by decide) (by decide)).symm
          refine lv_iload_n S.1 S.2.1 dX5_roomLeft_38 rfl (lv_at hl 2 rfl) ?_
          refine lv_icmp_ne (tgt := 52) S.1 S.2.1 dX5_roomLeft_39 (by decide) (fun c10 => ?_) (fun c10 => ?_)
          · have j10 := t_neq c10
            refine lv_iconst (v := 0) S.1 S.2.1 dX5_roomLeft_52 (by decide) ?_
            refine lv_isub S.1 S.2.1 dX5_roomLeft_53 ?_
            refine lv_topi (fun v11 e11 => ?_)
            have i11 : v11.toInt = x3_2.toInt - (0 : Int32).toInt := i_sub e11 (by omega) (by omega)
            refine lv_istore_n (lv' := [(3, .int v11), (0, .ref (L 0 0)), (1, .int c9), (2, .int d), (4, .int x4_2)]) S.1 S.2.1 dX5_roomLeft_54 rfl hl (by decide) rfl (fun ls hl => ?_)
            obtain ⟨v12, e12⟩ : ∃ y_9 : Int32, y_9 = x4_2 + 1 := ⟨_, rfl⟩
            have i12 : v12.toInt = x4_2.toInt + 1 := i_addc e12 (by decide) (by omega) (by omega)
            refine lv_iinc (v := v12) (lv' := [(4, .int v12), (3, .int v11), (0, .ref (L 0 0)), (1, .int c9), (2, .int d)]) S.1 S.2.1 dX5_roomLeft_55 hl (k := 4) rfl (by rw [e12]; rfl) (by decide) rfl (fun ls hl => ?_)
            refine lv_goto (tgt := 10) S.1 S.2.1 dX5_roomLeft_58 (by decide) ?_
            exact ih2 v11 v12 _ _ ls (by omega) (by omega) (by omega) (by rw [cl_n1 i12 (by omega)]; first | exact rm_step ws i11 (Or.inl ⟨by rw [← f26]; omega, by rw [← f37]; omega, by rw [← f48]⟩) | exact rm_step ws i11 (Or.inr ⟨fun y9 => absurd y9.2 (by rw [← f37]; omega), by decide⟩) | exact rm_step ws i11 (Or.inr ⟨fun y9 => absurd y9.1 (by rw [← f26]; omega), by decide⟩)) (by omega) (by omega) hH hS (lv_sub hl [2, 3, 4, 1, 0] rfl)
          · have j10 := t_eq c10
            refine lv_aload_n S.1 S.2.1 dX5_roomLeft_42 rfl (lv_at hl 0 rfl) ?_
            refine rM_0_19 S hnX5 K hH (mG wd_320) dX5_roomLeft_43 ?_
            refine lv_iload S.1 S.2.1 dX5_roomLeft_46 (lv_at hl 4 rfl) ?_
            refine lM_19 S K hH (vin (by omega) (by omega)) dX5_roomLeft_48 ?_
            refine lv_topi (fun v13 e13 => ?_)
            have b13 : 0 ≤ v13.toInt ∧ v13.toInt ≤ 20 := by rw [e13]; exact hI.1 19 0 x4_2.toNatClampNeg
            have f48 : v13 = pM σ x4_2.toNatClampNeg 1 := by rw [e13]; exact (pM_f (σ := σ) (f := 1) (by omega) (by decide) (by decide)).symm
            refine lv_goto (tgt := 53) S.1 S.2.1 dX5_roomLeft_49 (by decide) ?_
            refine lv_isub S.1 S.2.1 dX5_roomLeft_53 ?_
            refine lv_topi (fun v14 e14 => ?_)
            have i14 : v14.toInt = x3_2.toInt - v13.toInt := i_sub e14 (by omega) (by omega)
            refine lv_istore_n (lv' := [(3, .int v14), (0, .ref (L 0 0)), (1, .int c9), (2, .int d), (4, .int x4_2)]) S.1 S.2.1 dX5_roomLeft_54 rfl hl (by decide) rfl (fun ls hl => ?_)
            obtain ⟨v15, e15⟩ : ∃ y_9 : Int32, y_9 = x4_2 + 1 := ⟨_, rfl⟩
            have i15 : v15.toInt = x4_2.toInt + 1 := i_addc e15 (by decide) (by omega) (by omega)
            refine lv_iinc (v := v15) (lv' := [(4, .int v15), (3, .int v14), (0, .ref (L 0 0)), (1, .int c9), (2, .int d)]) S.1 S.2.1 dX5_roomLeft_55 hl (k := 4) rfl (by rw [e15]; rfl) (by decide) rfl (fun ls hl => ?_)
            refine lv_goto (tgt := 10) S.1 S.2.1 dX5_roomLeft_58 (by decide) ?_
            exact ih2 v14 v15 _ _ ls (by omega) (by omega) (by omega) (by rw [cl_n1 i15 (by omega)]; first | exact rm_step ws i14 (Or.inl ⟨by rw [← f26]; omega, by rw [← f37]; omega, by rw [← f48]⟩) | exact rm_step ws i14 (Or.inr ⟨fun y9 => absurd y9.2 (by rw [← f37]; omega), by decide⟩) | exact rm_step ws i14 (Or.inr ⟨fun y9 => absurd y9.1 (by rw [← f26]; omega), by decide⟩)) (by omega) (by omega) hH hS (lv_sub hl [2, 3, 4, 1, 0] rfl)
  exact cut_10_2 _ v1 0 _ _ ls (Nat.lt_succ_self _) (by omega) (by omega) (by rw [show (0 : Int32).toNatClampNeg = 0 by decide]; show _ = _ - (0 : Int); omega) (by omega) (by have z9 : 0 ≤ (σ 4 0 0).toInt ∧ (σ 4 0 0).toInt ≤ 60 := hI.1 4 0 0; omega) hH hS (lv_sub hl [2, 3, 4, 1, 0] rfl)
set_option maxHeartbeats 4000000 in
set_option maxRecDepth 100000 in
theorem k_X5_seeks (l : Launch) (D : va_G) (B : Nat → ClassId) (L : QL) (A : Nat → Prop) (σ : QS) (τ : Int64) (k : Int32) (N : Net) (nn : Nat) (hp0 : 0 ≤ k.toInt ∧ k.toInt ≤ 59) (hI : InvM σ) (hp2 : RepM σ N) (hp3 : KepM σ N) (hp4 : wfA N (σ 1 0 0).toInt ((σ 1 0 0).toInt + 1) nn (pM σ)) (hp5 : (nn : Int) = (σ 4 0 0).toInt) (hp6 : wts (pM σ) k.toNatClampNeg) (hp7 : k.toInt < nn) : cW cntM gM l D B L A yX5_seeks wsX5_seeks 3 78 [.ref (L 0 0), .int k] σ τ (pV (fun σ' τ' => InvM σ' ∧ Keep [14, 15, 16, 20, 21, 22, 23, 24, 26] σ σ' ∧ τ' = τ ∧ (seek1 N (σ 1 0 0).toInt (capM σ) (pM σ) k.toNatClampNeg (pM σ') ∧ KepM σ' N ∧ ∀ i9 : Nat, i9 ≠ k.toNatClampNeg → σ' 26 0 i9 = σ 26 0 i9))) := by
  refine cW_of (cc := cX5_seeks) (nL := 7) (ret := none) (by decide) rfl (Nat.le_of_ble_eq_true rfl) ?_
  intro p e s m below meth c S hr hk K hH hS ls hl
  have hnX5 : ∀ w ∈ wsX50, w ∈ wsX5_seeks := fun w h => mG (tX5 w h)
  have lm1 : ((-1) : Int32).toInt = -1 := by decide
  have l0 : (0 : Int32).toInt = 0 := by decide
  have l1 : (1 : Int32).toInt = 1 := by decide
  have l4 : (4 : Int32).toInt = 4 := by decide
  have l6 : (6 : Int32).toInt = 6 := by decide
  have l24 : (24 : Int32).toInt = 24 := by decide
  have l1000000 : (1000000 : Int32).toInt = 1000000 := by decide
  have hP : Keep [14, 15, 16, 20, 21, 22, 23, 24, 26] σ σ := Keep_r
  have hN9 := hp2.1
  have kk9 := cl_eq (j := k) (by omega)
  have hw9 : 0 ≤ (σ 1 0 0).toInt ∧ (σ 1 0 0).toInt ≤ 5000 := hI.1 1 0 0
  have p2 : pM σ k.toNatClampNeg 2 = σ 20 0 k.toNatClampNeg := pM_f (by omega) (by decide) (by decide)
  have p0 : pM σ k.toNatClampNeg 0 = σ 18 0 k.toNatClampNeg := pM_f (by omega) (by decide) (by decide)
  have p1 : pM σ k.toNatClampNeg 1 = σ 19 0 k.toNatClampNeg := pM_f (by omega) (by decide) (by decide)
  have hin : 0 ≤ (σ 20 0 k.toNatClampNeg).toInt := by have z1 := (wf_wts hp4 (k := k.toNatClampNeg) (by omega)).mpr hp6.1; rw [p2] at z1; have z2 : -1 ≤ (σ 20 0 k.toNatClampNeg).toInt := (hI.1 20 0 k.toNatClampNeg).1; omega
  have hl : lv_has ls 7 [(0, .ref (L 0 0)), (1, .int k)] := hl
  refine lv_aload_n S.1 S.2.1 dX5_seeks_0 rfl (lv_at hl 0 rfl) ?_
  refine lv_aload_n S.1 S.2.1 dX5_seeks_1 rfl (lv_at hl 0 rfl) ?_
  refine rM_0_20 S hnX5 K hH (mG wd_321) dX5_seeks_2 ?_
  refine lv_iload_n S.1 S.2.1 dX5_seeks_5 rfl (lv_at hl 1 rfl) ?_
  refine lM_20 S K hH (vin (by omega) (by omega)) dX5_seeks_6 ?_
  refine lv_topi (fun v1 e1 => ?_)
  have b1 : (-1) ≤ v1.toInt ∧ v1.toInt ≤ 11 := by rw [e1]; exact hI.1 20 0 k.toNatClampNeg
  have zv1 : 0 ≤ v1.toInt := by rw [e1]; exact hin
  refine lv_aload_n S.1 S.2.1 dX5_seeks_7 rfl (lv_at hl 0 rfl) ?_
  refine rM_0_1 S hnX5 K hH (mG wd_352) dX5_seeks_8 ?_
  refine lv_topi (fun v2 e2 => ?_)
  have b2 : 0 ≤ v2.toInt ∧ v2.toInt ≤ 5000 := by rw [e2]; exact hI.1 1 0 0
  refine lv_aload_n S.1 S.2.1 dX5_seeks_11 rfl (lv_at hl 0 rfl) ?_
  refine rM_0_18 S hnX5 K hH (mG wd_319) dX5_seeks_12 ?_
  refine lv_iload_n S.1 S.2.1 dX5_seeks_15 rfl (lv_at hl 1 rfl) ?_
  refine lM_18 S K hH (vin (by omega) (by omega)) dX5_seeks_16 ?_
  refine lv_topi (fun v3 e3 => ?_)
  have b3 : 0 ≤ v3.toInt ∧ v3.toInt ≤ 11 := by rw [e3]; exact hI.1 18 0 k.toNatClampNeg
  refine cW_bi (cW_V (n := 3) (As := [.int v1, .int v2, .int v3]) (rest := []) (k := 0) (i := 0) S K hH (by decide) rfl rfl (k_X5_soonOf l D B L A σ τ v1 v2 v3 (N) (by omega) (by omega) (by omega) hI (hp2) (hp3)) gX5_seeks_X5_soonOf rfl hdV_X5_soonOf ⟨Nat.le_of_ble_eq_true rfl, Nat.le_of_ble_eq_true rfl⟩ rfl hl.1 (Nat.le_of_ble_eq_true rfl) dX5_seeks_17) hS (fun v4 σ4 τ4 H locs q4 hH hS => ?_)
  obtain ⟨hI, hP4, hτ4, q4⟩ := q4
  rw [hτ4] at hH
  have hP := Keep_t hP hP4 (by decide)
  have hv9 : isSV N (-1) (pM σ k.toNatClampNeg 2).toNatClampNeg (σ 1 0 0).toInt (pM σ k.toNatClampNeg 0).toNatClampNeg v4.toInt := by have z1 := (q4).2; rw [e1, e2, e3, ← p2, ← p0] at z1; exact z1
  have kq := (q4).1
  refine lv_istore_n (lv' := [(2, .int v4), (0, .ref (L 0 0)), (1, .int k)]) S.1 S.2.1 dX5_seeks_20 rfl hl (by decide) rfl (fun ls hl => ?_)
  refine lv_iload_n S.1 S.2.1 dX5_seeks_21 rfl (lv_at hl 0 rfl) ?_
  refine lv_ldc (v := 1000000) S.1 S.2.1 S.2.2.2.1 (S.2.2.2.2 (.constant RX5 137 (1000000)) (mG wd_357)) dX5_seeks_22 ?_
  refine lv_icmp_ne (tgt := 28) S.1 S.2.1 dX5_seeks_24 (by decide) (fun c5 => ?_) (fun c5 => ?_)
  · have j5 := t_neq c5
    have hvS := sv_soon hv9 (by omega)
    refine lv_iconst (v := 0) S.1 S.2.1 dX5_seeks_28 (by decide) ?_
    refine lv_istore_n (lv' := [(3, .int 0), (2, .int v4), (0, .ref (L 0 0)), (1, .int k)]) S.1 S.2.1 dX5_seeks_29 rfl hl (by decide) rfl (fun ls hl => ?_)
    have cut_30_6 : ∀ (n : Nat) (x3_6 : Int32) (σ_6 : QS) (H : Heap) (locs : List Loc) (ls : Array Slot), (12 - x3_6.toInt).toNat < n → 0 ≤ x3_6.toInt ∧ x3_6.toInt ≤ 12 → (KepM σ_6 N) → (skC N (σ 1 0 0).toInt (capM σ) (pM σ) k.toNatClampNeg (r30 x3_6.toNatClampNeg)) → (pM σ_6 = pM σ) → ((σ_6 20 = σ 20 ∧ σ_6 26 = σ 26)) → InvM σ_6 → Keep [14, 15, 16, 20, 21, 22, 23, 24, 26] σ σ_6 → hW cntM gM D B L σ_6 τ H → va_S A s.heap H locs → lv_has ls 7 [(0, .ref (L 0 0)), (1, .int k), (2, .int v4), (3, .int x3_6)] → W p l e { frames := 3, cells := 0, slots := 0, locals := 78 } s m [.ref (L 0 0), .int k].toArray below meth c H locs 0 0 (MQ below (QcW cntM gM D B L A (pV (fun σ' τ' => InvM σ' ∧ Keep [14, 15, 16, 20, 21, 22, 23, 24, 26] σ σ' ∧ τ' = τ ∧ (seek1 N (σ 1 0 0).toInt (capM σ) (pM σ) k.toNatClampNeg (pM σ') ∧ KepM σ' N ∧ ∀ i9 : Nat, i9 ≠ k.toNatClampNeg → σ' 26 0 i9 = σ 26 0 i9)))) [.ref (L 0 0), .int k].toArray s 0 0 A) (F0 m 30 ls []) := by
      intro n
      induction n with
      | zero => intro x3_6 σ_6 H locs ls hm; exact absurd hm (Nat.not_lt_zero _)
      | succ n ih6 =>
        intro x3_6 σ_6 H locs ls hm6 h6_0 wk ws pE w20 hI hP hH hS hl
        have y1 : σ_6 1 = σ 1 := hP 1 (by decide)
        have y2 : (σ_6 2 0 0).toInt = nK N := by rw [hP 2 (by decide)]; exact hp2.2.1
        have hRs := RepM_k hp2 hP (by decide)
        have hPz := hP
        refine lv_iload_n S.1 S.2.1 dX5_seeks_30 rfl (lv_at hl 3 rfl) ?_
        refine lv_aload_n S.1 S.2.1 dX5_seeks_31 rfl (lv_at hl 0 rfl) ?_
        refine rM_0_2 S hnX5 K hH (mG wd_335) dX5_seeks_32 ?_
        refine lv_topi (fun v7 e7 => ?_)
        have b7 : 0 ≤ v7.toInt ∧ v7.toInt ≤ 12 := by rw [e7]; exact hI.1 2 0 0
        have f32 : v7.toInt = nK N := by rw [e7]; exact y2
        refine lv_icmp_ge (tgt := 308) S.1 S.2.1 dX5_seeks_35 (by decide) (fun c8 => ?_) (fun c8 => ?_)
        · have j8 := t_le c8
          refine cW_vret S hr hk hH hS ?_ dX5_seeks_308
          exact ⟨rfl, hI, hP, rfl, by exact ⟨Or.inr ⟨re_0 hN9 ws (by have z3 := cl_eq (j := x3_6) (by omega); omega), pE⟩, wk, fun i9 _ => by rw [w20.2]⟩⟩
        · have j8 := t_nle c8
          have kc : x3_6.toNatClampNeg < nK N := by have z3 := cl_eq (j := x3_6) (by omega); omega
          have k3 := cl_eq (j := x3_6) (by omega)
          have h6s := (hN9.2 _ kc).1
          refine lv_iconst (v := 0) S.1 S.2.1 dX5_seeks_38 (by decide) ?_
          refine lv_aload_n S.1 S.2.1 dX5_seeks_39 rfl (lv_at hl 0 rfl) ?_
          refine rM_0_1 S hnX5 K hH (mG wd_352) dX5_seeks_40 ?_
          refine lv_topi (fun v9 e9 => ?_)
          have b9 : 0 ≤ v9.toInt ∧ v9.toInt ≤ 5000 := by rw [e9]; exact hI.1 1 0 0
          have f40 : v9.toInt = (σ 1 0 0).toInt := by rw [e9, y1]
          refine lv_bipush (v := 24) S.1 S.2.1 dX5_seeks_43 (by decide) ?_
          refine lv_idiv S.1 S.2.1 dX5_seeks_45 (by decide) ?_
          refine lv_topi (fun v10 e10 => ?_)
          have i10 : v10.toInt = v9.toInt / 24 := i_div e10 (by decide) (by decide) (by omega)
          refine lv_iconst (v := 4) S.1 S.2.1 dX5_seeks_46 (by decide) ?_
          refine lv_isub S.1 S.2.1 dX5_seeks_47 ?_
          refine lv_topi (fun v11 e11 => ?_)
          have i11 : v11.toInt = v10.toInt - (4 : Int32).toInt := i_sub e11 (by omega) (by omega)
          refine va_mmax S.1 S.2.1 (by rw [S.2.2.1]; exact hl.1.symm) S.2.2.2.1 (S.2.2.2.2 (.methodLink RX5 138 Lib.Math.max.name) (mG wd_358)) (S.2.2.2.2 (.static Lib.Math.max.name) (mG wd_135)) (S.2.2.2.2 (.initialized "java/lang/Math") (mG wd_41)) (S.2.2.2.2 (.code Lib.Math.max.name Lib.Math.max.code 2 (some .int)) (mG wd_643)) (Nat.le_of_ble_eq_true rfl) (Nat.le_of_ble_eq_true rfl) (Nat.zero_le _) (Nat.zero_le _) dX5_seeks_48 ?_
          refine lv_topi (fun v12 e12 => ?_)
          have i12 : (v12.toInt = (0 : Int32).toInt ∨ v12.toInt = v11.toInt) ∧ (0 : Int32).toInt ≤ v12.toInt ∧ v11.toInt ≤ v12.toInt := i_mmax e12
          refine lv_istore (lv' := [(4, .int v12), (0, .ref (L 0 0)), (1, .int k), (2, .int v4), (3, .int x3_6)]) S.1 S.2.1 dX5_seeks_51 hl (by decide) rfl (fun ls hl => ?_)
          have cut_53_13 : ∀ (n : Nat) (x4_13 : Int32) (σ_13 : QS) (H : Heap) (locs : List Loc) (ls : Array Slot), (209 - x4_13.toInt).toNat < n → 0 ≤ x4_13.toInt ∧ x4_13.toInt ≤ 209 → (KepM σ_13 N) → (skC N (σ 1 0 0).toInt (capM σ) (pM σ) k.toNatClampNeg (r53 x3_6.toNatClampNeg x4_13.toNatClampNeg)) → (pM σ_13 = pM σ) → ((σ_13 20 = σ 20 ∧ σ_13 26 = σ 26)) → InvM σ_13 → Keep [14, 15, 16, 20, 21, 22, 23, 24, 26] σ σ_13 → hW cntM gM D B L σ_13 τ H → va_S A s.heap H locs → lv_has ls 7 [(0, .ref (L 0 0)), (1, .int k), (2, .int v4), (3, .int x3_6), (4, .int x4_13)] → W p l e { frames := 3, cells := 0, slots := 0, locals := 78 } s m [.ref (L 0 0), .int k].toArray below meth c H locs 0 0 (MQ below (QcW cntM gM D B L A (pV (fun σ' τ' => InvM σ' ∧ Keep [14, 15, 16, 20, 21, 22, 23, 24, 26] σ σ' ∧ τ' = τ ∧ (seek1 N (σ 1 0 0).toInt (capM σ) (pM σ) k.toNatClampNeg (pM σ') ∧ KepM σ' N ∧ ∀ i9 : Nat, i9 ≠ k.toNatClampNeg → σ' 26 0 i9 = σ 26 0 i9)))) [.ref (L 0 0), .int k].toArray s 0 0 A) (F0 m 53 ls []) := by
            intro n
            induction n with
            | zero => intro x4_13 σ_13 H locs ls hm; exact absurd hm (Nat.not_lt_zero _)
            | succ n ih13 =>
              intro x4_13 σ_13 H locs ls hm13 h13_0 wk ws pE w20 hI hP hH hS hl
              have y1 : σ_13 1 = σ 1 := hP 1 (by decide)
              have y2 : (σ_13 2 0 0).toInt = nK N := by rw [hP 2 (by decide)]; exact hp2.2.1
              have hRs := RepM_k hp2 hP (by decide)
              have hPz := hP
              refine lv_bipush (v := 24) S.1 S.2.1 dX5_seeks_53 (by decide) ?_
              refine lv_iload S.1 S.2.1 dX5_seeks_55 (lv_at hl 4 rfl) ?_
              refine lv_imul S.1 S.2.1 dX5_seeks_57 ?_
              refine lv_topi (fun v14 e14 => ?_)
              have i14 : v14.toInt = 24 * x4_13.toInt := i_mulcl e14 (by decide) (by omega) (by omega)
              refine lv_aload_n S.1 S.2.1 dX5_seeks_58 rfl (lv_at hl 0 rfl) ?_
              refine rM_0_1 S hnX5 K hH (mG wd_352) dX5_seeks_59 ?_
              refine lv_topi (fun v15 e15 => ?_)
              have b15 : 0 ≤ v15.toInt ∧ v15.toInt ≤ 5000 := by rw [e15]; exact hI.1 1 0 0
              have f59 : v15.toInt = (σ 1 0 0).toInt := by rw [e15, y1]
              refine lv_icmp_gt (tgt := 302) S.1 S.2.1 dX5_seeks_62 (by decide) (fun c16 => ?_) (fun c16 => ?_)
              · have j16 := t_lt c16
                obtain ⟨v17, e17⟩ : ∃ y_9 : Int32, y_9 = x3_6 + 1 := ⟨_, rfl⟩
                have i17 : v17.toInt = x3_6.toInt + 1 := i_addc e17 (by decide) (by omega) (by omega)
                refine lv_iinc (v := v17) (lv' := [(3, .int v17), (0, .ref (L 0 0)), (1, .int k), (2, .int v4), (4, .int x4_13)]) S.1 S.2.1 dX5_seeks_302 hl (k := 3) rfl (by rw [e17]; rfl) (by decide) rfl (fun ls hl => ?_)
                refine lv_goto (tgt := 30) S.1 S.2.1 dX5_seeks_305 (by decide) ?_
                exact ih6 v17 σ_13 _ _ ls (by omega) (by omega) (by exact wk) (by rw [cl_n1 i17 (by omega)]; exact re_30 hN9 ws (by have z3 := cl_eq (j := x4_13) (by omega); omega)) (by exact pE) (by exact w20) hI hP hH hS (lv_sub hl [1, 2, 3, 0] rfl)
              · have j16 := t_nlt c16
                have k4 := cl_eq (j := x4_13) (by omega)
                refine lv_aload_n S.1 S.2.1 dX5_seeks_65 rfl (lv_at hl 0 rfl) ?_
                refine lv_iload_n S.1 S.2.1 dX5_seeks_66 rfl (lv_at hl 3 rfl) ?_
                refine lv_iload S.1 S.2.1 dX5_seeks_67 (lv_at hl 4 rfl) ?_
                refine cW_bpi (cW_V (n := 2) (As := [.int x3_6, .int x4_13]) (rest := []) (k := 0) (i := 0) S K hH (by decide) rfl rfl (k_X5_isRun l D B L A σ_13 τ x3_6 x4_13 (N) (by omega) (by omega) (hRs) (by omega)) gX5_seeks_X5_isRun rfl hdV_X5_isRun ⟨Nat.le_of_ble_eq_true rfl, Nat.le_of_ble_eq_true rfl⟩ rfl hl.1 (Nat.le_of_ble_eq_true rfl) dX5_seeks_69) hS (fun v18 H locs q18 hH hS => ?_)
                refine lv_if_eq (tgt := 296) S.1 S.2.1 dX5_seeks_72 (by decide) (fun c19 => ?_) (fun c19 => ?_)
                · have j19 := t_eq c19
                  obtain ⟨v20, e20⟩ : ∃ y_9 : Int32, y_9 = x4_13 + 1 := ⟨_, rfl⟩
                  have i20 : v20.toInt = x4_13.toInt + 1 := i_addc e20 (by decide) (by omega) (by omega)
                  refine lv_iinc (v := v20) (lv' := [(4, .int v20), (0, .ref (L 0 0)), (1, .int k), (2, .int v4), (3, .int x3_6)]) S.1 S.2.1 dX5_seeks_296 hl (k := 4) rfl (by rw [e20]; rfl) (by decide) rfl (fun ls hl => ?_)
                  refine lv_goto (tgt := 53) S.1 S.2.1 dX5_seeks_299 (by decide) ?_
                  exact ih13 v20 σ_13 _ _ ls (by omega) (by omega) (by exact wk) (by rw [cl_n1 i20 (by omega)]; first | exact rn_53 ws (no_run (Or.resolve_left q18 (fun y => absurd y.1 (by omega))).2) | exact rn_53 ws (no_room (by omega)) | exact rn_53 ws (he_none whe (by omega) (by omega)) | exact rn_53 ws (no_good hN9 kc whe hhe (x := zz.toInt) (by omega) wg)) (by exact pE) (by exact w20) hI hP hH hS (lv_sub hl [1, 2, 3, 4, 0] rfl)
                · have j19 := t_neq c19
                  refine lv_aload_n S.1 S.2.1 dX5_seeks_75 rfl (lv_at hl 0 rfl) ?_
                  refine lv_iload_n S.1 S.2.1 dX5_seeks_76 rfl (lv_at hl 3 rfl) ?_
                  refine lv_iload S.1 S.2.1 dX5_seeks_77 (lv_at hl 4 rfl) ?_
                  refine cW_bpi (cW_V (n := 2) (As := [.int x3_6, .int x4_13]) (rest := []) (k := 0) (i := 0) S K hH (by decide) rfl rfl (k_X5_roomLeft l D B L A σ_13 τ x3_6 x4_13 (by omega) hI) gX5_seeks_X5_roomLeft rfl hdV_X5_roomLeft ⟨Nat.le_of_ble_eq_true rfl, Nat.le_of_ble_eq_true rfl⟩ rfl hl.1 (Nat.le_of_ble_eq_true rfl) dX5_seeks_79) hS (fun v21 H locs q21 hH hS => ?_)
                  have hroom : v21.toInt = capM σ x3_6.toNatClampNeg - onP (pM σ) x3_6.toNatClampNeg x4_13.toNatClampNeg := by have z1 := (q21).2; rw [pE, show capM σ_13 = capM σ by unfold capM; rw [hP 7 (by decide)], ← k3, ← k4] at z1; exact z1
                  refine lv_aload_n S.1 S.2.1 dX5_seeks_82 rfl (lv_at hl 0 rfl) ?_
                  refine rM_0_19 S hnX5 K hH (mG wd_320) dX5_seeks_83 ?_
                  refine lv_iload_n S.1 S.2.1 dX5_seeks_86 rfl (lv_at hl 1 rfl) ?_
                  refine lM_19 S K hH (vin (by omega) (by omega)) dX5_seeks_87 ?_
                  refine lv_topi (fun v22 e22 => ?_)
                  have b22 : 0 ≤ v22.toInt ∧ v22.toInt ≤ 20 := by rw [e22]; exact hI.1 19 0 k.toNatClampNeg
                  have f87 : v22.toInt = (pM σ k.toNatClampNeg 1).toInt := by rw [e22, hP 19 (by decide), p1]
                  refine lv_icmp_ge (tgt := 94) S.1 S.2.1 dX5_seeks_88 (by decide) (fun c23 => ?_) (fun c23 => ?_)
                  · have j23 := t_le c23
                    have krun := (Or.resolve_right q18 (fun y => absurd y.1 (by omega))).2
                    have kroom : (pM σ k.toNatClampNeg 1).toInt ≤ capM σ x3_6.toNatClampNeg - onP (pM σ) x3_6.toNatClampNeg x4_13.toNatClampNeg := by have z1 := hroom; omega
                    refine lv_iconst (v := (-1)) S.1 S.2.1 dX5_seeks_94 (by decide) ?_
                    refine lv_istore (lv' := [(5, .int (-1)), (0, .ref (L 0 0)), (1, .int k), (2, .int v4), (3, .int x3_6), (4, .int x4_13)]) S.1 S.2.1 dX5_seeks_95 hl (by decide) rfl (fun ls hl => ?_)
                    refine lv_iconst (v := 0) S.1 S.2.1 dX5_seeks_97 (by decide) ?_
                    refine lv_istore (lv' := [(6, .int 0), (5, .int (-1)), (0, .ref (L 0 0)), (1, .int k), (2, .int v4), (3, .int x3_6), (4, .int x4_13)]) S.1 S.2.1 dX5_seeks_98 hl (by decide) rfl (fun ls hl => ?_)
                    have cut_100_24 : ∀ (n : Nat) (x5_24 : Int32) (x6_24 : Int32) (σ_24 : QS) (H : Heap) (locs : List Loc) (ls : Array Slot), (6 - x6_24.toInt).toNat < n → -1 ≤ x5_24.toInt ∧ x5_24.toInt ≤ 5 → 0 ≤ x6_24.toInt ∧ x6_24.toInt ≤ 6 → (KepM σ_24 N) → (pM σ_24 = pM σ) → ((σ_24 20 = σ 20 ∧ σ_24 26 = σ 26)) → (heI N (σ 1 0 0).toInt (pM σ) k.toNatClampNeg x3_6.toNatClampNeg x4_13.toNatClampNeg x5_24.toInt x6_24.toInt) → InvM σ_24 → Keep [14, 15, 16, 20, 21, 22, 23, 24, 26] σ σ_24 → hW cntM gM D B L σ_24 τ H → va_S A s.heap H locs → lv_has ls 7 [(0, .ref (L 0 0)), (1, .int k), (2, .int v4), (3, .int x3_6), (4, .int x4_13), (5, .int x5_24), (6, .int x6_24)] → W p l e { frames := 3, cells := 0, slots := 0, locals := 78 } s m [.ref (L 0 0), .int k].toArray below meth c H locs 0 0 (MQ below (QcW cntM gM D B L A (pV (fun σ' τ' => InvM σ' ∧ Keep [14, 15, 16, 20, 21, 22, 23, 24, 26] σ σ' ∧ τ' = τ ∧ (seek1 N (σ 1 0 0).toInt (capM σ) (pM σ) k.toNatClampNeg (pM σ') ∧ KepM σ' N ∧ ∀ i9 : Nat, i9 ≠ k.toNatClampNeg → σ' 26 0 i9 = σ 26 0 i9)))) [.ref (L 0 0), .int k].toArray s 0 0 A) (F0 m 100 ls []) := by
                      intro n
                      induction n with
                      | zero => intro x5_24 x6_24 σ_24 H locs ls hm; exact absurd hm (Nat.not_lt_zero _)
                      | succ n ih24 =>
                        intro x5_24 x6_24 σ_24 H locs ls hm24 h24_0 h24_1 wk pE w20 whe hI hP hH hS hl
                        have y1 : σ_24 1 = σ 1 := hP 1 (by decide)
                        have y2 : (σ_24 2 0 0).toInt = nK N := by rw [hP 2 (by decide)]; exact hp2.2.1
                        have hRs := RepM_k hp2 hP (by decide)
                        have hPz := hP
                        have k6 := cl_eq (j := x6_24) (by omega)
                        refine lv_iload S.1 S.2.1 dX5_seeks_100 (lv_at hl 6 rfl) ?_
                        refine lv_aload_n S.1 S.2.1 dX5_seeks_102 rfl (lv_at hl 0 rfl) ?_
                        refine rM_0_9 S hnX5 K hH (mG wd_307) dX5_seeks_103 ?_
                        refine lv_iload_n S.1 S.2.1 dX5_seeks_106 rfl (lv_at hl 3 rfl) ?_
                        refine lM_9 S K hH (vin (by omega) (by omega)) dX5_seeks_107 ?_
                        refine lv_topi (fun v25 e25 => ?_)
                        have b25 : 0 ≤ v25.toInt ∧ v25.toInt ≤ 6 := by rw [e25]; exact hI.1 9 0 x3_6.toNatClampNeg
                        have f107 : v25.toInt = nS N x3_6.toNatClampNeg := by rw [e25]; exact ((hRs.2.2 _ kc).1).1
                        refine lv_iconst (v := 1) S.1 S.2.1 dX5_seeks_108 (by decide) ?_
                        refine lv_isub S.1 S.2.1 dX5_seeks_109 ?_
                        refine lv_topi (fun v26 e26 => ?_)
                        have i26 : v26.toInt = v25.toInt - (1 : Int32).toInt := i_sub e26 (by omega) (by omega)
                        refine lv_icmp_ge (tgt := 160) S.1 S.2.1 dX5_seeks_110 (by decide) (fun c27 => ?_) (fun c27 => ?_)
                        · have j27 := t_le c27
                          refine lv_iload S.1 S.2.1 dX5_seeks_160 (lv_at hl 5 rfl) ?_
                          refine lv_iconst (v := (-1)) S.1 S.2.1 dX5_seeks_162 (by decide) ?_
                          refine lv_icmp_ne (tgt := 169) S.1 S.2.1 dX5_seeks_163 (by decide) (fun c28 => ?_) (fun c28 => ?_)
                          · have j28 := t_neq c28
                            have hhe : x5_24.toInt ≠ -1 := by omega
                            refine lv_aload_n S.1 S.2.1 dX5_seeks_169 rfl (lv_at hl 0 rfl) ?_
                            refine rM_0_9 S hnX5 K hH (mG wd_307) dX5_seeks_170 ?_
                            refine lv_iload_n S.1 S.2.1 dX5_seeks_173 rfl (lv_at hl 3 rfl) ?_
                            refine lM_9 S K hH (vin (by omega) (by omega)) dX5_seeks_174 ?_
                            refine lv_topi (fun v29 e29 => ?_)
                            have b29 : 0 ≤ v29.toInt ∧ v29.toInt ≤ 6 := by rw [e29]; exact hI.1 9 0 x3_6.toNatClampNeg
                            have k29 : v29.toInt = v25.toInt := by rw [e29]; rw [← e25]
                            have f174 : v29.toInt = nS N x3_6.toNatClampNeg := by rw [e29]; exact ((hRs.2.2 _ kc).1).1
                            refine lv_iconst (v := 1) S.1 S.2.1 dX5_seeks_175 (by decide) ?_
                            refine lv_isub S.1 S.2.1 dX5_seeks_176 ?_
                            refine lv_topi (fun v30 e30 => ?_)
                            have i30 : v30.toInt = v29.toInt - (1 : Int32).toInt := i_sub e30 (by omega) (by omega)
                            refine lv_istore (lv' := [(6, .int v30), (0, .ref (L 0 0)), (1, .int k), (2, .int v4), (3, .int x3_6), (4, .int x4_13), (5, .int x5_24)]) S.1 S.2.1 dX5_seeks_177 hl (by decide) rfl (fun ls hl => ?_)
                            have cut_179_31 : ∀ (n : Nat) (x6_31 : Int32) (σ_31 : QS) (H : Heap) (locs : List Loc) (ls : Array Slot), (x6_31.toInt + 1).toNat < n → -1 ≤ x6_31.toInt ∧ x6_31.toInt ≤ 5 → (KepM σ_31 N) → (pM σ_31 = pM σ) → ((σ_31 20 = σ 20 ∧ σ_31 26 = σ 26)) → (∀ s9 : Nat, x6_31.toInt < (s9 : Int) → s9 < nS N x3_6.toNatClampNeg → ¬ goodK N (σ 1 0 0).toInt (pM σ k.toNatClampNeg 2).toNatClampNeg (pM σ k.toNatClampNeg 0).toNatClampNeg x3_6.toNatClampNeg x4_13.toNatClampNeg s9) → (x6_31.toInt < nS N x3_6.toNatClampNeg) → InvM σ_31 → Keep [14, 15, 16, 20, 21, 22, 23, 24, 26] σ σ_31 → hW cntM gM D B L σ_31 τ H → va_S A s.heap H locs → lv_has ls 7 [(0, .ref (L 0 0)), (1, .int k), (2, .int v4), (3, .int x3_6), (4, .int x4_13), (5, .int x5_24), (6, .int x6_31)] → W p l e { frames := 3, cells := 0, slots := 0, locals := 78 } s m [.ref (L 0 0), .int k].toArray below meth c H locs 0 0 (MQ below (QcW cntM gM D B L A (pV (fun σ' τ' => InvM σ' ∧ Keep [14, 15, 16, 20, 21, 22, 23, 24, 26] σ σ' ∧ τ' = τ ∧ (seek1 N (σ 1 0 0).toInt (capM σ) (pM σ) k.toNatClampNeg (pM σ') ∧ KepM σ' N ∧ ∀ i9 : Nat, i9 ≠ k.toNatClampNeg → σ' 26 0 i9 = σ 26 0 i9)))) [.ref (L 0 0), .int k].toArray s 0 0 A) (F0 m 179 ls []) := by
                              intro n
                              induction n with
                              | zero => intro x6_31 σ_31 H locs ls hm; exact absurd hm (Nat.not_lt_zero _)
                              | succ n ih31 =>
                                intro x6_31 σ_31 H locs ls hm31 h31_0 wk pE w20 wg wn hI hP hH hS hl
                                have y1 : σ_31 1 = σ 1 := hP 1 (by decide)
                                have y2 : (σ_31 2 0 0).toInt = nK N := by rw [hP 2 (by decide)]; exact hp2.2.1
                                have hRs := RepM_k hp2 hP (by decide)
                                have hPz := hP
                                have pE2 := pE
                                refine lv_iload S.1 S.2.1 dX5_seeks_179 (lv_at hl 6 rfl) ?_
                                refine lv_iload S.1 S.2.1 dX5_seeks_181 (lv_at hl 5 rfl) ?_
                                refine lv_icmp_le (tgt := 296) S.1 S.2.1 dX5_seeks_183 (by decide) (fun c32 => ?_) (fun c32 => ?_)
                                · have j32 := t_le c32
                                  obtain ⟨v33, e33⟩ : ∃ y_9 : Int32, y_9 = x4_13 + 1 := ⟨_, rfl⟩
                                  have i33 : v33.toInt = x4_13.toInt + 1 := i_addc e33 (by decide) (by omega) (by omega)
                                  refine lv_iinc (v := v33) (lv' := [(4, .int v33), (0, .ref (L 0 0)), (1, .int k), (2, .int v4), (3, .int x3_6), (5, .int x5_24), (6, .int x6_31)]) S.1 S.2.1 dX5_seeks_296 hl (k := 4) rfl (by rw [e33]; rfl) (by decide) rfl (fun ls hl => ?_)
                                  refine lv_goto (tgt := 53) S.1 S.2.1 dX5_seeks_299 (by decide) ?_
                                  exact ih13 v33 σ_31 _ _ ls (by omega) (by omega) (by exact wk) (by rw [cl_n1 i33 (by omega)]; first | exact rn_53 ws (no_run (Or.resolve_left q18 (fun y => absurd y.1 (by omega))).2) | exact rn_53 ws (no_room (by omega)) | exact rn_53 ws (he_none whe (by omega) (by omega)) | exact rn_53 ws (no_good hN9 kc whe hhe (x := x6_31.toInt) (by omega) wg)) (by exact pE) (by exact w20) hI hP hH hS (lv_sub hl [1, 2, 3, 4, 0] rfl)
                                · have j32 := t_nle c32
                                  have k6 := cl_eq (j := x6_31) (by omega)
                                  refine lv_aload_n S.1 S.2.1 dX5_seeks_186 rfl (lv_at hl 0 rfl) ?_
                                  refine lv_aload_n S.1 S.2.1 dX5_seeks_187 rfl (lv_at hl 0 rfl) ?_
                                  refine rM_0_11 S hnX5 K hH (mG wd_309) dX5_seeks_188 ?_
                                  refine lv_bipush (v := 6) S.1 S.2.1 dX5_seeks_191 (by decide) ?_
                                  refine lv_iload_n S.1 S.2.1 dX5_seeks_193 rfl (lv_at hl 3 rfl) ?_
                                  refine lv_imul S.1 S.2.1 dX5_seeks_194 ?_
                                  refine lv_topi (fun v34 e34 => ?_)
                                  have i34 : v34.toInt = 6 * x3_6.toInt := i_mulcl e34 (by decide) (by omega) (by omega)
                                  refine lv_iload S.1 S.2.1 dX5_seeks_195 (lv_at hl 6 rfl) ?_
                                  refine lv_iadd S.1 S.2.1 dX5_seeks_197 ?_
                                  refine lv_topi (fun v35 e35 => ?_)
                                  have i35 : v35.toInt = v34.toInt + x6_31.toInt := i_add e35 (by omega) (by omega)
                                  refine lM_11 S K hH (vin (by omega) (by omega)) dX5_seeks_198 ?_
                                  refine lv_topi (fun v36 e36 => ?_)
                                  have b36 : 0 ≤ v36.toInt ∧ v36.toInt ≤ 11 := by rw [e36]; exact hI.1 11 0 v35.toNatClampNeg
                                  have f198 : v36.toInt = nP N x3_6.toNatClampNeg x6_31.toNatClampNeg := by rw [e36, show v35.toNatClampNeg = 6 * x3_6.toNatClampNeg + x6_31.toNatClampNeg by have z3 := cl_eq (j := v35) (by omega); omega]; exact ((hRs.2.2 _ kc).2.1 _ (by omega)).1
                                  refine lv_aload_n S.1 S.2.1 dX5_seeks_199 rfl (lv_at hl 0 rfl) ?_
                                  refine lv_iload_n S.1 S.2.1 dX5_seeks_200 rfl (lv_at hl 3 rfl) ?_
                                  refine lv_iload S.1 S.2.1 dX5_seeks_201 (lv_at hl 4 rfl) ?_
                                  refine lv_iload S.1 S.2.1 dX5_seeks_203 (lv_at hl 6 rfl) ?_
                                  refine cW_bpi (cW_V (n := 3) (As := [.int x3_6, .int x4_13, .int x6_31]) (rest := [.int v36, .ref (L 0 0)]) (k := 0) (i := 0) S K hH (by decide) rfl rfl (k_X5_hourOf l D B L A σ_31 τ x3_6 x4_13 x6_31 (N) (by omega) (by omega) (by omega) hI (hRs) (by omega) (by rw [((hRs.2.2 _ kc).1).1]; omega)) gX5_seeks_X5_hourOf rfl hdV_X5_hourOf ⟨Nat.le_of_ble_eq_true rfl, Nat.le_of_ble_eq_true rfl⟩ rfl hl.1 (Nat.le_of_ble_eq_true rfl) dX5_seeks_205) hS (fun v37 H locs q37 hH hS => ?_)
                                  refine lv_aload_n S.1 S.2.1 dX5_seeks_208 rfl (lv_at hl 0 rfl) ?_
                                  refine rM_0_18 S hnX5 K hH (mG wd_319) dX5_seeks_209 ?_
                                  refine lv_iload_n S.1 S.2.1 dX5_seeks_212 rfl (lv_at hl 1 rfl) ?_
                                  refine lM_18 S K hH (vin (by omega) (by omega)) dX5_seeks_213 ?_
                                  refine lv_topi (fun v38 e38 => ?_)
                                  have b38 : 0 ≤ v38.toInt ∧ v38.toInt ≤ 11 := by rw [e38]; exact hI.1 18 0 k.toNatClampNeg
                                  have f213 : v38.toNatClampNeg = (pM σ k.toNatClampNeg 0).toNatClampNeg := by rw [e38, hP 18 (by decide), p0]
                                  refine cW_bi (cW_V (n := 3) (As := [.int v36, .int v37, .int v38]) (rest := []) (k := 0) (i := 0) S K hH (by decide) rfl rfl (k_X5_soonOf l D B L A σ_31 τ v36 v37 v38 (N) (by omega) (by omega) (by omega) hI (hRs) (wk)) gX5_seeks_X5_soonOf rfl hdV_X5_soonOf ⟨Nat.le_of_ble_eq_true rfl, Nat.le_of_ble_eq_true rfl⟩ rfl hl.1 (Nat.le_of_ble_eq_true rfl) dX5_seeks_214) hS (fun v39 σ39 τ39 H locs q39 hH hS => ?_)
                                  obtain ⟨hI, hP39, hτ39, q39⟩ := q39
                                  rw [hτ39] at hH
                                  have hP := Keep_t hP hP39 (by decide)
                                  have hgd := sv_good (c := x3_6.toNatClampNeg) (d := x4_13.toNatClampNeg) (s' := x6_31.toNatClampNeg) hN9 hvS (he_fw kc krun whe hhe (by omega) (by omega)) (x := v39.toInt) (by have z1 := (q39).2; rw [show v36.toNatClampNeg = nP N x3_6.toNatClampNeg x6_31.toNatClampNeg by have z3 := cl_eq (j := v36) (by omega); omega, (q37).2, f213] at z1; exact z1) (by rw [← (q37).2]; omega)
                                  have kq2 := (q39).1
                                  refine lv_iload_n S.1 S.2.1 dX5_seeks_217 rfl (lv_at hl 2 rfl) ?_
                                  refine lv_icmp_eq (tgt := 224) S.1 S.2.1 dX5_seeks_218 (by decide) (fun c40 => ?_) (fun c40 => ?_)
                                  · have j40 := t_eq c40
                                    refine lv_aload_n S.1 S.2.1 dX5_seeks_224 rfl (lv_at hl 0 rfl) ?_
                                    refine rM_0_20 S hnX5 K hH (mG wd_321) dX5_seeks_225 ?_
                                    refine lv_iload_n S.1 S.2.1 dX5_seeks_228 rfl (lv_at hl 1 rfl) ?_
                                    refine lv_iconst (v := (-1)) S.1 S.2.1 dX5_seeks_229 (by decide) ?_
                                    refine sM_20 S K hH hS (vin (by omega) (by omega)) dX5_seeks_230 (fun H locs hH hS => ?_)
                                    obtain ⟨σ41, eσ41⟩ : ∃ z_9 : QS, z_9 = rs σ39 20 0 (upd (σ39 20 0) k.toNatClampNeg (-1)) := ⟨_, rfl⟩
                                    rw [← eσ41] at hH
                                    have hI := InvM_a eσ41 hI (by decide) (show ((-1) : Int) ≤ (-1 : Int32).toInt ∧ (-1 : Int32).toInt ≤ 11 by omega)
                                    have hP := Keep_w eσ41 hP (by decide)
                                    refine lv_aload_n S.1 S.2.1 dX5_seeks_231 rfl (lv_at hl 0 rfl) ?_
                                    refine rM_0_21 S hnX5 K hH (mG wd_322) dX5_seeks_232 ?_
                                    refine lv_iload_n S.1 S.2.1 dX5_seeks_235 rfl (lv_at hl 1 rfl) ?_
                                    refine lv_iload_n S.1 S.2.1 dX5_seeks_236 rfl (lv_at hl 3 rfl) ?_
                                    refine sM_21 S K hH hS (vin (by omega) (by omega)) dX5_seeks_237 (fun H locs hH hS => ?_)
                                    obtain ⟨σ42, eσ42⟩ : ∃ z_9 : QS, z_9 = rs σ41 21 0 (upd (σ41 21 0) k.toNatClampNeg x3_6) := ⟨_, rfl⟩
                                    rw [← eσ42] at hH
                                    have hI := InvM_a eσ42 hI (by decide) (show ((-1) : Int) ≤ x3_6.toInt ∧ x3_6.toInt ≤ 11 by omega)
                                    have hP := Keep_w eσ42 hP (by decide)
                                    refine lv_aload_n S.1 S.2.1 dX5_seeks_238 rfl (lv_at hl 0 rfl) ?_
                                    refine rM_0_22 S hnX5 K hH (mG wd_323) dX5_seeks_239 ?_
                                    refine lv_iload_n S.1 S.2.1 dX5_seeks_242 rfl (lv_at hl 1 rfl) ?_
                                    refine lv_iload S.1 S.2.1 dX5_seeks_243 (lv_at hl 4 rfl) ?_
                                    refine sM_22 S K hH hS (vin (by omega) (by omega)) dX5_seeks_245 (fun H locs hH hS => ?_)
                                    obtain ⟨σ43, eσ43⟩ : ∃ z_9 : QS, z_9 = rs σ42 22 0 (upd (σ42 22 0) k.toNatClampNeg x4_13) := ⟨_, rfl⟩
                                    rw [← eσ43] at hH
                                    have hI := InvM_a eσ43 hI (by decide) (any32 _)
                                    have hP := Keep_w eσ43 hP (by decide)
                                    refine lv_aload_n S.1 S.2.1 dX5_seeks_246 rfl (lv_at hl 0 rfl) ?_
                                    refine rM_0_23 S hnX5 K hH (mG wd_324) dX5_seeks_247 ?_
                                    refine lv_iload_n S.1 S.2.1 dX5_seeks_250 rfl (lv_at hl 1 rfl) ?_
                                    refine lv_aload_n S.1 S.2.1 dX5_seeks_251 rfl (lv_at hl 0 rfl) ?_
                                    refine lv_iload_n S.1 S.2.1 dX5_seeks_252 rfl (lv_at hl 3 rfl) ?_
                                    refine lv_iload S.1 S.2.1 dX5_seeks_253 (lv_at hl 4 rfl) ?_
                                    refine lv_iload S.1 S.2.1 dX5_seeks_255 (lv_at hl 6 rfl) ?_
                                    refine cW_bpi (cW_V (n := 3) (As := [.int x3_6, .int x4_13, .int x6_31]) (rest := [.int k, .ref (L 23 0)]) (k := 0) (i := 0) S K hH (by decide) rfl rfl (k_X5_hourOf l D B L A σ43 τ x3_6 x4_13 x6_31 (N) (by omega) (by omega) (by omega) hI (RepM_k hp2 hP (by decide)) (by rw [hP 2 (by decide), hp2.2.1]; omega) (by rw [hP 9 (by decide), ((hp2.2.2 _ kc).1).1]; omega)) gX5_seeks_X5_hourOf rfl hdV_X5_hourOf ⟨Nat.le_of_ble_eq_true rfl, Nat.le_of_ble_eq_true rfl⟩ rfl hl.1 (Nat.le_of_ble_eq_true rfl) dX5_seeks_257) hS (fun v44 H locs q44 hH hS => ?_)
                                    refine sM_23 S K hH hS (vin (by omega) (by omega)) dX5_seeks_260 (fun H locs hH hS => ?_)
                                    obtain ⟨σ45, eσ45⟩ : ∃ z_9 : QS, z_9 = rs σ43 23 0 (upd (σ43 23 0) k.toNatClampNeg v44) := ⟨_, rfl⟩
                                    rw [← eσ45] at hH
                                    have hI := InvM_a eσ45 hI (by decide) (any32 _)
                                    have hP := Keep_w eσ45 hP (by decide)
                                    refine lv_aload_n S.1 S.2.1 dX5_seeks_261 rfl (lv_at hl 0 rfl) ?_
                                    refine rM_0_24 S hnX5 K hH (mG wd_325) dX5_seeks_262 ?_
                                    refine lv_iload_n S.1 S.2.1 dX5_seeks_265 rfl (lv_at hl 1 rfl) ?_
                                    refine lv_aload_n S.1 S.2.1 dX5_seeks_266 rfl (lv_at hl 0 rfl) ?_
                                    refine rM_0_11 S hnX5 K hH (mG wd_309) dX5_seeks_267 ?_
                                    refine lv_bipush (v := 6) S.1 S.2.1 dX5_seeks_270 (by decide) ?_
                                    refine lv_iload_n S.1 S.2.1 dX5_seeks_272 rfl (lv_at hl 3 rfl) ?_
                                    refine lv_imul S.1 S.2.1 dX5_seeks_273 ?_
                                    refine lv_topi (fun v46 e46 => ?_)
                                    have i46 : v46.toInt = 6 * x3_6.toInt := i_mulcl e46 (by decide) (by omega) (by omega)
                                    refine lv_iload S.1 S.2.1 dX5_seeks_274 (lv_at hl 6 rfl) ?_
                                    refine lv_iadd S.1 S.2.1 dX5_seeks_276 ?_
                                    refine lv_topi (fun v47 e47 => ?_)
                                    have i47 : v47.toInt = v46.toInt + x6_31.toInt := i_add e47 (by omega) (by omega)
                                    refine lM_11 S K hH (vin (by omega) (by omega)) dX5_seeks_277 ?_
                                    refine lv_topi (fun v48 e48 => ?_)
                                    have b48 : 0 ≤ v48.toInt ∧ v48.toInt ≤ 11 := by rw [e48]; exact hI.1 11 0 v47.toNatClampNeg
                                    have f277 : v48.toInt = nP N x3_6.toNatClampNeg x6_31.toNatClampNeg := by rw [e48, eσ45, rs_v (by decide), eσ43, rs_v (by decide), eσ42, rs_v (by decide), eσ41, rs_v (by decide), hP39 11 (by decide), show v47.toNatClampNeg = 6 * x3_6.toNatClampNeg + x6_31.toNatClampNeg by have z3 := cl_eq (j := v47) (by omega); omega]; exact ((hRs.2.2 _ kc).2.1 _ (by omega)).1
                                    refine sM_24 S K hH hS (vin (by omega) (by omega)) dX5_seeks_278 (fun H locs hH hS => ?_)
                                    obtain ⟨σ49, eσ49⟩ : ∃ z_9 : QS, z_9 = rs σ45 24 0 (upd (σ45 24 0) k.toNatClampNeg v48) := ⟨_, rfl⟩
                                    rw [← eσ49] at hH
                                    have hI := InvM_a eσ49 hI (by decide) (show (0 : Int) ≤ v48.toInt ∧ v48.toInt ≤ 11 by omega)
                                    have hP := Keep_w eσ49 hP (by decide)
                                    refine lv_aload_n S.1 S.2.1 dX5_seeks_279 rfl (lv_at hl 0 rfl) ?_
                                    refine rM_0_26 S hnX5 K hH (mG wd_327) dX5_seeks_280 ?_
                                    refine lv_iload_n S.1 S.2.1 dX5_seeks_283 rfl (lv_at hl 1 rfl) ?_
                                    refine lv_dup2_11 S.1 S.2.1 dX5_seeks_284 rfl rfl ?_
                                    refine lM_26 S K hH (vin (by omega) (by omega)) dX5_seeks_285 ?_
                                    refine lv_topi (fun v50 e50 => ?_)
                                    refine lv_iconst (v := 1) S.1 S.2.1 dX5_seeks_286 (by decide) ?_
                                    refine lv_iadd S.1 S.2.1 dX5_seeks_287 ?_
                                    refine lv_topi (fun v51 e51 => ?_)
                                    refine sM_26 S K hH hS (vin (by omega) (by omega)) dX5_seeks_288 (fun H locs hH hS => ?_)
                                    obtain ⟨σ52, eσ52⟩ : ∃ z_9 : QS, z_9 = rs σ49 26 0 (upd (σ49 26 0) k.toNatClampNeg v51) := ⟨_, rfl⟩
                                    rw [← eσ52] at hH
                                    have hI := InvM_a eσ52 hI (by decide) (any32 _)
                                    have hP := Keep_w eσ52 hP (by decide)
                                    refine cW_vret S hr hk hH hS ?_ dX5_seeks_289
                                    exact ⟨rfl, hI, hP, rfl, by have hT := se_some (C := capM σ) hN9 kc whe hhe krun kroom (x := x6_31.toNatClampNeg) (by omega) (by omega) (hgd.mp (by omega)) (fun s9 y1 y2 => wg s9 (by omega) y2); have hb : pM σ52 = bdA (pM σ39) k.toNatClampNeg x3_6 x4_13 v44 v48 := bdM_p (x := v51) (by rw [hP39 4 (by decide), hPz 4 (by decide)]; omega) (by omega) (by rw [eσ52, rs_v (by decide), eσ49, rs_v (by decide), eσ45, rs_v (by decide), eσ43, rs_v (by decide), eσ42, rs_v (by decide), eσ41, rs_self]) (by rw [eσ52, rs_v (by decide), eσ49, rs_v (by decide), eσ45, rs_v (by decide), eσ43, rs_v (by decide), eσ42, rs_self, eσ41, rs_v (by decide)]) (by rw [eσ52, rs_v (by decide), eσ49, rs_v (by decide), eσ45, rs_v (by decide), eσ43, rs_self, eσ42, rs_v (by decide), eσ41, rs_v (by decide)]) (by rw [eσ52, rs_v (by decide), eσ49, rs_v (by decide), eσ45, rs_self, eσ43, rs_v (by decide), eσ42, rs_v (by decide), eσ41, rs_v (by decide)]) (by rw [eσ52, rs_v (by decide), eσ49, rs_self, eσ45, rs_v (by decide), eσ43, rs_v (by decide), eσ42, rs_v (by decide), eσ41, rs_v (by decide)]) (by rw [eσ52, rs_self, eσ49, rs_v (by decide), eσ45, rs_v (by decide), eσ43, rs_v (by decide), eσ42, rs_v (by decide), eσ41, rs_v (by decide)]) (by rw [e51, e50]; rw [eσ49, rs_v (by decide), eσ45, rs_v (by decide), eσ43, rs_v (by decide), eσ42, rs_v (by decide), eσ41, rs_v (by decide)]) (by intro v' hv'; rw [eσ52, rs_v (by intro z9; subst z9; revert hv'; decide), eσ49, rs_v (by intro z9; subst z9; revert hv'; decide), eσ45, rs_v (by intro z9; subst z9; revert hv'; decide), eσ43, rs_v (by intro z9; subst z9; revert hv'; decide), eσ42, rs_v (by intro z9; subst z9; revert hv'; decide), eσ41, rs_v (by intro z9; subst z9; revert hv'; decide)]); have e3 : x3_6 = nI x3_6.toNatClampNeg := nI_at (by omega); have e4 : x4_13 = nI x4_13.toNatClampNeg := nI_at (by omega); have e5 : v44 = Int32.ofInt (htN N x3_6.toNatClampNeg x4_13.toNatClampNeg x6_31.toNatClampNeg) := (by rw [← (q44).2]; exact (Int32.ofInt_toInt _).symm); have e6 : v48 = nI (nP N x3_6.toNatClampNeg x6_31.toNatClampNeg) := Int32.toInt_inj.mp (by rw [nI_toInt (by have z3 := (((hN9.2 _ kc).2.2.2.1) x6_31.toNatClampNeg (by omega)).1; omega)]; exact f277); have hpp : pM σ39 = pM σ := (pM_k hP39 (by decide)).trans pE; exact ⟨Or.inl ⟨_, _, _, _, rs_best ws hT, by rw [hb, hpp, ← e3, ← e4, ← e5, ← e6]⟩, KepM_of kq2 (fun v' hv' => by rw [eσ52, rs_v (by intro z9; subst z9; revert hv'; decide), eσ49, rs_v (by intro z9; subst z9; revert hv'; decide), eσ45, rs_v (by intro z9; subst z9; revert hv'; decide), eσ43, rs_v (by intro z9; subst z9; revert hv'; decide), eσ42, rs_v (by intro z9; subst z9; revert hv'; decide), eσ41, rs_v (by intro z9; subst z9; revert hv'; decide)]), fun i9 z9 => by rw [eσ52, rs_self]; unfold upd; rw [if_neg z9]; rw [eσ49, rs_v (by decide), eσ45, rs_v (by decide), eσ43, rs_v (by decide), eσ42, rs_v (by decide), eσ41, rs_v (by decide)]; rw [hP39 26 (by decide), w20.2]⟩⟩
                                  · have j40 := t_neq c40
                                    refine lv_goto (tgt := 290) S.1 S.2.1 dX5_seeks_221 (by decide) ?_
                                    obtain ⟨v53, e53⟩ : ∃ y_9 : Int32, y_9 = x6_31 + (-1) := ⟨_, rfl⟩
                                    have i53 : v53.toInt = x6_31.toInt + (-1) := i_addc e53 (by decide) (by omega) (by omega)
                                    refine lv_iinc (v := v53) (lv' := [(6, .int v53), (0, .ref (L 0 0)), (1, .int k), (2, .int v4), (3, .int x3_6), (4, .int x4_13), (5, .int x5_24)]) S.1 S.2.1 dX5_seeks_290 hl (k := 6) rfl (by rw [e53]; rfl) (by decide) rfl (fun ls hl => ?_)
                                    refine lv_goto (tgt := 179) S.1 S.2.1 dX5_seeks_293 (by decide) ?_
                                    exact ih31 v53 σ39 _ _ ls (by omega) (by omega) (by exact kq2) (by exact (pM_k hP39 (by decide)).trans pE) (by exact ⟨(hP39 20 (by decide)).trans w20.1, (hP39 26 (by decide)).trans w20.2⟩) (by intro s9 y1 y2; have z3 := cl_eq (j := x6_31) (by omega); by_cases y3 : (s9 : Int) = (x6_31).toInt; rw [show s9 = (x6_31).toNatClampNeg by omega]; exact fun y4 => absurd (hgd.mpr y4) (by omega); exact wg s9 (by omega) y2) (by omega) hI hP hH hS (lv_sub hl [1, 2, 3, 4, 5, 6, 0] rfl)
                            exact cut_179_31 _ v30 σ_24 _ _ ls (Nat.lt_succ_self _) (by omega) (by exact wk) (by exact pE) (by exact w20) (by intro s9 y1 y2; omega) (by omega) hI hP hH hS (lv_sub hl [1, 2, 3, 4, 5, 6, 0] rfl)
                          · have j28 := t_eq c28
                            refine lv_goto (tgt := 296) S.1 S.2.1 dX5_seeks_166 (by decide) ?_
                            obtain ⟨v54, e54⟩ : ∃ y_9 : Int32, y_9 = x4_13 + 1 := ⟨_, rfl⟩
                            have i54 : v54.toInt = x4_13.toInt + 1 := i_addc e54 (by decide) (by omega) (by omega)
                            refine lv_iinc (v := v54) (lv' := [(4, .int v54), (0, .ref (L 0 0)), (1, .int k), (2, .int v4), (3, .int x3_6), (5, .int x5_24), (6, .int x6_24)]) S.1 S.2.1 dX5_seeks_296 hl (k := 4) rfl (by rw [e54]; rfl) (by decide) rfl (fun ls hl => ?_)
                            refine lv_goto (tgt := 53) S.1 S.2.1 dX5_seeks_299 (by decide) ?_
                            exact ih13 v54 σ_24 _ _ ls (by omega) (by omega) (by exact wk) (by rw [cl_n1 i54 (by omega)]; first | exact rn_53 ws (no_run (Or.resolve_left q18 (fun y => absurd y.1 (by omega))).2) | exact rn_53 ws (no_room (by omega)) | exact rn_53 ws (he_none whe (by omega) (by omega)) | exact rn_53 ws (no_good hN9 kc whe hhe (x := x6_24.toInt) (by omega) wg)) (by exact pE) (by exact w20) hI hP hH hS (lv_sub hl [1, 2, 3, 4, 0] rfl)
                        · have j27 := t_nle c27
                          refine lv_aload_n S.1 S.2.1 dX5_seeks_113 rfl (lv_at hl 0 rfl) ?_
                          refine rM_0_11 S hnX5 K hH (mG wd_309) dX5_seeks_114 ?_
                          refine lv_bipush (v := 6) S.1 S.2.1 dX5_seeks_117 (by decide) ?_
                          refine lv_iload_n S.1 S.2.1 dX5_seeks_119 rfl (lv_at hl 3 rfl) ?_
                          refine lv_imul S.1 S.2.1 dX5_seeks_120 ?_
                          refine lv_topi (fun v55 e55 => ?_)
                          have i55 : v55.toInt = 6 * x3_6.toInt := i_mulcl e55 (by decide) (by omega) (by omega)
                          refine lv_iload S.1 S.2.1 dX5_seeks_121 (lv_at hl 6 rfl) ?_
                          refine lv_iadd S.1 S.2.1 dX5_seeks_123 ?_
                          refine lv_topi (fun v56 e56 => ?_)
                          have i56 : v56.toInt = v55.toInt + x6_24.toInt := i_add e56 (by omega) (by omega)
                          refine lM_11 S K hH (vin (by omega) (by omega)) dX5_seeks_124 ?_
                          refine lv_topi (fun v57 e57 => ?_)
                          have b57 : 0 ≤ v57.toInt ∧ v57.toInt ≤ 11 := by rw [e57]; exact hI.1 11 0 v56.toNatClampNeg
                          have f124 : v57.toInt = nP N x3_6.toNatClampNeg x6_24.toNatClampNeg := by rw [e57, show v56.toNatClampNeg = 6 * x3_6.toNatClampNeg + x6_24.toNatClampNeg by have z3 := cl_eq (j := v56) (by omega); omega]; exact ((hRs.2.2 _ kc).2.1 _ (by omega)).1
                          refine lv_aload_n S.1 S.2.1 dX5_seeks_125 rfl (lv_at hl 0 rfl) ?_
                          refine rM_0_20 S hnX5 K hH (mG wd_321) dX5_seeks_126 ?_
                          refine lv_iload_n S.1 S.2.1 dX5_seeks_129 rfl (lv_at hl 1 rfl) ?_
                          refine lM_20 S K hH (vin (by omega) (by omega)) dX5_seeks_130 ?_
                          refine lv_topi (fun v58 e58 => ?_)
                          have b58 : (-1) ≤ v58.toInt ∧ v58.toInt ≤ 11 := by rw [e58]; exact hI.1 20 0 k.toNatClampNeg
                          have f130 : v58.toInt = (pM σ k.toNatClampNeg 2).toInt := by rw [e58, w20.1, p2]
                          refine lv_icmp_ne (tgt := 154) S.1 S.2.1 dX5_seeks_131 (by decide) (fun c59 => ?_) (fun c59 => ?_)
                          · have j59 := t_neq c59
                            obtain ⟨v60, e60⟩ : ∃ y_9 : Int32, y_9 = x6_24 + 1 := ⟨_, rfl⟩
                            have i60 : v60.toInt = x6_24.toInt + 1 := i_addc e60 (by decide) (by omega) (by omega)
                            refine lv_iinc (v := v60) (lv' := [(6, .int v60), (0, .ref (L 0 0)), (1, .int k), (2, .int v4), (3, .int x3_6), (4, .int x4_13), (5, .int x5_24)]) S.1 S.2.1 dX5_seeks_154 hl (k := 6) rfl (by rw [e60]; rfl) (by decide) rfl (fun ls hl => ?_)
                            refine lv_goto (tgt := 100) S.1 S.2.1 dX5_seeks_157 (by decide) ?_
                            exact ih24 x5_24 v60 σ_24 _ _ ls (by omega) (by omega) (by omega) (by exact wk) (by exact pE) (by exact w20) (by rw [i60]; first | (refine he_y (by omega) ?_; rw [show ((x6_24).toInt).toNat = (x6_24).toNatClampNeg by omega]; exact ⟨by omega, by omega, by rw [← (q9999).2]; omega⟩) | (refine he_n whe (by omega) ?_; rw [show ((x6_24).toInt).toNat = (x6_24).toNatClampNeg by omega]; intro y9; first | exact absurd y9.2.1 (by omega) | exact absurd y9.2.2 (by rw [← (q9999).2]; omega))) hI hP hH hS (lv_sub hl [1, 2, 3, 4, 5, 6, 0] rfl)
                          · have j59 := t_eq c59
                            refine lv_aload_n S.1 S.2.1 dX5_seeks_134 rfl (lv_at hl 0 rfl) ?_
                            refine lv_iload_n S.1 S.2.1 dX5_seeks_135 rfl (lv_at hl 3 rfl) ?_
                            refine lv_iload S.1 S.2.1 dX5_seeks_136 (lv_at hl 4 rfl) ?_
                            refine lv_iload S.1 S.2.1 dX5_seeks_138 (lv_at hl 6 rfl) ?_
                            refine cW_bpi (cW_V (n := 3) (As := [.int x3_6, .int x4_13, .int x6_24]) (rest := []) (k := 0) (i := 0) S K hH (by decide) rfl rfl (k_X5_hourOf l D B L A σ_24 τ x3_6 x4_13 x6_24 (N) (by omega) (by omega) (by omega) hI (hRs) (by omega) (by rw [← e25]; omega)) gX5_seeks_X5_hourOf rfl hdV_X5_hourOf ⟨Nat.le_of_ble_eq_true rfl, Nat.le_of_ble_eq_true rfl⟩ rfl hl.1 (Nat.le_of_ble_eq_true rfl) dX5_seeks_140) hS (fun v61 H locs q61 hH hS => ?_)
                            refine lv_aload_n S.1 S.2.1 dX5_seeks_143 rfl (lv_at hl 0 rfl) ?_
                            refine rM_0_1 S hnX5 K hH (mG wd_352) dX5_seeks_144 ?_
                            refine lv_topi (fun v62 e62 => ?_)
                            have b62 : 0 ≤ v62.toInt ∧ v62.toInt ≤ 5000 := by rw [e62]; exact hI.1 1 0 0
                            have f144 : v62.toInt = (σ 1 0 0).toInt := by rw [e62, y1]
                            refine lv_icmp_ne (tgt := 154) S.1 S.2.1 dX5_seeks_147 (by decide) (fun c63 => ?_) (fun c63 => ?_)
                            · have j63 := t_neq c63
                              obtain ⟨v64, e64⟩ : ∃ y_9 : Int32, y_9 = x6_24 + 1 := ⟨_, rfl⟩
                              have i64 : v64.toInt = x6_24.toInt + 1 := i_addc e64 (by decide) (by omega) (by omega)
                              refine lv_iinc (v := v64) (lv' := [(6, .int v64), (0, .ref (L 0 0)), (1, .int k), (2, .int v4), (3, .int x3_6), (4, .int x4_13), (5, .int x5_24)]) S.1 S.2.1 dX5_seeks_154 hl (k := 6) rfl (by rw [e64]; rfl) (by decide) rfl (fun ls hl => ?_)
                              refine lv_goto (tgt := 100) S.1 S.2.1 dX5_seeks_157 (by decide) ?_
                              exact ih24 x5_24 v64 σ_24 _ _ ls (by omega) (by omega) (by omega) (by exact wk) (by exact pE) (by exact w20) (by rw [i64]; first | (refine he_y (by omega) ?_; rw [show ((x6_24).toInt).toNat = (x6_24).toNatClampNeg by omega]; exact ⟨by omega, by omega, by rw [← (q61).2]; omega⟩) | (refine he_n whe (by omega) ?_; rw [show ((x6_24).toInt).toNat = (x6_24).toNatClampNeg by omega]; intro y9; first | exact absurd y9.2.1 (by omega) | exact absurd y9.2.2 (by rw [← (q61).2]; omega))) hI hP hH hS (lv_sub hl [1, 2, 3, 4, 5, 6, 0] rfl)
                            · have j63 := t_eq c63
                              refine lv_iload S.1 S.2.1 dX5_seeks_150 (lv_at hl 6 rfl) ?_
                              refine lv_istore (lv' := [(5, .int x6_24), (0, .ref (L 0 0)), (1, .int k), (2, .int v4), (3, .int x3_6), (4, .int x4_13), (6, .int x6_24)]) S.1 S.2.1 dX5_seeks_152 hl (by decide) rfl (fun ls hl => ?_)
                              obtain ⟨v65, e65⟩ : ∃ y_9 : Int32, y_9 = x6_24 + 1 := ⟨_, rfl⟩
                              have i65 : v65.toInt = x6_24.toInt + 1 := i_addc e65 (by decide) (by omega) (by omega)
                              refine lv_iinc (v := v65) (lv' := [(6, .int v65), (5, .int x6_24), (0, .ref (L 0 0)), (1, .int k), (2, .int v4), (3, .int x3_6), (4, .int x4_13)]) S.1 S.2.1 dX5_seeks_154 hl (k := 6) rfl (by rw [e65]; rfl) (by decide) rfl (fun ls hl => ?_)
                              refine lv_goto (tgt := 100) S.1 S.2.1 dX5_seeks_157 (by decide) ?_
                              exact ih24 x6_24 v65 σ_24 _ _ ls (by omega) (by omega) (by omega) (by exact wk) (by exact pE) (by exact w20) (by rw [i65]; first | (refine he_y (by omega) ?_; rw [show ((x6_24).toInt).toNat = (x6_24).toNatClampNeg by omega]; exact ⟨by omega, by omega, by rw [← (q61).2]; omega⟩) | (refine he_n whe (by omega) ?_; rw [show ((x6_24).toInt).toNat = (x6_24).toNatClampNeg by omega]; intro y9; first | exact absurd y9.2.1 (by omega) | exact absurd y9.2.2 (by rw [← (q61).2]; omega))) hI hP hH hS (lv_sub hl [2, 3, 4, 5, 6, 1, 0] rfl)
                    exact cut_100_24 _ (-1) 0 σ_13 _ _ ls (Nat.lt_succ_self _) (by omega) (by omega) (by exact wk) (by exact pE) (by exact w20) (by rw [lm1, l0]; exact he_0) hI hP hH hS (lv_sub hl [2, 3, 4, 5, 6, 1, 0] rfl)
                  · have j23 := t_nle c23
                    refine lv_goto (tgt := 296) S.1 S.2.1 dX5_seeks_91 (by decide) ?_
                    obtain ⟨v66, e66⟩ : ∃ y_9 : Int32, y_9 = x4_13 + 1 := ⟨_, rfl⟩
                    have i66 : v66.toInt = x4_13.toInt + 1 := i_addc e66 (by decide) (by omega) (by omega)
                    refine lv_iinc (v := v66) (lv' := [(4, .int v66), (0, .ref (L 0 0)), (1, .int k), (2, .int v4), (3, .int x3_6)]) S.1 S.2.1 dX5_seeks_296 hl (k := 4) rfl (by rw [e66]; rfl) (by decide) rfl (fun ls hl => ?_)
                    refine lv_goto (tgt := 53) S.1 S.2.1 dX5_seeks_299 (by decide) ?_
                    exact ih13 v66 σ_13 _ _ ls (by omega) (by omega) (by exact wk) (by rw [cl_n1 i66 (by omega)]; first | exact rn_53 ws (no_run (Or.resolve_left q18 (fun y => absurd y.1 (by omega))).2) | exact rn_53 ws (no_room (by omega)) | exact rn_53 ws (he_none whe (by omega) (by omega)) | exact rn_53 ws (no_good hN9 kc whe hhe (x := zz.toInt) (by omega) wg)) (by exact pE) (by exact w20) hI hP hH hS (lv_sub hl [1, 2, 3, 4, 0] rfl)
          exact cut_53_13 _ v12 σ_6 _ _ ls (Nat.lt_succ_self _) (by omega) (by exact wk) (by exact ri_53 hN9 ws (by have z3 := cl_eq (j := v12) (by omega); omega)) (by exact pE) (by exact w20) hI hP hH hS (lv_sub hl [1, 2, 3, 4, 0] rfl)
    exact cut_30_6 _ 0 σ4 _ _ ls (Nat.lt_succ_self _) (by omega) (by exact kq) (by exact ri_30) (by exact pM_k hP4 (by decide)) (by exact ⟨hP4 20 (by decide), hP4 26 (by decide)⟩) hI hP hH hS (lv_sub hl [2, 3, 1, 0] rfl)
  · have j5 := t_eq c5
    refine cW_vret S hr hk hH hS ?_ dX5_seeks_27
    exact ⟨rfl, hI, hP, rfl, by exact ⟨Or.inr ⟨fun c9 d9 s9 s8 y9 => sv_none (by omega) hv9 (by omega) _ _ _ y9.2.2.1, pM_k hP4 (by decide)⟩, kq, fun i9 _ => by rw [hP4 26 (by decide)]⟩⟩
