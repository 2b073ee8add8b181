set_option maxHeartbeats 4000000 in
set_option maxRecDepth 100000 in
theorem k_X2_give (l : Launch) (D : va_G) (B : Nat → ClassId) (L : QL) (A : Nat → Prop) (σ : QS) (τ : Int64) (i : Nat) (a : Int32) (b : Int32) (z : Int32)  (hp0 : i < 60) : cW cntC gC l D B L A yX2_give wsX2_give 0 0 [.ref (L 20 i), .int a, .int b, .int z] σ τ (pV (fun σ' τ' => σ' = rs (rs (rs σ 34 i (fun _ => a)) 32 i (fun _ => b)) 33 i (fun _ => z) ∧ τ' = τ)) := by
  refine cW_of (cc := cX2_give) (nL := 4) (ret := none) (by decide) rfl (Nat.le_of_ble_eq_true rfl) ?_
  intro p e s m below meth c S hr hk K hH hS ls hl
  have hnX2 : ∀ w ∈ wsX20, w ∈ wsX2_give := fun w h => mG (tX2 w h)
  have hl : lv_has ls 4 [(0, .ref (L 20 i)), (1, .int a), (2, .int b), (3, .int z)] := hl
  refine lv_aload_n S.1 S.2.1 dX2_give_0 rfl (lv_at hl 0 rfl) ?_
  refine lv_iload_n S.1 S.2.1 dX2_give_1 rfl (lv_at hl 1 rfl) ?_
  refine pC_20_2 S hnX2 K hH hS (show i < 60 by omega) (mG wd_69) dX2_give_2 (fun H locs hH hS => ?_)
  obtain ⟨σ1, eσ1⟩ : ∃ z_9 : QS, z_9 = rs σ 34 i (fun _ => a) := ⟨_, rfl⟩
  rw [← eσ1] at hH
  refine lv_aload_n S.1 S.2.1 dX2_give_5 rfl (lv_at hl 0 rfl) ?_
  refine lv_iload_n S.1 S.2.1 dX2_give_6 rfl (lv_at hl 2 rfl) ?_
  refine pC_20_0 S hnX2 K hH hS (show i < 60 by omega) (mG wd_67) dX2_give_7 (fun H locs hH hS => ?_)
  obtain ⟨σ2, eσ2⟩ : ∃ z_9 : QS, z_9 = rs σ1 32 i (fun _ => b) := ⟨_, rfl⟩
  rw [← eσ2] at hH
  refine lv_aload_n S.1 S.2.1 dX2_give_10 rfl (lv_at hl 0 rfl) ?_
  refine lv_iload_n S.1 S.2.1 dX2_give_11 rfl (lv_at hl 3 rfl) ?_
  refine pC_20_1 S hnX2 K hH hS (show i < 60 by omega) (mG wd_68) dX2_give_12 (fun H locs hH hS => ?_)
  obtain ⟨σ3, eσ3⟩ : ∃ z_9 : QS, z_9 = rs σ2 33 i (fun _ => z) := ⟨_, rfl⟩
  rw [← eσ3] at hH
  refine cW_vret S hr hk hH hS ?_ dX2_give_15
  exact ⟨rfl, by subst_vars; exact ⟨rfl, rfl⟩⟩
set_option maxHeartbeats 4000000 in
set_option maxRecDepth 100000 in
theorem k_X2_board (l : Launch) (D : va_G) (B : Nat → ClassId) (L : QL) (A : Nat → Prop) (σ : QS) (τ : Int64) (i : Nat) (c9 : Int32) (d : Int32) (u : Int32) (z : Int32)  (hp0 : i < 60) : cW cntC gC l D B L A yX2_board wsX2_board 0 0 [.ref (L 20 i), .int c9, .int d, .int u, .int z] σ τ (pV (fun σ' τ' => bdE σ σ' i c9 d u z ∧ τ' = τ)) := by
  refine cW_of (cc := cX2_board) (nL := 5) (ret := none) (by decide) rfl (Nat.le_of_ble_eq_true rfl) ?_
  intro p e s m below meth c S hr hk K hH hS ls hl
  have hnX2 : ∀ w ∈ wsX20, w ∈ wsX2_board := fun w h => mG (tX2 w h)
  have lm1 : ((-1) : Int32).toInt = -1 := by decide
  have l1 : (1 : Int32).toInt = 1 := by decide
  have hl : lv_has ls 5 [(0, .ref (L 20 i)), (1, .int c9), (2, .int d), (3, .int u), (4, .int z)] := hl
  refine lv_aload_n S.1 S.2.1 dX2_board_0 rfl (lv_at hl 0 rfl) ?_
  refine lv_iconst (v := (-1)) S.1 S.2.1 dX2_board_1 (by decide) ?_
  refine pC_20_2 S hnX2 K hH hS (show i < 60 by omega) (mG wd_69) dX2_board_2 (fun H locs hH hS => ?_)
  obtain ⟨σ1, eσ1⟩ : ∃ z_9 : QS, z_9 = rs σ 34 i (fun _ => (-1)) := ⟨_, rfl⟩
  rw [← eσ1] at hH
  refine lv_aload_n S.1 S.2.1 dX2_board_5 rfl (lv_at hl 0 rfl) ?_
  refine lv_iload_n S.1 S.2.1 dX2_board_6 rfl (lv_at hl 1 rfl) ?_
  refine pC_20_3 S hnX2 K hH hS (show i < 60 by omega) (mG wd_70) dX2_board_7 (fun H locs hH hS => ?_)
  obtain ⟨σ2, eσ2⟩ : ∃ z_9 : QS, z_9 = rs σ1 35 i (fun _ => c9) := ⟨_, rfl⟩
  rw [← eσ2] at hH
  refine lv_aload_n S.1 S.2.1 dX2_board_10 rfl (lv_at hl 0 rfl) ?_
  refine lv_iload_n S.1 S.2.1 dX2_board_11 rfl (lv_at hl 2 rfl) ?_
  refine pC_20_4 S hnX2 K hH hS (show i < 60 by omega) (mG wd_71) dX2_board_12 (fun H locs hH hS => ?_)
  obtain ⟨σ3, eσ3⟩ : ∃ z_9 : QS, z_9 = rs σ2 36 i (fun _ => d) := ⟨_, rfl⟩
  rw [← eσ3] at hH
  refine lv_aload_n S.1 S.2.1 dX2_board_15 rfl (lv_at hl 0 rfl) ?_
  refine lv_iload_n S.1 S.2.1 dX2_board_16 rfl (lv_at hl 3 rfl) ?_
  refine pC_20_5 S hnX2 K hH hS (show i < 60 by omega) (mG wd_72) dX2_board_17 (fun H locs hH hS => ?_)
  obtain ⟨σ4, eσ4⟩ : ∃ z_9 : QS, z_9 = rs σ3 37 i (fun _ => u) := ⟨_, rfl⟩
  rw [← eσ4] at hH
  refine lv_aload_n S.1 S.2.1 dX2_board_20 rfl (lv_at hl 0 rfl) ?_
  refine lv_iload S.1 S.2.1 dX2_board_21 (lv_at hl 4 rfl) ?_
  refine pC_20_6 S hnX2 K hH hS (show i < 60 by omega) (mG wd_73) dX2_board_23 (fun H locs hH hS => ?_)
  obtain ⟨σ5, eσ5⟩ : ∃ z_9 : QS, z_9 = rs σ4 38 i (fun _ => z) := ⟨_, rfl⟩
  rw [← eσ5] at hH
  refine lv_aload_n S.1 S.2.1 dX2_board_26 rfl (lv_at hl 0 rfl) ?_
  refine lv_dup S.1 S.2.1 dX2_board_27 rfl ?_
  refine rC_20_8 S hnX2 K hH (show i < 60 by omega) (mG wd_75) dX2_board_28 ?_
  refine lv_topi (fun v6 e6 => ?_)
  refine lv_iconst (v := 1) S.1 S.2.1 dX2_board_31 (by decide) ?_
  refine lv_iadd S.1 S.2.1 dX2_board_32 ?_
  refine lv_topi (fun v7 e7 => ?_)
  refine pC_20_8 S hnX2 K hH hS (show i < 60 by omega) (mG wd_75) dX2_board_33 (fun H locs hH hS => ?_)
  obtain ⟨σ8, eσ8⟩ : ∃ z_9 : QS, z_9 = rs σ5 40 i (fun _ => v7) := ⟨_, rfl⟩
  rw [← eσ8] at hH
  refine cW_vret S hr hk hH hS ?_ dX2_board_36
  exact ⟨rfl, by subst_vars; exact ⟨⟨_, rfl, rfl⟩, rfl⟩⟩
set_option maxHeartbeats 4000000 in
set_option maxRecDepth 100000 in
theorem k_X2_leave (l : Launch) (D : va_G) (B : Nat → ClassId) (L : QL) (A : Nat → Prop) (σ : QS) (τ : Int64) (i : Nat) (h : Int32)  (hp0 : i < 60) (hI : InvC σ) : cW cntC gC l D B L A yX2_leave wsX2_leave 0 0 [.ref (L 20 i), .int h] σ τ (pV (fun σ' τ' => InvC σ' ∧ Keep [34, 39, 35, 36, 37, 38] σ σ' ∧ τ' = τ ∧ lvE σ σ' i h)) := by
  refine cW_of (cc := cX2_leave) (nL := 2) (ret := none) (by decide) rfl (Nat.le_of_ble_eq_true rfl) ?_
  intro p e s m below meth c S hr hk K hH hS ls hl
  have hnX2 : ∀ w ∈ wsX20, w ∈ wsX2_leave := fun w h => mG (tX2 w h)
  have lm1 : ((-1) : Int32).toInt = -1 := by decide
  have hP : Keep [34, 39, 35, 36, 37, 38] σ σ := Keep_r
  have hl : lv_has ls 2 [(0, .ref (L 20 i)), (1, .int h)] := hl
  refine lv_aload_n S.1 S.2.1 dX2_leave_0 rfl (lv_at hl 0 rfl) ?_
  refine lv_aload_n S.1 S.2.1 dX2_leave_1 rfl (lv_at hl 0 rfl) ?_
  refine rC_20_6 S hnX2 K hH (show i < 60 by omega) (mG wd_73) dX2_leave_2 ?_
  refine lv_topi (fun v1 e1 => ?_)
  have b1 : (-1) ≤ v1.toInt ∧ v1.toInt ≤ 11 := by rw [e1]; exact hI.1 38 i 0
  refine pC_20_2 S hnX2 K hH hS (show i < 60 by omega) (mG wd_69) dX2_leave_5 (fun H locs hH hS => ?_)
  obtain ⟨σ2, eσ2⟩ : ∃ z_9 : QS, z_9 = rs σ 34 i (fun _ => v1) := ⟨_, rfl⟩
  rw [← eσ2] at hH
  have hI := InvC_f eσ2 hI (by decide) (show ((-1) : Int) ≤ v1.toInt ∧ v1.toInt ≤ 11 by omega)
  have hP := Keep_w eσ2 hP (by decide)
  refine lv_aload_n S.1 S.2.1 dX2_leave_8 rfl (lv_at hl 0 rfl) ?_
  refine rC_20_2 S hnX2 K hH (show i < 60 by omega) (mG wd_69) dX2_leave_9 ?_
  refine lv_topi (fun v3 e3 => ?_)
  have b3 : (-1) ≤ v3.toInt ∧ v3.toInt ≤ 11 := by rw [e3]; exact hI.1 34 i 0
  have k3 : v3.toInt = v1.toInt := by rw [e3, eσ2, rs_self]
  refine lv_aload_n S.1 S.2.1 dX2_leave_12 rfl (lv_at hl 0 rfl) ?_
  refine rC_20_0 S hnX2 K hH (show i < 60 by omega) (mG wd_67) dX2_leave_13 ?_
  refine lv_topi (fun v4 e4 => ?_)
  have b4 : (-1) ≤ v4.toInt ∧ v4.toInt ≤ 11 := by rw [e4]; exact hI.1 32 i 0
  have h9 : v3 = σ 38 i 0 := by rw [e3, eσ2, rs_self, e1]
  have h8 : v4 = σ 32 i 0 := by rw [e4, eσ2, rs_v (by decide)]
  refine lv_icmp_ne (tgt := 24) S.1 S.2.1 dX2_leave_16 (by decide) (fun c5 => ?_) (fun c5 => ?_)
  · have j5 := t_neq c5
    refine lv_aload_n S.1 S.2.1 dX2_leave_24 rfl (lv_at hl 0 rfl) ?_
    refine lv_iconst (v := (-1)) S.1 S.2.1 dX2_leave_25 (by decide) ?_
    refine pC_20_3 S hnX2 K hH hS (show i < 60 by omega) (mG wd_70) dX2_leave_26 (fun H locs hH hS => ?_)
    obtain ⟨σ6, eσ6⟩ : ∃ z_9 : QS, z_9 = rs σ2 35 i (fun _ => (-1)) := ⟨_, rfl⟩
    rw [← eσ6] at hH
    have hI : InvC σ6 := InvC_cart0 eσ6 hI (by decide)
    have hP := Keep_w eσ6 hP (by decide)
    refine lv_aload_n S.1 S.2.1 dX2_leave_29 rfl (lv_at hl 0 rfl) ?_
    refine lv_iconst (v := (-1)) S.1 S.2.1 dX2_leave_30 (by decide) ?_
    refine pC_20_4 S hnX2 K hH hS (show i < 60 by omega) (mG wd_71) dX2_leave_31 (fun H locs hH hS => ?_)
    obtain ⟨σ7, eσ7⟩ : ∃ z_9 : QS, z_9 = rs σ6 36 i (fun _ => (-1)) := ⟨_, rfl⟩
    rw [← eσ7] at hH
    have hI : InvC σ7 := InvC_day eσ7 hI (Or.inl (by rw [eσ6, rs_self]; decide))
    have hP := Keep_w eσ7 hP (by decide)
    refine lv_aload_n S.1 S.2.1 dX2_leave_34 rfl (lv_at hl 0 rfl) ?_
    refine lv_iconst (v := (-1)) S.1 S.2.1 dX2_leave_35 (by decide) ?_
    refine pC_20_5 S hnX2 K hH hS (show i < 60 by omega) (mG wd_72) dX2_leave_36 (fun H locs hH hS => ?_)
    obtain ⟨σ8, eσ8⟩ : ∃ z_9 : QS, z_9 = rs σ7 37 i (fun _ => (-1)) := ⟨_, rfl⟩
    rw [← eσ8] at hH
    have hI := InvC_f eσ8 hI (by decide) (any32 _)
    have hP := Keep_w eσ8 hP (by decide)
    refine lv_aload_n S.1 S.2.1 dX2_leave_39 rfl (lv_at hl 0 rfl) ?_
    refine lv_iconst (v := (-1)) S.1 S.2.1 dX2_leave_40 (by decide) ?_
    refine pC_20_6 S hnX2 K hH hS (show i < 60 by omega) (mG wd_73) dX2_leave_41 (fun H locs hH hS => ?_)
    obtain ⟨σ9, eσ9⟩ : ∃ z_9 : QS, z_9 = rs σ8 38 i (fun _ => (-1)) := ⟨_, rfl⟩
    rw [← eσ9] at hH
    have hI := InvC_f eσ9 hI (by decide) (show ((-1) : Int) ≤ (-1 : Int32).toInt ∧ (-1 : Int32).toInt ≤ 11 by omega)
    have hP := Keep_w eσ9 hP (by decide)
    refine cW_vret S hr hk hH hS ?_ dX2_leave_44
    exact ⟨rfl, hI, hP, rfl, by first | exact ⟨σ9999, Or.inl ⟨h9.symm.trans (c5.trans h8), by rw [eσ9999, eσ2, e1]⟩, by rw [eσ9, eσ8, eσ7, eσ6]⟩ | exact ⟨σ2, Or.inr ⟨fun z => c5 (h9.trans (z.trans h8.symm)), by rw [eσ2, e1]⟩, by rw [eσ9, eσ8, eσ7, eσ6]⟩⟩
  · have j5 := t_eq c5
    refine lv_aload_n S.1 S.2.1 dX2_leave_19 rfl (lv_at hl 0 rfl) ?_
    refine lv_iload_n S.1 S.2.1 dX2_leave_20 rfl (lv_at hl 1 rfl) ?_
    refine pC_20_7 S hnX2 K hH hS (show i < 60 by omega) (mG wd_74) dX2_leave_21 (fun H locs hH hS => ?_)
    obtain ⟨σ10, eσ10⟩ : ∃ z_9 : QS, z_9 = rs σ2 39 i (fun _ => h) := ⟨_, rfl⟩
    rw [← eσ10] at hH
    have hI := InvC_f eσ10 hI (by decide) (any32 _)
    have hP := Keep_w eσ10 hP (by decide)
    refine lv_aload_n S.1 S.2.1 dX2_leave_24 rfl (lv_at hl 0 rfl) ?_
    refine lv_iconst (v := (-1)) S.1 S.2.1 dX2_leave_25 (by decide) ?_
    refine pC_20_3 S hnX2 K hH hS (show i < 60 by omega) (mG wd_70) dX2_leave_26 (fun H locs hH hS => ?_)
    obtain ⟨σ11, eσ11⟩ : ∃ z_9 : QS, z_9 = rs σ10 35 i (fun _ => (-1)) := ⟨_, rfl⟩
    rw [← eσ11] at hH
    have hI : InvC σ11 := InvC_cart0 eσ11 hI (by decide)
    have hP := Keep_w eσ11 hP (by decide)
    refine lv_aload_n S.1 S.2.1 dX2_leave_29 rfl (lv_at hl 0 rfl) ?_
    refine lv_iconst (v := (-1)) S.1 S.2.1 dX2_leave_30 (by decide) ?_
    refine pC_20_4 S hnX2 K hH hS (show i < 60 by omega) (mG wd_71) dX2_leave_31 (fun H locs hH hS => ?_)
    obtain ⟨σ12, eσ12⟩ : ∃ z_9 : QS, z_9 = rs σ11 36 i (fun _ => (-1)) := ⟨_, rfl⟩
    rw [← eσ12] at hH
    have hI : InvC σ12 := InvC_day eσ12 hI (Or.inl (by rw [eσ11, rs_self]; decide))
    have hP := Keep_w eσ12 hP (by decide)
    refine lv_aload_n S.1 S.2.1 dX2_leave_34 rfl (lv_at hl 0 rfl) ?_
    refine lv_iconst (v := (-1)) S.1 S.2.1 dX2_leave_35 (by decide) ?_
    refine pC_20_5 S hnX2 K hH hS (show i < 60 by omega) (mG wd_72) dX2_leave_36 (fun H locs hH hS => ?_)
    obtain ⟨σ13, eσ13⟩ : ∃ z_9 : QS, z_9 = rs σ12 37 i (fun _ => (-1)) := ⟨_, rfl⟩
    rw [← eσ13] at hH
    have hI := InvC_f eσ13 hI (by decide) (any32 _)
    have hP := Keep_w eσ13 hP (by decide)
    refine lv_aload_n S.1 S.2.1 dX2_leave_39 rfl (lv_at hl 0 rfl) ?_
    refine lv_iconst (v := (-1)) S.1 S.2.1 dX2_leave_40 (by decide) ?_
    refine pC_20_6 S hnX2 K hH hS (show i < 60 by omega) (mG wd_73) dX2_leave_41 (fun H locs hH hS => ?_)
    obtain ⟨σ14, eσ14⟩ : ∃ z_9 : QS, z_9 = rs σ13 38 i (fun _ => (-1)) := ⟨_, rfl⟩
    rw [← eσ14] at hH
    have hI := InvC_f eσ14 hI (by decide) (show ((-1) : Int) ≤ (-1 : Int32).toInt ∧ (-1 : Int32).toInt ≤ 11 by omega)
    have hP := Keep_w eσ14 hP (by decide)
    refine cW_vret S hr hk hH hS ?_ dX2_leave_44
    exact ⟨rfl, hI, hP, rfl, by first | exact ⟨σ10, Or.inl ⟨h9.symm.trans (c5.trans h8), by rw [eσ10, eσ2, e1]⟩, by rw [eσ14, eσ13, eσ12, eσ11]⟩ | exact ⟨σ2, Or.inr ⟨fun z => c5 (h9.trans (z.trans h8.symm)), by rw [eσ2, e1]⟩, by rw [eσ14, eσ13, eσ12, eσ11]⟩⟩
