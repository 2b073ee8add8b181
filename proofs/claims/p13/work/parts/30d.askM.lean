set_option maxHeartbeats 4000000 in
set_option maxRecDepth 100000 in
theorem k_X5_told (l : Launch) (D : va_G) (B : Nat → ClassId) (L : QL) (A : Nat → Prop) (σ : QS) (τ : Int64) (a : Int32) (b : Int32)  (hI : InvM σ) : cW cntM gM l D B L A yX5_told wsX5_told 1 22 [.ref (L 0 0), .int a, .int b] σ τ (pI (fun x σ' τ' => InvM σ' ∧ Keep [0] σ σ' ∧ τ' = τ ∧ (((0 ≤ a.toInt ∧ a.toInt < (σ 4 0 0).toInt ∧ 0 ≤ b.toInt ∧ b.toInt ≤ 7) ∧ σ' 0 0 0 = 0 ∧ x = tdF (pM σ) a.toNatClampNeg b.toNatClampNeg) ∨ (¬ (0 ≤ a.toInt ∧ a.toInt < (σ 4 0 0).toInt ∧ 0 ≤ b.toInt ∧ b.toInt ≤ 7) ∧ σ' 0 0 0 = 1 ∧ x.toInt = 0)))) := by
  refine cW_of (cc := cX5_told) (nL := 3) (ret := (some .int)) (by decide) rfl (Nat.le_of_ble_eq_true rfl) ?_
  intro p e s m below meth c S hr hk K hH hS ls hl
  have hnX5 : ∀ w ∈ wsX50, w ∈ wsX5_told := fun w h => mG (tX5 w h)
  have l0 : (0 : Int32).toInt = 0 := by decide
  have l1 : (1 : Int32).toInt = 1 := by decide
  have l7 : (7 : Int32).toInt = 7 := by decide
  have hP : Keep [0] σ σ := Keep_r
  have hl : lv_has ls 3 [(0, .ref (L 0 0)), (1, .int a), (2, .int b)] := hl
  refine lv_aload_n S.1 S.2.1 dX5_told_0 rfl (lv_at hl 0 rfl) ?_
  refine lv_iload_n S.1 S.2.1 dX5_told_1 rfl (lv_at hl 1 rfl) ?_
  refine lv_if_lt (tgt := 23) S.1 S.2.1 dX5_told_2 (by decide) (fun c1 => ?_) (fun c1 => ?_)
  · have j1 := t_lt c1
    refine lv_iconst (v := 1) S.1 S.2.1 dX5_told_23 (by decide) ?_
    refine lv_goto (tgt := 28) S.1 S.2.1 dX5_told_24 (by decide) ?_
    refine pM_0_0 S hnX5 K hH hS (mG wd_337) dX5_told_28 (fun H locs hH hS => ?_)
    obtain ⟨σ2, eσ2⟩ : ∃ z_9 : QS, z_9 = rs σ 0 0 (fun _ => 1) := ⟨_, rfl⟩
    rw [← eσ2] at hH
    have hI := InvM_f eσ2 hI (by decide) (any32 _)
    have hP := Keep_w eσ2 hP (by decide)
    refine lv_aload_n S.1 S.2.1 dX5_told_31 rfl (lv_at hl 0 rfl) ?_
    refine rM_0_0 S hnX5 K hH (mG wd_337) dX5_told_32 ?_
    refine lv_topi (fun v3 e3 => ?_)
    have k3 : v3.toInt = (1 : Int32).toInt := by rw [e3, eσ2, rs_self]
    refine lv_if_le (tgt := 40) S.1 S.2.1 dX5_told_35 (by decide) (fun c4 => ?_) (fun c4 => ?_)
    · have j4 := t_le c4
      exact absurd j4 (by omega)
    · have j4 := t_nle c4
      refine lv_iconst (v := 0) S.1 S.2.1 dX5_told_38 (by decide) ?_
      refine cW_iret S hr hk hH hS ?_ dX5_told_39
      exact ⟨0, rfl, hI, hP, rfl, by first | exact Or.inr ⟨by omega, by rw [eσ2, rs_self], by decide⟩ | (refine Or.inl ⟨by omega, by rw [eσ2, rs_self], ?_⟩; have za := cl_eq (j := a) (by omega); have zb := cl_eq (j := b) (by omega); first | (rw [show b.toNatClampNeg = 0 by omega, td_0 (by omega), e9999, eσ2, rs_v (by decide)]) | (rw [show b.toNatClampNeg = 1 by omega, td_1 (by omega), e9999, eσ2, rs_v (by decide)]) | (rw [show b.toNatClampNeg = 2 by omega, td_2 (by omega), e9999, eσ2, rs_v (by decide)]) | (rw [show b.toNatClampNeg = 3 by omega, td_3 (by omega), e9999, eσ2, rs_v (by decide)]) | (rw [show b.toNatClampNeg = 4 by omega, td_4 (by omega), e9999, eσ2, rs_v (by decide)]) | (rw [show b.toNatClampNeg = 5 by omega, td_5 (by omega), e9999, eσ2, rs_v (by decide)]) | (rw [show b.toNatClampNeg = 6 by omega, td_6 (by omega), e9999, eσ2, rs_v (by decide)]) | (rw [show b.toNatClampNeg = 7 by omega, td_7 (by omega), e9999, eσ2, rs_v (by decide)]))⟩
  · have j1 := t_nlt c1
    refine lv_iload_n S.1 S.2.1 dX5_told_5 rfl (lv_at hl 1 rfl) ?_
    refine lv_aload_n S.1 S.2.1 dX5_told_6 rfl (lv_at hl 0 rfl) ?_
    refine rM_0_4 S hnX5 K hH (mG wd_336) dX5_told_7 ?_
    refine lv_topi (fun v5 e5 => ?_)
    have b5 : 0 ≤ v5.toInt ∧ v5.toInt ≤ 60 := by rw [e5]; exact hI.1 4 0 0
    have f7 : v5.toInt = (σ 4 0 0).toInt := by rw [e5]
    refine lv_icmp_ge (tgt := 23) S.1 S.2.1 dX5_told_10 (by decide) (fun c6 => ?_) (fun c6 => ?_)
    · have j6 := t_le c6
      refine lv_iconst (v := 1) S.1 S.2.1 dX5_told_23 (by decide) ?_
      refine lv_goto (tgt := 28) S.1 S.2.1 dX5_told_24 (by decide) ?_
      refine pM_0_0 S hnX5 K hH hS (mG wd_337) dX5_told_28 (fun H locs hH hS => ?_)
      obtain ⟨σ7, eσ7⟩ : ∃ z_9 : QS, z_9 = rs σ 0 0 (fun _ => 1) := ⟨_, rfl⟩
      rw [← eσ7] at hH
      have hI := InvM_f eσ7 hI (by decide) (any32 _)
      have hP := Keep_w eσ7 hP (by decide)
      refine lv_aload_n S.1 S.2.1 dX5_told_31 rfl (lv_at hl 0 rfl) ?_
      refine rM_0_0 S hnX5 K hH (mG wd_337) dX5_told_32 ?_
      refine lv_topi (fun v8 e8 => ?_)
      have k8 : v8.toInt = (1 : Int32).toInt := by rw [e8, eσ7, rs_self]
      refine lv_if_le (tgt := 40) S.1 S.2.1 dX5_told_35 (by decide) (fun c9 => ?_) (fun c9 => ?_)
      · have j9 := t_le c9
        exact absurd j9 (by omega)
      · have j9 := t_nle c9
        refine lv_iconst (v := 0) S.1 S.2.1 dX5_told_38 (by decide) ?_
        refine cW_iret S hr hk hH hS ?_ dX5_told_39
        exact ⟨0, rfl, hI, hP, rfl, by first | exact Or.inr ⟨by omega, by rw [eσ7, rs_self], by decide⟩ | (refine Or.inl ⟨by omega, by rw [eσ7, rs_self], ?_⟩; have za := cl_eq (j := a) (by omega); have zb := cl_eq (j := b) (by omega); first | (rw [show b.toNatClampNeg = 0 by omega, td_0 (by omega), e9999, eσ7, rs_v (by decide)]) | (rw [show b.toNatClampNeg = 1 by omega, td_1 (by omega), e9999, eσ7, rs_v (by decide)]) | (rw [show b.toNatClampNeg = 2 by omega, td_2 (by omega), e9999, eσ7, rs_v (by decide)]) | (rw [show b.toNatClampNeg = 3 by omega, td_3 (by omega), e9999, eσ7, rs_v (by decide)]) | (rw [show b.toNatClampNeg = 4 by omega, td_4 (by omega), e9999, eσ7, rs_v (by decide)]) | (rw [show b.toNatClampNeg = 5 by omega, td_5 (by omega), e9999, eσ7, rs_v (by decide)]) | (rw [show b.toNatClampNeg = 6 by omega, td_6 (by omega), e9999, eσ7, rs_v (by decide)]) | (rw [show b.toNatClampNeg = 7 by omega, td_7 (by omega), e9999, eσ7, rs_v (by decide)]))⟩
    · have j6 := t_nle c6
      refine lv_iload_n S.1 S.2.1 dX5_told_13 rfl (lv_at hl 2 rfl) ?_
      refine lv_iconst (v := 0) S.1 S.2.1 dX5_told_14 (by decide) ?_
      refine lv_bipush (v := 7) S.1 S.2.1 dX5_told_15 (by decide) ?_
      refine cW_bpi (cW_S (n := 3) (As := [.int b, .int 0, .int 7]) (rest := [.ref (L 0 0)]) S K hH (k_X5_isIn l D B L A σ τ b 0 7 ) gX5_told_X5_isIn rfl hdS_X5_isIn ⟨Nat.le_of_ble_eq_true rfl, Nat.le_of_ble_eq_true rfl⟩ rfl hl.1 (Nat.le_of_ble_eq_true rfl) dX5_told_17) hS (fun v10 H locs q10 hH hS => ?_)
      refine lv_if_ne (tgt := 27) S.1 S.2.1 dX5_told_20 (by decide) (fun c11 => ?_) (fun c11 => ?_)
      · have j11 := t_neq c11
        refine lv_iconst (v := 0) S.1 S.2.1 dX5_told_27 (by decide) ?_
        refine pM_0_0 S hnX5 K hH hS (mG wd_337) dX5_told_28 (fun H locs hH hS => ?_)
        obtain ⟨σ12, eσ12⟩ : ∃ z_9 : QS, z_9 = rs σ 0 0 (fun _ => 0) := ⟨_, rfl⟩
        rw [← eσ12] at hH
        have hI := InvM_f eσ12 hI (by decide) (any32 _)
        have hP := Keep_w eσ12 hP (by decide)
        refine lv_aload_n S.1 S.2.1 dX5_told_31 rfl (lv_at hl 0 rfl) ?_
        refine rM_0_0 S hnX5 K hH (mG wd_337) dX5_told_32 ?_
        refine lv_topi (fun v13 e13 => ?_)
        have k13 : v13.toInt = (0 : Int32).toInt := by rw [e13, eσ12, rs_self]
        refine lv_if_le (tgt := 40) S.1 S.2.1 dX5_told_35 (by decide) (fun c14 => ?_) (fun c14 => ?_)
        · have j14 := t_le c14
          refine lv_iload_n S.1 S.2.1 dX5_told_40 rfl (lv_at hl 2 rfl) ?_
          rcases sw_in b 0 6 with c15 | ⟨c15, d15⟩
          · refine lv_tableOut (tgt := 133) S.1 S.2.1 dX5_told_41 c15 (by decide) ?_
            refine lv_aload_n S.1 S.2.1 dX5_told_133 rfl (lv_at hl 0 rfl) ?_
            refine rM_0_26 S hnX5 K hH (mG wd_327) dX5_told_134 ?_
            refine lv_iload_n S.1 S.2.1 dX5_told_137 rfl (lv_at hl 1 rfl) ?_
            refine lM_26 S K hH (vin (by omega) (by omega)) dX5_told_138 ?_
            refine lv_topi (fun v16 e16 => ?_)
            refine cW_iret S hr hk hH hS ?_ dX5_told_139
            exact ⟨v16, rfl, hI, hP, rfl, by first | exact Or.inr ⟨by omega, by rw [eσ12, rs_self], by decide⟩ | (refine Or.inl ⟨by omega, by rw [eσ12, rs_self], ?_⟩; have za := cl_eq (j := a) (by omega); have zb := cl_eq (j := b) (by omega); first | (rw [show b.toNatClampNeg = 0 by omega, td_0 (by omega), e9999, eσ12, rs_v (by decide)]) | (rw [show b.toNatClampNeg = 1 by omega, td_1 (by omega), e9999, eσ12, rs_v (by decide)]) | (rw [show b.toNatClampNeg = 2 by omega, td_2 (by omega), e9999, eσ12, rs_v (by decide)]) | (rw [show b.toNatClampNeg = 3 by omega, td_3 (by omega), e9999, eσ12, rs_v (by decide)]) | (rw [show b.toNatClampNeg = 4 by omega, td_4 (by omega), e9999, eσ12, rs_v (by decide)]) | (rw [show b.toNatClampNeg = 5 by omega, td_5 (by omega), e9999, eσ12, rs_v (by decide)]) | (rw [show b.toNatClampNeg = 6 by omega, td_6 (by omega), e9999, eσ12, rs_v (by decide)]) | (rw [show b.toNatClampNeg = 7 by omega, td_7 (by omega), e16, eσ12, rs_v (by decide)]))⟩
          · rcases (show b.toInt = 0 ∨ b.toInt = 1 ∨ b.toInt = 2 ∨ b.toInt = 3 ∨ b.toInt = 4 ∨ b.toInt = 5 ∨ b.toInt = 6 by omega) with f15 | f15 | f15 | f15 | f15 | f15 | f15
            · refine lv_tableIn (off := 43) (tgt := 84) S.1 S.2.1 dX5_told_41 (by omega) (by omega) (by rw [f15]; rfl) (by decide) ?_
              refine lv_aload_n S.1 S.2.1 dX5_told_84 rfl (lv_at hl 0 rfl) ?_
              refine rM_0_18 S hnX5 K hH (mG wd_319) dX5_told_85 ?_
              refine lv_iload_n S.1 S.2.1 dX5_told_88 rfl (lv_at hl 1 rfl) ?_
              refine lM_18 S K hH (vin (by omega) (by omega)) dX5_told_89 ?_
              refine lv_topi (fun v17 e17 => ?_)
              have b17 : 0 ≤ v17.toInt ∧ v17.toInt ≤ 11 := by rw [e17]; exact hI.1 18 0 a.toNatClampNeg
              refine cW_iret S hr hk hH hS ?_ dX5_told_90
              exact ⟨v17, rfl, hI, hP, rfl, by first | exact Or.inr ⟨by omega, by rw [eσ12, rs_self], by decide⟩ | (refine Or.inl ⟨by omega, by rw [eσ12, rs_self], ?_⟩; have za := cl_eq (j := a) (by omega); have zb := cl_eq (j := b) (by omega); first | (rw [show b.toNatClampNeg = 0 by omega, td_0 (by omega), e17, eσ12, rs_v (by decide)]) | (rw [show b.toNatClampNeg = 1 by omega, td_1 (by omega), e9999, eσ12, rs_v (by decide)]) | (rw [show b.toNatClampNeg = 2 by omega, td_2 (by omega), e9999, eσ12, rs_v (by decide)]) | (rw [show b.toNatClampNeg = 3 by omega, td_3 (by omega), e9999, eσ12, rs_v (by decide)]) | (rw [show b.toNatClampNeg = 4 by omega, td_4 (by omega), e9999, eσ12, rs_v (by decide)]) | (rw [show b.toNatClampNeg = 5 by omega, td_5 (by omega), e9999, eσ12, rs_v (by decide)]) | (rw [show b.toNatClampNeg = 6 by omega, td_6 (by omega), e9999, eσ12, rs_v (by decide)]) | (rw [show b.toNatClampNeg = 7 by omega, td_7 (by omega), e16, eσ12, rs_v (by decide)]))⟩
            · refine lv_tableIn (off := 50) (tgt := 91) S.1 S.2.1 dX5_told_41 (by omega) (by omega) (by rw [f15]; rfl) (by decide) ?_
              refine lv_aload_n S.1 S.2.1 dX5_told_91 rfl (lv_at hl 0 rfl) ?_
              refine rM_0_19 S hnX5 K hH (mG wd_320) dX5_told_92 ?_
              refine lv_iload_n S.1 S.2.1 dX5_told_95 rfl (lv_at hl 1 rfl) ?_
              refine lM_19 S K hH (vin (by omega) (by omega)) dX5_told_96 ?_
              refine lv_topi (fun v18 e18 => ?_)
              have b18 : 0 ≤ v18.toInt ∧ v18.toInt ≤ 20 := by rw [e18]; exact hI.1 19 0 a.toNatClampNeg
              refine cW_iret S hr hk hH hS ?_ dX5_told_97
              exact ⟨v18, rfl, hI, hP, rfl, by first | exact Or.inr ⟨by omega, by rw [eσ12, rs_self], by decide⟩ | (refine Or.inl ⟨by omega, by rw [eσ12, rs_self], ?_⟩; have za := cl_eq (j := a) (by omega); have zb := cl_eq (j := b) (by omega); first | (rw [show b.toNatClampNeg = 0 by omega, td_0 (by omega), e17, eσ12, rs_v (by decide)]) | (rw [show b.toNatClampNeg = 1 by omega, td_1 (by omega), e18, eσ12, rs_v (by decide)]) | (rw [show b.toNatClampNeg = 2 by omega, td_2 (by omega), e9999, eσ12, rs_v (by decide)]) | (rw [show b.toNatClampNeg = 3 by omega, td_3 (by omega), e9999, eσ12, rs_v (by decide)]) | (rw [show b.toNatClampNeg = 4 by omega, td_4 (by omega), e9999, eσ12, rs_v (by decide)]) | (rw [show b.toNatClampNeg = 5 by omega, td_5 (by omega), e9999, eσ12, rs_v (by decide)]) | (rw [show b.toNatClampNeg = 6 by omega, td_6 (by omega), e9999, eσ12, rs_v (by decide)]) | (rw [show b.toNatClampNeg = 7 by omega, td_7 (by omega), e16, eσ12, rs_v (by decide)]))⟩
            · refine lv_tableIn (off := 57) (tgt := 98) S.1 S.2.1 dX5_told_41 (by omega) (by omega) (by rw [f15]; rfl) (by decide) ?_
              refine lv_aload_n S.1 S.2.1 dX5_told_98 rfl (lv_at hl 0 rfl) ?_
              refine rM_0_20 S hnX5 K hH (mG wd_321) dX5_told_99 ?_
              refine lv_iload_n S.1 S.2.1 dX5_told_102 rfl (lv_at hl 1 rfl) ?_
              refine lM_20 S K hH (vin (by omega) (by omega)) dX5_told_103 ?_
              refine lv_topi (fun v19 e19 => ?_)
              have b19 : (-1) ≤ v19.toInt ∧ v19.toInt ≤ 11 := by rw [e19]; exact hI.1 20 0 a.toNatClampNeg
              refine cW_iret S hr hk hH hS ?_ dX5_told_104
              exact ⟨v19, rfl, hI, hP, rfl, by first | exact Or.inr ⟨by omega, by rw [eσ12, rs_self], by decide⟩ | (refine Or.inl ⟨by omega, by rw [eσ12, rs_self], ?_⟩; have za := cl_eq (j := a) (by omega); have zb := cl_eq (j := b) (by omega); first | (rw [show b.toNatClampNeg = 0 by omega, td_0 (by omega), e17, eσ12, rs_v (by decide)]) | (rw [show b.toNatClampNeg = 1 by omega, td_1 (by omega), e18, eσ12, rs_v (by decide)]) | (rw [show b.toNatClampNeg = 2 by omega, td_2 (by omega), e19, eσ12, rs_v (by decide)]) | (rw [show b.toNatClampNeg = 3 by omega, td_3 (by omega), e9999, eσ12, rs_v (by decide)]) | (rw [show b.toNatClampNeg = 4 by omega, td_4 (by omega), e9999, eσ12, rs_v (by decide)]) | (rw [show b.toNatClampNeg = 5 by omega, td_5 (by omega), e9999, eσ12, rs_v (by decide)]) | (rw [show b.toNatClampNeg = 6 by omega, td_6 (by omega), e9999, eσ12, rs_v (by decide)]) | (rw [show b.toNatClampNeg = 7 by omega, td_7 (by omega), e16, eσ12, rs_v (by decide)]))⟩
            · refine lv_tableIn (off := 64) (tgt := 105) S.1 S.2.1 dX5_told_41 (by omega) (by omega) (by rw [f15]; rfl) (by decide) ?_
              refine lv_aload_n S.1 S.2.1 dX5_told_105 rfl (lv_at hl 0 rfl) ?_
              refine rM_0_21 S hnX5 K hH (mG wd_322) dX5_told_106 ?_
              refine lv_iload_n S.1 S.2.1 dX5_told_109 rfl (lv_at hl 1 rfl) ?_
              refine lM_21 S K hH (vin (by omega) (by omega)) dX5_told_110 ?_
              refine lv_topi (fun v20 e20 => ?_)
              have b20 : (-1) ≤ v20.toInt ∧ v20.toInt ≤ 11 := by rw [e20]; exact hI.1 21 0 a.toNatClampNeg
              refine cW_iret S hr hk hH hS ?_ dX5_told_111
              exact ⟨v20, rfl, hI, hP, rfl, by first | exact Or.inr ⟨by omega, by rw [eσ12, rs_self], by decide⟩ | (refine Or.inl ⟨by omega, by rw [eσ12, rs_self], ?_⟩; have za := cl_eq (j := a) (by omega); have zb := cl_eq (j := b) (by omega); first | (rw [show b.toNatClampNeg = 0 by omega, td_0 (by omega), e17, eσ12, rs_v (by decide)]) | (rw [show b.toNatClampNeg = 1 by omega, td_1 (by omega), e18, eσ12, rs_v (by decide)]) | (rw [show b.toNatClampNeg = 2 by omega, td_2 (by omega), e19, eσ12, rs_v (by decide)]) | (rw [show b.toNatClampNeg = 3 by omega, td_3 (by omega), e20, eσ12, rs_v (by decide)]) | (rw [show b.toNatClampNeg = 4 by omega, td_4 (by omega), e9999, eσ12, rs_v (by decide)]) | (rw [show b.toNatClampNeg = 5 by omega, td_5 (by omega), e9999, eσ12, rs_v (by decide)]) | (rw [show b.toNatClampNeg = 6 by omega, td_6 (by omega), e9999, eσ12, rs_v (by decide)]) | (rw [show b.toNatClampNeg = 7 by omega, td_7 (by omega), e16, eσ12, rs_v (by decide)]))⟩
            · refine lv_tableIn (off := 71) (tgt := 112) S.1 S.2.1 dX5_told_41 (by omega) (by omega) (by rw [f15]; rfl) (by decide) ?_
              refine lv_aload_n S.1 S.2.1 dX5_told_112 rfl (lv_at hl 0 rfl) ?_
              refine rM_0_22 S hnX5 K hH (mG wd_323) dX5_told_113 ?_
              refine lv_iload_n S.1 S.2.1 dX5_told_116 rfl (lv_at hl 1 rfl) ?_
              refine lM_22 S K hH (vin (by omega) (by omega)) dX5_told_117 ?_
              refine lv_topi (fun v21 e21 => ?_)
              refine cW_iret S hr hk hH hS ?_ dX5_told_118
              exact ⟨v21, rfl, hI, hP, rfl, by first | exact Or.inr ⟨by omega, by rw [eσ12, rs_self], by decide⟩ | (refine Or.inl ⟨by omega, by rw [eσ12, rs_self], ?_⟩; have za := cl_eq (j := a) (by omega); have zb := cl_eq (j := b) (by omega); first | (rw [show b.toNatClampNeg = 0 by omega, td_0 (by omega), e17, eσ12, rs_v (by decide)]) | (rw [show b.toNatClampNeg = 1 by omega, td_1 (by omega), e18, eσ12, rs_v (by decide)]) | (rw [show b.toNatClampNeg = 2 by omega, td_2 (by omega), e19, eσ12, rs_v (by decide)]) | (rw [show b.toNatClampNeg = 3 by omega, td_3 (by omega), e20, eσ12, rs_v (by decide)]) | (rw [show b.toNatClampNeg = 4 by omega, td_4 (by omega), e21, eσ12, rs_v (by decide)]) | (rw [show b.toNatClampNeg = 5 by omega, td_5 (by omega), e9999, eσ12, rs_v (by decide)]) | (rw [show b.toNatClampNeg = 6 by omega, td_6 (by omega), e9999, eσ12, rs_v (by decide)]) | (rw [show b.toNatClampNeg = 7 by omega, td_7 (by omega), e16, eσ12, rs_v (by decide)]))⟩
            · refine lv_tableIn (off := 78) (tgt := 119) S.1 S.2.1 dX5_told_41 (by omega) (by omega) (by rw [f15]; rfl) (by decide) ?_
              refine lv_aload_n S.1 S.2.1 dX5_told_119 rfl (lv_at hl 0 rfl) ?_
              refine rM_0_23 S hnX5 K hH (mG wd_324) dX5_told_120 ?_
              refine lv_iload_n S.1 S.2.1 dX5_told_123 rfl (lv_at hl 1 rfl) ?_
              refine lM_23 S K hH (vin (by omega) (by omega)) dX5_told_124 ?_
              refine lv_topi (fun v22 e22 => ?_)
              refine cW_iret S hr hk hH hS ?_ dX5_told_125
              exact ⟨v22, rfl, hI, hP, rfl, by first | exact Or.inr ⟨by omega, by rw [eσ12, rs_self], by decide⟩ | (refine Or.inl ⟨by omega, by rw [eσ12, rs_self], ?_⟩; have za := cl_eq (j := a) (by omega); have zb := cl_eq (j := b) (by omega); first | (rw [show b.toNatClampNeg = 0 by omega, td_0 (by omega), e17, eσ12, rs_v (by decide)]) | (rw [show b.toNatClampNeg = 1 by omega, td_1 (by omega), e18, eσ12, rs_v (by decide)]) | (rw [show b.toNatClampNeg = 2 by omega, td_2 (by omega), e19, eσ12, rs_v (by decide)]) | (rw [show b.toNatClampNeg = 3 by omega, td_3 (by omega), e20, eσ12, rs_v (by decide)]) | (rw [show b.toNatClampNeg = 4 by omega, td_4 (by omega), e21, eσ12, rs_v (by decide)]) | (rw [show b.toNatClampNeg = 5 by omega, td_5 (by omega), e22, eσ12, rs_v (by decide)]) | (rw [show b.toNatClampNeg = 6 by omega, td_6 (by omega), e9999, eσ12, rs_v (by decide)]) | (rw [show b.toNatClampNeg = 7 by omega, td_7 (by omega), e16, eσ12, rs_v (by decide)]))⟩
            · refine lv_tableIn (off := 85) (tgt := 126) S.1 S.2.1 dX5_told_41 (by omega) (by omega) (by rw [f15]; rfl) (by decide) ?_
              refine lv_aload_n S.1 S.2.1 dX5_told_126 rfl (lv_at hl 0 rfl) ?_
              refine rM_0_25 S hnX5 K hH (mG wd_326) dX5_told_127 ?_
              refine lv_iload_n S.1 S.2.1 dX5_told_130 rfl (lv_at hl 1 rfl) ?_
              refine lM_25 S K hH (vin (by omega) (by omega)) dX5_told_131 ?_
              refine lv_topi (fun v23 e23 => ?_)
              refine cW_iret S hr hk hH hS ?_ dX5_told_132
              exact ⟨v23, rfl, hI, hP, rfl, by first | exact Or.inr ⟨by omega, by rw [eσ12, rs_self], by decide⟩ | (refine Or.inl ⟨by omega, by rw [eσ12, rs_self], ?_⟩; have za := cl_eq (j := a) (by omega); have zb := cl_eq (j := b) (by omega); first | (rw [show b.toNatClampNeg = 0 by omega, td_0 (by omega), e17, eσ12, rs_v (by decide)]) | (rw [show b.toNatClampNeg = 1 by omega, td_1 (by omega), e18, eσ12, rs_v (by decide)]) | (rw [show b.toNatClampNeg = 2 by omega, td_2 (by omega), e19, eσ12, rs_v (by decide)]) | (rw [show b.toNatClampNeg = 3 by omega, td_3 (by omega), e20, eσ12, rs_v (by decide)]) | (rw [show b.toNatClampNeg = 4 by omega, td_4 (by omega), e21, eσ12, rs_v (by decide)]) | (rw [show b.toNatClampNeg = 5 by omega, td_5 (by omega), e22, eσ12, rs_v (by decide)]) | (rw [show b.toNatClampNeg = 6 by omega, td_6 (by omega), e23, eσ12, rs_v (by decide)]) | (rw [show b.toNatClampNeg = 7 by omega, td_7 (by omega), e16, eσ12, rs_v (by decide)]))⟩
        · have j14 := t_nle c14
          exact absurd j14 (by omega)
      · have j11 := t_eq c11
        refine lv_iconst (v := 1) S.1 S.2.1 dX5_told_23 (by decide) ?_
        refine lv_goto (tgt := 28) S.1 S.2.1 dX5_told_24 (by decide) ?_
        refine pM_0_0 S hnX5 K hH hS (mG wd_337) dX5_told_28 (fun H locs hH hS => ?_)
        obtain ⟨σ24, eσ24⟩ : ∃ z_9 : QS, z_9 = rs σ 0 0 (fun _ => 1) := ⟨_, rfl⟩
        rw [← eσ24] at hH
        have hI := InvM_f eσ24 hI (by decide) (any32 _)
        have hP := Keep_w eσ24 hP (by decide)
        refine lv_aload_n S.1 S.2.1 dX5_told_31 rfl (lv_at hl 0 rfl) ?_
        refine rM_0_0 S hnX5 K hH (mG wd_337) dX5_told_32 ?_
        refine lv_topi (fun v25 e25 => ?_)
        have k25 : v25.toInt = (1 : Int32).toInt := by rw [e25, eσ24, rs_self]
        refine lv_if_le (tgt := 40) S.1 S.2.1 dX5_told_35 (by decide) (fun c26 => ?_) (fun c26 => ?_)
        · have j26 := t_le c26
          exact absurd j26 (by omega)
        · have j26 := t_nle c26
          refine lv_iconst (v := 0) S.1 S.2.1 dX5_told_38 (by decide) ?_
          refine cW_iret S hr hk hH hS ?_ dX5_told_39
          exact ⟨0, rfl, hI, hP, rfl, by first | exact Or.inr ⟨by omega, by rw [eσ24, rs_self], by decide⟩ | (refine Or.inl ⟨by omega, by rw [eσ24, rs_self], ?_⟩; have za := cl_eq (j := a) (by omega); have zb := cl_eq (j := b) (by omega); first | (rw [show b.toNatClampNeg = 0 by omega, td_0 (by omega), e17, eσ24, rs_v (by decide)]) | (rw [show b.toNatClampNeg = 1 by omega, td_1 (by omega), e18, eσ24, rs_v (by decide)]) | (rw [show b.toNatClampNeg = 2 by omega, td_2 (by omega), e19, eσ24, rs_v (by decide)]) | (rw [show b.toNatClampNeg = 3 by omega, td_3 (by omega), e20, eσ24, rs_v (by decide)]) | (rw [show b.toNatClampNeg = 4 by omega, td_4 (by omega), e21, eσ24, rs_v (by decide)]) | (rw [show b.toNatClampNeg = 5 by omega, td_5 (by omega), e22, eσ24, rs_v (by decide)]) | (rw [show b.toNatClampNeg = 6 by omega, td_6 (by omega), e23, eσ24, rs_v (by decide)]) | (rw [show b.toNatClampNeg = 7 by omega, td_7 (by omega), e16, eσ24, rs_v (by decide)]))⟩
set_option maxHeartbeats 4000000 in
set_option maxRecDepth 100000 in
theorem k_X5_waiting (l : Launch) (D : va_G) (B : Nat → ClassId) (L : QL) (A : Nat → Prop) (σ : QS) (τ : Int64) (a : Int32)  (hI : InvM σ) : cW cntM gM l D B L A yX5_waiting wsX5_waiting 1 20 [.ref (L 0 0), .int a] σ τ (pI (fun x σ' τ' => InvM σ' ∧ Keep [0] σ σ' ∧ τ' = τ ∧ ((x.toInt = -1 ∧ ¬ (0 ≤ a.toInt ∧ a.toInt ≤ 11)) ∨ ((0 ≤ a.toInt ∧ a.toInt ≤ 11) ∧ x = cnB (fun i => decide (pM σ i 2 = a ∧ pM σ i 7 = -1)) (σ 4 0 0).toNatClampNeg)))) := by
  refine cW_of (cc := cX5_waiting) (nL := 4) (ret := (some .int)) (by decide) rfl (Nat.le_of_ble_eq_true rfl) ?_
  intro p e s m below meth c S hr hk K hH hS ls hl
  have hnX5 : ∀ w ∈ wsX50, w ∈ wsX5_waiting := fun w h => mG (tX5 w h)
  have lm1 : ((-1) : Int32).toInt = -1 := by decide
  have l0 : (0 : Int32).toInt = 0 := by decide
  have l1 : (1 : Int32).toInt = 1 := by decide
  have hP : Keep [0] σ σ := Keep_r
  have hl : lv_has ls 4 [(0, .ref (L 0 0)), (1, .int a)] := hl
  refine lv_aload_n S.1 S.2.1 dX5_waiting_0 rfl (lv_at hl 0 rfl) ?_
  refine lv_iconst (v := 0) S.1 S.2.1 dX5_waiting_1 (by decide) ?_
  refine pM_0_0 S hnX5 K hH hS (mG wd_337) dX5_waiting_2 (fun H locs hH hS => ?_)
  obtain ⟨σ1, eσ1⟩ : ∃ z_9 : QS, z_9 = rs σ 0 0 (fun _ => 0) := ⟨_, rfl⟩
  rw [← eσ1] at hH
  have hI := InvM_f eσ1 hI (by decide) (any32 _)
  have hP := Keep_w eσ1 hP (by decide)
  refine lv_iload_n S.1 S.2.1 dX5_waiting_5 rfl (lv_at hl 1 rfl) ?_
  refine cW_bpi (cW_S (n := 1) (As := [.int a]) (rest := []) S K hH (k_X5_isPlace l D B L A σ1 τ a ) gX5_waiting_X5_isPlace rfl hdS_X5_isPlace ⟨Nat.le_of_ble_eq_true rfl, Nat.le_of_ble_eq_true rfl⟩ rfl hl.1 (Nat.le_of_ble_eq_true rfl) dX5_waiting_6) hS (fun v2 H locs q2 hH hS => ?_)
  refine lv_if_ne (tgt := 14) S.1 S.2.1 dX5_waiting_9 (by decide) (fun c3 => ?_) (fun c3 => ?_)
  · have j3 := t_neq c3
    refine lv_iconst (v := 0) S.1 S.2.1 dX5_waiting_14 (by decide) ?_
    refine lv_istore_n (lv' := [(2, .int 0), (0, .ref (L 0 0)), (1, .int a)]) S.1 S.2.1 dX5_waiting_15 rfl hl (by decide) rfl (fun ls hl => ?_)
    refine lv_iconst (v := 0) S.1 S.2.1 dX5_waiting_16 (by decide) ?_
    refine lv_istore_n (lv' := [(3, .int 0), (2, .int 0), (0, .ref (L 0 0)), (1, .int a)]) S.1 S.2.1 dX5_waiting_17 rfl hl (by decide) rfl (fun ls hl => ?_)
    have cut_18_4 : ∀ (n : Nat) (x2_4 : Int32) (x3_4 : Int32) (σ_4 : QS) (H : Heap) (locs : List Loc) (ls : Array Slot), (60 - x3_4.toInt).toNat < n → 0 ≤ x3_4.toInt ∧ x3_4.toInt ≤ 60 → (x2_4 = cnB (fun i => decide (pM σ i 2 = a ∧ pM σ i 7 = -1)) x3_4.toNatClampNeg) → (x3_4.toInt ≤ (σ 4 0 0).toInt) → InvM σ_4 → Keep [0] σ σ_4 → hW cntM gM D B L σ_4 τ H → va_S A s.heap H locs → lv_has ls 4 [(0, .ref (L 0 0)), (1, .int a), (2, .int x2_4), (3, .int x3_4)] → W p l e { frames := 1, cells := 0, slots := 0, locals := 20 } s m [.ref (L 0 0), .int a].toArray below meth c H locs 0 0 (MQ below (QcW cntM gM D B L A (pI (fun x σ' τ' => InvM σ' ∧ Keep [0] σ σ' ∧ τ' = τ ∧ ((x.toInt = -1 ∧ ¬ (0 ≤ a.toInt ∧ a.toInt ≤ 11)) ∨ ((0 ≤ a.toInt ∧ a.toInt ≤ 11) ∧ x = cnB (fun i => decide (pM σ i 2 = a ∧ pM σ i 7 = -1)) (σ 4 0 0).toNatClampNeg))))) [.ref (L 0 0), .int a].toArray s 0 0 A) (F0 m 18 ls []) := by
      intro n
      induction n with
      | zero => intro x2_4 x3_4 σ_4 H locs ls hm; exact absurd hm (Nat.not_lt_zero _)
      | succ n ih4 =>
        intro x2_4 x3_4 σ_4 H locs ls hm4 h4_0 ws wl hI hP hH hS hl
        have pE : pM σ_4 = pM σ := pM_k hP (by decide)
        have y4 : (σ_4 4 0 0).toInt = (σ 4 0 0).toInt := by rw [hP 4 (by decide)]
        have k3 := cl_eq (j := x3_4) (by omega)
        refine lv_iload_n S.1 S.2.1 dX5_waiting_18 rfl (lv_at hl 3 rfl) ?_
        refine lv_aload_n S.1 S.2.1 dX5_waiting_19 rfl (lv_at hl 0 rfl) ?_
        refine rM_0_4 S hnX5 K hH (mG wd_336) dX5_waiting_20 ?_
        refine lv_topi (fun v5 e5 => ?_)
        have b5 : 0 ≤ v5.toInt ∧ v5.toInt ≤ 60 := by rw [e5]; exact hI.1 4 0 0
        have f20 : v5.toInt = (σ 4 0 0).toInt := by rw [e5]; exact y4
        refine lv_icmp_ge (tgt := 60) S.1 S.2.1 dX5_waiting_23 (by decide) (fun c6 => ?_) (fun c6 => ?_)
        · have j6 := t_le c6
          refine lv_iload_n S.1 S.2.1 dX5_waiting_60 rfl (lv_at hl 2 rfl) ?_
          refine cW_iret S hr hk hH hS ?_ dX5_waiting_61
          exact ⟨x2_4, rfl, hI, hP, rfl, by refine Or.inr ⟨by omega, ?_⟩; rw [ws, cl_same (show x3_4.toInt = (σ 4 0 0).toInt by omega)]⟩
        · have j6 := t_nle c6
          refine lv_iload_n S.1 S.2.1 dX5_waiting_26 rfl (lv_at hl 2 rfl) ?_
          refine lv_aload_n S.1 S.2.1 dX5_waiting_27 rfl (lv_at hl 0 rfl) ?_
          refine rM_0_20 S hnX5 K hH (mG wd_321) dX5_waiting_28 ?_
          refine lv_iload_n S.1 S.2.1 dX5_waiting_31 rfl (lv_at hl 3 rfl) ?_
          refine lM_20 S K hH (vin (by omega) (by omega)) dX5_waiting_32 ?_
          refine lv_topi (fun v7 e7 => ?_)
          have b7 : (-1) ≤ v7.toInt ∧ v7.toInt ≤ 11 := by rw [e7]; exact hI.1 20 0 x3_4.toNatClampNeg
          have f32 : v7 = pM σ x3_4.toNatClampNeg 2 := by rw [e7, ← pE]; exact (pM_f (σ := σ_4) (f := 2) (by omega) (by decide) (by decide)).symm
          refine lv_iload_n S.1 S.2.1 dX5_waiting_33 rfl (lv_at hl 1 rfl) ?_
          refine lv_icmp_ne (tgt := 51) S.1 S.2.1 dX5_waiting_34 (by decide) (fun c8 => ?_) (fun c8 => ?_)
          · have j8 := t_neq c8
            refine lv_iconst (v := 0) S.1 S.2.1 dX5_waiting_51 (by decide) ?_
            refine lv_iadd S.1 S.2.1 dX5_waiting_52 ?_
            have y9 := any32 x2_4
            refine lv_topi (fun v10 e10 => ?_)
            have i10 : v10.toInt = x2_4.toInt + (0 : Int32).toInt := i_add e10 (by omega) (by omega)
            refine lv_istore_n (lv' := [(2, .int v10), (0, .ref (L 0 0)), (1, .int a), (3, .int x3_4)]) S.1 S.2.1 dX5_waiting_53 rfl hl (by decide) rfl (fun ls hl => ?_)
            obtain ⟨v11, e11⟩ : ∃ y_9 : Int32, y_9 = x3_4 + 1 := ⟨_, rfl⟩
            have i11 : v11.toInt = x3_4.toInt + 1 := i_addc e11 (by decide) (by omega) (by omega)
            refine lv_iinc (v := v11) (lv' := [(3, .int v11), (2, .int v10), (0, .ref (L 0 0)), (1, .int a)]) S.1 S.2.1 dX5_waiting_54 hl (k := 3) rfl (by rw [e11]; rfl) (by decide) rfl (fun ls hl => ?_)
            refine lv_goto (tgt := 18) S.1 S.2.1 dX5_waiting_57 (by decide) ?_
            exact ih4 v10 v11 σ_4 _ _ ls (by omega) (by omega) (by rw [cl_n1 i11 (by omega)]; first | (rw [e10]; exact cnB_y ws (decide_eq_true ⟨f32.symm.trans c8, f42.symm.trans c9999⟩)) | (rw [e10, i32_z]; exact cnB_n ws (fun y9 => c9999 (f42.trans (of_decide_eq_true y9).2))) | (rw [e10, i32_z]; exact cnB_n ws (fun y9 => c8 (f32.trans (of_decide_eq_true y9).1)))) (by omega) hI hP hH hS (lv_sub hl [2, 3, 1, 0] rfl)
          · have j8 := t_eq c8
            refine lv_aload_n S.1 S.2.1 dX5_waiting_37 rfl (lv_at hl 0 rfl) ?_
            refine rM_0_25 S hnX5 K hH (mG wd_326) dX5_waiting_38 ?_
            refine lv_iload_n S.1 S.2.1 dX5_waiting_41 rfl (lv_at hl 3 rfl) ?_
            refine lM_25 S K hH (vin (by omega) (by omega)) dX5_waiting_42 ?_
            refine lv_topi (fun v12 e12 => ?_)
            have f42 : v12 = pM σ x3_4.toNatClampNeg 7 := by rw [e12, ← pE]; exact (pM_f (σ := σ_4) (f := 7) (by omega) (by decide) (by decide)).symm
            refine lv_iconst (v := (-1)) S.1 S.2.1 dX5_waiting_43 (by decide) ?_
            refine lv_icmp_ne (tgt := 51) S.1 S.2.1 dX5_waiting_44 (by decide) (fun c13 => ?_) (fun c13 => ?_)
            · have j13 := t_neq c13
              refine lv_iconst (v := 0) S.1 S.2.1 dX5_waiting_51 (by decide) ?_
              refine lv_iadd S.1 S.2.1 dX5_waiting_52 ?_
              have y14 := any32 x2_4
              refine lv_topi (fun v15 e15 => ?_)
              have i15 : v15.toInt = x2_4.toInt + (0 : Int32).toInt := i_add e15 (by omega) (by omega)
              refine lv_istore_n (lv' := [(2, .int v15), (0, .ref (L 0 0)), (1, .int a), (3, .int x3_4)]) S.1 S.2.1 dX5_waiting_53 rfl hl (by decide) rfl (fun ls hl => ?_)
              obtain ⟨v16, e16⟩ : ∃ y_9 : Int32, y_9 = x3_4 + 1 := ⟨_, rfl⟩
              have i16 : v16.toInt = x3_4.toInt + 1 := i_addc e16 (by decide) (by omega) (by omega)
              refine lv_iinc (v := v16) (lv' := [(3, .int v16), (2, .int v15), (0, .ref (L 0 0)), (1, .int a)]) S.1 S.2.1 dX5_waiting_54 hl (k := 3) rfl (by rw [e16]; rfl) (by decide) rfl (fun ls hl => ?_)
              refine lv_goto (tgt := 18) S.1 S.2.1 dX5_waiting_57 (by decide) ?_
              exact ih4 v15 v16 σ_4 _ _ ls (by omega) (by omega) (by rw [cl_n1 i16 (by omega)]; first | (rw [e15]; exact cnB_y ws (decide_eq_true ⟨f32.symm.trans c8, f42.symm.trans c13⟩)) | (rw [e15, i32_z]; exact cnB_n ws (fun y9 => c13 (f42.trans (of_decide_eq_true y9).2))) | (rw [e15, i32_z]; exact cnB_n ws (fun y9 => c8 (f32.trans (of_decide_eq_true y9).1)))) (by omega) hI hP hH hS (lv_sub hl [2, 3, 1, 0] rfl)
            · have j13 := t_eq c13
              refine lv_iconst (v := 1) S.1 S.2.1 dX5_waiting_47 (by decide) ?_
              refine lv_goto (tgt := 52) S.1 S.2.1 dX5_waiting_48 (by decide) ?_
              refine lv_iadd S.1 S.2.1 dX5_waiting_52 ?_
              refine lv_topi (fun v17 e17 => ?_)
              refine lv_istore_n (lv' := [(2, .int v17), (0, .ref (L 0 0)), (1, .int a), (3, .int x3_4)]) S.1 S.2.1 dX5_waiting_53 rfl hl (by decide) rfl (fun ls hl => ?_)
              obtain ⟨v18, e18⟩ : ∃ y_9 : Int32, y_9 = x3_4 + 1 := ⟨_, rfl⟩
              have i18 : v18.toInt = x3_4.toInt + 1 := i_addc e18 (by decide) (by omega) (by omega)
              refine lv_iinc (v := v18) (lv' := [(3, .int v18), (2, .int v17), (0, .ref (L 0 0)), (1, .int a)]) S.1 S.2.1 dX5_waiting_54 hl (k := 3) rfl (by rw [e18]; rfl) (by decide) rfl (fun ls hl => ?_)
              refine lv_goto (tgt := 18) S.1 S.2.1 dX5_waiting_57 (by decide) ?_
              exact ih4 v17 v18 σ_4 _ _ ls (by omega) (by omega) (by rw [cl_n1 i18 (by omega)]; first | (rw [e17]; exact cnB_y ws (decide_eq_true ⟨f32.symm.trans c8, f42.symm.trans c13⟩)) | (rw [e17, i32_z]; exact cnB_n ws (fun y9 => c13 (f42.trans (of_decide_eq_true y9).2))) | (rw [e17, i32_z]; exact cnB_n ws (fun y9 => c8 (f32.trans (of_decide_eq_true y9).1)))) (by omega) hI hP hH hS (lv_sub hl [2, 3, 1, 0] rfl)
    exact cut_18_4 _ 0 0 σ1 _ _ ls (Nat.lt_succ_self _) (by omega) (by rfl) (by have z9 : 0 ≤ (σ 4 0 0).toInt ∧ (σ 4 0 0).toInt ≤ 60 := InvM4 hI hP; omega) hI hP hH hS (lv_sub hl [2, 3, 1, 0] rfl)
  · have j3 := t_eq c3
    refine lv_iconst (v := (-1)) S.1 S.2.1 dX5_waiting_12 (by decide) ?_
    refine cW_iret S hr hk hH hS ?_ dX5_waiting_13
    exact ⟨(-1), rfl, hI, hP, rfl, by exact Or.inl ⟨by decide, by omega⟩⟩
set_option maxHeartbeats 4000000 in
set_option maxRecDepth 100000 in
theorem k_X5_fares (l : Launch) (D : va_G) (B : Nat → ClassId) (L : QL) (A : Nat → Prop) (σ : QS) (τ : Int64) (a : Int32)  (hI : InvM σ) : cW cntM gM l D B L A yX5_fares wsX5_fares 1 21 [.ref (L 0 0), .int a] σ τ (pI (fun x σ' τ' => InvM σ' ∧ Keep [0] σ σ' ∧ τ' = τ ∧ ((x.toInt = -1 ∧ ¬ (0 ≤ a.toInt ∧ a.toInt < (σ 2 0 0).toInt)) ∨ ((0 ≤ a.toInt ∧ a.toInt < (σ 2 0 0).toInt) ∧ x = eM σ a.toNatClampNeg)))) := by
  refine cW_of (cc := cX5_fares) (nL := 2) (ret := (some .int)) (by decide) rfl (Nat.le_of_ble_eq_true rfl) ?_
  intro p e s m below meth c S hr hk K hH hS ls hl
  have hnX5 : ∀ w ∈ wsX50, w ∈ wsX5_fares := fun w h => mG (tX5 w h)
  have lm1 : ((-1) : Int32).toInt = -1 := by decide
  have l0 : (0 : Int32).toInt = 0 := by decide
  have hP : Keep [0] σ σ := Keep_r
  have hl : lv_has ls 2 [(0, .ref (L 0 0)), (1, .int a)] := hl
  refine lv_aload_n S.1 S.2.1 dX5_fares_0 rfl (lv_at hl 0 rfl) ?_
  refine lv_iconst (v := 0) S.1 S.2.1 dX5_fares_1 (by decide) ?_
  refine pM_0_0 S hnX5 K hH hS (mG wd_337) dX5_fares_2 (fun H locs hH hS => ?_)
  obtain ⟨σ1, eσ1⟩ : ∃ z_9 : QS, z_9 = rs σ 0 0 (fun _ => 0) := ⟨_, rfl⟩
  rw [← eσ1] at hH
  have hI := InvM_f eσ1 hI (by decide) (any32 _)
  have hP := Keep_w eσ1 hP (by decide)
  have gz2 : (σ1 2 0 0).toInt = (σ 2 0 0).toInt := by rw [eσ1, rs_v (by decide)]
  refine lv_aload_n S.1 S.2.1 dX5_fares_5 rfl (lv_at hl 0 rfl) ?_
  refine lv_iload_n S.1 S.2.1 dX5_fares_6 rfl (lv_at hl 1 rfl) ?_
  refine cW_bpi (cW_V (n := 1) (As := [.int a]) (rest := []) (k := 0) (i := 0) S K hH (by decide) rfl rfl (k_X5_isCart l D B L A σ1 τ a hI) gX5_fares_X5_isCart rfl hdV_X5_isCart ⟨Nat.le_of_ble_eq_true rfl, Nat.le_of_ble_eq_true rfl⟩ rfl hl.1 (Nat.le_of_ble_eq_true rfl) dX5_fares_7) hS (fun v2 H locs q2 hH hS => ?_)
  refine lv_if_eq (tgt := 22) S.1 S.2.1 dX5_fares_10 (by decide) (fun c3 => ?_) (fun c3 => ?_)
  · have j3 := t_eq c3
    refine lv_iconst (v := (-1)) S.1 S.2.1 dX5_fares_22 (by decide) ?_
    refine cW_iret S hr hk hH hS ?_ dX5_fares_23
    exact ⟨(-1), rfl, hI, hP, rfl, by first | exact Or.inl ⟨by decide, by omega⟩ | exact Or.inr ⟨by omega, f18⟩⟩
  · have j3 := t_neq c3
    refine lv_aload_n S.1 S.2.1 dX5_fares_13 rfl (lv_at hl 0 rfl) ?_
    refine rM_0_10 S hnX5 K hH (mG wd_308) dX5_fares_14 ?_
    refine lv_iload_n S.1 S.2.1 dX5_fares_17 rfl (lv_at hl 1 rfl) ?_
    refine lM_10 S K hH (vin (by omega) (by omega)) dX5_fares_18 ?_
    refine lv_topi (fun v4 e4 => ?_)
    have f18 : v4 = eM σ a.toNatClampNeg := by rw [e4, eσ1, rs_v (by decide)]; unfold eM; rw [if_pos (cl_lt (n := 12) (by omega) (by omega))]
    refine lv_goto (tgt := 23) S.1 S.2.1 dX5_fares_19 (by decide) ?_
    refine cW_iret S hr hk hH hS ?_ dX5_fares_23
    exact ⟨v4, rfl, hI, hP, rfl, by first | exact Or.inl ⟨by decide, by omega⟩ | exact Or.inr ⟨by omega, f18⟩⟩
set_option maxHeartbeats 4000000 in
set_option maxRecDepth 100000 in
theorem k_X5_room (l : Launch) (D : va_G) (B : Nat → ClassId) (L : QL) (A : Nat → Prop) (σ : QS) (τ : Int64) (a : Int32) (b : Int32) (N : Net) (hI : InvM σ) (hp1 : RepM σ N) : cW cntM gM l D B L A yX5_room wsX5_room 1 24 [.ref (L 0 0), .int a, .int b] σ τ (pI (fun x σ' τ' => InvM σ' ∧ Keep [0] σ σ' ∧ τ' = τ ∧ True)) := by
  refine cW_of (cc := cX5_room) (nL := 3) (ret := (some .int)) (by decide) rfl (Nat.le_of_ble_eq_true rfl) ?_
  intro p e s m below meth c S hr hk K hH hS ls hl
  have hnX5 : ∀ w ∈ wsX50, w ∈ wsX5_room := fun w h => mG (tX5 w h)
  have lm1 : ((-1) : Int32).toInt = -1 := by decide
  have l0 : (0 : Int32).toInt = 0 := by decide
  have l300 : (300 : Int32).toInt = 300 := by decide
  have hP : Keep [0] σ σ := Keep_r
  have hl : lv_has ls 3 [(0, .ref (L 0 0)), (1, .int a), (2, .int b)] := hl
  refine lv_aload_n S.1 S.2.1 dX5_room_0 rfl (lv_at hl 0 rfl) ?_
  refine lv_iconst (v := 0) S.1 S.2.1 dX5_room_1 (by decide) ?_
  refine pM_0_0 S hnX5 K hH hS (mG wd_337) dX5_room_2 (fun H locs hH hS => ?_)
  obtain ⟨σ1, eσ1⟩ : ∃ z_9 : QS, z_9 = rs σ 0 0 (fun _ => 0) := ⟨_, rfl⟩
  rw [← eσ1] at hH
  have hI := InvM_f eσ1 hI (by decide) (any32 _)
  have hP := Keep_w eσ1 hP (by decide)
  have gz2 : (σ1 2 0 0).toInt = (σ 2 0 0).toInt := by rw [eσ1, rs_v (by decide)]
  refine lv_aload_n S.1 S.2.1 dX5_room_5 rfl (lv_at hl 0 rfl) ?_
  refine lv_iload_n S.1 S.2.1 dX5_room_6 rfl (lv_at hl 1 rfl) ?_
  refine cW_bpi (cW_V (n := 1) (As := [.int a]) (rest := []) (k := 0) (i := 0) S K hH (by decide) rfl rfl (k_X5_isCart l D B L A σ1 τ a hI) gX5_room_X5_isCart rfl hdV_X5_isCart ⟨Nat.le_of_ble_eq_true rfl, Nat.le_of_ble_eq_true rfl⟩ rfl hl.1 (Nat.le_of_ble_eq_true rfl) dX5_room_7) hS (fun v2 H locs q2 hH hS => ?_)
  refine lv_if_eq (tgt := 42) S.1 S.2.1 dX5_room_10 (by decide) (fun c3 => ?_) (fun c3 => ?_)
  · have j3 := t_eq c3
    refine lv_iconst (v := (-1)) S.1 S.2.1 dX5_room_42 (by decide) ?_
    refine cW_iret S hr hk hH hS ?_ dX5_room_43
    exact ⟨(-1), rfl, hI, hP, rfl, by trivial⟩
  · have j3 := t_neq c3
    refine lv_iload_n S.1 S.2.1 dX5_room_13 rfl (lv_at hl 2 rfl) ?_
    refine lv_iconst (v := 0) S.1 S.2.1 dX5_room_14 (by decide) ?_
    refine lv_sipush (v := 300) S.1 S.2.1 dX5_room_15 (by decide) ?_
    refine cW_bpi (cW_S (n := 3) (As := [.int b, .int 0, .int 300]) (rest := []) S K hH (k_X5_isIn l D B L A σ1 τ b 0 300 ) gX5_room_X5_isIn rfl hdS_X5_isIn ⟨Nat.le_of_ble_eq_true rfl, Nat.le_of_ble_eq_true rfl⟩ rfl hl.1 (Nat.le_of_ble_eq_true rfl) dX5_room_18) hS (fun v4 H locs q4 hH hS => ?_)
    refine lv_if_eq (tgt := 42) S.1 S.2.1 dX5_room_21 (by decide) (fun c5 => ?_) (fun c5 => ?_)
    · have j5 := t_eq c5
      refine lv_iconst (v := (-1)) S.1 S.2.1 dX5_room_42 (by decide) ?_
      refine cW_iret S hr hk hH hS ?_ dX5_room_43
      exact ⟨(-1), rfl, hI, hP, rfl, by trivial⟩
    · have j5 := t_neq c5
      refine lv_aload_n S.1 S.2.1 dX5_room_24 rfl (lv_at hl 0 rfl) ?_
      refine lv_iload_n S.1 S.2.1 dX5_room_25 rfl (lv_at hl 1 rfl) ?_
      refine lv_iload_n S.1 S.2.1 dX5_room_26 rfl (lv_at hl 2 rfl) ?_
      refine cW_bpi (cW_V (n := 2) (As := [.int a, .int b]) (rest := []) (k := 0) (i := 0) S K hH (by decide) rfl rfl (k_X5_isRun l D B L A σ1 τ a b (N) (by omega) (by omega) (RepM_k hp1 hP (by decide)) (by omega)) gX5_room_X5_isRun rfl hdV_X5_isRun ⟨Nat.le_of_ble_eq_true rfl, Nat.le_of_ble_eq_true rfl⟩ rfl hl.1 (Nat.le_of_ble_eq_true rfl) dX5_room_27) hS (fun v6 H locs q6 hH hS => ?_)
      refine lv_if_eq (tgt := 42) S.1 S.2.1 dX5_room_30 (by decide) (fun c7 => ?_) (fun c7 => ?_)
      · have j7 := t_eq c7
        refine lv_iconst (v := (-1)) S.1 S.2.1 dX5_room_42 (by decide) ?_
        refine cW_iret S hr hk hH hS ?_ dX5_room_43
        exact ⟨(-1), rfl, hI, hP, rfl, by trivial⟩
      · have j7 := t_neq c7
        refine lv_aload_n S.1 S.2.1 dX5_room_33 rfl (lv_at hl 0 rfl) ?_
        refine lv_iload_n S.1 S.2.1 dX5_room_34 rfl (lv_at hl 1 rfl) ?_
        refine lv_iload_n S.1 S.2.1 dX5_room_35 rfl (lv_at hl 2 rfl) ?_
        refine cW_bpi (cW_V (n := 2) (As := [.int a, .int b]) (rest := []) (k := 0) (i := 0) S K hH (by decide) rfl rfl (k_X5_roomLeft l D B L A σ1 τ a b (by omega) hI) gX5_room_X5_roomLeft rfl hdV_X5_roomLeft ⟨Nat.le_of_ble_eq_true rfl, Nat.le_of_ble_eq_true rfl⟩ rfl hl.1 (Nat.le_of_ble_eq_true rfl) dX5_room_36) hS (fun v8 H locs q8 hH hS => ?_)
        refine lv_goto (tgt := 43) S.1 S.2.1 dX5_room_39 (by decide) ?_
        refine cW_iret S hr hk hH hS ?_ dX5_room_43
        exact ⟨v8, rfl, hI, hP, rfl, by trivial⟩
set_option maxHeartbeats 4000000 in
set_option maxRecDepth 100000 in
theorem k_X5_walk (l : Launch) (D : va_G) (B : Nat → ClassId) (L : QL) (A : Nat → Prop) (σ : QS) (τ : Int64) (a : Int32) (b : Int32) (z : Int32)  (hI : InvM σ) : cW cntM gM l D B L A yX5_walk wsX5_walk 1 22 [.ref (L 0 0), .int a, .int b, .int z] σ τ (pI (fun x σ' τ' => InvM σ' ∧ Keep [0, 27] σ σ' ∧ τ' = τ ∧ ((x.toInt = 1 ∧ (0 ≤ a.toInt ∧ a.toInt ≤ 8 ∧ 0 ≤ b.toInt ∧ b.toInt ≤ 8 ∧ a.toInt ≠ b.toInt ∧ 0 ≤ z.toInt ∧ z.toInt ≤ 60) ∧ σ' 27 0 = upd (upd (σ 27 0) (9 * a.toNatClampNeg + b.toNatClampNeg) z) (9 * b.toNatClampNeg + a.toNatClampNeg) z) ∨ (x.toInt = 0 ∧ ¬ (0 ≤ a.toInt ∧ a.toInt ≤ 8 ∧ 0 ≤ b.toInt ∧ b.toInt ≤ 8 ∧ a.toInt ≠ b.toInt ∧ 0 ≤ z.toInt ∧ z.toInt ≤ 60) ∧ σ' 27 = σ 27)))) := by
  refine cW_of (cc := cX5_walk) (nL := 4) (ret := (some .boolean)) (by decide) rfl (Nat.le_of_ble_eq_true rfl) ?_
  intro p e s m below meth c S hr hk K hH hS ls hl
  have hnX5 : ∀ w ∈ wsX50, w ∈ wsX5_walk := fun w h => mG (tX5 w h)
  have l0 : (0 : Int32).toInt = 0 := by decide
  have l1 : (1 : Int32).toInt = 1 := by decide
  have l8 : (8 : Int32).toInt = 8 := by decide
  have l9 : (9 : Int32).toInt = 9 := by decide
  have l60 : (60 : Int32).toInt = 60 := by decide
  have hP : Keep [0, 27] σ σ := Keep_r
  have hl : lv_has ls 4 [(0, .ref (L 0 0)), (1, .int a), (2, .int b), (3, .int z)] := hl
  refine lv_aload_n S.1 S.2.1 dX5_walk_0 rfl (lv_at hl 0 rfl) ?_
  refine lv_iconst (v := 0) S.1 S.2.1 dX5_walk_1 (by decide) ?_
  refine pM_0_0 S hnX5 K hH hS (mG wd_337) dX5_walk_2 (fun H locs hH hS => ?_)
  obtain ⟨σ1, eσ1⟩ : ∃ z_9 : QS, z_9 = rs σ 0 0 (fun _ => 0) := ⟨_, rfl⟩
  rw [← eσ1] at hH
  have hI := InvM_f eσ1 hI (by decide) (any32 _)
  have hP := Keep_w eσ1 hP (by decide)
  refine lv_iload_n S.1 S.2.1 dX5_walk_5 rfl (lv_at hl 1 rfl) ?_
  refine lv_iconst (v := 0) S.1 S.2.1 dX5_walk_6 (by decide) ?_
  refine lv_bipush (v := 8) S.1 S.2.1 dX5_walk_7 (by decide) ?_
  refine cW_bpi (cW_S (n := 3) (As := [.int a, .int 0, .int 8]) (rest := []) S K hH (k_X5_isIn l D B L A σ1 τ a 0 8 ) gX5_walk_X5_isIn rfl hdS_X5_isIn ⟨Nat.le_of_ble_eq_true rfl, Nat.le_of_ble_eq_true rfl⟩ rfl hl.1 (Nat.le_of_ble_eq_true rfl) dX5_walk_9) hS (fun v2 H locs q2 hH hS => ?_)
  refine lv_if_eq (tgt := 40) S.1 S.2.1 dX5_walk_12 (by decide) (fun c3 => ?_) (fun c3 => ?_)
  · have j3 := t_eq c3
    refine lv_iconst (v := 0) S.1 S.2.1 dX5_walk_40 (by decide) ?_
    refine cW_zret S hr hk hH hS (by decide) ?_ dX5_walk_41
    exact ⟨0, rfl, hI, hP, rfl, by exact Or.inr ⟨by decide, by omega, by rw [eσ1, rs_v (by decide)]⟩⟩
  · have j3 := t_neq c3
    refine lv_iload_n S.1 S.2.1 dX5_walk_15 rfl (lv_at hl 2 rfl) ?_
    refine lv_iconst (v := 0) S.1 S.2.1 dX5_walk_16 (by decide) ?_
    refine lv_bipush (v := 8) S.1 S.2.1 dX5_walk_17 (by decide) ?_
    refine cW_bpi (cW_S (n := 3) (As := [.int b, .int 0, .int 8]) (rest := []) S K hH (k_X5_isIn l D B L A σ1 τ b 0 8 ) gX5_walk_X5_isIn rfl hdS_X5_isIn ⟨Nat.le_of_ble_eq_true rfl, Nat.le_of_ble_eq_true rfl⟩ rfl hl.1 (Nat.le_of_ble_eq_true rfl) dX5_walk_19) hS (fun v4 H locs q4 hH hS => ?_)
    refine lv_if_eq (tgt := 40) S.1 S.2.1 dX5_walk_22 (by decide) (fun c5 => ?_) (fun c5 => ?_)
    · have j5 := t_eq c5
      refine lv_iconst (v := 0) S.1 S.2.1 dX5_walk_40 (by decide) ?_
      refine cW_zret S hr hk hH hS (by decide) ?_ dX5_walk_41
      exact ⟨0, rfl, hI, hP, rfl, by exact Or.inr ⟨by decide, by omega, by rw [eσ1, rs_v (by decide)]⟩⟩
    · have j5 := t_neq c5
      refine lv_iload_n S.1 S.2.1 dX5_walk_25 rfl (lv_at hl 1 rfl) ?_
      refine lv_iload_n S.1 S.2.1 dX5_walk_26 rfl (lv_at hl 2 rfl) ?_
      refine lv_icmp_eq (tgt := 40) S.1 S.2.1 dX5_walk_27 (by decide) (fun c6 => ?_) (fun c6 => ?_)
      · have j6 := t_eq c6
        refine lv_iconst (v := 0) S.1 S.2.1 dX5_walk_40 (by decide) ?_
        refine cW_zret S hr hk hH hS (by decide) ?_ dX5_walk_41
        exact ⟨0, rfl, hI, hP, rfl, by exact Or.inr ⟨by decide, by omega, by rw [eσ1, rs_v (by decide)]⟩⟩
      · have j6 := t_neq c6
        refine lv_iload_n S.1 S.2.1 dX5_walk_30 rfl (lv_at hl 3 rfl) ?_
        refine lv_iconst (v := 0) S.1 S.2.1 dX5_walk_31 (by decide) ?_
        refine lv_bipush (v := 60) S.1 S.2.1 dX5_walk_32 (by decide) ?_
        refine cW_bpi (cW_S (n := 3) (As := [.int z, .int 0, .int 60]) (rest := []) S K hH (k_X5_isIn l D B L A σ1 τ z 0 60 ) gX5_walk_X5_isIn rfl hdS_X5_isIn ⟨Nat.le_of_ble_eq_true rfl, Nat.le_of_ble_eq_true rfl⟩ rfl hl.1 (Nat.le_of_ble_eq_true rfl) dX5_walk_34) hS (fun v7 H locs q7 hH hS => ?_)
        refine lv_if_ne (tgt := 42) S.1 S.2.1 dX5_walk_37 (by decide) (fun c8 => ?_) (fun c8 => ?_)
        · have j8 := t_neq c8
          refine lv_aload_n S.1 S.2.1 dX5_walk_42 rfl (lv_at hl 0 rfl) ?_
          refine rM_0_27 S hnX5 K hH (mG wd_328) dX5_walk_43 ?_
          refine lv_bipush (v := 9) S.1 S.2.1 dX5_walk_46 (by decide) ?_
          refine lv_iload_n S.1 S.2.1 dX5_walk_48 rfl (lv_at hl 1 rfl) ?_
          refine lv_imul S.1 S.2.1 dX5_walk_49 ?_
          refine lv_topi (fun v9 e9 => ?_)
          have i9 : v9.toInt = 9 * a.toInt := i_mulcl e9 (by decide) (by omega) (by omega)
          refine lv_iload_n S.1 S.2.1 dX5_walk_50 rfl (lv_at hl 2 rfl) ?_
          refine lv_iadd S.1 S.2.1 dX5_walk_51 ?_
          refine lv_topi (fun v10 e10 => ?_)
          have i10 : v10.toInt = v9.toInt + b.toInt := i_add e10 (by omega) (by omega)
          refine lv_iload_n S.1 S.2.1 dX5_walk_52 rfl (lv_at hl 3 rfl) ?_
          refine sM_27 S K hH hS (vin (by omega) (by omega)) dX5_walk_53 (fun H locs hH hS => ?_)
          obtain ⟨σ11, eσ11⟩ : ∃ z_9 : QS, z_9 = rs σ1 27 0 (upd (σ1 27 0) v10.toNatClampNeg z) := ⟨_, rfl⟩
          rw [← eσ11] at hH
          have hI := InvM_a eσ11 hI (by decide) (show (0 : Int) ≤ z.toInt ∧ z.toInt ≤ 60 by omega)
          have hP := Keep_w eσ11 hP (by decide)
          refine lv_aload_n S.1 S.2.1 dX5_walk_54 rfl (lv_at hl 0 rfl) ?_
          refine rM_0_27 S hnX5 K hH (mG wd_328) dX5_walk_55 ?_
          refine lv_bipush (v := 9) S.1 S.2.1 dX5_walk_58 (by decide) ?_
          refine lv_iload_n S.1 S.2.1 dX5_walk_60 rfl (lv_at hl 2 rfl) ?_
          refine lv_imul S.1 S.2.1 dX5_walk_61 ?_
          refine lv_topi (fun v12 e12 => ?_)
          have i12 : v12.toInt = 9 * b.toInt := i_mulcl e12 (by decide) (by omega) (by omega)
          refine lv_iload_n S.1 S.2.1 dX5_walk_62 rfl (lv_at hl 1 rfl) ?_
          refine lv_iadd S.1 S.2.1 dX5_walk_63 ?_
          refine lv_topi (fun v13 e13 => ?_)
          have i13 : v13.toInt = v12.toInt + a.toInt := i_add e13 (by omega) (by omega)
          refine lv_iload_n S.1 S.2.1 dX5_walk_64 rfl (lv_at hl 3 rfl) ?_
          refine sM_27 S K hH hS (vin (by omega) (by omega)) dX5_walk_65 (fun H locs hH hS => ?_)
          obtain ⟨σ14, eσ14⟩ : ∃ z_9 : QS, z_9 = rs σ11 27 0 (upd (σ11 27 0) v13.toNatClampNeg z) := ⟨_, rfl⟩
          rw [← eσ14] at hH
          have hI := InvM_a eσ14 hI (by decide) (show (0 : Int) ≤ z.toInt ∧ z.toInt ≤ 60 by omega)
          have hP := Keep_w eσ14 hP (by decide)
          refine lv_iconst (v := 1) S.1 S.2.1 dX5_walk_66 (by decide) ?_
          refine cW_zret S hr hk hH hS (by decide) ?_ dX5_walk_67
          exact ⟨1, rfl, hI, hP, rfl, by refine Or.inl ⟨by decide, by omega, ?_⟩; rw [eσ14, rs_self, eσ11, rs_self, eσ1, rs_v (by decide), ix9 i9 i10 (by omega) (by omega), ix9 i12 i13 (by omega) (by omega)]⟩
        · have j8 := t_eq c8
          refine lv_iconst (v := 0) S.1 S.2.1 dX5_walk_40 (by decide) ?_
          refine cW_zret S hr hk hH hS (by decide) ?_ dX5_walk_41
          exact ⟨0, rfl, hI, hP, rfl, by exact Or.inr ⟨by decide, by omega, by rw [eσ1, rs_v (by decide)]⟩⟩
set_option maxHeartbeats 4000000 in
set_option maxRecDepth 100000 in
theorem k_X5_errand (l : Launch) (D : va_G) (B : Nat → ClassId) (L : QL) (A : Nat → Prop) (σ : QS) (τ : Int64) (a : Int32) (b : Int32) (z : Int32)  (hI : InvM σ) : cW cntM gM l D B L A yX5_errand wsX5_errand 1 22 [.ref (L 0 0), .int a, .int b, .int z] σ τ (pI (fun x σ' τ' => InvM σ' ∧ Keep [0, 28, 29, 32] σ σ' ∧ τ' = τ ∧ ((x.toInt = 1 ∧ (1 ≤ a.toInt ∧ a.toInt ≤ 8 ∧ 0 ≤ b.toInt ∧ b.toInt ≤ 60 ∧ 0 ≤ z.toInt ∧ z.toInt ≤ 100) ∧ σ' 28 0 = upd (σ 28 0) a.toNatClampNeg b ∧ σ' 29 0 = upd (σ 29 0) a.toNatClampNeg z ∧ σ' 32 0 = upd (σ 32 0) a.toNatClampNeg 1) ∨ (x.toInt = 0 ∧ ¬ (1 ≤ a.toInt ∧ a.toInt ≤ 8 ∧ 0 ≤ b.toInt ∧ b.toInt ≤ 60 ∧ 0 ≤ z.toInt ∧ z.toInt ≤ 100) ∧ σ' 28 = σ 28 ∧ σ' 29 = σ 29 ∧ σ' 32 = σ 32)))) := by
  refine cW_of (cc := cX5_errand) (nL := 4) (ret := (some .boolean)) (by decide) rfl (Nat.le_of_ble_eq_true rfl) ?_
  intro p e s m below meth c S hr hk K hH hS ls hl
  have hnX5 : ∀ w ∈ wsX50, w ∈ wsX5_errand := fun w h => mG (tX5 w h)
  have l0 : (0 : Int32).toInt = 0 := by decide
  have l1 : (1 : Int32).toInt = 1 := by decide
  have l8 : (8 : Int32).toInt = 8 := by decide
  have l60 : (60 : Int32).toInt = 60 := by decide
  have l100 : (100 : Int32).toInt = 100 := by decide
  have hP : Keep [0, 28, 29, 32] σ σ := Keep_r
  have hl : lv_has ls 4 [(0, .ref (L 0 0)), (1, .int a), (2, .int b), (3, .int z)] := hl
  refine lv_aload_n S.1 S.2.1 dX5_errand_0 rfl (lv_at hl 0 rfl) ?_
  refine lv_iconst (v := 0) S.1 S.2.1 dX5_errand_1 (by decide) ?_
  refine pM_0_0 S hnX5 K hH hS (mG wd_337) dX5_errand_2 (fun H locs hH hS => ?_)
  obtain ⟨σ1, eσ1⟩ : ∃ z_9 : QS, z_9 = rs σ 0 0 (fun _ => 0) := ⟨_, rfl⟩
  rw [← eσ1] at hH
  have hI := InvM_f eσ1 hI (by decide) (any32 _)
  have hP := Keep_w eσ1 hP (by decide)
  refine lv_iload_n S.1 S.2.1 dX5_errand_5 rfl (lv_at hl 1 rfl) ?_
  refine lv_iconst (v := 1) S.1 S.2.1 dX5_errand_6 (by decide) ?_
  refine lv_bipush (v := 8) S.1 S.2.1 dX5_errand_7 (by decide) ?_
  refine cW_bpi (cW_S (n := 3) (As := [.int a, .int 1, .int 8]) (rest := []) S K hH (k_X5_isIn l D B L A σ1 τ a 1 8 ) gX5_errand_X5_isIn rfl hdS_X5_isIn ⟨Nat.le_of_ble_eq_true rfl, Nat.le_of_ble_eq_true rfl⟩ rfl hl.1 (Nat.le_of_ble_eq_true rfl) dX5_errand_9) hS (fun v2 H locs q2 hH hS => ?_)
  refine lv_if_eq (tgt := 35) S.1 S.2.1 dX5_errand_12 (by decide) (fun c3 => ?_) (fun c3 => ?_)
  · have j3 := t_eq c3
    refine lv_iconst (v := 0) S.1 S.2.1 dX5_errand_35 (by decide) ?_
    refine cW_zret S hr hk hH hS (by decide) ?_ dX5_errand_36
    exact ⟨0, rfl, hI, hP, rfl, by exact Or.inr ⟨by decide, by omega, by rw [eσ1, rs_v (by decide)], by rw [eσ1, rs_v (by decide)], by rw [eσ1, rs_v (by decide)]⟩⟩
  · have j3 := t_neq c3
    refine lv_iload_n S.1 S.2.1 dX5_errand_15 rfl (lv_at hl 2 rfl) ?_
    refine lv_iconst (v := 0) S.1 S.2.1 dX5_errand_16 (by decide) ?_
    refine lv_bipush (v := 60) S.1 S.2.1 dX5_errand_17 (by decide) ?_
    refine cW_bpi (cW_S (n := 3) (As := [.int b, .int 0, .int 60]) (rest := []) S K hH (k_X5_isIn l D B L A σ1 τ b 0 60 ) gX5_errand_X5_isIn rfl hdS_X5_isIn ⟨Nat.le_of_ble_eq_true rfl, Nat.le_of_ble_eq_true rfl⟩ rfl hl.1 (Nat.le_of_ble_eq_true rfl) dX5_errand_19) hS (fun v4 H locs q4 hH hS => ?_)
    refine lv_if_eq (tgt := 35) S.1 S.2.1 dX5_errand_22 (by decide) (fun c5 => ?_) (fun c5 => ?_)
    · have j5 := t_eq c5
      refine lv_iconst (v := 0) S.1 S.2.1 dX5_errand_35 (by decide) ?_
      refine cW_zret S hr hk hH hS (by decide) ?_ dX5_errand_36
      exact ⟨0, rfl, hI, hP, rfl, by exact Or.inr ⟨by decide, by omega, by rw [eσ1, rs_v (by decide)], by rw [eσ1, rs_v (by decide)], by rw [eσ1, rs_v (by decide)]⟩⟩
    · have j5 := t_neq c5
      refine lv_iload_n S.1 S.2.1 dX5_errand_25 rfl (lv_at hl 3 rfl) ?_
      refine lv_iconst (v := 0) S.1 S.2.1 dX5_errand_26 (by decide) ?_
      refine lv_bipush (v := 100) S.1 S.2.1 dX5_errand_27 (by decide) ?_
      refine cW_bpi (cW_S (n := 3) (As := [.int z, .int 0, .int 100]) (rest := []) S K hH (k_X5_isIn l D B L A σ1 τ z 0 100 ) gX5_errand_X5_isIn rfl hdS_X5_isIn ⟨Nat.le_of_ble_eq_true rfl, Nat.le_of_ble_eq_true rfl⟩ rfl hl.1 (Nat.le_of_ble_eq_true rfl) dX5_errand_29) hS (fun v6 H locs q6 hH hS => ?_)
      refine lv_if_ne (tgt := 37) S.1 S.2.1 dX5_errand_32 (by decide) (fun c7 => ?_) (fun c7 => ?_)
      · have j7 := t_neq c7
        refine lv_aload_n S.1 S.2.1 dX5_errand_37 rfl (lv_at hl 0 rfl) ?_
        refine rM_0_28 S hnX5 K hH (mG wd_329) dX5_errand_38 ?_
        refine lv_iload_n S.1 S.2.1 dX5_errand_41 rfl (lv_at hl 1 rfl) ?_
        refine lv_iload_n S.1 S.2.1 dX5_errand_42 rfl (lv_at hl 2 rfl) ?_
        refine sM_28 S K hH hS (vin (by omega) (by omega)) dX5_errand_43 (fun H locs hH hS => ?_)
        obtain ⟨σ8, eσ8⟩ : ∃ z_9 : QS, z_9 = rs σ1 28 0 (upd (σ1 28 0) a.toNatClampNeg b) := ⟨_, rfl⟩
        rw [← eσ8] at hH
        have hI := InvM_a eσ8 hI (by decide) (show (0 : Int) ≤ b.toInt ∧ b.toInt ≤ 60 by omega)
        have hP := Keep_w eσ8 hP (by decide)
        refine lv_aload_n S.1 S.2.1 dX5_errand_44 rfl (lv_at hl 0 rfl) ?_
        refine rM_0_29 S hnX5 K hH (mG wd_330) dX5_errand_45 ?_
        refine lv_iload_n S.1 S.2.1 dX5_errand_48 rfl (lv_at hl 1 rfl) ?_
        refine lv_iload_n S.1 S.2.1 dX5_errand_49 rfl (lv_at hl 3 rfl) ?_
        refine sM_29 S K hH hS (vin (by omega) (by omega)) dX5_errand_50 (fun H locs hH hS => ?_)
        obtain ⟨σ9, eσ9⟩ : ∃ z_9 : QS, z_9 = rs σ8 29 0 (upd (σ8 29 0) a.toNatClampNeg z) := ⟨_, rfl⟩
        rw [← eσ9] at hH
        have hI := InvM_a eσ9 hI (by decide) (show (0 : Int) ≤ z.toInt ∧ z.toInt ≤ 100 by omega)
        have hP := Keep_w eσ9 hP (by decide)
        refine lv_aload_n S.1 S.2.1 dX5_errand_51 rfl (lv_at hl 0 rfl) ?_
        refine rM_0_32 S hnX5 K hH (mG wd_333) dX5_errand_52 ?_
        refine lv_iload_n S.1 S.2.1 dX5_errand_55 rfl (lv_at hl 1 rfl) ?_
        refine lv_iconst (v := 1) S.1 S.2.1 dX5_errand_56 (by decide) ?_
        refine sM_32 S K hH hS (vin (by omega) (by omega)) dX5_errand_57 (fun H locs hH hS => ?_)
        obtain ⟨σ10, eσ10⟩ : ∃ z_9 : QS, z_9 = rs σ9 32 0 (upd (σ9 32 0) a.toNatClampNeg (vp_nar .boolean 1)) := ⟨_, rfl⟩
        rw [← eσ10] at hH
        have hI := InvM_a eσ10 hI (by decide) (any32 _)
        have hP := Keep_w eσ10 hP (by decide)
        refine lv_iconst (v := 1) S.1 S.2.1 dX5_errand_58 (by decide) ?_
        refine cW_zret S hr hk hH hS (by decide) ?_ dX5_errand_59
        exact ⟨1, rfl, hI, hP, rfl, by refine Or.inl ⟨by decide, by omega, ?_, ?_, ?_⟩; rw [eσ10, rs_v (by decide), eσ9, rs_v (by decide), eσ8, rs_self, eσ1, rs_v (by decide)]; rw [eσ10, rs_v (by decide), eσ9, rs_self, eσ8, rs_v (by decide), eσ1, rs_v (by decide)]; rw [eσ10, rs_self, eσ9, rs_v (by decide), eσ8, rs_v (by decide), eσ1, rs_v (by decide)]; rfl⟩
      · have j7 := t_eq c7
        refine lv_iconst (v := 0) S.1 S.2.1 dX5_errand_35 (by decide) ?_
        refine cW_zret S hr hk hH hS (by decide) ?_ dX5_errand_36
        exact ⟨0, rfl, hI, hP, rfl, by exact Or.inr ⟨by decide, by omega, by rw [eσ1, rs_v (by decide)], by rw [eσ1, rs_v (by decide)], by rw [eσ1, rs_v (by decide)]⟩⟩
set_option maxHeartbeats 4000000 in
set_option maxRecDepth 100000 in
theorem k_X5_clear (l : Launch) (D : va_G) (B : Nat → ClassId) (L : QL) (A : Nat → Prop) (σ : QS) (τ : Int64)   (hI : InvM σ) : cW cntM gM l D B L A yX5_clear wsX5_clear 0 0 [.ref (L 0 0)] σ τ (pV (fun σ' τ' => InvM σ' ∧ Keep [0, 32] σ σ' ∧ τ' = τ ∧ ∀ s : Nat, s ≤ 8 → σ' 32 0 s = 0)) := by
  refine cW_of (cc := cX5_clear) (nL := 2) (ret := none) (by decide) rfl (Nat.le_of_ble_eq_true rfl) ?_
  intro p e s m below meth c S hr hk K hH hS ls hl
  have hnX5 : ∀ w ∈ wsX50, w ∈ wsX5_clear := fun w h => mG (tX5 w h)
  have l0 : (0 : Int32).toInt = 0 := by decide
  have l1 : (1 : Int32).toInt = 1 := by decide
  have l9 : (9 : Int32).toInt = 9 := by decide
  have hP : Keep [0, 32] σ σ := Keep_r
  have hl : lv_has ls 2 [(0, .ref (L 0 0))] := hl
  refine lv_aload_n S.1 S.2.1 dX5_clear_0 rfl (lv_at hl 0 rfl) ?_
  refine lv_iconst (v := 0) S.1 S.2.1 dX5_clear_1 (by decide) ?_
  refine pM_0_0 S hnX5 K hH hS (mG wd_337) dX5_clear_2 (fun H locs hH hS => ?_)
  obtain ⟨σ1, eσ1⟩ : ∃ z_9 : QS, z_9 = rs σ 0 0 (fun _ => 0) := ⟨_, rfl⟩
  rw [← eσ1] at hH
  have hI := InvM_f eσ1 hI (by decide) (any32 _)
  have hP := Keep_w eσ1 hP (by decide)
  refine lv_iconst (v := 0) S.1 S.2.1 dX5_clear_5 (by decide) ?_
  refine lv_istore_n (lv' := [(1, .int 0), (0, .ref (L 0 0))]) S.1 S.2.1 dX5_clear_6 rfl hl (by decide) rfl (fun ls hl => ?_)
  have cut_7_2 : ∀ (n : Nat) (x1_2 : Int32) (σ_2 : QS) (H : Heap) (locs : List Loc) (ls : Array Slot), (9 - x1_2.toInt).toNat < n → 0 ≤ x1_2.toInt ∧ x1_2.toInt ≤ 9 → (∀ s : Nat, (s : Int) < x1_2.toInt → σ_2 32 0 s = 0) → InvM σ_2 → Keep [0, 32] σ σ_2 → hW cntM gM D B L σ_2 τ H → va_S A s.heap H locs → lv_has ls 2 [(0, .ref (L 0 0)), (1, .int x1_2)] → W p l e { frames := 0, cells := 0, slots := 0, locals := 0 } s m [.ref (L 0 0)].toArray below meth c H locs 0 0 (MQ below (QcW cntM gM D B L A (pV (fun σ' τ' => InvM σ' ∧ Keep [0, 32] σ σ' ∧ τ' = τ ∧ ∀ s : Nat, s ≤ 8 → σ' 32 0 s = 0))) [.ref (L 0 0)].toArray s 0 0 A) (F0 m 7 ls []) := by
    intro n
    induction n with
    | zero => intro x1_2 σ_2 H locs ls hm; exact absurd hm (Nat.not_lt_zero _)
    | succ n ih2 =>
      intro x1_2 σ_2 H locs ls hm2 h2_0 wc hI hP hH hS hl
      refine lv_iload_n S.1 S.2.1 dX5_clear_7 rfl (lv_at hl 1 rfl) ?_
      refine lv_bipush (v := 9) S.1 S.2.1 dX5_clear_8 (by decide) ?_
      refine lv_icmp_ge (tgt := 26) S.1 S.2.1 dX5_clear_10 (by decide) (fun c3 => ?_) (fun c3 => ?_)
      · have j3 := t_le c3
        refine cW_vret S hr hk hH hS ?_ dX5_clear_26
        exact ⟨rfl, hI, hP, rfl, by intro s h9; exact wc s (by omega)⟩
      · have j3 := t_nle c3
        refine lv_aload_n S.1 S.2.1 dX5_clear_13 rfl (lv_at hl 0 rfl) ?_
        refine rM_0_32 S hnX5 K hH (mG wd_333) dX5_clear_14 ?_
        refine lv_iload_n S.1 S.2.1 dX5_clear_17 rfl (lv_at hl 1 rfl) ?_
        refine lv_iconst (v := 0) S.1 S.2.1 dX5_clear_18 (by decide) ?_
        refine sM_32 S K hH hS (vin (by omega) (by omega)) dX5_clear_19 (fun H locs hH hS => ?_)
        obtain ⟨σ4, eσ4⟩ : ∃ z_9 : QS, z_9 = rs σ_2 32 0 (upd (σ_2 32 0) x1_2.toNatClampNeg (vp_nar .boolean 0)) := ⟨_, rfl⟩
        rw [← eσ4] at hH
        have hI := InvM_a eσ4 hI (by decide) (any32 _)
        have hP := Keep_w eσ4 hP (by decide)
        obtain ⟨v5, e5⟩ : ∃ y_9 : Int32, y_9 = x1_2 + 1 := ⟨_, rfl⟩
        have i5 : v5.toInt = x1_2.toInt + 1 := i_addc e5 (by decide) (by omega) (by omega)
        refine lv_iinc (v := v5) (lv' := [(1, .int v5), (0, .ref (L 0 0))]) S.1 S.2.1 dX5_clear_20 hl (k := 1) rfl (by rw [e5]; rfl) (by decide) rfl (fun ls hl => ?_)
        refine lv_goto (tgt := 7) S.1 S.2.1 dX5_clear_23 (by decide) ?_
        exact ih2 v5 σ4 _ _ ls (by omega) (by omega) (by intro s h9; rw [eσ4, rs_self]; unfold upd; have h8 := cl_eq (j := x1_2) (by omega); by_cases hq : s = (x1_2).toNatClampNeg; rw [if_pos hq]; rfl; rw [if_neg hq]; exact wc s (by omega)) hI hP hH hS (lv_sub hl [1, 0] rfl)
  exact cut_7_2 _ 0 σ1 _ _ ls (Nat.lt_succ_self _) (by omega) (by intro s h9; exact absurd h9 (by omega)) hI hP hH hS (lv_sub hl [1, 0] rfl)
set_option maxHeartbeats 4000000 in
set_option maxRecDepth 100000 in
theorem k_X5_count (l : Launch) (D : va_G) (B : Nat → ClassId) (L : QL) (A : Nat → Prop) (σ : QS) (τ : Int64) (a : Int32)  (hI : InvM σ) : cW cntM gM l D B L A yX5_count wsX5_count 0 0 [.ref (L 0 0), .int a] σ τ (pI (fun x σ' τ' => InvM σ' ∧ Keep [0] σ σ' ∧ τ' = τ ∧ ((a.toInt = 0 → x = σ 1 0 0) ∧ (a.toInt = 1 → x = σ 2 0 0) ∧ (a.toInt = 2 → x = σ 4 0 0) ∧ (a.toInt = 3 → x = cnB (fun i => decide (pM σ i 7 ≠ -1)) (σ 4 0 0).toNatClampNeg) ∧ (a.toInt = 4 → x = cnB (fun i => decide (pM σ i 3 ≠ -1)) (σ 4 0 0).toNatClampNeg) ∧ (a.toInt = 5 → x = σ 3 0 0) ∧ (a.toInt = 6 → x = smI (eM σ) (σ 2 0 0).toNatClampNeg) ∧ (a.toInt = 7 → x = cnB (fun i => decide (σ 32 0 i ≠ 0)) 9) ∧ ((a.toInt < 0 ∨ 7 < a.toInt) → x.toInt = -1)))) := by
  refine cW_of (cc := cX5_count) (nL := 4) (ret := (some .int)) (by decide) rfl (Nat.le_of_ble_eq_true rfl) ?_
  intro p e s m below meth c S hr hk K hH hS ls hl
  have hnX5 : ∀ w ∈ wsX50, w ∈ wsX5_count := fun w h => mG (tX5 w h)
  have lm1 : ((-1) : Int32).toInt = -1 := by decide
  have l0 : (0 : Int32).toInt = 0 := by decide
  have l1 : (1 : Int32).toInt = 1 := by decide
  have l9 : (9 : Int32).toInt = 9 := by decide
  have hP : Keep [0] σ σ := Keep_r
  have hl : lv_has ls 4 [(0, .ref (L 0 0)), (1, .int a)] := hl
  refine lv_aload_n S.1 S.2.1 dX5_count_0 rfl (lv_at hl 0 rfl) ?_
  refine lv_iconst (v := 0) S.1 S.2.1 dX5_count_1 (by decide) ?_
  refine pM_0_0 S hnX5 K hH hS (mG wd_337) dX5_count_2 (fun H locs hH hS => ?_)
  obtain ⟨σ1, eσ1⟩ : ∃ z_9 : QS, z_9 = rs σ 0 0 (fun _ => 0) := ⟨_, rfl⟩
  rw [← eσ1] at hH
  have hI := InvM_f eσ1 hI (by decide) (any32 _)
  have hP := Keep_w eσ1 hP (by decide)
  refine lv_iconst (v := 0) S.1 S.2.1 dX5_count_5 (by decide) ?_
  refine lv_istore_n (lv' := [(2, .int 0), (0, .ref (L 0 0)), (1, .int a)]) S.1 S.2.1 dX5_count_6 rfl hl (by decide) rfl (fun ls hl => ?_)
  refine lv_iload_n S.1 S.2.1 dX5_count_7 rfl (lv_at hl 2 rfl) ?_
  rcases sw_in a 0 7 with c2 | ⟨c2, d2⟩
  · refine lv_tableOut (tgt := 208) S.1 S.2.1 dX5_count_8 c2 (by decide) ?_
    refine lv_iconst (v := (-1)) S.1 S.2.1 dX5_count_208 (by decide) ?_
    refine cW_iret S hr hk hH hS ?_ dX5_count_209
    exact ⟨(-1), rfl, hI, hP, rfl, by refine ⟨fun _ => ?_, fun _ => ?_, fun _ => ?_, fun _ => ?_, fun _ => ?_, fun _ => ?_, fun _ => ?_, fun _ => ?_, fun _ => ?_⟩ <;> first | (exfalso; omega) | exact f57 | exact f62 | exact f67 | exact f144 | (rw [ws, cl_same (show zz.toInt = (σ 4 0 0).toInt by omega)]) | (rw [ws, cl_same (show zz.toInt = (σ 2 0 0).toInt by omega)]) | (rw [ws, show zz.toNatClampNeg = 9 by have z3 := cl_eq (j := zz) (by omega); omega]) | decide⟩
  · rcases (show a.toInt = 0 ∨ a.toInt = 1 ∨ a.toInt = 2 ∨ a.toInt = 3 ∨ a.toInt = 4 ∨ a.toInt = 5 ∨ a.toInt = 6 ∨ a.toInt = 7 by omega) with f2 | f2 | f2 | f2 | f2 | f2 | f2 | f2
    · refine lv_tableIn (off := 48) (tgt := 56) S.1 S.2.1 dX5_count_8 (by omega) (by omega) (by rw [f2]; rfl) (by decide) ?_
      refine lv_aload_n S.1 S.2.1 dX5_count_56 rfl (lv_at hl 1 rfl) ?_
      refine rM_0_1 S hnX5 K hH (mG wd_352) dX5_count_57 ?_
      refine lv_topi (fun v3 e3 => ?_)
      have b3 : 0 ≤ v3.toInt ∧ v3.toInt ≤ 5000 := by rw [e3]; exact hI.1 1 0 0
      have f57 : v3 = σ 1 0 0 := by rw [e3, eσ1, rs_v (by decide)]
      refine cW_iret S hr hk hH hS ?_ dX5_count_60
      exact ⟨v3, rfl, hI, hP, rfl, by refine ⟨fun _ => ?_, fun _ => ?_, fun _ => ?_, fun _ => ?_, fun _ => ?_, fun _ => ?_, fun _ => ?_, fun _ => ?_, fun _ => ?_⟩ <;> first | (exfalso; omega) | exact f57 | exact f62 | exact f67 | exact f144 | (rw [ws, cl_same (show zz.toInt = (σ 4 0 0).toInt by omega)]) | (rw [ws, cl_same (show zz.toInt = (σ 2 0 0).toInt by omega)]) | (rw [ws, show zz.toNatClampNeg = 9 by have z3 := cl_eq (j := zz) (by omega); omega]) | decide⟩
    · refine lv_tableIn (off := 53) (tgt := 61) S.1 S.2.1 dX5_count_8 (by omega) (by omega) (by rw [f2]; rfl) (by decide) ?_
      refine lv_aload_n S.1 S.2.1 dX5_count_61 rfl (lv_at hl 1 rfl) ?_
      refine rM_0_2 S hnX5 K hH (mG wd_335) dX5_count_62 ?_
      refine lv_topi (fun v4 e4 => ?_)
      have b4 : 0 ≤ v4.toInt ∧ v4.toInt ≤ 12 := by rw [e4]; exact hI.1 2 0 0
      have f62 : v4 = σ 2 0 0 := by rw [e4, eσ1, rs_v (by decide)]
      refine cW_iret S hr hk hH hS ?_ dX5_count_65
      exact ⟨v4, rfl, hI, hP, rfl, by refine ⟨fun _ => ?_, fun _ => ?_, fun _ => ?_, fun _ => ?_, fun _ => ?_, fun _ => ?_, fun _ => ?_, fun _ => ?_, fun _ => ?_⟩ <;> first | (exfalso; omega) | exact f57 | exact f62 | exact f67 | exact f144 | (rw [ws, cl_same (show zz.toInt = (σ 4 0 0).toInt by omega)]) | (rw [ws, cl_same (show zz.toInt = (σ 2 0 0).toInt by omega)]) | (rw [ws, show zz.toNatClampNeg = 9 by have z3 := cl_eq (j := zz) (by omega); omega]) | decide⟩
    · refine lv_tableIn (off := 58) (tgt := 66) S.1 S.2.1 dX5_count_8 (by omega) (by omega) (by rw [f2]; rfl) (by decide) ?_
      refine lv_aload_n S.1 S.2.1 dX5_count_66 rfl (lv_at hl 1 rfl) ?_
      refine rM_0_4 S hnX5 K hH (mG wd_336) dX5_count_67 ?_
      refine lv_topi (fun v5 e5 => ?_)
      have b5 : 0 ≤ v5.toInt ∧ v5.toInt ≤ 60 := by rw [e5]; exact hI.1 4 0 0
      have f67 : v5 = σ 4 0 0 := by rw [e5, eσ1, rs_v (by decide)]
      refine cW_iret S hr hk hH hS ?_ dX5_count_70
      exact ⟨v5, rfl, hI, hP, rfl, by refine ⟨fun _ => ?_, fun _ => ?_, fun _ => ?_, fun _ => ?_, fun _ => ?_, fun _ => ?_, fun _ => ?_, fun _ => ?_, fun _ => ?_⟩ <;> first | (exfalso; omega) | exact f57 | exact f62 | exact f67 | exact f144 | (rw [ws, cl_same (show zz.toInt = (σ 4 0 0).toInt by omega)]) | (rw [ws, cl_same (show zz.toInt = (σ 2 0 0).toInt by omega)]) | (rw [ws, show zz.toNatClampNeg = 9 by have z3 := cl_eq (j := zz) (by omega); omega]) | decide⟩
    · refine lv_tableIn (off := 63) (tgt := 71) S.1 S.2.1 dX5_count_8 (by omega) (by omega) (by rw [f2]; rfl) (by decide) ?_
      refine lv_iconst (v := 0) S.1 S.2.1 dX5_count_71 (by decide) ?_
      refine lv_istore_n (lv' := [(3, .int 0), (2, .int 0), (0, .ref (L 0 0)), (1, .int a)]) S.1 S.2.1 dX5_count_72 rfl hl (by decide) rfl (fun ls hl => ?_)
      have cut_73_6 : ∀ (n : Nat) (x2_6 : Int32) (x3_6 : Int32) (σ_6 : QS) (H : Heap) (locs : List Loc) (ls : Array Slot), (60 - x3_6.toInt).toNat < n → 0 ≤ x3_6.toInt ∧ x3_6.toInt ≤ 60 → (x2_6 = cnB (fun i => decide (pM σ i 7 ≠ -1)) x3_6.toNatClampNeg) → (x3_6.toInt ≤ (σ 4 0 0).toInt) → InvM σ_6 → Keep [0] σ σ_6 → hW cntM gM D B L σ_6 τ H → va_S A s.heap H locs → lv_has ls 4 [(0, .ref (L 0 0)), (2, .int x2_6), (3, .int x3_6)] → W p l e { frames := 0, cells := 0, slots := 0, locals := 0 } s m [.ref (L 0 0), .int a].toArray below meth c H locs 0 0 (MQ below (QcW cntM gM D B L A (pI (fun x σ' τ' => InvM σ' ∧ Keep [0] σ σ' ∧ τ' = τ ∧ ((a.toInt = 0 → x = σ 1 0 0) ∧ (a.toInt = 1 → x = σ 2 0 0) ∧ (a.toInt = 2 → x = σ 4 0 0) ∧ (a.toInt = 3 → x = cnB (fun i => decide (pM σ i 7 ≠ -1)) (σ 4 0 0).toNatClampNeg) ∧ (a.toInt = 4 → x = cnB (fun i => decide (pM σ i 3 ≠ -1)) (σ 4 0 0).toNatClampNeg) ∧ (a.toInt = 5 → x = σ 3 0 0) ∧ (a.toInt = 6 → x = smI (eM σ) (σ 2 0 0).toNatClampNeg) ∧ (a.toInt = 7 → x = cnB (fun i => decide (σ 32 0 i ≠ 0)) 9) ∧ ((a.toInt < 0 ∨ 7 < a.toInt) → x.toInt = -1))))) [.ref (L 0 0), .int a].toArray s 0 0 A) (F0 m 73 ls []) := by
        intro n
        induction n with
        | zero => intro x2_6 x3_6 σ_6 H locs ls hm; exact absurd hm (Nat.not_lt_zero _)
        | succ n ih6 =>
          intro x2_6 x3_6 σ_6 H locs ls hm6 h6_0 ws wl hI hP hH hS hl
          have pE : pM σ_6 = pM σ := pM_k hP (by decide)
          have y4 : (σ_6 4 0 0).toInt = (σ 4 0 0).toInt := by rw [hP 4 (by decide)]
          have k3 := cl_eq (j := x3_6) (by omega)
          refine lv_iload_n S.1 S.2.1 dX5_count_73 rfl (lv_at hl 2 rfl) ?_
          refine lv_aload_n S.1 S.2.1 dX5_count_74 rfl (lv_at hl 0 rfl) ?_
          refine rM_0_4 S hnX5 K hH (mG wd_336) dX5_count_75 ?_
          refine lv_topi (fun v7 e7 => ?_)
          have b7 : 0 ≤ v7.toInt ∧ v7.toInt ≤ 60 := by rw [e7]; exact hI.1 4 0 0
          have f75 : v7.toInt = (σ 4 0 0).toInt := by rw [e7]; exact y4
          refine lv_icmp_ge (tgt := 105) S.1 S.2.1 dX5_count_78 (by decide) (fun c8 => ?_) (fun c8 => ?_)
          · have j8 := t_le c8
            refine lv_iload_n S.1 S.2.1 dX5_count_105 rfl (lv_at hl 1 rfl) ?_
            refine cW_iret S hr hk hH hS ?_ dX5_count_106
            exact ⟨x2_6, rfl, hI, hP, rfl, by refine ⟨fun _ => ?_, fun _ => ?_, fun _ => ?_, fun _ => ?_, fun _ => ?_, fun _ => ?_, fun _ => ?_, fun _ => ?_, fun _ => ?_⟩ <;> first | (exfalso; omega) | exact f57 | exact f62 | exact f67 | exact f144 | (rw [ws, cl_same (show x3_6.toInt = (σ 4 0 0).toInt by omega)]) | (rw [ws, cl_same (show x3_6.toInt = (σ 2 0 0).toInt by omega)]) | (rw [ws, show x3_6.toNatClampNeg = 9 by have z3 := cl_eq (j := x3_6) (by omega); omega]) | decide⟩
          · have j8 := t_nle c8
            refine lv_iload_n S.1 S.2.1 dX5_count_81 rfl (lv_at hl 1 rfl) ?_
            refine lv_aload_n S.1 S.2.1 dX5_count_82 rfl (lv_at hl 0 rfl) ?_
            refine rM_0_25 S hnX5 K hH (mG wd_326) dX5_count_83 ?_
            refine lv_iload_n S.1 S.2.1 dX5_count_86 rfl (lv_at hl 2 rfl) ?_
            refine lM_25 S K hH (vin (by omega) (by omega)) dX5_count_87 ?_
            refine lv_topi (fun v9 e9 => ?_)
            have f87 : v9 = pM σ x3_6.toNatClampNeg 7 := by rw [e9, ← pE]; exact (pM_f (σ := σ_6) (f := 7) (by omega) (by decide) (by decide)).symm
            refine lv_iconst (v := (-1)) S.1 S.2.1 dX5_count_88 (by decide) ?_
            refine lv_icmp_eq (tgt := 96) S.1 S.2.1 dX5_count_89 (by decide) (fun c10 => ?_) (fun c10 => ?_)
            · have j10 := t_eq c10
              refine lv_iconst (v := 0) S.1 S.2.1 dX5_count_96 (by decide) ?_
              refine lv_iadd S.1 S.2.1 dX5_count_97 ?_
              have y11 := any32 x2_6
              refine lv_topi (fun v12 e12 => ?_)
              have i12 : v12.toInt = x2_6.toInt + (0 : Int32).toInt := i_add e12 (by omega) (by omega)
              refine lv_istore_n (lv' := [(2, .int v12), (0, .ref (L 0 0)), (3, .int x3_6)]) S.1 S.2.1 dX5_count_98 rfl hl (by decide) rfl (fun ls hl => ?_)
              obtain ⟨v13, e13⟩ : ∃ y_9 : Int32, y_9 = x3_6 + 1 := ⟨_, rfl⟩
              have i13 : v13.toInt = x3_6.toInt + 1 := i_addc e13 (by decide) (by omega) (by omega)
              refine lv_iinc (v := v13) (lv' := [(3, .int v13), (2, .int v12), (0, .ref (L 0 0))]) S.1 S.2.1 dX5_count_99 hl (k := 2) rfl (by rw [e13]; rfl) (by decide) rfl (fun ls hl => ?_)
              refine lv_goto (tgt := 73) S.1 S.2.1 dX5_count_102 (by decide) ?_
              exact ih6 v12 v13 σ_6 _ _ ls (by omega) (by omega) (by rw [cl_n1 i13 (by omega)]; first | (rw [e12]; exact cnB_y ws (decide_eq_true (fun y9 => c10 (f87.trans y9)))) | (rw [e12, i32_z]; exact cnB_n ws (fun y9 => of_decide_eq_true y9 (f87.symm.trans c10)))) (by omega) hI hP hH hS (lv_sub hl [2, 1, 0] rfl)
            · have j10 := t_neq c10
              refine lv_iconst (v := 1) S.1 S.2.1 dX5_count_92 (by decide) ?_
              refine lv_goto (tgt := 97) S.1 S.2.1 dX5_count_93 (by decide) ?_
              refine lv_iadd S.1 S.2.1 dX5_count_97 ?_
              refine lv_topi (fun v14 e14 => ?_)
              refine lv_istore_n (lv' := [(2, .int v14), (0, .ref (L 0 0)), (3, .int x3_6)]) S.1 S.2.1 dX5_count_98 rfl hl (by decide) rfl (fun ls hl => ?_)
              obtain ⟨v15, e15⟩ : ∃ y_9 : Int32, y_9 = x3_6 + 1 := ⟨_, rfl⟩
              have i15 : v15.toInt = x3_6.toInt + 1 := i_addc e15 (by decide) (by omega) (by omega)
              refine lv_iinc (v := v15) (lv' := [(3, .int v15), (2, .int v14), (0, .ref (L 0 0))]) S.1 S.2.1 dX5_count_99 hl (k := 2) rfl (by rw [e15]; rfl) (by decide) rfl (fun ls hl => ?_)
              refine lv_goto (tgt := 73) S.1 S.2.1 dX5_count_102 (by decide) ?_
              exact ih6 v14 v15 σ_6 _ _ ls (by omega) (by omega) (by rw [cl_n1 i15 (by omega)]; first | (rw [e14]; exact cnB_y ws (decide_eq_true (fun y9 => c10 (f87.trans y9)))) | (rw [e14, i32_z]; exact cnB_n ws (fun y9 => of_decide_eq_true y9 (f87.symm.trans c10)))) (by omega) hI hP hH hS (lv_sub hl [2, 1, 0] rfl)
      exact cut_73_6 _ 0 0 σ1 _ _ ls (Nat.lt_succ_self _) (by omega) (by rfl) (by have z9 : 0 ≤ (σ 4 0 0).toInt ∧ (σ 4 0 0).toInt ≤ 60 := InvM4 hI hP; omega) hI hP hH hS (lv_sub hl [2, 1, 0] rfl)
    · refine lv_tableIn (off := 99) (tgt := 107) S.1 S.2.1 dX5_count_8 (by omega) (by omega) (by rw [f2]; rfl) (by decide) ?_
      refine lv_iconst (v := 0) S.1 S.2.1 dX5_count_107 (by decide) ?_
      refine lv_istore_n (lv' := [(3, .int 0), (2, .int 0), (0, .ref (L 0 0)), (1, .int a)]) S.1 S.2.1 dX5_count_108 rfl hl (by decide) rfl (fun ls hl => ?_)
      have cut_109_16 : ∀ (n : Nat) (x2_16 : Int32) (x3_16 : Int32) (σ_16 : QS) (H : Heap) (locs : List Loc) (ls : Array Slot), (60 - x3_16.toInt).toNat < n → 0 ≤ x3_16.toInt ∧ x3_16.toInt ≤ 60 → (x2_16 = cnB (fun i => decide (pM σ i 3 ≠ -1)) x3_16.toNatClampNeg) → (x3_16.toInt ≤ (σ 4 0 0).toInt) → InvM σ_16 → Keep [0] σ σ_16 → hW cntM gM D B L σ_16 τ H → va_S A s.heap H locs → lv_has ls 4 [(0, .ref (L 0 0)), (2, .int x2_16), (3, .int x3_16)] → W p l e { frames := 0, cells := 0, slots := 0, locals := 0 } s m [.ref (L 0 0), .int a].toArray below meth c H locs 0 0 (MQ below (QcW cntM gM D B L A (pI (fun x σ' τ' => InvM σ' ∧ Keep [0] σ σ' ∧ τ' = τ ∧ ((a.toInt = 0 → x = σ 1 0 0) ∧ (a.toInt = 1 → x = σ 2 0 0) ∧ (a.toInt = 2 → x = σ 4 0 0) ∧ (a.toInt = 3 → x = cnB (fun i => decide (pM σ i 7 ≠ -1)) (σ 4 0 0).toNatClampNeg) ∧ (a.toInt = 4 → x = cnB (fun i => decide (pM σ i 3 ≠ -1)) (σ 4 0 0).toNatClampNeg) ∧ (a.toInt = 5 → x = σ 3 0 0) ∧ (a.toInt = 6 → x = smI (eM σ) (σ 2 0 0).toNatClampNeg) ∧ (a.toInt = 7 → x = cnB (fun i => decide (σ 32 0 i ≠ 0)) 9) ∧ ((a.toInt < 0 ∨ 7 < a.toInt) → x.toInt = -1))))) [.ref (L 0 0), .int a].toArray s 0 0 A) (F0 m 109 ls []) := by
        intro n
        induction n with
        | zero => intro x2_16 x3_16 σ_16 H locs ls hm; exact absurd hm (Nat.not_lt_zero _)
        | succ n ih16 =>
          intro x2_16 x3_16 σ_16 H locs ls hm16 h16_0 ws wl hI hP hH hS hl
          have pE : pM σ_16 = pM σ := pM_k hP (by decide)
          have y4 : (σ_16 4 0 0).toInt = (σ 4 0 0).toInt := by rw [hP 4 (by decide)]
          have k3 := cl_eq (j := x3_16) (by omega)
          refine lv_iload_n S.1 S.2.1 dX5_count_109 rfl (lv_at hl 2 rfl) ?_
          refine lv_aload_n S.1 S.2.1 dX5_count_110 rfl (lv_at hl 0 rfl) ?_
          refine rM_0_4 S hnX5 K hH (mG wd_336) dX5_count_111 ?_
          refine lv_topi (fun v17 e17 => ?_)
          have b17 : 0 ≤ v17.toInt ∧ v17.toInt ≤ 60 := by rw [e17]; exact hI.1 4 0 0
          have f111 : v17.toInt = (σ 4 0 0).toInt := by rw [e17]; exact y4
          refine lv_icmp_ge (tgt := 141) S.1 S.2.1 dX5_count_114 (by decide) (fun c18 => ?_) (fun c18 => ?_)
          · have j18 := t_le c18
            refine lv_iload_n S.1 S.2.1 dX5_count_141 rfl (lv_at hl 1 rfl) ?_
            refine cW_iret S hr hk hH hS ?_ dX5_count_142
            exact ⟨x2_16, rfl, hI, hP, rfl, by refine ⟨fun _ => ?_, fun _ => ?_, fun _ => ?_, fun _ => ?_, fun _ => ?_, fun _ => ?_, fun _ => ?_, fun _ => ?_, fun _ => ?_⟩ <;> first | (exfalso; omega) | exact f57 | exact f62 | exact f67 | exact f144 | (rw [ws, cl_same (show x3_16.toInt = (σ 4 0 0).toInt by omega)]) | (rw [ws, cl_same (show x3_16.toInt = (σ 2 0 0).toInt by omega)]) | (rw [ws, show x3_16.toNatClampNeg = 9 by have z3 := cl_eq (j := x3_16) (by omega); omega]) | decide⟩
          · have j18 := t_nle c18
            refine lv_iload_n S.1 S.2.1 dX5_count_117 rfl (lv_at hl 1 rfl) ?_
            refine lv_aload_n S.1 S.2.1 dX5_count_118 rfl (lv_at hl 0 rfl) ?_
            refine rM_0_21 S hnX5 K hH (mG wd_322) dX5_count_119 ?_
            refine lv_iload_n S.1 S.2.1 dX5_count_122 rfl (lv_at hl 2 rfl) ?_
            refine lM_21 S K hH (vin (by omega) (by omega)) dX5_count_123 ?_
            refine lv_topi (fun v19 e19 => ?_)
            have b19 : (-1) ≤ v19.toInt ∧ v19.toInt ≤ 11 := by rw [e19]; exact hI.1 21 0 x3_16.toNatClampNeg
            have f123 : v19 = pM σ x3_16.toNatClampNeg 3 := by rw [e19, ← pE]; exact (pM_f (σ := σ_16) (f := 3) (by omega) (by decide) (by decide)).symm
            refine lv_iconst (v := (-1)) S.1 S.2.1 dX5_count_124 (by decide) ?_
            refine lv_icmp_eq (tgt := 132) S.1 S.2.1 dX5_count_125 (by decide) (fun c20 => ?_) (fun c20 => ?_)
            · have j20 := t_eq c20
              refine lv_iconst (v := 0) S.1 S.2.1 dX5_count_132 (by decide) ?_
              refine lv_iadd S.1 S.2.1 dX5_count_133 ?_
              have y21 := any32 x2_16
              refine lv_topi (fun v22 e22 => ?_)
              have i22 : v22.toInt = x2_16.toInt + (0 : Int32).toInt := i_add e22 (by omega) (by omega)
              refine lv_istore_n (lv' := [(2, .int v22), (0, .ref (L 0 0)), (3, .int x3_16)]) S.1 S.2.1 dX5_count_134 rfl hl (by decide) rfl (fun ls hl => ?_)
              obtain ⟨v23, e23⟩ : ∃ y_9 : Int32, y_9 = x3_16 + 1 := ⟨_, rfl⟩
              have i23 : v23.toInt = x3_16.toInt + 1 := i_addc e23 (by decide) (by omega) (by omega)
              refine lv_iinc (v := v23) (lv' := [(3, .int v23), (2, .int v22), (0, .ref (L 0 0))]) S.1 S.2.1 dX5_count_135 hl (k := 2) rfl (by rw [e23]; rfl) (by decide) rfl (fun ls hl => ?_)
              refine lv_goto (tgt := 109) S.1 S.2.1 dX5_count_138 (by decide) ?_
              exact ih16 v22 v23 σ_16 _ _ ls (by omega) (by omega) (by rw [cl_n1 i23 (by omega)]; first | (rw [e22]; exact cnB_y ws (decide_eq_true (fun y9 => c20 (f123.trans y9)))) | (rw [e22, i32_z]; exact cnB_n ws (fun y9 => of_decide_eq_true y9 (f123.symm.trans c20)))) (by omega) hI hP hH hS (lv_sub hl [2, 1, 0] rfl)
            · have j20 := t_neq c20
              refine lv_iconst (v := 1) S.1 S.2.1 dX5_count_128 (by decide) ?_
              refine lv_goto (tgt := 133) S.1 S.2.1 dX5_count_129 (by decide) ?_
              refine lv_iadd S.1 S.2.1 dX5_count_133 ?_
              refine lv_topi (fun v24 e24 => ?_)
              refine lv_istore_n (lv' := [(2, .int v24), (0, .ref (L 0 0)), (3, .int x3_16)]) S.1 S.2.1 dX5_count_134 rfl hl (by decide) rfl (fun ls hl => ?_)
              obtain ⟨v25, e25⟩ : ∃ y_9 : Int32, y_9 = x3_16 + 1 := ⟨_, rfl⟩
              have i25 : v25.toInt = x3_16.toInt + 1 := i_addc e25 (by decide) (by omega) (by omega)
              refine lv_iinc (v := v25) (lv' := [(3, .int v25), (2, .int v24), (0, .ref (L 0 0))]) S.1 S.2.1 dX5_count_135 hl (k := 2) rfl (by rw [e25]; rfl) (by decide) rfl (fun ls hl => ?_)
              refine lv_goto (tgt := 109) S.1 S.2.1 dX5_count_138 (by decide) ?_
              exact ih16 v24 v25 σ_16 _ _ ls (by omega) (by omega) (by rw [cl_n1 i25 (by omega)]; first | (rw [e24]; exact cnB_y ws (decide_eq_true (fun y9 => c20 (f123.trans y9)))) | (rw [e24, i32_z]; exact cnB_n ws (fun y9 => of_decide_eq_true y9 (f123.symm.trans c20)))) (by omega) hI hP hH hS (lv_sub hl [2, 1, 0] rfl)
      exact cut_109_16 _ 0 0 σ1 _ _ ls (Nat.lt_succ_self _) (by omega) (by rfl) (by have z9 : 0 ≤ (σ 4 0 0).toInt ∧ (σ 4 0 0).toInt ≤ 60 := InvM4 hI hP; omega) hI hP hH hS (lv_sub hl [2, 1, 0] rfl)
    · refine lv_tableIn (off := 135) (tgt := 143) S.1 S.2.1 dX5_count_8 (by omega) (by omega) (by rw [f2]; rfl) (by decide) ?_
      refine lv_aload_n S.1 S.2.1 dX5_count_143 rfl (lv_at hl 1 rfl) ?_
      refine rM_0_3 S hnX5 K hH (mG wd_353) dX5_count_144 ?_
      refine lv_topi (fun v26 e26 => ?_)
      have b26 : 0 ≤ v26.toInt ∧ v26.toInt ≤ 100 := by rw [e26]; exact hI.1 3 0 0
      have f144 : v26 = σ 3 0 0 := by rw [e26, eσ1, rs_v (by decide)]
      refine cW_iret S hr hk hH hS ?_ dX5_count_147
      exact ⟨v26, rfl, hI, hP, rfl, by refine ⟨fun _ => ?_, fun _ => ?_, fun _ => ?_, fun _ => ?_, fun _ => ?_, fun _ => ?_, fun _ => ?_, fun _ => ?_, fun _ => ?_⟩ <;> first | (exfalso; omega) | exact f57 | exact f62 | exact f67 | exact f144 | (rw [ws, cl_same (show zz.toInt = (σ 4 0 0).toInt by omega)]) | (rw [ws, cl_same (show zz.toInt = (σ 2 0 0).toInt by omega)]) | (rw [ws, show zz.toNatClampNeg = 9 by have z3 := cl_eq (j := zz) (by omega); omega]) | decide⟩
    · refine lv_tableIn (off := 140) (tgt := 148) S.1 S.2.1 dX5_count_8 (by omega) (by omega) (by rw [f2]; rfl) (by decide) ?_
      refine lv_iconst (v := 0) S.1 S.2.1 dX5_count_148 (by decide) ?_
      refine lv_istore_n (lv' := [(3, .int 0), (2, .int 0), (0, .ref (L 0 0)), (1, .int a)]) S.1 S.2.1 dX5_count_149 rfl hl (by decide) rfl (fun ls hl => ?_)
      have cut_150_27 : ∀ (n : Nat) (x2_27 : Int32) (x3_27 : Int32) (σ_27 : QS) (H : Heap) (locs : List Loc) (ls : Array Slot), (12 - x3_27.toInt).toNat < n → 0 ≤ x3_27.toInt ∧ x3_27.toInt ≤ 12 → (x2_27 = smI (eM σ) x3_27.toNatClampNeg) → (x3_27.toInt ≤ (σ 2 0 0).toInt) → InvM σ_27 → Keep [0] σ σ_27 → hW cntM gM D B L σ_27 τ H → va_S A s.heap H locs → lv_has ls 4 [(0, .ref (L 0 0)), (2, .int x2_27), (3, .int x3_27)] → W p l e { frames := 0, cells := 0, slots := 0, locals := 0 } s m [.ref (L 0 0), .int a].toArray below meth c H locs 0 0 (MQ below (QcW cntM gM D B L A (pI (fun x σ' τ' => InvM σ' ∧ Keep [0] σ σ' ∧ τ' = τ ∧ ((a.toInt = 0 → x = σ 1 0 0) ∧ (a.toInt = 1 → x = σ 2 0 0) ∧ (a.toInt = 2 → x = σ 4 0 0) ∧ (a.toInt = 3 → x = cnB (fun i => decide (pM σ i 7 ≠ -1)) (σ 4 0 0).toNatClampNeg) ∧ (a.toInt = 4 → x = cnB (fun i => decide (pM σ i 3 ≠ -1)) (σ 4 0 0).toNatClampNeg) ∧ (a.toInt = 5 → x = σ 3 0 0) ∧ (a.toInt = 6 → x = smI (eM σ) (σ 2 0 0).toNatClampNeg) ∧ (a.toInt = 7 → x = cnB (fun i => decide (σ 32 0 i ≠ 0)) 9) ∧ ((a.toInt < 0 ∨ 7 < a.toInt) → x.toInt = -1))))) [.ref (L 0 0), .int a].toArray s 0 0 A) (F0 m 150 ls []) := by
        intro n
        induction n with
        | zero => intro x2_27 x3_27 σ_27 H locs ls hm; exact absurd hm (Nat.not_lt_zero _)
        | succ n ih27 =>
          intro x2_27 x3_27 σ_27 H locs ls hm27 h27_0 ws wl hI hP hH hS hl
          have y2 : (σ_27 2 0 0).toInt = (σ 2 0 0).toInt := by rw [hP 2 (by decide)]
          refine lv_iload_n S.1 S.2.1 dX5_count_150 rfl (lv_at hl 2 rfl) ?_
          refine lv_aload_n S.1 S.2.1 dX5_count_151 rfl (lv_at hl 0 rfl) ?_
          refine rM_0_2 S hnX5 K hH (mG wd_335) dX5_count_152 ?_
          refine lv_topi (fun v28 e28 => ?_)
          have b28 : 0 ≤ v28.toInt ∧ v28.toInt ≤ 12 := by rw [e28]; exact hI.1 2 0 0
          have f152 : v28.toInt = (σ 2 0 0).toInt := by rw [e28]; exact y2
          refine lv_icmp_ge (tgt := 173) S.1 S.2.1 dX5_count_155 (by decide) (fun c29 => ?_) (fun c29 => ?_)
          · have j29 := t_le c29
            refine lv_iload_n S.1 S.2.1 dX5_count_173 rfl (lv_at hl 1 rfl) ?_
            refine cW_iret S hr hk hH hS ?_ dX5_count_174
            exact ⟨x2_27, rfl, hI, hP, rfl, by refine ⟨fun _ => ?_, fun _ => ?_, fun _ => ?_, fun _ => ?_, fun _ => ?_, fun _ => ?_, fun _ => ?_, fun _ => ?_, fun _ => ?_⟩ <;> first | (exfalso; omega) | exact f57 | exact f62 | exact f67 | exact f144 | (rw [ws, cl_same (show x3_27.toInt = (σ 4 0 0).toInt by omega)]) | (rw [ws, cl_same (show x3_27.toInt = (σ 2 0 0).toInt by omega)]) | (rw [ws, show x3_27.toNatClampNeg = 9 by have z3 := cl_eq (j := x3_27) (by omega); omega]) | decide⟩
          · have j29 := t_nle c29
            refine lv_iload_n S.1 S.2.1 dX5_count_158 rfl (lv_at hl 1 rfl) ?_
            refine lv_aload_n S.1 S.2.1 dX5_count_159 rfl (lv_at hl 0 rfl) ?_
            refine rM_0_10 S hnX5 K hH (mG wd_308) dX5_count_160 ?_
            refine lv_iload_n S.1 S.2.1 dX5_count_163 rfl (lv_at hl 2 rfl) ?_
            refine lM_10 S K hH (vin (by omega) (by omega)) dX5_count_164 ?_
            refine lv_topi (fun v30 e30 => ?_)
            have f164 : v30 = eM σ x3_27.toNatClampNeg := by rw [e30, hP 10 (by decide)]; unfold eM; rw [if_pos (cl_lt (n := 12) (by omega) (by omega))]
            refine lv_iadd S.1 S.2.1 dX5_count_165 ?_
            refine lv_topi (fun v31 e31 => ?_)
            refine lv_istore_n (lv' := [(2, .int v31), (0, .ref (L 0 0)), (3, .int x3_27)]) S.1 S.2.1 dX5_count_166 rfl hl (by decide) rfl (fun ls hl => ?_)
            obtain ⟨v32, e32⟩ : ∃ y_9 : Int32, y_9 = x3_27 + 1 := ⟨_, rfl⟩
            have i32 : v32.toInt = x3_27.toInt + 1 := i_addc e32 (by decide) (by omega) (by omega)
            refine lv_iinc (v := v32) (lv' := [(3, .int v32), (2, .int v31), (0, .ref (L 0 0))]) S.1 S.2.1 dX5_count_167 hl (k := 2) rfl (by rw [e32]; rfl) (by decide) rfl (fun ls hl => ?_)
            refine lv_goto (tgt := 150) S.1 S.2.1 dX5_count_170 (by decide) ?_
            exact ih27 v31 v32 σ_27 _ _ ls (by omega) (by omega) (by rw [cl_n1 i32 (by omega)]; show _ = smI (eM σ) _ + eM σ _; rw [e31, ws, f164]) (by omega) hI hP hH hS (lv_sub hl [2, 1, 0] rfl)
      exact cut_150_27 _ 0 0 σ1 _ _ ls (Nat.lt_succ_self _) (by omega) (by rfl) (by have z9 : 0 ≤ (σ 2 0 0).toInt ∧ (σ 2 0 0).toInt ≤ 12 := InvM2 hI hP; omega) hI hP hH hS (lv_sub hl [2, 1, 0] rfl)
    · refine lv_tableIn (off := 167) (tgt := 175) S.1 S.2.1 dX5_count_8 (by omega) (by omega) (by rw [f2]; rfl) (by decide) ?_
      refine lv_iconst (v := 0) S.1 S.2.1 dX5_count_175 (by decide) ?_
      refine lv_istore_n (lv' := [(3, .int 0), (2, .int 0), (0, .ref (L 0 0)), (1, .int a)]) S.1 S.2.1 dX5_count_176 rfl hl (by decide) rfl (fun ls hl => ?_)
      have cut_177_33 : ∀ (n : Nat) (x2_33 : Int32) (x3_33 : Int32) (σ_33 : QS) (H : Heap) (locs : List Loc) (ls : Array Slot), (9 - x3_33.toInt).toNat < n → 0 ≤ x3_33.toInt ∧ x3_33.toInt ≤ 9 → (x2_33 = cnB (fun i => decide (σ 32 0 i ≠ 0)) x3_33.toNatClampNeg) → InvM σ_33 → Keep [0] σ σ_33 → hW cntM gM D B L σ_33 τ H → va_S A s.heap H locs → lv_has ls 4 [(0, .ref (L 0 0)), (2, .int x2_33), (3, .int x3_33)] → W p l e { frames := 0, cells := 0, slots := 0, locals := 0 } s m [.ref (L 0 0), .int a].toArray below meth c H locs 0 0 (MQ below (QcW cntM gM D B L A (pI (fun x σ' τ' => InvM σ' ∧ Keep [0] σ σ' ∧ τ' = τ ∧ ((a.toInt = 0 → x = σ 1 0 0) ∧ (a.toInt = 1 → x = σ 2 0 0) ∧ (a.toInt = 2 → x = σ 4 0 0) ∧ (a.toInt = 3 → x = cnB (fun i => decide (pM σ i 7 ≠ -1)) (σ 4 0 0).toNatClampNeg) ∧ (a.toInt = 4 → x = cnB (fun i => decide (pM σ i 3 ≠ -1)) (σ 4 0 0).toNatClampNeg) ∧ (a.toInt = 5 → x = σ 3 0 0) ∧ (a.toInt = 6 → x = smI (eM σ) (σ 2 0 0).toNatClampNeg) ∧ (a.toInt = 7 → x = cnB (fun i => decide (σ 32 0 i ≠ 0)) 9) ∧ ((a.toInt < 0 ∨ 7 < a.toInt) → x.toInt = -1))))) [.ref (L 0 0), .int a].toArray s 0 0 A) (F0 m 177 ls []) := by
        intro n
        induction n with
        | zero => intro x2_33 x3_33 σ_33 H locs ls hm; exact absurd hm (Nat.not_lt_zero _)
        | succ n ih33 =>
          intro x2_33 x3_33 σ_33 H locs ls hm33 h33_0 ws hI hP hH hS hl
          refine lv_iload_n S.1 S.2.1 dX5_count_177 rfl (lv_at hl 2 rfl) ?_
          refine lv_bipush (v := 9) S.1 S.2.1 dX5_count_178 (by decide) ?_
          refine lv_icmp_ge (tgt := 206) S.1 S.2.1 dX5_count_180 (by decide) (fun c34 => ?_) (fun c34 => ?_)
          · have j34 := t_le c34
            refine lv_iload_n S.1 S.2.1 dX5_count_206 rfl (lv_at hl 1 rfl) ?_
            refine cW_iret S hr hk hH hS ?_ dX5_count_207
            exact ⟨x2_33, rfl, hI, hP, rfl, by refine ⟨fun _ => ?_, fun _ => ?_, fun _ => ?_, fun _ => ?_, fun _ => ?_, fun _ => ?_, fun _ => ?_, fun _ => ?_, fun _ => ?_⟩ <;> first | (exfalso; omega) | exact f57 | exact f62 | exact f67 | exact f144 | (rw [ws, cl_same (show x3_33.toInt = (σ 4 0 0).toInt by omega)]) | (rw [ws, cl_same (show x3_33.toInt = (σ 2 0 0).toInt by omega)]) | (rw [ws, show x3_33.toNatClampNeg = 9 by have z3 := cl_eq (j := x3_33) (by omega); omega]) | decide⟩
          · have j34 := t_nle c34
            refine lv_iload_n S.1 S.2.1 dX5_count_183 rfl (lv_at hl 1 rfl) ?_
            refine lv_aload_n S.1 S.2.1 dX5_count_184 rfl (lv_at hl 0 rfl) ?_
            refine rM_0_32 S hnX5 K hH (mG wd_333) dX5_count_185 ?_
            refine lv_iload_n S.1 S.2.1 dX5_count_188 rfl (lv_at hl 2 rfl) ?_
            refine lM_32 S K hH (vin (by omega) (by omega)) dX5_count_189 ?_
            refine lv_topi (fun v35 e35 => ?_)
            have f189 : v35 = σ 32 0 x3_33.toNatClampNeg := by rw [e35, hP 32 (by decide)]
            refine lv_if_eq (tgt := 197) S.1 S.2.1 dX5_count_190 (by decide) (fun c36 => ?_) (fun c36 => ?_)
            · have j36 := t_eq c36
              refine lv_iconst (v := 0) S.1 S.2.1 dX5_count_197 (by decide) ?_
              refine lv_iadd S.1 S.2.1 dX5_count_198 ?_
              have y37 := any32 x2_33
              refine lv_topi (fun v38 e38 => ?_)
              have i38 : v38.toInt = x2_33.toInt + (0 : Int32).toInt := i_add e38 (by omega) (by omega)
              refine lv_istore_n (lv' := [(2, .int v38), (0, .ref (L 0 0)), (3, .int x3_33)]) S.1 S.2.1 dX5_count_199 rfl hl (by decide) rfl (fun ls hl => ?_)
              obtain ⟨v39, e39⟩ : ∃ y_9 : Int32, y_9 = x3_33 + 1 := ⟨_, rfl⟩
              have i39 : v39.toInt = x3_33.toInt + 1 := i_addc e39 (by decide) (by omega) (by omega)
              refine lv_iinc (v := v39) (lv' := [(3, .int v39), (2, .int v38), (0, .ref (L 0 0))]) S.1 S.2.1 dX5_count_200 hl (k := 2) rfl (by rw [e39]; rfl) (by decide) rfl (fun ls hl => ?_)
              refine lv_goto (tgt := 177) S.1 S.2.1 dX5_count_203 (by decide) ?_
              exact ih33 v38 v39 σ_33 _ _ ls (by omega) (by omega) (by rw [cl_n1 i39 (by omega)]; first | (rw [e38]; exact cnB_y ws (decide_eq_true (fun y9 => c36 (f189.trans y9)))) | (rw [e38, i32_z]; exact cnB_n ws (fun y9 => of_decide_eq_true y9 (f189.symm.trans c36)))) hI hP hH hS (lv_sub hl [2, 1, 0] rfl)
            · have j36 := t_neq c36
              refine lv_iconst (v := 1) S.1 S.2.1 dX5_count_193 (by decide) ?_
              refine lv_goto (tgt := 198) S.1 S.2.1 dX5_count_194 (by decide) ?_
              refine lv_iadd S.1 S.2.1 dX5_count_198 ?_
              refine lv_topi (fun v40 e40 => ?_)
              refine lv_istore_n (lv' := [(2, .int v40), (0, .ref (L 0 0)), (3, .int x3_33)]) S.1 S.2.1 dX5_count_199 rfl hl (by decide) rfl (fun ls hl => ?_)
              obtain ⟨v41, e41⟩ : ∃ y_9 : Int32, y_9 = x3_33 + 1 := ⟨_, rfl⟩
              have i41 : v41.toInt = x3_33.toInt + 1 := i_addc e41 (by decide) (by omega) (by omega)
              refine lv_iinc (v := v41) (lv' := [(3, .int v41), (2, .int v40), (0, .ref (L 0 0))]) S.1 S.2.1 dX5_count_200 hl (k := 2) rfl (by rw [e41]; rfl) (by decide) rfl (fun ls hl => ?_)
              refine lv_goto (tgt := 177) S.1 S.2.1 dX5_count_203 (by decide) ?_
              exact ih33 v40 v41 σ_33 _ _ ls (by omega) (by omega) (by rw [cl_n1 i41 (by omega)]; first | (rw [e40]; exact cnB_y ws (decide_eq_true (fun y9 => c36 (f189.trans y9)))) | (rw [e40, i32_z]; exact cnB_n ws (fun y9 => of_decide_eq_true y9 (f189.symm.trans c36)))) hI hP hH hS (lv_sub hl [2, 1, 0] rfl)
      exact cut_177_33 _ 0 0 σ1 _ _ ls (Nat.lt_succ_self _) (by omega) (by rfl) hI hP hH hS (lv_sub hl [2, 1, 0] rfl)
