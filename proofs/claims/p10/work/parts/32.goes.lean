set_option maxHeartbeats 4000000 in
set_option maxRecDepth 100000 in
theorem k_X5_goes (l : Launch) (D : va_G) (B : Nat → ClassId) (L : QL) (A : Nat → Prop) (σ : QS) (τ : Int64) (m9 : Int32) (a : Int32) (t : Int32) (b : Int32) (fr lo : Nat) (IH : ∀ (σ : QS) (τ : Int64) (m1 a1 t1 b1 : Int32), (0 ≤ m1.toInt ∧ m1.toInt ≤ 8) → (0 ≤ a1.toInt ∧ a1.toInt ≤ 8) → InvM σ → cntB σ = m1.toInt → m1.toInt = m9.toInt + 1 → cW cntM gM l D B L A yX5_goes wsX5_goes fr lo [.ref (L 0 0), .int m1, .int a1, .int t1, .int b1] σ τ (pV (fun σ' τ' => InvM σ' ∧ Keep [34, 35, 36, 31, 30, 33] σ σ' ∧ σ' 33 = σ 33))) (hp0 : 0 ≤ m9.toInt ∧ m9.toInt ≤ 8) (hp1 : 0 ≤ a.toInt ∧ a.toInt ≤ 8) (hI : InvM σ) (hp3 : cntB σ = m9.toInt) : cW cntM gM l D B L A yX5_goes wsX5_goes (fr + 1) (8 + (8 + 11) + lo) [.ref (L 0 0), .int m9, .int a, .int t, .int b] σ τ (pV (fun σ' τ' => InvM σ' ∧ Keep [34, 35, 36, 31, 30, 33] σ σ' ∧ σ' 33 = σ 33)) := by
  refine cW_of (cc := cX5_goes) (nL := 8) (ret := none) (by decide) rfl (Nat.le_of_ble_eq_true rfl) ?_
  intro p e s m below meth c S hr hk K hH hS ls hl
  have hnX5 : ∀ w ∈ wsX50, w ∈ wsX5_goes := fun w h => mG (tX5 w h)
  have lm1 : ((-1) : Int32).toInt = -1 := by decide
  have l0 : (0 : Int32).toInt = 0 := by decide
  have l1 : (1 : Int32).toInt = 1 := by decide
  have l9 : (9 : Int32).toInt = 9 := by decide
  have hP : Keep [34, 35, 36, 31, 30, 33] σ σ := Keep_r
  have hl : lv_has ls 8 [(0, .ref (L 0 0)), (1, .int m9), (2, .int a), (3, .int t), (4, .int b)] := hl
  refine lv_iload_n S.1 S.2.1 dX5_goes_0 rfl (lv_at hl 3 rfl) ?_
  refine lv_iload_n S.1 S.2.1 dX5_goes_1 rfl (lv_at hl 1 rfl) ?_
  refine lv_if_ne (tgt := 9) S.1 S.2.1 dX5_goes_2 (by decide) (fun c1 => ?_) (fun c1 => ?_)
  · have j1 := t_neq c1
    refine lv_aload_n S.1 S.2.1 dX5_goes_9 rfl (lv_at hl 0 rfl) ?_
    refine rM_0_27 S hnX5 K hH (mG wd_328) dX5_goes_10 ?_
    refine lv_bipush (v := 9) S.1 S.2.1 dX5_goes_13 (by decide) ?_
    refine lv_iload_n S.1 S.2.1 dX5_goes_15 rfl (lv_at hl 2 rfl) ?_
    refine lv_imul S.1 S.2.1 dX5_goes_16 ?_
    refine lv_topi (fun v2 e2 => ?_)
    have i2 : v2.toInt = 9 * a.toInt := i_mulcl e2 (by decide) (by omega) (by omega)
    refine lM_27 S K hH (vin (by omega) (by omega)) dX5_goes_17 ?_
    refine lv_topi (fun v3 e3 => ?_)
    refine lv_iadd S.1 S.2.1 dX5_goes_18 ?_
    refine lv_topi (fun v4 e4 => ?_)
    refine lv_istore (lv' := [(5, .int v4), (0, .ref (L 0 0)), (1, .int m9), (2, .int a), (3, .int t), (4, .int b)]) S.1 S.2.1 dX5_goes_19 hl (by decide) rfl (fun ls hl => ?_)
    refine lv_iload S.1 S.2.1 dX5_goes_21 (lv_at hl 0 rfl) ?_
    refine lv_aload_n S.1 S.2.1 dX5_goes_23 rfl (lv_at hl 1 rfl) ?_
    refine rM_0_37 S hnX5 K hH (mG wd_379) dX5_goes_24 ?_
    refine lv_topi (fun v5 e5 => ?_)
    refine lv_icmp_gt (tgt := 111) S.1 S.2.1 dX5_goes_27 (by decide) (fun c6 => ?_) (fun c6 => ?_)
    · have j6 := t_lt c6
      refine lv_iconst (v := 1) S.1 S.2.1 dX5_goes_111 (by decide) ?_
      refine lv_istore (lv' := [(6, .int 1), (5, .int v4), (0, .ref (L 0 0)), (1, .int m9), (2, .int a), (3, .int t), (4, .int b)]) S.1 S.2.1 dX5_goes_112 hl (by decide) rfl (fun ls hl => ?_)
      have cut_114_7 : ∀ (n : Nat) (x6_7 : Int32) (σ_7 : QS) (τ_7 : Int64) (H : Heap) (locs : List Loc) (ls : Array Slot), (9 - x6_7.toInt).toNat < n → 1 ≤ x6_7.toInt ∧ x6_7.toInt ≤ 9 → (σ_7 33 = σ 33) → InvM σ_7 → Keep [34, 35, 36, 31, 30, 33] σ σ_7 → hW cntM gM D B L σ_7 τ_7 H → va_S A s.heap H locs → lv_has ls 8 [(0, .ref (L 0 0)), (1, .int m9), (2, .int a), (3, .int t), (4, .int b), (6, .int x6_7)] → W p l e { frames := fr + 1, cells := 0, slots := 0, locals := 8 + (8 + 11) + lo } s m [.ref (L 0 0), .int m9, .int a, .int t, .int b].toArray below meth c H locs 0 0 (MQ below (QcW cntM gM D B L A (pV (fun σ' τ' => InvM σ' ∧ Keep [34, 35, 36, 31, 30, 33] σ σ' ∧ σ' 33 = σ 33))) [.ref (L 0 0), .int m9, .int a, .int t, .int b].toArray s 0 0 A) (F0 m 114 ls []) := by
        intro n
        induction n with
        | zero => intro x6_7 σ_7 τ_7 H locs ls hm; exact absurd hm (Nat.not_lt_zero _)
        | succ n ih7 =>
          intro x6_7 σ_7 τ_7 H locs ls hm7 h7_0 hbe hI hP hH hS hl
          refine lv_iload S.1 S.2.1 dX5_goes_114 (lv_at hl 5 rfl) ?_
          refine lv_bipush (v := 9) S.1 S.2.1 dX5_goes_116 (by decide) ?_
          refine lv_icmp_ge (tgt := 228) S.1 S.2.1 dX5_goes_118 (by decide) (fun c8 => ?_) (fun c8 => ?_)
          · have j8 := t_le c8
            refine cW_vret S hr hk hH hS ?_ dX5_goes_228
            exact ⟨rfl, hI, hP, by first | rfl | exact hbe⟩
          · have j8 := t_nle c8
            refine lv_iload_n S.1 S.2.1 dX5_goes_121 rfl (lv_at hl 3 rfl) ?_
            refine lv_aload_n S.1 S.2.1 dX5_goes_122 rfl (lv_at hl 0 rfl) ?_
            refine rM_0_27 S hnX5 K hH (mG wd_328) dX5_goes_123 ?_
            refine lv_bipush (v := 9) S.1 S.2.1 dX5_goes_126 (by decide) ?_
            refine lv_iload_n S.1 S.2.1 dX5_goes_128 rfl (lv_at hl 2 rfl) ?_
            refine lv_imul S.1 S.2.1 dX5_goes_129 ?_
            refine lv_topi (fun v9 e9 => ?_)
            have i9 : v9.toInt = 9 * a.toInt := i_mulcl e9 (by decide) (by omega) (by omega)
            refine lv_iload S.1 S.2.1 dX5_goes_130 (lv_at hl 5 rfl) ?_
            refine lv_iadd S.1 S.2.1 dX5_goes_132 ?_
            refine lv_topi (fun v10 e10 => ?_)
            have i10 : v10.toInt = v9.toInt + x6_7.toInt := i_add e10 (by omega) (by omega)
            refine lM_27 S K hH (vin (by omega) (by omega)) dX5_goes_133 ?_
            refine lv_topi (fun v11 e11 => ?_)
            refine lv_iadd S.1 S.2.1 dX5_goes_134 ?_
            refine lv_topi (fun v12 e12 => ?_)
            refine lv_aload_n S.1 S.2.1 dX5_goes_135 rfl (lv_at hl 0 rfl) ?_
            refine rM_0_28 S hnX5 K hH (mG wd_329) dX5_goes_136 ?_
            refine lv_iload S.1 S.2.1 dX5_goes_139 (lv_at hl 5 rfl) ?_
            refine lM_28 S K hH (vin (by omega) (by omega)) dX5_goes_141 ?_
            refine lv_topi (fun v13 e13 => ?_)
            refine lv_iadd S.1 S.2.1 dX5_goes_142 ?_
            refine lv_topi (fun v14 e14 => ?_)
            refine lv_istore (lv' := [(7, .int v14), (0, .ref (L 0 0)), (1, .int m9), (2, .int a), (3, .int t), (4, .int b), (6, .int x6_7)]) S.1 S.2.1 dX5_goes_143 hl (by decide) rfl (fun ls hl => ?_)
            refine lv_aload_n S.1 S.2.1 dX5_goes_145 rfl (lv_at hl 1 rfl) ?_
            refine rM_0_32 S hnX5 K hH (mG wd_333) dX5_goes_146 ?_
            refine lv_iload S.1 S.2.1 dX5_goes_149 (lv_at hl 6 rfl) ?_
            refine lM_32 S K hH (vin (by omega) (by omega)) dX5_goes_151 ?_
            refine lv_topi (fun v15 e15 => ?_)
            refine lv_if_eq (tgt := 222) S.1 S.2.1 dX5_goes_152 (by decide) (fun c16 => ?_) (fun c16 => ?_)
            · have j16 := t_eq c16
              obtain ⟨v17, e17⟩ : ∃ y_9 : Int32, y_9 = x6_7 + 1 := ⟨_, rfl⟩
              have i17 : v17.toInt = x6_7.toInt + 1 := i_addc e17 (by decide) (by omega) (by omega)
              refine lv_iinc (v := v17) (lv' := [(6, .int v17), (7, .int v14), (0, .ref (L 0 0)), (1, .int m9), (2, .int a), (3, .int t), (4, .int b)]) S.1 S.2.1 dX5_goes_222 hl (k := 6) rfl (by rw [e17]; rfl) (by decide) rfl (fun ls hl => ?_)
              refine lv_goto (tgt := 114) S.1 S.2.1 dX5_goes_225 (by decide) ?_
              exact ih7 v17 σ_7 τ_7 _ _ ls (by omega) (by omega) (by first | exact hbe9 | exact hbe) hI hP hH hS (lv_sub hl [2, 3, 4, 5, 6, 0] rfl)
            · have j16 := t_neq c16
              refine lv_aload_n S.1 S.2.1 dX5_goes_155 rfl (lv_at hl 1 rfl) ?_
              refine rM_0_33 S hnX5 K hH (mG wd_334) dX5_goes_156 ?_
              refine lv_iload S.1 S.2.1 dX5_goes_159 (lv_at hl 6 rfl) ?_
              refine lM_33 S K hH (vin (by omega) (by omega)) dX5_goes_161 ?_
              refine lv_topi (fun v18 e18 => ?_)
              refine lv_if_ne (tgt := 222) S.1 S.2.1 dX5_goes_162 (by decide) (fun c19 => ?_) (fun c19 => ?_)
              · have j19 := t_neq c19
                obtain ⟨v20, e20⟩ : ∃ y_9 : Int32, y_9 = x6_7 + 1 := ⟨_, rfl⟩
                have i20 : v20.toInt = x6_7.toInt + 1 := i_addc e20 (by decide) (by omega) (by omega)
                refine lv_iinc (v := v20) (lv' := [(6, .int v20), (7, .int v14), (0, .ref (L 0 0)), (1, .int m9), (2, .int a), (3, .int t), (4, .int b)]) S.1 S.2.1 dX5_goes_222 hl (k := 6) rfl (by rw [e20]; rfl) (by decide) rfl (fun ls hl => ?_)
                refine lv_goto (tgt := 114) S.1 S.2.1 dX5_goes_225 (by decide) ?_
                exact ih7 v20 σ_7 τ_7 _ _ ls (by omega) (by omega) (by first | exact hbe9 | exact hbe) hI hP hH hS (lv_sub hl [2, 3, 4, 5, 6, 0] rfl)
              · have j19 := t_eq c19
                refine lv_iload S.1 S.2.1 dX5_goes_165 (lv_at hl 0 rfl) ?_
                refine lv_aload_n S.1 S.2.1 dX5_goes_167 rfl (lv_at hl 1 rfl) ?_
                refine rM_0_37 S hnX5 K hH (mG wd_379) dX5_goes_168 ?_
                refine lv_topi (fun v21 e21 => ?_)
                refine lv_icmp_le (tgt := 177) S.1 S.2.1 dX5_goes_171 (by decide) (fun c22 => ?_) (fun c22 => ?_)
                · have j22 := t_le c22
                  refine lv_aload_n S.1 S.2.1 dX5_goes_177 rfl (lv_at hl 1 rfl) ?_
                  refine rM_0_33 S hnX5 K hH (mG wd_334) dX5_goes_178 ?_
                  refine lv_iload S.1 S.2.1 dX5_goes_181 (lv_at hl 6 rfl) ?_
                  refine lv_iconst (v := 1) S.1 S.2.1 dX5_goes_183 (by decide) ?_
                  refine sM_33 S K hH hS (vin (by omega) (by omega)) dX5_goes_184 (fun H locs hH hS => ?_)
                  obtain ⟨σ23, eσ23⟩ : ∃ z_9 : QS, z_9 = rs σ_7 33 0 (upd (σ_7 33 0) x6_7.toNatClampNeg (vp_nar .boolean 1)) := ⟨_, rfl⟩
                  rw [← eσ23] at hH
                  have hI := InvM_a eσ23 hI (by decide) (any32 _)
                  have hP := Keep_w eσ23 hP (by decide)
                  have hb1 : cntB σ23 = m9.toInt + 1 := by rw [cntB_set eσ23 (by omega) (by omega) e18 (by omega), cntB_congr hbe]; omega
                  refine lv_aload_n S.1 S.2.1 dX5_goes_185 rfl (lv_at hl 1 rfl) ?_
                  refine rM_0_30 S hnX5 K hH (mG wd_331) dX5_goes_186 ?_
                  refine lv_iload_n S.1 S.2.1 dX5_goes_189 rfl (lv_at hl 2 rfl) ?_
                  refine lv_iload S.1 S.2.1 dX5_goes_190 (lv_at hl 6 rfl) ?_
                  refine sM_30 S K hH hS (vin (by omega) (by omega)) dX5_goes_192 (fun H locs hH hS => ?_)
                  obtain ⟨σ24, eσ24⟩ : ∃ z_9 : QS, z_9 = rs σ23 30 0 (upd (σ23 30 0) m9.toNatClampNeg x6_7) := ⟨_, rfl⟩
                  rw [← eσ24] at hH
                  have hI := InvM_a eσ24 hI (by decide) (any32 _)
                  have hP := Keep_w eσ24 hP (by decide)
                  have hb1 : cntB σ24 = m9.toInt + 1 := by rw [cntB_congr (σ := σ23) (by rw [eσ24, rs_v (by decide)])]; exact hb1
                  refine lv_aload_n S.1 S.2.1 dX5_goes_193 rfl (lv_at hl 1 rfl) ?_
                  refine lv_iload_n S.1 S.2.1 dX5_goes_194 rfl (lv_at hl 2 rfl) ?_
                  refine lv_iconst (v := 1) S.1 S.2.1 dX5_goes_195 (by decide) ?_
                  refine lv_iadd S.1 S.2.1 dX5_goes_196 ?_
                  refine lv_topi (fun v25 e25 => ?_)
                  have i25 : v25.toInt = m9.toInt + (1 : Int32).toInt := i_add e25 (by omega) (by omega)
                  refine lv_iload S.1 S.2.1 dX5_goes_197 (lv_at hl 6 rfl) ?_
                  refine lv_iload S.1 S.2.1 dX5_goes_199 (lv_at hl 0 rfl) ?_
                  refine lv_iload S.1 S.2.1 dX5_goes_201 (lv_at hl 5 rfl) ?_
                  refine lv_aload_n S.1 S.2.1 dX5_goes_203 rfl (lv_at hl 1 rfl) ?_
                  refine rM_0_29 S hnX5 K hH (mG wd_330) dX5_goes_204 ?_
                  refine lv_iload S.1 S.2.1 dX5_goes_207 (lv_at hl 6 rfl) ?_
                  refine lM_29 S K hH (vin (by omega) (by omega)) dX5_goes_209 ?_
                  refine lv_topi (fun v26 e26 => ?_)
                  refine lv_iadd S.1 S.2.1 dX5_goes_210 ?_
                  refine lv_topi (fun v27 e27 => ?_)
                  refine cW_bv (cW_V (n := 4) (As := [.int v25, .int x6_7, .int v14, .int v27]) (rest := []) (k := 0) (i := 0) S K hH (by decide) rfl rfl (IH σ24 τ_7 v25 x6_7 v14 v27 (by have h9 := cntB_le σ24; omega) (by omega) hI (by rw [hb1]; omega) (by omega)) gX5_goes_X5_goes rfl hdV_X5_goes ⟨Nat.le_refl _, Nat.le_refl _⟩ rfl hl.1 (Nat.le_of_ble_eq_true rfl) dX5_goes_211) hS (fun σ28 τ28 H locs q28 hH hS => ?_)
                  obtain ⟨hI, hP28, q28⟩ := q28
                  have hP := Keep_t hP hP28 (by decide)
                  refine lv_aload_n S.1 S.2.1 dX5_goes_214 rfl (lv_at hl 1 rfl) ?_
                  refine rM_0_33 S hnX5 K hH (mG wd_334) dX5_goes_215 ?_
                  refine lv_iload S.1 S.2.1 dX5_goes_218 (lv_at hl 6 rfl) ?_
                  refine lv_iconst (v := 0) S.1 S.2.1 dX5_goes_220 (by decide) ?_
                  refine sM_33 S K hH hS (vin (by omega) (by omega)) dX5_goes_221 (fun H locs hH hS => ?_)
                  obtain ⟨σ29, eσ29⟩ : ∃ z_9 : QS, z_9 = rs σ28 33 0 (upd (σ28 33 0) x6_7.toNatClampNeg (vp_nar .boolean 0)) := ⟨_, rfl⟩
                  rw [← eσ29] at hH
                  have hI := InvM_a eσ29 hI (by decide) (any32 _)
                  have hP := Keep_w eσ29 hP (by decide)
                  have hbe9 : σ29 33 = σ 33 := (been_back eσ23 (σ2 := σ24) (by rw [eσ24, rs_v (by decide)]) q28 eσ29 e18 (by omega)).trans hbe
                  obtain ⟨v30, e30⟩ : ∃ y_9 : Int32, y_9 = x6_7 + 1 := ⟨_, rfl⟩
                  have i30 : v30.toInt = x6_7.toInt + 1 := i_addc e30 (by decide) (by omega) (by omega)
                  refine lv_iinc (v := v30) (lv' := [(6, .int v30), (7, .int v14), (0, .ref (L 0 0)), (1, .int m9), (2, .int a), (3, .int t), (4, .int b)]) S.1 S.2.1 dX5_goes_222 hl (k := 6) rfl (by rw [e30]; rfl) (by decide) rfl (fun ls hl => ?_)
                  refine lv_goto (tgt := 114) S.1 S.2.1 dX5_goes_225 (by decide) ?_
                  exact ih7 v30 σ29 τ28 _ _ ls (by omega) (by omega) (by first | exact hbe9 | exact hbe) hI hP hH hS (lv_sub hl [2, 3, 4, 5, 6, 0] rfl)
                · have j22 := t_nle c22
                  refine lv_goto (tgt := 222) S.1 S.2.1 dX5_goes_174 (by decide) ?_
                  obtain ⟨v31, e31⟩ : ∃ y_9 : Int32, y_9 = x6_7 + 1 := ⟨_, rfl⟩
                  have i31 : v31.toInt = x6_7.toInt + 1 := i_addc e31 (by decide) (by omega) (by omega)
                  refine lv_iinc (v := v31) (lv' := [(6, .int v31), (7, .int v14), (0, .ref (L 0 0)), (1, .int m9), (2, .int a), (3, .int t), (4, .int b)]) S.1 S.2.1 dX5_goes_222 hl (k := 6) rfl (by rw [e31]; rfl) (by decide) rfl (fun ls hl => ?_)
                  refine lv_goto (tgt := 114) S.1 S.2.1 dX5_goes_225 (by decide) ?_
                  exact ih7 v31 σ_7 τ_7 _ _ ls (by omega) (by omega) (by first | exact hbe9 | exact hbe) hI hP hH hS (lv_sub hl [2, 3, 4, 5, 6, 0] rfl)
      exact cut_114_7 _ 1 σ τ _ _ ls (Nat.lt_succ_self _) (by omega) (by first | rfl | exact hbe) hI hP hH hS (lv_sub hl [2, 3, 4, 5, 6, 0] rfl)
    · have j6 := t_nlt c6
      refine lv_aload_n S.1 S.2.1 dX5_goes_30 rfl (lv_at hl 1 rfl) ?_
      refine rM_0_34 S hnX5 K hH (mG wd_380) dX5_goes_31 ?_
      refine lv_topi (fun v32 e32 => ?_)
      have b32 : (-1) ≤ v32.toInt ∧ v32.toInt ≤ 8 := by rw [e32]; exact hI.1 34 0 0
      refine lv_iconst (v := (-1)) S.1 S.2.1 dX5_goes_34 (by decide) ?_
      refine lv_icmp_eq (tgt := 65) S.1 S.2.1 dX5_goes_35 (by decide) (fun c33 => ?_) (fun c33 => ?_)
      · have j33 := t_eq c33
        refine lv_aload_n S.1 S.2.1 dX5_goes_65 rfl (lv_at hl 1 rfl) ?_
        refine lv_iload_n S.1 S.2.1 dX5_goes_66 rfl (lv_at hl 2 rfl) ?_
        refine pM_0_34 S hnX5 K hH hS (mG wd_380) dX5_goes_67 (fun H locs hH hS => ?_)
        obtain ⟨σ34, eσ34⟩ : ∃ z_9 : QS, z_9 = rs σ 34 0 (fun _ => m9) := ⟨_, rfl⟩
        rw [← eσ34] at hH
        have hI := InvM_f eσ34 hI (by decide) (show ((-1) : Int) ≤ m9.toInt ∧ m9.toInt ≤ 8 by omega)
        have hP := Keep_w eσ34 hP (by decide)
        refine lv_aload_n S.1 S.2.1 dX5_goes_70 rfl (lv_at hl 1 rfl) ?_
        refine lv_iload S.1 S.2.1 dX5_goes_71 (lv_at hl 5 rfl) ?_
        refine pM_0_35 S hnX5 K hH hS (mG wd_381) dX5_goes_73 (fun H locs hH hS => ?_)
        obtain ⟨σ35, eσ35⟩ : ∃ z_9 : QS, z_9 = rs σ34 35 0 (fun _ => b) := ⟨_, rfl⟩
        rw [← eσ35] at hH
        have hI := InvM_f eσ35 hI (by decide) (any32 _)
        have hP := Keep_w eσ35 hP (by decide)
        refine lv_aload_n S.1 S.2.1 dX5_goes_76 rfl (lv_at hl 1 rfl) ?_
        refine lv_iload S.1 S.2.1 dX5_goes_77 (lv_at hl 0 rfl) ?_
        refine pM_0_36 S hnX5 K hH hS (mG wd_382) dX5_goes_79 (fun H locs hH hS => ?_)
        obtain ⟨σ36, eσ36⟩ : ∃ z_9 : QS, z_9 = rs σ35 36 0 (fun _ => v4) := ⟨_, rfl⟩
        rw [← eσ36] at hH
        have hI := InvM_f eσ36 hI (by decide) (any32 _)
        have hP := Keep_w eσ36 hP (by decide)
        refine lv_iconst (v := 0) S.1 S.2.1 dX5_goes_82 (by decide) ?_
        refine lv_istore (lv' := [(6, .int 0), (5, .int v4), (0, .ref (L 0 0)), (1, .int m9), (2, .int a), (3, .int t), (4, .int b)]) S.1 S.2.1 dX5_goes_83 hl (by decide) rfl (fun ls hl => ?_)
        have cut_85_37 : ∀ (n : Nat) (x6_37 : Int32) (σ_37 : QS) (τ_37 : Int64) (H : Heap) (locs : List Loc) (ls : Array Slot), (8 - x6_37.toInt).toNat < n → 0 ≤ x6_37.toInt ∧ x6_37.toInt ≤ 8 → (σ_37 33 = σ 33) → InvM σ_37 → Keep [34, 35, 36, 31, 30, 33] σ σ_37 → hW cntM gM D B L σ_37 τ_37 H → va_S A s.heap H locs → lv_has ls 8 [(0, .ref (L 0 0)), (1, .int m9), (2, .int a), (3, .int t), (4, .int b), (6, .int x6_37)] → W p l e { frames := fr + 1, cells := 0, slots := 0, locals := 8 + (8 + 11) + lo } s m [.ref (L 0 0), .int m9, .int a, .int t, .int b].toArray below meth c H locs 0 0 (MQ below (QcW cntM gM D B L A (pV (fun σ' τ' => InvM σ' ∧ Keep [34, 35, 36, 31, 30, 33] σ σ' ∧ σ' 33 = σ 33))) [.ref (L 0 0), .int m9, .int a, .int t, .int b].toArray s 0 0 A) (F0 m 85 ls []) := by
          intro n
          induction n with
          | zero => intro x6_37 σ_37 τ_37 H locs ls hm; exact absurd hm (Nat.not_lt_zero _)
          | succ n ih37 =>
            intro x6_37 σ_37 τ_37 H locs ls hm37 h37_0 hbe hI hP hH hS hl
            refine lv_iload S.1 S.2.1 dX5_goes_85 (lv_at hl 5 rfl) ?_
            refine lv_iload_n S.1 S.2.1 dX5_goes_87 rfl (lv_at hl 1 rfl) ?_
            refine lv_icmp_ge (tgt := 111) S.1 S.2.1 dX5_goes_88 (by decide) (fun c38 => ?_) (fun c38 => ?_)
            · have j38 := t_le c38
              refine lv_iconst (v := 1) S.1 S.2.1 dX5_goes_111 (by decide) ?_
              refine lv_istore (lv' := [(6, .int 1), (0, .ref (L 0 0)), (1, .int m9), (2, .int a), (3, .int t), (4, .int b)]) S.1 S.2.1 dX5_goes_112 hl (by decide) rfl (fun ls hl => ?_)
              have cut_114_39 : ∀ (n : Nat) (x6_39 : Int32) (σ_39 : QS) (τ_39 : Int64) (H : Heap) (locs : List Loc) (ls : Array Slot), (9 - x6_39.toInt).toNat < n → 1 ≤ x6_39.toInt ∧ x6_39.toInt ≤ 9 → (σ_39 33 = σ 33) → InvM σ_39 → Keep [34, 35, 36, 31, 30, 33] σ σ_39 → hW cntM gM D B L σ_39 τ_39 H → va_S A s.heap H locs → lv_has ls 8 [(0, .ref (L 0 0)), (1, .int m9), (2, .int a), (3, .int t), (4, .int b), (6, .int x6_39)] → W p l e { frames := fr + 1, cells := 0, slots := 0, locals := 8 + (8 + 11) + lo } s m [.ref (L 0 0), .int m9, .int a, .int t, .int b].toArray below meth c H locs 0 0 (MQ below (QcW cntM gM D B L A (pV (fun σ' τ' => InvM σ' ∧ Keep [34, 35, 36, 31, 30, 33] σ σ' ∧ σ' 33 = σ 33))) [.ref (L 0 0), .int m9, .int a, .int t, .int b].toArray s 0 0 A) (F0 m 114 ls []) := by
                intro n
                induction n with
                | zero => intro x6_39 σ_39 τ_39 H locs ls hm; exact absurd hm (Nat.not_lt_zero _)
                | succ n ih39 =>
                  intro x6_39 σ_39 τ_39 H locs ls hm39 h39_0 hbe hI hP hH hS hl
                  refine lv_iload S.1 S.2.1 dX5_goes_114 (lv_at hl 5 rfl) ?_
                  refine lv_bipush (v := 9) S.1 S.2.1 dX5_goes_116 (by decide) ?_
                  refine lv_icmp_ge (tgt := 228) S.1 S.2.1 dX5_goes_118 (by decide) (fun c40 => ?_) (fun c40 => ?_)
                  · have j40 := t_le c40
                    refine cW_vret S hr hk hH hS ?_ dX5_goes_228
                    exact ⟨rfl, hI, hP, by first | rfl | exact hbe⟩
                  · have j40 := t_nle c40
                    refine lv_iload_n S.1 S.2.1 dX5_goes_121 rfl (lv_at hl 3 rfl) ?_
                    refine lv_aload_n S.1 S.2.1 dX5_goes_122 rfl (lv_at hl 0 rfl) ?_
                    refine rM_0_27 S hnX5 K hH (mG wd_328) dX5_goes_123 ?_
                    refine lv_bipush (v := 9) S.1 S.2.1 dX5_goes_126 (by decide) ?_
                    refine lv_iload_n S.1 S.2.1 dX5_goes_128 rfl (lv_at hl 2 rfl) ?_
                    refine lv_imul S.1 S.2.1 dX5_goes_129 ?_
                    refine lv_topi (fun v41 e41 => ?_)
                    have i41 : v41.toInt = 9 * a.toInt := i_mulcl e41 (by decide) (by omega) (by omega)
                    refine lv_iload S.1 S.2.1 dX5_goes_130 (lv_at hl 5 rfl) ?_
                    refine lv_iadd S.1 S.2.1 dX5_goes_132 ?_
                    refine lv_topi (fun v42 e42 => ?_)
                    have i42 : v42.toInt = v41.toInt + x6_39.toInt := i_add e42 (by omega) (by omega)
                    refine lM_27 S K hH (vin (by omega) (by omega)) dX5_goes_133 ?_
                    refine lv_topi (fun v43 e43 => ?_)
                    refine lv_iadd S.1 S.2.1 dX5_goes_134 ?_
                    refine lv_topi (fun v44 e44 => ?_)
                    refine lv_aload_n S.1 S.2.1 dX5_goes_135 rfl (lv_at hl 0 rfl) ?_
                    refine rM_0_28 S hnX5 K hH (mG wd_329) dX5_goes_136 ?_
                    refine lv_iload S.1 S.2.1 dX5_goes_139 (lv_at hl 5 rfl) ?_
                    refine lM_28 S K hH (vin (by omega) (by omega)) dX5_goes_141 ?_
                    refine lv_topi (fun v45 e45 => ?_)
                    refine lv_iadd S.1 S.2.1 dX5_goes_142 ?_
                    refine lv_topi (fun v46 e46 => ?_)
                    refine lv_istore (lv' := [(7, .int v46), (0, .ref (L 0 0)), (1, .int m9), (2, .int a), (3, .int t), (4, .int b), (6, .int x6_39)]) S.1 S.2.1 dX5_goes_143 hl (by decide) rfl (fun ls hl => ?_)
                    refine lv_aload_n S.1 S.2.1 dX5_goes_145 rfl (lv_at hl 1 rfl) ?_
                    refine rM_0_32 S hnX5 K hH (mG wd_333) dX5_goes_146 ?_
                    refine lv_iload S.1 S.2.1 dX5_goes_149 (lv_at hl 6 rfl) ?_
                    refine lM_32 S K hH (vin (by omega) (by omega)) dX5_goes_151 ?_
                    refine lv_topi (fun v47 e47 => ?_)
                    refine lv_if_eq (tgt := 222) S.1 S.2.1 dX5_goes_152 (by decide) (fun c48 => ?_) (fun c48 => ?_)
                    · have j48 := t_eq c48
                      obtain ⟨v49, e49⟩ : ∃ y_9 : Int32, y_9 = x6_39 + 1 := ⟨_, rfl⟩
                      have i49 : v49.toInt = x6_39.toInt + 1 := i_addc e49 (by decide) (by omega) (by omega)
                      refine lv_iinc (v := v49) (lv' := [(6, .int v49), (7, .int v46), (0, .ref (L 0 0)), (1, .int m9), (2, .int a), (3, .int t), (4, .int b)]) S.1 S.2.1 dX5_goes_222 hl (k := 6) rfl (by rw [e49]; rfl) (by decide) rfl (fun ls hl => ?_)
                      refine lv_goto (tgt := 114) S.1 S.2.1 dX5_goes_225 (by decide) ?_
                      exact ih39 v49 σ_39 τ_39 _ _ ls (by omega) (by omega) (by first | exact hbe9 | exact hbe) hI hP hH hS (lv_sub hl [2, 3, 4, 5, 6, 0] rfl)
                    · have j48 := t_neq c48
                      refine lv_aload_n S.1 S.2.1 dX5_goes_155 rfl (lv_at hl 1 rfl) ?_
                      refine rM_0_33 S hnX5 K hH (mG wd_334) dX5_goes_156 ?_
                      refine lv_iload S.1 S.2.1 dX5_goes_159 (lv_at hl 6 rfl) ?_
                      refine lM_33 S K hH (vin (by omega) (by omega)) dX5_goes_161 ?_
                      refine lv_topi (fun v50 e50 => ?_)
                      refine lv_if_ne (tgt := 222) S.1 S.2.1 dX5_goes_162 (by decide) (fun c51 => ?_) (fun c51 => ?_)
                      · have j51 := t_neq c51
                        obtain ⟨v52, e52⟩ : ∃ y_9 : Int32, y_9 = x6_39 + 1 := ⟨_, rfl⟩
                        have i52 : v52.toInt = x6_39.toInt + 1 := i_addc e52 (by decide) (by omega) (by omega)
                        refine lv_iinc (v := v52) (lv' := [(6, .int v52), (7, .int v46), (0, .ref (L 0 0)), (1, .int m9), (2, .int a), (3, .int t), (4, .int b)]) S.1 S.2.1 dX5_goes_222 hl (k := 6) rfl (by rw [e52]; rfl) (by decide) rfl (fun ls hl => ?_)
                        refine lv_goto (tgt := 114) S.1 S.2.1 dX5_goes_225 (by decide) ?_
                        exact ih39 v52 σ_39 τ_39 _ _ ls (by omega) (by omega) (by first | exact hbe9 | exact hbe) hI hP hH hS (lv_sub hl [2, 3, 4, 5, 6, 0] rfl)
                      · have j51 := t_eq c51
                        refine lv_iload S.1 S.2.1 dX5_goes_165 (lv_at hl 0 rfl) ?_
                        refine lv_aload_n S.1 S.2.1 dX5_goes_167 rfl (lv_at hl 1 rfl) ?_
                        refine rM_0_37 S hnX5 K hH (mG wd_379) dX5_goes_168 ?_
                        refine lv_topi (fun v53 e53 => ?_)
                        refine lv_icmp_le (tgt := 177) S.1 S.2.1 dX5_goes_171 (by decide) (fun c54 => ?_) (fun c54 => ?_)
                        · have j54 := t_le c54
                          refine lv_aload_n S.1 S.2.1 dX5_goes_177 rfl (lv_at hl 1 rfl) ?_
                          refine rM_0_33 S hnX5 K hH (mG wd_334) dX5_goes_178 ?_
                          refine lv_iload S.1 S.2.1 dX5_goes_181 (lv_at hl 6 rfl) ?_
                          refine lv_iconst (v := 1) S.1 S.2.1 dX5_goes_183 (by decide) ?_
                          refine sM_33 S K hH hS (vin (by omega) (by omega)) dX5_goes_184 (fun H locs hH hS => ?_)
                          obtain ⟨σ55, eσ55⟩ : ∃ z_9 : QS, z_9 = rs σ_39 33 0 (upd (σ_39 33 0) x6_39.toNatClampNeg (vp_nar .boolean 1)) := ⟨_, rfl⟩
                          rw [← eσ55] at hH
                          have hI := InvM_a eσ55 hI (by decide) (any32 _)
                          have hP := Keep_w eσ55 hP (by decide)
                          have hb1 : cntB σ55 = m9.toInt + 1 := by rw [cntB_set eσ55 (by omega) (by omega) e50 (by omega), cntB_congr hbe]; omega
                          refine lv_aload_n S.1 S.2.1 dX5_goes_185 rfl (lv_at hl 1 rfl) ?_
                          refine rM_0_30 S hnX5 K hH (mG wd_331) dX5_goes_186 ?_
                          refine lv_iload_n S.1 S.2.1 dX5_goes_189 rfl (lv_at hl 2 rfl) ?_
                          refine lv_iload S.1 S.2.1 dX5_goes_190 (lv_at hl 6 rfl) ?_
                          refine sM_30 S K hH hS (vin (by omega) (by omega)) dX5_goes_192 (fun H locs hH hS => ?_)
                          obtain ⟨σ56, eσ56⟩ : ∃ z_9 : QS, z_9 = rs σ55 30 0 (upd (σ55 30 0) m9.toNatClampNeg x6_39) := ⟨_, rfl⟩
                          rw [← eσ56] at hH
                          have hI := InvM_a eσ56 hI (by decide) (any32 _)
                          have hP := Keep_w eσ56 hP (by decide)
                          have hb1 : cntB σ56 = m9.toInt + 1 := by rw [cntB_congr (σ := σ55) (by rw [eσ56, rs_v (by decide)])]; exact hb1
                          refine lv_aload_n S.1 S.2.1 dX5_goes_193 rfl (lv_at hl 1 rfl) ?_
                          refine lv_iload_n S.1 S.2.1 dX5_goes_194 rfl (lv_at hl 2 rfl) ?_
                          refine lv_iconst (v := 1) S.1 S.2.1 dX5_goes_195 (by decide) ?_
                          refine lv_iadd S.1 S.2.1 dX5_goes_196 ?_
                          refine lv_topi (fun v57 e57 => ?_)
                          have i57 : v57.toInt = m9.toInt + (1 : Int32).toInt := i_add e57 (by omega) (by omega)
                          refine lv_iload S.1 S.2.1 dX5_goes_197 (lv_at hl 6 rfl) ?_
                          refine lv_iload S.1 S.2.1 dX5_goes_199 (lv_at hl 0 rfl) ?_
                          refine lv_iload S.1 S.2.1 dX5_goes_201 (lv_at hl 5 rfl) ?_
                          refine lv_aload_n S.1 S.2.1 dX5_goes_203 rfl (lv_at hl 1 rfl) ?_
                          refine rM_0_29 S hnX5 K hH (mG wd_330) dX5_goes_204 ?_
                          refine lv_iload S.1 S.2.1 dX5_goes_207 (lv_at hl 6 rfl) ?_
                          refine lM_29 S K hH (vin (by omega) (by omega)) dX5_goes_209 ?_
                          refine lv_topi (fun v58 e58 => ?_)
                          refine lv_iadd S.1 S.2.1 dX5_goes_210 ?_
                          refine lv_topi (fun v59 e59 => ?_)
                          refine cW_bv (cW_V (n := 4) (As := [.int v57, .int x6_39, .int v46, .int v59]) (rest := []) (k := 0) (i := 0) S K hH (by decide) rfl rfl (IH σ56 τ_39 v57 x6_39 v46 v59 (by have h9 := cntB_le σ56; omega) (by omega) hI (by rw [hb1]; omega) (by omega)) gX5_goes_X5_goes rfl hdV_X5_goes ⟨Nat.le_refl _, Nat.le_refl _⟩ rfl hl.1 (Nat.le_of_ble_eq_true rfl) dX5_goes_211) hS (fun σ60 τ60 H locs q60 hH hS => ?_)
                          obtain ⟨hI, hP60, q60⟩ := q60
                          have hP := Keep_t hP hP60 (by decide)
                          refine lv_aload_n S.1 S.2.1 dX5_goes_214 rfl (lv_at hl 1 rfl) ?_
                          refine rM_0_33 S hnX5 K hH (mG wd_334) dX5_goes_215 ?_
                          refine lv_iload S.1 S.2.1 dX5_goes_218 (lv_at hl 6 rfl) ?_
                          refine lv_iconst (v := 0) S.1 S.2.1 dX5_goes_220 (by decide) ?_
                          refine sM_33 S K hH hS (vin (by omega) (by omega)) dX5_goes_221 (fun H locs hH hS => ?_)
                          obtain ⟨σ61, eσ61⟩ : ∃ z_9 : QS, z_9 = rs σ60 33 0 (upd (σ60 33 0) x6_39.toNatClampNeg (vp_nar .boolean 0)) := ⟨_, rfl⟩
                          rw [← eσ61] at hH
                          have hI := InvM_a eσ61 hI (by decide) (any32 _)
                          have hP := Keep_w eσ61 hP (by decide)
                          have hbe9 : σ61 33 = σ 33 := (been_back eσ55 (σ2 := σ56) (by rw [eσ56, rs_v (by decide)]) q60 eσ61 e50 (by omega)).trans hbe
                          obtain ⟨v62, e62⟩ : ∃ y_9 : Int32, y_9 = x6_39 + 1 := ⟨_, rfl⟩
                          have i62 : v62.toInt = x6_39.toInt + 1 := i_addc e62 (by decide) (by omega) (by omega)
                          refine lv_iinc (v := v62) (lv' := [(6, .int v62), (7, .int v46), (0, .ref (L 0 0)), (1, .int m9), (2, .int a), (3, .int t), (4, .int b)]) S.1 S.2.1 dX5_goes_222 hl (k := 6) rfl (by rw [e62]; rfl) (by decide) rfl (fun ls hl => ?_)
                          refine lv_goto (tgt := 114) S.1 S.2.1 dX5_goes_225 (by decide) ?_
                          exact ih39 v62 σ61 τ60 _ _ ls (by omega) (by omega) (by first | exact hbe9 | exact hbe) hI hP hH hS (lv_sub hl [2, 3, 4, 5, 6, 0] rfl)
                        · have j54 := t_nle c54
                          refine lv_goto (tgt := 222) S.1 S.2.1 dX5_goes_174 (by decide) ?_
                          obtain ⟨v63, e63⟩ : ∃ y_9 : Int32, y_9 = x6_39 + 1 := ⟨_, rfl⟩
                          have i63 : v63.toInt = x6_39.toInt + 1 := i_addc e63 (by decide) (by omega) (by omega)
                          refine lv_iinc (v := v63) (lv' := [(6, .int v63), (7, .int v46), (0, .ref (L 0 0)), (1, .int m9), (2, .int a), (3, .int t), (4, .int b)]) S.1 S.2.1 dX5_goes_222 hl (k := 6) rfl (by rw [e63]; rfl) (by decide) rfl (fun ls hl => ?_)
                          refine lv_goto (tgt := 114) S.1 S.2.1 dX5_goes_225 (by decide) ?_
                          exact ih39 v63 σ_39 τ_39 _ _ ls (by omega) (by omega) (by first | exact hbe9 | exact hbe) hI hP hH hS (lv_sub hl [2, 3, 4, 5, 6, 0] rfl)
              exact cut_114_39 _ 1 σ_37 τ_37 _ _ ls (Nat.lt_succ_self _) (by omega) (by first | rfl | exact hbe) hI hP hH hS (lv_sub hl [1, 2, 3, 4, 5, 0] rfl)
            · have j38 := t_nle c38
              refine lv_aload_n S.1 S.2.1 dX5_goes_91 rfl (lv_at hl 0 rfl) ?_
              refine rM_0_31 S hnX5 K hH (mG wd_332) dX5_goes_92 ?_
              refine lv_iload S.1 S.2.1 dX5_goes_95 (lv_at hl 5 rfl) ?_
              refine lv_aload_n S.1 S.2.1 dX5_goes_97 rfl (lv_at hl 0 rfl) ?_
              refine rM_0_30 S hnX5 K hH (mG wd_331) dX5_goes_98 ?_
              refine lv_iload S.1 S.2.1 dX5_goes_101 (lv_at hl 5 rfl) ?_
              refine lM_30 S K hH (vin (by omega) (by omega)) dX5_goes_103 ?_
              refine lv_topi (fun v64 e64 => ?_)
              refine sM_31 S K hH hS (vin (by omega) (by omega)) dX5_goes_104 (fun H locs hH hS => ?_)
              obtain ⟨σ65, eσ65⟩ : ∃ z_9 : QS, z_9 = rs σ_37 31 0 (upd (σ_37 31 0) x6_37.toNatClampNeg v64) := ⟨_, rfl⟩
              rw [← eσ65] at hH
              have hI := InvM_a eσ65 hI (by decide) (any32 _)
              have hP := Keep_w eσ65 hP (by decide)
              obtain ⟨v66, e66⟩ : ∃ y_9 : Int32, y_9 = x6_37 + 1 := ⟨_, rfl⟩
              have i66 : v66.toInt = x6_37.toInt + 1 := i_addc e66 (by decide) (by omega) (by omega)
              refine lv_iinc (v := v66) (lv' := [(6, .int v66), (0, .ref (L 0 0)), (1, .int m9), (2, .int a), (3, .int t), (4, .int b)]) S.1 S.2.1 dX5_goes_105 hl (k := 5) rfl (by rw [e66]; rfl) (by decide) rfl (fun ls hl => ?_)
              refine lv_goto (tgt := 85) S.1 S.2.1 dX5_goes_108 (by decide) ?_
              exact ih37 v66 σ65 τ_37 _ _ ls (by omega) (by omega) (by rw [eσ65, rs_v (by decide)]; exact hbe) hI hP hH hS (lv_sub hl [1, 2, 3, 4, 5, 0] rfl)
        exact cut_85_37 _ 0 σ36 τ _ _ ls (Nat.lt_succ_self _) (by omega) (by rw [eσ36, rs_v (by decide), eσ35, rs_v (by decide), eσ34, rs_v (by decide)]) hI hP hH hS (lv_sub hl [2, 3, 4, 5, 6, 0] rfl)
      · have j33 := t_neq c33
        refine lv_iload S.1 S.2.1 dX5_goes_38 (lv_at hl 5 rfl) ?_
        refine lv_aload_n S.1 S.2.1 dX5_goes_40 rfl (lv_at hl 1 rfl) ?_
        refine rM_0_35 S hnX5 K hH (mG wd_381) dX5_goes_41 ?_
        refine lv_topi (fun v67 e67 => ?_)
        refine lv_icmp_gt (tgt := 65) S.1 S.2.1 dX5_goes_44 (by decide) (fun c68 => ?_) (fun c68 => ?_)
        · have j68 := t_lt c68
          refine lv_aload_n S.1 S.2.1 dX5_goes_65 rfl (lv_at hl 1 rfl) ?_
          refine lv_iload_n S.1 S.2.1 dX5_goes_66 rfl (lv_at hl 2 rfl) ?_
          refine pM_0_34 S hnX5 K hH hS (mG wd_380) dX5_goes_67 (fun H locs hH hS => ?_)
          obtain ⟨σ69, eσ69⟩ : ∃ z_9 : QS, z_9 = rs σ 34 0 (fun _ => m9) := ⟨_, rfl⟩
          rw [← eσ69] at hH
          have hI := InvM_f eσ69 hI (by decide) (show ((-1) : Int) ≤ m9.toInt ∧ m9.toInt ≤ 8 by omega)
          have hP := Keep_w eσ69 hP (by decide)
          refine lv_aload_n S.1 S.2.1 dX5_goes_70 rfl (lv_at hl 1 rfl) ?_
          refine lv_iload S.1 S.2.1 dX5_goes_71 (lv_at hl 5 rfl) ?_
          refine pM_0_35 S hnX5 K hH hS (mG wd_381) dX5_goes_73 (fun H locs hH hS => ?_)
          obtain ⟨σ70, eσ70⟩ : ∃ z_9 : QS, z_9 = rs σ69 35 0 (fun _ => b) := ⟨_, rfl⟩
          rw [← eσ70] at hH
          have hI := InvM_f eσ70 hI (by decide) (any32 _)
          have hP := Keep_w eσ70 hP (by decide)
          refine lv_aload_n S.1 S.2.1 dX5_goes_76 rfl (lv_at hl 1 rfl) ?_
          refine lv_iload S.1 S.2.1 dX5_goes_77 (lv_at hl 0 rfl) ?_
          refine pM_0_36 S hnX5 K hH hS (mG wd_382) dX5_goes_79 (fun H locs hH hS => ?_)
          obtain ⟨σ71, eσ71⟩ : ∃ z_9 : QS, z_9 = rs σ70 36 0 (fun _ => v4) := ⟨_, rfl⟩
          rw [← eσ71] at hH
          have hI := InvM_f eσ71 hI (by decide) (any32 _)
          have hP := Keep_w eσ71 hP (by decide)
          refine lv_iconst (v := 0) S.1 S.2.1 dX5_goes_82 (by decide) ?_
          refine lv_istore (lv' := [(6, .int 0), (5, .int v4), (0, .ref (L 0 0)), (1, .int m9), (2, .int a), (3, .int t), (4, .int b)]) S.1 S.2.1 dX5_goes_83 hl (by decide) rfl (fun ls hl => ?_)
          have cut_85_72 : ∀ (n : Nat) (x6_72 : Int32) (σ_72 : QS) (τ_72 : Int64) (H : Heap) (locs : List Loc) (ls : Array Slot), (8 - x6_72.toInt).toNat < n → 0 ≤ x6_72.toInt ∧ x6_72.toInt ≤ 8 → (σ_72 33 = σ 33) → InvM σ_72 → Keep [34, 35, 36, 31, 30, 33] σ σ_72 → hW cntM gM D B L σ_72 τ_72 H → va_S A s.heap H locs → lv_has ls 8 [(0, .ref (L 0 0)), (1, .int m9), (2, .int a), (3, .int t), (4, .int b), (6, .int x6_72)] → W p l e { frames := fr + 1, cells := 0, slots := 0, locals := 8 + (8 + 11) + lo } s m [.ref (L 0 0), .int m9, .int a, .int t, .int b].toArray below meth c H locs 0 0 (MQ below (QcW cntM gM D B L A (pV (fun σ' τ' => InvM σ' ∧ Keep [34, 35, 36, 31, 30, 33] σ σ' ∧ σ' 33 = σ 33))) [.ref (L 0 0), .int m9, .int a, .int t, .int b].toArray s 0 0 A) (F0 m 85 ls []) := by
            intro n
            induction n with
            | zero => intro x6_72 σ_72 τ_72 H locs ls hm; exact absurd hm (Nat.not_lt_zero _)
            | succ n ih72 =>
              intro x6_72 σ_72 τ_72 H locs ls hm72 h72_0 hbe hI hP hH hS hl
              refine lv_iload S.1 S.2.1 dX5_goes_85 (lv_at hl 5 rfl) ?_
              refine lv_iload_n S.1 S.2.1 dX5_goes_87 rfl (lv_at hl 1 rfl) ?_
              refine lv_icmp_ge (tgt := 111) S.1 S.2.1 dX5_goes_88 (by decide) (fun c73 => ?_) (fun c73 => ?_)
              · have j73 := t_le c73
                refine lv_iconst (v := 1) S.1 S.2.1 dX5_goes_111 (by decide) ?_
                refine lv_istore (lv' := [(6, .int 1), (0, .ref (L 0 0)), (1, .int m9), (2, .int a), (3, .int t), (4, .int b)]) S.1 S.2.1 dX5_goes_112 hl (by decide) rfl (fun ls hl => ?_)
                have cut_114_74 : ∀ (n : Nat) (x6_74 : Int32) (σ_74 : QS) (τ_74 : Int64) (H : Heap) (locs : List Loc) (ls : Array Slot), (9 - x6_74.toInt).toNat < n → 1 ≤ x6_74.toInt ∧ x6_74.toInt ≤ 9 → (σ_74 33 = σ 33) → InvM σ_74 → Keep [34, 35, 36, 31, 30, 33] σ σ_74 → hW cntM gM D B L σ_74 τ_74 H → va_S A s.heap H locs → lv_has ls 8 [(0, .ref (L 0 0)), (1, .int m9), (2, .int a), (3, .int t), (4, .int b), (6, .int x6_74)] → W p l e { frames := fr + 1, cells := 0, slots := 0, locals := 8 + (8 + 11) + lo } s m [.ref (L 0 0), .int m9, .int a, .int t, .int b].toArray below meth c H locs 0 0 (MQ below (QcW cntM gM D B L A (pV (fun σ' τ' => InvM σ' ∧ Keep [34, 35, 36, 31, 30, 33] σ σ' ∧ σ' 33 = σ 33))) [.ref (L 0 0), .int m9, .int a, .int t, .int b].toArray s 0 0 A) (F0 m 114 ls []) := by
                  intro n
                  induction n with
                  | zero => intro x6_74 σ_74 τ_74 H locs ls hm; exact absurd hm (Nat.not_lt_zero _)
                  | succ n ih74 =>
                    intro x6_74 σ_74 τ_74 H locs ls hm74 h74_0 hbe hI hP hH hS hl
                    refine lv_iload S.1 S.2.1 dX5_goes_114 (lv_at hl 5 rfl) ?_
                    refine lv_bipush (v := 9) S.1 S.2.1 dX5_goes_116 (by decide) ?_
                    refine lv_icmp_ge (tgt := 228) S.1 S.2.1 dX5_goes_118 (by decide) (fun c75 => ?_) (fun c75 => ?_)
                    · have j75 := t_le c75
                      refine cW_vret S hr hk hH hS ?_ dX5_goes_228
                      exact ⟨rfl, hI, hP, by first | rfl | exact hbe⟩
                    · have j75 := t_nle c75
                      refine lv_iload_n S.1 S.2.1 dX5_goes_121 rfl (lv_at hl 3 rfl) ?_
                      refine lv_aload_n S.1 S.2.1 dX5_goes_122 rfl (lv_at hl 0 rfl) ?_
                      refine rM_0_27 S hnX5 K hH (mG wd_328) dX5_goes_123 ?_
                      refine lv_bipush (v := 9) S.1 S.2.1 dX5_goes_126 (by decide) ?_
                      refine lv_iload_n S.1 S.2.1 dX5_goes_128 rfl (lv_at hl 2 rfl) ?_
                      refine lv_imul S.1 S.2.1 dX5_goes_129 ?_
                      refine lv_topi (fun v76 e76 => ?_)
                      have i76 : v76.toInt = 9 * a.toInt := i_mulcl e76 (by decide) (by omega) (by omega)
                      refine lv_iload S.1 S.2.1 dX5_goes_130 (lv_at hl 5 rfl) ?_
                      refine lv_iadd S.1 S.2.1 dX5_goes_132 ?_
                      refine lv_topi (fun v77 e77 => ?_)
                      have i77 : v77.toInt = v76.toInt + x6_74.toInt := i_add e77 (by omega) (by omega)
                      refine lM_27 S K hH (vin (by omega) (by omega)) dX5_goes_133 ?_
                      refine lv_topi (fun v78 e78 => ?_)
                      refine lv_iadd S.1 S.2.1 dX5_goes_134 ?_
                      refine lv_topi (fun v79 e79 => ?_)
                      refine lv_aload_n S.1 S.2.1 dX5_goes_135 rfl (lv_at hl 0 rfl) ?_
                      refine rM_0_28 S hnX5 K hH (mG wd_329) dX5_goes_136 ?_
                      refine lv_iload S.1 S.2.1 dX5_goes_139 (lv_at hl 5 rfl) ?_
                      refine lM_28 S K hH (vin (by omega) (by omega)) dX5_goes_141 ?_
                      refine lv_topi (fun v80 e80 => ?_)
                      refine lv_iadd S.1 S.2.1 dX5_goes_142 ?_
                      refine lv_topi (fun v81 e81 => ?_)
                      refine lv_istore (lv' := [(7, .int v81), (0, .ref (L 0 0)), (1, .int m9), (2, .int a), (3, .int t), (4, .int b), (6, .int x6_74)]) S.1 S.2.1 dX5_goes_143 hl (by decide) rfl (fun ls hl => ?_)
                      refine lv_aload_n S.1 S.2.1 dX5_goes_145 rfl (lv_at hl 1 rfl) ?_
                      refine rM_0_32 S hnX5 K hH (mG wd_333) dX5_goes_146 ?_
                      refine lv_iload S.1 S.2.1 dX5_goes_149 (lv_at hl 6 rfl) ?_
                      refine lM_32 S K hH (vin (by omega) (by omega)) dX5_goes_151 ?_
                      refine lv_topi (fun v82 e82 => ?_)
                      refine lv_if_eq (tgt := 222) S.1 S.2.1 dX5_goes_152 (by decide) (fun c83 => ?_) (fun c83 => ?_)
                      · have j83 := t_eq c83
                        obtain ⟨v84, e84⟩ : ∃ y_9 : Int32, y_9 = x6_74 + 1 := ⟨_, rfl⟩
                        have i84 : v84.toInt = x6_74.toInt + 1 := i_addc e84 (by decide) (by omega) (by omega)
                        refine lv_iinc (v := v84) (lv' := [(6, .int v84), (7, .int v81), (0, .ref (L 0 0)), (1, .int m9), (2, .int a), (3, .int t), (4, .int b)]) S.1 S.2.1 dX5_goes_222 hl (k := 6) rfl (by rw [e84]; rfl) (by decide) rfl (fun ls hl => ?_)
                        refine lv_goto (tgt := 114) S.1 S.2.1 dX5_goes_225 (by decide) ?_
                        exact ih74 v84 σ_74 τ_74 _ _ ls (by omega) (by omega) (by first | exact hbe9 | exact hbe) hI hP hH hS (lv_sub hl [2, 3, 4, 5, 6, 0] rfl)
                      · have j83 := t_neq c83
                        refine lv_aload_n S.1 S.2.1 dX5_goes_155 rfl (lv_at hl 1 rfl) ?_
                        refine rM_0_33 S hnX5 K hH (mG wd_334) dX5_goes_156 ?_
                        refine lv_iload S.1 S.2.1 dX5_goes_159 (lv_at hl 6 rfl) ?_
                        refine lM_33 S K hH (vin (by omega) (by omega)) dX5_goes_161 ?_
                        refine lv_topi (fun v85 e85 => ?_)
                        refine lv_if_ne (tgt := 222) S.1 S.2.1 dX5_goes_162 (by decide) (fun c86 => ?_) (fun c86 => ?_)
                        · have j86 := t_neq c86
                          obtain ⟨v87, e87⟩ : ∃ y_9 : Int32, y_9 = x6_74 + 1 := ⟨_, rfl⟩
                          have i87 : v87.toInt = x6_74.toInt + 1 := i_addc e87 (by decide) (by omega) (by omega)
                          refine lv_iinc (v := v87) (lv' := [(6, .int v87), (7, .int v81), (0, .ref (L 0 0)), (1, .int m9), (2, .int a), (3, .int t), (4, .int b)]) S.1 S.2.1 dX5_goes_222 hl (k := 6) rfl (by rw [e87]; rfl) (by decide) rfl (fun ls hl => ?_)
                          refine lv_goto (tgt := 114) S.1 S.2.1 dX5_goes_225 (by decide) ?_
                          exact ih74 v87 σ_74 τ_74 _ _ ls (by omega) (by omega) (by first | exact hbe9 | exact hbe) hI hP hH hS (lv_sub hl [2, 3, 4, 5, 6, 0] rfl)
                        · have j86 := t_eq c86
                          refine lv_iload S.1 S.2.1 dX5_goes_165 (lv_at hl 0 rfl) ?_
                          refine lv_aload_n S.1 S.2.1 dX5_goes_167 rfl (lv_at hl 1 rfl) ?_
                          refine rM_0_37 S hnX5 K hH (mG wd_379) dX5_goes_168 ?_
                          refine lv_topi (fun v88 e88 => ?_)
                          refine lv_icmp_le (tgt := 177) S.1 S.2.1 dX5_goes_171 (by decide) (fun c89 => ?_) (fun c89 => ?_)
                          · have j89 := t_le c89
                            refine lv_aload_n S.1 S.2.1 dX5_goes_177 rfl (lv_at hl 1 rfl) ?_
                            refine rM_0_33 S hnX5 K hH (mG wd_334) dX5_goes_178 ?_
                            refine lv_iload S.1 S.2.1 dX5_goes_181 (lv_at hl 6 rfl) ?_
                            refine lv_iconst (v := 1) S.1 S.2.1 dX5_goes_183 (by decide) ?_
                            refine sM_33 S K hH hS (vin (by omega) (by omega)) dX5_goes_184 (fun H locs hH hS => ?_)
                            obtain ⟨σ90, eσ90⟩ : ∃ z_9 : QS, z_9 = rs σ_74 33 0 (upd (σ_74 33 0) x6_74.toNatClampNeg (vp_nar .boolean 1)) := ⟨_, rfl⟩
                            rw [← eσ90] at hH
                            have hI := InvM_a eσ90 hI (by decide) (any32 _)
                            have hP := Keep_w eσ90 hP (by decide)
                            have hb1 : cntB σ90 = m9.toInt + 1 := by rw [cntB_set eσ90 (by omega) (by omega) e85 (by omega), cntB_congr hbe]; omega
                            refine lv_aload_n S.1 S.2.1 dX5_goes_185 rfl (lv_at hl 1 rfl) ?_
                            refine rM_0_30 S hnX5 K hH (mG wd_331) dX5_goes_186 ?_
                            refine lv_iload_n S.1 S.2.1 dX5_goes_189 rfl (lv_at hl 2 rfl) ?_
                            refine lv_iload S.1 S.2.1 dX5_goes_190 (lv_at hl 6 rfl) ?_
                            refine sM_30 S K hH hS (vin (by omega) (by omega)) dX5_goes_192 (fun H locs hH hS => ?_)
                            obtain ⟨σ91, eσ91⟩ : ∃ z_9 : QS, z_9 = rs σ90 30 0 (upd (σ90 30 0) m9.toNatClampNeg x6_74) := ⟨_, rfl⟩
                            rw [← eσ91] at hH
                            have hI := InvM_a eσ91 hI (by decide) (any32 _)
                            have hP := Keep_w eσ91 hP (by decide)
                            have hb1 : cntB σ91 = m9.toInt + 1 := by rw [cntB_congr (σ := σ90) (by rw [eσ91, rs_v (by decide)])]; exact hb1
                            refine lv_aload_n S.1 S.2.1 dX5_goes_193 rfl (lv_at hl 1 rfl) ?_
                            refine lv_iload_n S.1 S.2.1 dX5_goes_194 rfl (lv_at hl 2 rfl) ?_
                            refine lv_iconst (v := 1) S.1 S.2.1 dX5_goes_195 (by decide) ?_
                            refine lv_iadd S.1 S.2.1 dX5_goes_196 ?_
                            refine lv_topi (fun v92 e92 => ?_)
                            have i92 : v92.toInt = m9.toInt + (1 : Int32).toInt := i_add e92 (by omega) (by omega)
                            refine lv_iload S.1 S.2.1 dX5_goes_197 (lv_at hl 6 rfl) ?_
                            refine lv_iload S.1 S.2.1 dX5_goes_199 (lv_at hl 0 rfl) ?_
                            refine lv_iload S.1 S.2.1 dX5_goes_201 (lv_at hl 5 rfl) ?_
                            refine lv_aload_n S.1 S.2.1 dX5_goes_203 rfl (lv_at hl 1 rfl) ?_
                            refine rM_0_29 S hnX5 K hH (mG wd_330) dX5_goes_204 ?_
                            refine lv_iload S.1 S.2.1 dX5_goes_207 (lv_at hl 6 rfl) ?_
                            refine lM_29 S K hH (vin (by omega) (by omega)) dX5_goes_209 ?_
                            refine lv_topi (fun v93 e93 => ?_)
                            refine lv_iadd S.1 S.2.1 dX5_goes_210 ?_
                            refine lv_topi (fun v94 e94 => ?_)
                            refine cW_bv (cW_V (n := 4) (As := [.int v92, .int x6_74, .int v81, .int v94]) (rest := []) (k := 0) (i := 0) S K hH (by decide) rfl rfl (IH σ91 τ_74 v92 x6_74 v81 v94 (by have h9 := cntB_le σ91; omega) (by omega) hI (by rw [hb1]; omega) (by omega)) gX5_goes_X5_goes rfl hdV_X5_goes ⟨Nat.le_refl _, Nat.le_refl _⟩ rfl hl.1 (Nat.le_of_ble_eq_true rfl) dX5_goes_211) hS (fun σ95 τ95 H locs q95 hH hS => ?_)
                            obtain ⟨hI, hP95, q95⟩ := q95
                            have hP := Keep_t hP hP95 (by decide)
                            refine lv_aload_n S.1 S.2.1 dX5_goes_214 rfl (lv_at hl 1 rfl) ?_
                            refine rM_0_33 S hnX5 K hH (mG wd_334) dX5_goes_215 ?_
                            refine lv_iload S.1 S.2.1 dX5_goes_218 (lv_at hl 6 rfl) ?_
                            refine lv_iconst (v := 0) S.1 S.2.1 dX5_goes_220 (by decide) ?_
                            refine sM_33 S K hH hS (vin (by omega) (by omega)) dX5_goes_221 (fun H locs hH hS => ?_)
                            obtain ⟨σ96, eσ96⟩ : ∃ z_9 : QS, z_9 = rs σ95 33 0 (upd (σ95 33 0) x6_74.toNatClampNeg (vp_nar .boolean 0)) := ⟨_, rfl⟩
                            rw [← eσ96] at hH
                            have hI := InvM_a eσ96 hI (by decide) (any32 _)
                            have hP := Keep_w eσ96 hP (by decide)
                            have hbe9 : σ96 33 = σ 33 := (been_back eσ90 (σ2 := σ91) (by rw [eσ91, rs_v (by decide)]) q95 eσ96 e85 (by omega)).trans hbe
                            obtain ⟨v97, e97⟩ : ∃ y_9 : Int32, y_9 = x6_74 + 1 := ⟨_, rfl⟩
                            have i97 : v97.toInt = x6_74.toInt + 1 := i_addc e97 (by decide) (by omega) (by omega)
                            refine lv_iinc (v := v97) (lv' := [(6, .int v97), (7, .int v81), (0, .ref (L 0 0)), (1, .int m9), (2, .int a), (3, .int t), (4, .int b)]) S.1 S.2.1 dX5_goes_222 hl (k := 6) rfl (by rw [e97]; rfl) (by decide) rfl (fun ls hl => ?_)
                            refine lv_goto (tgt := 114) S.1 S.2.1 dX5_goes_225 (by decide) ?_
                            exact ih74 v97 σ96 τ95 _ _ ls (by omega) (by omega) (by first | exact hbe9 | exact hbe) hI hP hH hS (lv_sub hl [2, 3, 4, 5, 6, 0] rfl)
                          · have j89 := t_nle c89
                            refine lv_goto (tgt := 222) S.1 S.2.1 dX5_goes_174 (by decide) ?_
                            obtain ⟨v98, e98⟩ : ∃ y_9 : Int32, y_9 = x6_74 + 1 := ⟨_, rfl⟩
                            have i98 : v98.toInt = x6_74.toInt + 1 := i_addc e98 (by decide) (by omega) (by omega)
                            refine lv_iinc (v := v98) (lv' := [(6, .int v98), (7, .int v81), (0, .ref (L 0 0)), (1, .int m9), (2, .int a), (3, .int t), (4, .int b)]) S.1 S.2.1 dX5_goes_222 hl (k := 6) rfl (by rw [e98]; rfl) (by decide) rfl (fun ls hl => ?_)
                            refine lv_goto (tgt := 114) S.1 S.2.1 dX5_goes_225 (by decide) ?_
                            exact ih74 v98 σ_74 τ_74 _ _ ls (by omega) (by omega) (by first | exact hbe9 | exact hbe) hI hP hH hS (lv_sub hl [2, 3, 4, 5, 6, 0] rfl)
                exact cut_114_74 _ 1 σ_72 τ_72 _ _ ls (Nat.lt_succ_self _) (by omega) (by first | rfl | exact hbe) hI hP hH hS (lv_sub hl [1, 2, 3, 4, 5, 0] rfl)
              · have j73 := t_nle c73
                refine lv_aload_n S.1 S.2.1 dX5_goes_91 rfl (lv_at hl 0 rfl) ?_
                refine rM_0_31 S hnX5 K hH (mG wd_332) dX5_goes_92 ?_
                refine lv_iload S.1 S.2.1 dX5_goes_95 (lv_at hl 5 rfl) ?_
                refine lv_aload_n S.1 S.2.1 dX5_goes_97 rfl (lv_at hl 0 rfl) ?_
                refine rM_0_30 S hnX5 K hH (mG wd_331) dX5_goes_98 ?_
                refine lv_iload S.1 S.2.1 dX5_goes_101 (lv_at hl 5 rfl) ?_
                refine lM_30 S K hH (vin (by omega) (by omega)) dX5_goes_103 ?_
                refine lv_topi (fun v99 e99 => ?_)
                refine sM_31 S K hH hS (vin (by omega) (by omega)) dX5_goes_104 (fun H locs hH hS => ?_)
                obtain ⟨σ100, eσ100⟩ : ∃ z_9 : QS, z_9 = rs σ_72 31 0 (upd (σ_72 31 0) x6_72.toNatClampNeg v99) := ⟨_, rfl⟩
                rw [← eσ100] at hH
                have hI := InvM_a eσ100 hI (by decide) (any32 _)
                have hP := Keep_w eσ100 hP (by decide)
                obtain ⟨v101, e101⟩ : ∃ y_9 : Int32, y_9 = x6_72 + 1 := ⟨_, rfl⟩
                have i101 : v101.toInt = x6_72.toInt + 1 := i_addc e101 (by decide) (by omega) (by omega)
                refine lv_iinc (v := v101) (lv' := [(6, .int v101), (0, .ref (L 0 0)), (1, .int m9), (2, .int a), (3, .int t), (4, .int b)]) S.1 S.2.1 dX5_goes_105 hl (k := 5) rfl (by rw [e101]; rfl) (by decide) rfl (fun ls hl => ?_)
                refine lv_goto (tgt := 85) S.1 S.2.1 dX5_goes_108 (by decide) ?_
                exact ih72 v101 σ100 τ_72 _ _ ls (by omega) (by omega) (by rw [eσ100, rs_v (by decide)]; exact hbe) hI hP hH hS (lv_sub hl [1, 2, 3, 4, 5, 0] rfl)
          exact cut_85_72 _ 0 σ71 τ _ _ ls (Nat.lt_succ_self _) (by omega) (by rw [eσ71, rs_v (by decide), eσ70, rs_v (by decide), eσ69, rs_v (by decide)]) hI hP hH hS (lv_sub hl [2, 3, 4, 5, 6, 0] rfl)
        · have j68 := t_nlt c68
          refine lv_iload S.1 S.2.1 dX5_goes_47 (lv_at hl 5 rfl) ?_
          refine lv_aload_n S.1 S.2.1 dX5_goes_49 rfl (lv_at hl 1 rfl) ?_
          refine rM_0_35 S hnX5 K hH (mG wd_381) dX5_goes_50 ?_
          refine lv_topi (fun v102 e102 => ?_)
          have k102 : v102.toInt = v67.toInt := by rw [e102]; rw [← e67]
          refine lv_icmp_ne (tgt := 111) S.1 S.2.1 dX5_goes_53 (by decide) (fun c103 => ?_) (fun c103 => ?_)
          · have j103 := t_neq c103
            refine lv_iconst (v := 1) S.1 S.2.1 dX5_goes_111 (by decide) ?_
            refine lv_istore (lv' := [(6, .int 1), (5, .int v4), (0, .ref (L 0 0)), (1, .int m9), (2, .int a), (3, .int t), (4, .int b)]) S.1 S.2.1 dX5_goes_112 hl (by decide) rfl (fun ls hl => ?_)
            have cut_114_104 : ∀ (n : Nat) (x6_104 : Int32) (σ_104 : QS) (τ_104 : Int64) (H : Heap) (locs : List Loc) (ls : Array Slot), (9 - x6_104.toInt).toNat < n → 1 ≤ x6_104.toInt ∧ x6_104.toInt ≤ 9 → (σ_104 33 = σ 33) → InvM σ_104 → Keep [34, 35, 36, 31, 30, 33] σ σ_104 → hW cntM gM D B L σ_104 τ_104 H → va_S A s.heap H locs → lv_has ls 8 [(0, .ref (L 0 0)), (1, .int m9), (2, .int a), (3, .int t), (4, .int b), (6, .int x6_104)] → W p l e { frames := fr + 1, cells := 0, slots := 0, locals := 8 + (8 + 11) + lo } s m [.ref (L 0 0), .int m9, .int a, .int t, .int b].toArray below meth c H locs 0 0 (MQ below (QcW cntM gM D B L A (pV (fun σ' τ' => InvM σ' ∧ Keep [34, 35, 36, 31, 30, 33] σ σ' ∧ σ' 33 = σ 33))) [.ref (L 0 0), .int m9, .int a, .int t, .int b].toArray s 0 0 A) (F0 m 114 ls []) := by
              intro n
              induction n with
              | zero => intro x6_104 σ_104 τ_104 H locs ls hm; exact absurd hm (Nat.not_lt_zero _)
              | succ n ih104 =>
                intro x6_104 σ_104 τ_104 H locs ls hm104 h104_0 hbe hI hP hH hS hl
                refine lv_iload S.1 S.2.1 dX5_goes_114 (lv_at hl 5 rfl) ?_
                refine lv_bipush (v := 9) S.1 S.2.1 dX5_goes_116 (by decide) ?_
                refine lv_icmp_ge (tgt := 228) S.1 S.2.1 dX5_goes_118 (by decide) (fun c105 => ?_) (fun c105 => ?_)
                · have j105 := t_le c105
                  refine cW_vret S hr hk hH hS ?_ dX5_goes_228
                  exact ⟨rfl, hI, hP, by first | rfl | exact hbe⟩
                · have j105 := t_nle c105
                  refine lv_iload_n S.1 S.2.1 dX5_goes_121 rfl (lv_at hl 3 rfl) ?_
                  refine lv_aload_n S.1 S.2.1 dX5_goes_122 rfl (lv_at hl 0 rfl) ?_
                  refine rM_0_27 S hnX5 K hH (mG wd_328) dX5_goes_123 ?_
                  refine lv_bipush (v := 9) S.1 S.2.1 dX5_goes_126 (by decide) ?_
                  refine lv_iload_n S.1 S.2.1 dX5_goes_128 rfl (lv_at hl 2 rfl) ?_
                  refine lv_imul S.1 S.2.1 dX5_goes_129 ?_
                  refine lv_topi (fun v106 e106 => ?_)
                  have i106 : v106.toInt = 9 * a.toInt := i_mulcl e106 (by decide) (by omega) (by omega)
                  refine lv_iload S.1 S.2.1 dX5_goes_130 (lv_at hl 5 rfl) ?_
                  refine lv_iadd S.1 S.2.1 dX5_goes_132 ?_
                  refine lv_topi (fun v107 e107 => ?_)
                  have i107 : v107.toInt = v106.toInt + x6_104.toInt := i_add e107 (by omega) (by omega)
                  refine lM_27 S K hH (vin (by omega) (by omega)) dX5_goes_133 ?_
                  refine lv_topi (fun v108 e108 => ?_)
                  refine lv_iadd S.1 S.2.1 dX5_goes_134 ?_
                  refine lv_topi (fun v109 e109 => ?_)
                  refine lv_aload_n S.1 S.2.1 dX5_goes_135 rfl (lv_at hl 0 rfl) ?_
                  refine rM_0_28 S hnX5 K hH (mG wd_329) dX5_goes_136 ?_
                  refine lv_iload S.1 S.2.1 dX5_goes_139 (lv_at hl 5 rfl) ?_
                  refine lM_28 S K hH (vin (by omega) (by omega)) dX5_goes_141 ?_
                  refine lv_topi (fun v110 e110 => ?_)
                  refine lv_iadd S.1 S.2.1 dX5_goes_142 ?_
                  refine lv_topi (fun v111 e111 => ?_)
                  refine lv_istore (lv' := [(7, .int v111), (0, .ref (L 0 0)), (1, .int m9), (2, .int a), (3, .int t), (4, .int b), (6, .int x6_104)]) S.1 S.2.1 dX5_goes_143 hl (by decide) rfl (fun ls hl => ?_)
                  refine lv_aload_n S.1 S.2.1 dX5_goes_145 rfl (lv_at hl 1 rfl) ?_
                  refine rM_0_32 S hnX5 K hH (mG wd_333) dX5_goes_146 ?_
                  refine lv_iload S.1 S.2.1 dX5_goes_149 (lv_at hl 6 rfl) ?_
                  refine lM_32 S K hH (vin (by omega) (by omega)) dX5_goes_151 ?_
                  refine lv_topi (fun v112 e112 => ?_)
                  refine lv_if_eq (tgt := 222) S.1 S.2.1 dX5_goes_152 (by decide) (fun c113 => ?_) (fun c113 => ?_)
                  · have j113 := t_eq c113
                    obtain ⟨v114, e114⟩ : ∃ y_9 : Int32, y_9 = x6_104 + 1 := ⟨_, rfl⟩
                    have i114 : v114.toInt = x6_104.toInt + 1 := i_addc e114 (by decide) (by omega) (by omega)
                    refine lv_iinc (v := v114) (lv' := [(6, .int v114), (7, .int v111), (0, .ref (L 0 0)), (1, .int m9), (2, .int a), (3, .int t), (4, .int b)]) S.1 S.2.1 dX5_goes_222 hl (k := 6) rfl (by rw [e114]; rfl) (by decide) rfl (fun ls hl => ?_)
                    refine lv_goto (tgt := 114) S.1 S.2.1 dX5_goes_225 (by decide) ?_
                    exact ih104 v114 σ_104 τ_104 _ _ ls (by omega) (by omega) (by first | exact hbe9 | exact hbe) hI hP hH hS (lv_sub hl [2, 3, 4, 5, 6, 0] rfl)
                  · have j113 := t_neq c113
                    refine lv_aload_n S.1 S.2.1 dX5_goes_155 rfl (lv_at hl 1 rfl) ?_
                    refine rM_0_33 S hnX5 K hH (mG wd_334) dX5_goes_156 ?_
                    refine lv_iload S.1 S.2.1 dX5_goes_159 (lv_at hl 6 rfl) ?_
                    refine lM_33 S K hH (vin (by omega) (by omega)) dX5_goes_161 ?_
                    refine lv_topi (fun v115 e115 => ?_)
                    refine lv_if_ne (tgt := 222) S.1 S.2.1 dX5_goes_162 (by decide) (fun c116 => ?_) (fun c116 => ?_)
                    · have j116 := t_neq c116
                      obtain ⟨v117, e117⟩ : ∃ y_9 : Int32, y_9 = x6_104 + 1 := ⟨_, rfl⟩
                      have i117 : v117.toInt = x6_104.toInt + 1 := i_addc e117 (by decide) (by omega) (by omega)
                      refine lv_iinc (v := v117) (lv' := [(6, .int v117), (7, .int v111), (0, .ref (L 0 0)), (1, .int m9), (2, .int a), (3, .int t), (4, .int b)]) S.1 S.2.1 dX5_goes_222 hl (k := 6) rfl (by rw [e117]; rfl) (by decide) rfl (fun ls hl => ?_)
                      refine lv_goto (tgt := 114) S.1 S.2.1 dX5_goes_225 (by decide) ?_
                      exact ih104 v117 σ_104 τ_104 _ _ ls (by omega) (by omega) (by first | exact hbe9 | exact hbe) hI hP hH hS (lv_sub hl [2, 3, 4, 5, 6, 0] rfl)
                    · have j116 := t_eq c116
                      refine lv_iload S.1 S.2.1 dX5_goes_165 (lv_at hl 0 rfl) ?_
                      refine lv_aload_n S.1 S.2.1 dX5_goes_167 rfl (lv_at hl 1 rfl) ?_
                      refine rM_0_37 S hnX5 K hH (mG wd_379) dX5_goes_168 ?_
                      refine lv_topi (fun v118 e118 => ?_)
                      refine lv_icmp_le (tgt := 177) S.1 S.2.1 dX5_goes_171 (by decide) (fun c119 => ?_) (fun c119 => ?_)
                      · have j119 := t_le c119
                        refine lv_aload_n S.1 S.2.1 dX5_goes_177 rfl (lv_at hl 1 rfl) ?_
                        refine rM_0_33 S hnX5 K hH (mG wd_334) dX5_goes_178 ?_
                        refine lv_iload S.1 S.2.1 dX5_goes_181 (lv_at hl 6 rfl) ?_
                        refine lv_iconst (v := 1) S.1 S.2.1 dX5_goes_183 (by decide) ?_
                        refine sM_33 S K hH hS (vin (by omega) (by omega)) dX5_goes_184 (fun H locs hH hS => ?_)
                        obtain ⟨σ120, eσ120⟩ : ∃ z_9 : QS, z_9 = rs σ_104 33 0 (upd (σ_104 33 0) x6_104.toNatClampNeg (vp_nar .boolean 1)) := ⟨_, rfl⟩
                        rw [← eσ120] at hH
                        have hI := InvM_a eσ120 hI (by decide) (any32 _)
                        have hP := Keep_w eσ120 hP (by decide)
                        have hb1 : cntB σ120 = m9.toInt + 1 := by rw [cntB_set eσ120 (by omega) (by omega) e115 (by omega), cntB_congr hbe]; omega
                        refine lv_aload_n S.1 S.2.1 dX5_goes_185 rfl (lv_at hl 1 rfl) ?_
                        refine rM_0_30 S hnX5 K hH (mG wd_331) dX5_goes_186 ?_
                        refine lv_iload_n S.1 S.2.1 dX5_goes_189 rfl (lv_at hl 2 rfl) ?_
                        refine lv_iload S.1 S.2.1 dX5_goes_190 (lv_at hl 6 rfl) ?_
                        refine sM_30 S K hH hS (vin (by omega) (by omega)) dX5_goes_192 (fun H locs hH hS => ?_)
                        obtain ⟨σ121, eσ121⟩ : ∃ z_9 : QS, z_9 = rs σ120 30 0 (upd (σ120 30 0) m9.toNatClampNeg x6_104) := ⟨_, rfl⟩
                        rw [← eσ121] at hH
                        have hI := InvM_a eσ121 hI (by decide) (any32 _)
                        have hP := Keep_w eσ121 hP (by decide)
                        have hb1 : cntB σ121 = m9.toInt + 1 := by rw [cntB_congr (σ := σ120) (by rw [eσ121, rs_v (by decide)])]; exact hb1
                        refine lv_aload_n S.1 S.2.1 dX5_goes_193 rfl (lv_at hl 1 rfl) ?_
                        refine lv_iload_n S.1 S.2.1 dX5_goes_194 rfl (lv_at hl 2 rfl) ?_
                        refine lv_iconst (v := 1) S.1 S.2.1 dX5_goes_195 (by decide) ?_
                        refine lv_iadd S.1 S.2.1 dX5_goes_196 ?_
                        refine lv_topi (fun v122 e122 => ?_)
                        have i122 : v122.toInt = m9.toInt + (1 : Int32).toInt := i_add e122 (by omega) (by omega)
                        refine lv_iload S.1 S.2.1 dX5_goes_197 (lv_at hl 6 rfl) ?_
                        refine lv_iload S.1 S.2.1 dX5_goes_199 (lv_at hl 0 rfl) ?_
                        refine lv_iload S.1 S.2.1 dX5_goes_201 (lv_at hl 5 rfl) ?_
                        refine lv_aload_n S.1 S.2.1 dX5_goes_203 rfl (lv_at hl 1 rfl) ?_
                        refine rM_0_29 S hnX5 K hH (mG wd_330) dX5_goes_204 ?_
                        refine lv_iload S.1 S.2.1 dX5_goes_207 (lv_at hl 6 rfl) ?_
                        refine lM_29 S K hH (vin (by omega) (by omega)) dX5_goes_209 ?_
                        refine lv_topi (fun v123 e123 => ?_)
                        refine lv_iadd S.1 S.2.1 dX5_goes_210 ?_
                        refine lv_topi (fun v124 e124 => ?_)
                        refine cW_bv (cW_V (n := 4) (As := [.int v122, .int x6_104, .int v111, .int v124]) (rest := []) (k := 0) (i := 0) S K hH (by decide) rfl rfl (IH σ121 τ_104 v122 x6_104 v111 v124 (by have h9 := cntB_le σ121; omega) (by omega) hI (by rw [hb1]; omega) (by omega)) gX5_goes_X5_goes rfl hdV_X5_goes ⟨Nat.le_refl _, Nat.le_refl _⟩ rfl hl.1 (Nat.le_of_ble_eq_true rfl) dX5_goes_211) hS (fun σ125 τ125 H locs q125 hH hS => ?_)
                        obtain ⟨hI, hP125, q125⟩ := q125
                        have hP := Keep_t hP hP125 (by decide)
                        refine lv_aload_n S.1 S.2.1 dX5_goes_214 rfl (lv_at hl 1 rfl) ?_
                        refine rM_0_33 S hnX5 K hH (mG wd_334) dX5_goes_215 ?_
                        refine lv_iload S.1 S.2.1 dX5_goes_218 (lv_at hl 6 rfl) ?_
                        refine lv_iconst (v := 0) S.1 S.2.1 dX5_goes_220 (by decide) ?_
                        refine sM_33 S K hH hS (vin (by omega) (by omega)) dX5_goes_221 (fun H locs hH hS => ?_)
                        obtain ⟨σ126, eσ126⟩ : ∃ z_9 : QS, z_9 = rs σ125 33 0 (upd (σ125 33 0) x6_104.toNatClampNeg (vp_nar .boolean 0)) := ⟨_, rfl⟩
                        rw [← eσ126] at hH
                        have hI := InvM_a eσ126 hI (by decide) (any32 _)
                        have hP := Keep_w eσ126 hP (by decide)
                        have hbe9 : σ126 33 = σ 33 := (been_back eσ120 (σ2 := σ121) (by rw [eσ121, rs_v (by decide)]) q125 eσ126 e115 (by omega)).trans hbe
                        obtain ⟨v127, e127⟩ : ∃ y_9 : Int32, y_9 = x6_104 + 1 := ⟨_, rfl⟩
                        have i127 : v127.toInt = x6_104.toInt + 1 := i_addc e127 (by decide) (by omega) (by omega)
                        refine lv_iinc (v := v127) (lv' := [(6, .int v127), (7, .int v111), (0, .ref (L 0 0)), (1, .int m9), (2, .int a), (3, .int t), (4, .int b)]) S.1 S.2.1 dX5_goes_222 hl (k := 6) rfl (by rw [e127]; rfl) (by decide) rfl (fun ls hl => ?_)
                        refine lv_goto (tgt := 114) S.1 S.2.1 dX5_goes_225 (by decide) ?_
                        exact ih104 v127 σ126 τ125 _ _ ls (by omega) (by omega) (by first | exact hbe9 | exact hbe) hI hP hH hS (lv_sub hl [2, 3, 4, 5, 6, 0] rfl)
                      · have j119 := t_nle c119
                        refine lv_goto (tgt := 222) S.1 S.2.1 dX5_goes_174 (by decide) ?_
                        obtain ⟨v128, e128⟩ : ∃ y_9 : Int32, y_9 = x6_104 + 1 := ⟨_, rfl⟩
                        have i128 : v128.toInt = x6_104.toInt + 1 := i_addc e128 (by decide) (by omega) (by omega)
                        refine lv_iinc (v := v128) (lv' := [(6, .int v128), (7, .int v111), (0, .ref (L 0 0)), (1, .int m9), (2, .int a), (3, .int t), (4, .int b)]) S.1 S.2.1 dX5_goes_222 hl (k := 6) rfl (by rw [e128]; rfl) (by decide) rfl (fun ls hl => ?_)
                        refine lv_goto (tgt := 114) S.1 S.2.1 dX5_goes_225 (by decide) ?_
                        exact ih104 v128 σ_104 τ_104 _ _ ls (by omega) (by omega) (by first | exact hbe9 | exact hbe) hI hP hH hS (lv_sub hl [2, 3, 4, 5, 6, 0] rfl)
            exact cut_114_104 _ 1 σ τ _ _ ls (Nat.lt_succ_self _) (by omega) (by first | rfl | exact hbe) hI hP hH hS (lv_sub hl [2, 3, 4, 5, 6, 0] rfl)
          · have j103 := t_eq c103
            refine lv_iload S.1 S.2.1 dX5_goes_56 (lv_at hl 0 rfl) ?_
            refine lv_aload_n S.1 S.2.1 dX5_goes_58 rfl (lv_at hl 1 rfl) ?_
            refine rM_0_36 S hnX5 K hH (mG wd_382) dX5_goes_59 ?_
            refine lv_topi (fun v129 e129 => ?_)
            refine lv_icmp_ge (tgt := 111) S.1 S.2.1 dX5_goes_62 (by decide) (fun c130 => ?_) (fun c130 => ?_)
            · have j130 := t_le c130
              refine lv_iconst (v := 1) S.1 S.2.1 dX5_goes_111 (by decide) ?_
              refine lv_istore (lv' := [(6, .int 1), (5, .int v4), (0, .ref (L 0 0)), (1, .int m9), (2, .int a), (3, .int t), (4, .int b)]) S.1 S.2.1 dX5_goes_112 hl (by decide) rfl (fun ls hl => ?_)
              have cut_114_131 : ∀ (n : Nat) (x6_131 : Int32) (σ_131 : QS) (τ_131 : Int64) (H : Heap) (locs : List Loc) (ls : Array Slot), (9 - x6_131.toInt).toNat < n → 1 ≤ x6_131.toInt ∧ x6_131.toInt ≤ 9 → (σ_131 33 = σ 33) → InvM σ_131 → Keep [34, 35, 36, 31, 30, 33] σ σ_131 → hW cntM gM D B L σ_131 τ_131 H → va_S A s.heap H locs → lv_has ls 8 [(0, .ref (L 0 0)), (1, .int m9), (2, .int a), (3, .int t), (4, .int b), (6, .int x6_131)] → W p l e { frames := fr + 1, cells := 0, slots := 0, locals := 8 + (8 + 11) + lo } s m [.ref (L 0 0), .int m9, .int a, .int t, .int b].toArray below meth c H locs 0 0 (MQ below (QcW cntM gM D B L A (pV (fun σ' τ' => InvM σ' ∧ Keep [34, 35, 36, 31, 30, 33] σ σ' ∧ σ' 33 = σ 33))) [.ref (L 0 0), .int m9, .int a, .int t, .int b].toArray s 0 0 A) (F0 m 114 ls []) := by
                intro n
                induction n with
                | zero => intro x6_131 σ_131 τ_131 H locs ls hm; exact absurd hm (Nat.not_lt_zero _)
                | succ n ih131 =>
                  intro x6_131 σ_131 τ_131 H locs ls hm131 h131_0 hbe hI hP hH hS hl
                  refine lv_iload S.1 S.2.1 dX5_goes_114 (lv_at hl 5 rfl) ?_
                  refine lv_bipush (v := 9) S.1 S.2.1 dX5_goes_116 (by decide) ?_
                  refine lv_icmp_ge (tgt := 228) S.1 S.2.1 dX5_goes_118 (by decide) (fun c132 => ?_) (fun c132 => ?_)
                  · have j132 := t_le c132
                    refine cW_vret S hr hk hH hS ?_ dX5_goes_228
                    exact ⟨rfl, hI, hP, by first | rfl | exact hbe⟩
                  · have j132 := t_nle c132
                    refine lv_iload_n S.1 S.2.1 dX5_goes_121 rfl (lv_at hl 3 rfl) ?_
                    refine lv_aload_n S.1 S.2.1 dX5_goes_122 rfl (lv_at hl 0 rfl) ?_
                    refine rM_0_27 S hnX5 K hH (mG wd_328) dX5_goes_123 ?_
                    refine lv_bipush (v := 9) S.1 S.2.1 dX5_goes_126 (by decide) ?_
                    refine lv_iload_n S.1 S.2.1 dX5_goes_128 rfl (lv_at hl 2 rfl) ?_
                    refine lv_imul S.1 S.2.1 dX5_goes_129 ?_
                    refine lv_topi (fun v133 e133 => ?_)
                    have i133 : v133.toInt = 9 * a.toInt := i_mulcl e133 (by decide) (by omega) (by omega)
                    refine lv_iload S.1 S.2.1 dX5_goes_130 (lv_at hl 5 rfl) ?_
                    refine lv_iadd S.1 S.2.1 dX5_goes_132 ?_
                    refine lv_topi (fun v134 e134 => ?_)
                    have i134 : v134.toInt = v133.toInt + x6_131.toInt := i_add e134 (by omega) (by omega)
                    refine lM_27 S K hH (vin (by omega) (by omega)) dX5_goes_133 ?_
                    refine lv_topi (fun v135 e135 => ?_)
                    refine lv_iadd S.1 S.2.1 dX5_goes_134 ?_
                    refine lv_topi (fun v136 e136 => ?_)
                    refine lv_aload_n S.1 S.2.1 dX5_goes_135 rfl (lv_at hl 0 rfl) ?_
                    refine rM_0_28 S hnX5 K hH (mG wd_329) dX5_goes_136 ?_
                    refine lv_iload S.1 S.2.1 dX5_goes_139 (lv_at hl 5 rfl) ?_
                    refine lM_28 S K hH (vin (by omega) (by omega)) dX5_goes_141 ?_
                    refine lv_topi (fun v137 e137 => ?_)
                    refine lv_iadd S.1 S.2.1 dX5_goes_142 ?_
                    refine lv_topi (fun v138 e138 => ?_)
                    refine lv_istore (lv' := [(7, .int v138), (0, .ref (L 0 0)), (1, .int m9), (2, .int a), (3, .int t), (4, .int b), (6, .int x6_131)]) S.1 S.2.1 dX5_goes_143 hl (by decide) rfl (fun ls hl => ?_)
                    refine lv_aload_n S.1 S.2.1 dX5_goes_145 rfl (lv_at hl 1 rfl) ?_
                    refine rM_0_32 S hnX5 K hH (mG wd_333) dX5_goes_146 ?_
                    refine lv_iload S.1 S.2.1 dX5_goes_149 (lv_at hl 6 rfl) ?_
                    refine lM_32 S K hH (vin (by omega) (by omega)) dX5_goes_151 ?_
                    refine lv_topi (fun v139 e139 => ?_)
                    refine lv_if_eq (tgt := 222) S.1 S.2.1 dX5_goes_152 (by decide) (fun c140 => ?_) (fun c140 => ?_)
                    · have j140 := t_eq c140
                      obtain ⟨v141, e141⟩ : ∃ y_9 : Int32, y_9 = x6_131 + 1 := ⟨_, rfl⟩
                      have i141 : v141.toInt = x6_131.toInt + 1 := i_addc e141 (by decide) (by omega) (by omega)
                      refine lv_iinc (v := v141) (lv' := [(6, .int v141), (7, .int v138), (0, .ref (L 0 0)), (1, .int m9), (2, .int a), (3, .int t), (4, .int b)]) S.1 S.2.1 dX5_goes_222 hl (k := 6) rfl (by rw [e141]; rfl) (by decide) rfl (fun ls hl => ?_)
                      refine lv_goto (tgt := 114) S.1 S.2.1 dX5_goes_225 (by decide) ?_
                      exact ih131 v141 σ_131 τ_131 _ _ ls (by omega) (by omega) (by first | exact hbe9 | exact hbe) hI hP hH hS (lv_sub hl [2, 3, 4, 5, 6, 0] rfl)
                    · have j140 := t_neq c140
                      refine lv_aload_n S.1 S.2.1 dX5_goes_155 rfl (lv_at hl 1 rfl) ?_
                      refine rM_0_33 S hnX5 K hH (mG wd_334) dX5_goes_156 ?_
                      refine lv_iload S.1 S.2.1 dX5_goes_159 (lv_at hl 6 rfl) ?_
                      refine lM_33 S K hH (vin (by omega) (by omega)) dX5_goes_161 ?_
                      refine lv_topi (fun v142 e142 => ?_)
                      refine lv_if_ne (tgt := 222) S.1 S.2.1 dX5_goes_162 (by decide) (fun c143 => ?_) (fun c143 => ?_)
                      · have j143 := t_neq c143
                        obtain ⟨v144, e144⟩ : ∃ y_9 : Int32, y_9 = x6_131 + 1 := ⟨_, rfl⟩
                        have i144 : v144.toInt = x6_131.toInt + 1 := i_addc e144 (by decide) (by omega) (by omega)
                        refine lv_iinc (v := v144) (lv' := [(6, .int v144), (7, .int v138), (0, .ref (L 0 0)), (1, .int m9), (2, .int a), (3, .int t), (4, .int b)]) S.1 S.2.1 dX5_goes_222 hl (k := 6) rfl (by rw [e144]; rfl) (by decide) rfl (fun ls hl => ?_)
                        refine lv_goto (tgt := 114) S.1 S.2.1 dX5_goes_225 (by decide) ?_
                        exact ih131 v144 σ_131 τ_131 _ _ ls (by omega) (by omega) (by first | exact hbe9 | exact hbe) hI hP hH hS (lv_sub hl [2, 3, 4, 5, 6, 0] rfl)
                      · have j143 := t_eq c143
                        refine lv_iload S.1 S.2.1 dX5_goes_165 (lv_at hl 0 rfl) ?_
                        refine lv_aload_n S.1 S.2.1 dX5_goes_167 rfl (lv_at hl 1 rfl) ?_
                        refine rM_0_37 S hnX5 K hH (mG wd_379) dX5_goes_168 ?_
                        refine lv_topi (fun v145 e145 => ?_)
                        refine lv_icmp_le (tgt := 177) S.1 S.2.1 dX5_goes_171 (by decide) (fun c146 => ?_) (fun c146 => ?_)
                        · have j146 := t_le c146
                          refine lv_aload_n S.1 S.2.1 dX5_goes_177 rfl (lv_at hl 1 rfl) ?_
                          refine rM_0_33 S hnX5 K hH (mG wd_334) dX5_goes_178 ?_
                          refine lv_iload S.1 S.2.1 dX5_goes_181 (lv_at hl 6 rfl) ?_
                          refine lv_iconst (v := 1) S.1 S.2.1 dX5_goes_183 (by decide) ?_
                          refine sM_33 S K hH hS (vin (by omega) (by omega)) dX5_goes_184 (fun H locs hH hS => ?_)
                          obtain ⟨σ147, eσ147⟩ : ∃ z_9 : QS, z_9 = rs σ_131 33 0 (upd (σ_131 33 0) x6_131.toNatClampNeg (vp_nar .boolean 1)) := ⟨_, rfl⟩
                          rw [← eσ147] at hH
                          have hI := InvM_a eσ147 hI (by decide) (any32 _)
                          have hP := Keep_w eσ147 hP (by decide)
                          have hb1 : cntB σ147 = m9.toInt + 1 := by rw [cntB_set eσ147 (by omega) (by omega) e142 (by omega), cntB_congr hbe]; omega
                          refine lv_aload_n S.1 S.2.1 dX5_goes_185 rfl (lv_at hl 1 rfl) ?_
                          refine rM_0_30 S hnX5 K hH (mG wd_331) dX5_goes_186 ?_
                          refine lv_iload_n S.1 S.2.1 dX5_goes_189 rfl (lv_at hl 2 rfl) ?_
                          refine lv_iload S.1 S.2.1 dX5_goes_190 (lv_at hl 6 rfl) ?_
                          refine sM_30 S K hH hS (vin (by omega) (by omega)) dX5_goes_192 (fun H locs hH hS => ?_)
                          obtain ⟨σ148, eσ148⟩ : ∃ z_9 : QS, z_9 = rs σ147 30 0 (upd (σ147 30 0) m9.toNatClampNeg x6_131) := ⟨_, rfl⟩
                          rw [← eσ148] at hH
                          have hI := InvM_a eσ148 hI (by decide) (any32 _)
                          have hP := Keep_w eσ148 hP (by decide)
                          have hb1 : cntB σ148 = m9.toInt + 1 := by rw [cntB_congr (σ := σ147) (by rw [eσ148, rs_v (by decide)])]; exact hb1
                          refine lv_aload_n S.1 S.2.1 dX5_goes_193 rfl (lv_at hl 1 rfl) ?_
                          refine lv_iload_n S.1 S.2.1 dX5_goes_194 rfl (lv_at hl 2 rfl) ?_
                          refine lv_iconst (v := 1) S.1 S.2.1 dX5_goes_195 (by decide) ?_
                          refine lv_iadd S.1 S.2.1 dX5_goes_196 ?_
                          refine lv_topi (fun v149 e149 => ?_)
                          have i149 : v149.toInt = m9.toInt + (1 : Int32).toInt := i_add e149 (by omega) (by omega)
                          refine lv_iload S.1 S.2.1 dX5_goes_197 (lv_at hl 6 rfl) ?_
                          refine lv_iload S.1 S.2.1 dX5_goes_199 (lv_at hl 0 rfl) ?_
                          refine lv_iload S.1 S.2.1 dX5_goes_201 (lv_at hl 5 rfl) ?_
                          refine lv_aload_n S.1 S.2.1 dX5_goes_203 rfl (lv_at hl 1 rfl) ?_
                          refine rM_0_29 S hnX5 K hH (mG wd_330) dX5_goes_204 ?_
                          refine lv_iload S.1 S.2.1 dX5_goes_207 (lv_at hl 6 rfl) ?_
                          refine lM_29 S K hH (vin (by omega) (by omega)) dX5_goes_209 ?_
                          refine lv_topi (fun v150 e150 => ?_)
                          refine lv_iadd S.1 S.2.1 dX5_goes_210 ?_
                          refine lv_topi (fun v151 e151 => ?_)
                          refine cW_bv (cW_V (n := 4) (As := [.int v149, .int x6_131, .int v138, .int v151]) (rest := []) (k := 0) (i := 0) S K hH (by decide) rfl rfl (IH σ148 τ_131 v149 x6_131 v138 v151 (by have h9 := cntB_le σ148; omega) (by omega) hI (by rw [hb1]; omega) (by omega)) gX5_goes_X5_goes rfl hdV_X5_goes ⟨Nat.le_refl _, Nat.le_refl _⟩ rfl hl.1 (Nat.le_of_ble_eq_true rfl) dX5_goes_211) hS (fun σ152 τ152 H locs q152 hH hS => ?_)
                          obtain ⟨hI, hP152, q152⟩ := q152
                          have hP := Keep_t hP hP152 (by decide)
                          refine lv_aload_n S.1 S.2.1 dX5_goes_214 rfl (lv_at hl 1 rfl) ?_
                          refine rM_0_33 S hnX5 K hH (mG wd_334) dX5_goes_215 ?_
                          refine lv_iload S.1 S.2.1 dX5_goes_218 (lv_at hl 6 rfl) ?_
                          refine lv_iconst (v := 0) S.1 S.2.1 dX5_goes_220 (by decide) ?_
                          refine sM_33 S K hH hS (vin (by omega) (by omega)) dX5_goes_221 (fun H locs hH hS => ?_)
                          obtain ⟨σ153, eσ153⟩ : ∃ z_9 : QS, z_9 = rs σ152 33 0 (upd (σ152 33 0) x6_131.toNatClampNeg (vp_nar .boolean 0)) := ⟨_, rfl⟩
                          rw [← eσ153] at hH
                          have hI := InvM_a eσ153 hI (by decide) (any32 _)
                          have hP := Keep_w eσ153 hP (by decide)
                          have hbe9 : σ153 33 = σ 33 := (been_back eσ147 (σ2 := σ148) (by rw [eσ148, rs_v (by decide)]) q152 eσ153 e142 (by omega)).trans hbe
                          obtain ⟨v154, e154⟩ : ∃ y_9 : Int32, y_9 = x6_131 + 1 := ⟨_, rfl⟩
                          have i154 : v154.toInt = x6_131.toInt + 1 := i_addc e154 (by decide) (by omega) (by omega)
                          refine lv_iinc (v := v154) (lv' := [(6, .int v154), (7, .int v138), (0, .ref (L 0 0)), (1, .int m9), (2, .int a), (3, .int t), (4, .int b)]) S.1 S.2.1 dX5_goes_222 hl (k := 6) rfl (by rw [e154]; rfl) (by decide) rfl (fun ls hl => ?_)
                          refine lv_goto (tgt := 114) S.1 S.2.1 dX5_goes_225 (by decide) ?_
                          exact ih131 v154 σ153 τ152 _ _ ls (by omega) (by omega) (by first | exact hbe9 | exact hbe) hI hP hH hS (lv_sub hl [2, 3, 4, 5, 6, 0] rfl)
                        · have j146 := t_nle c146
                          refine lv_goto (tgt := 222) S.1 S.2.1 dX5_goes_174 (by decide) ?_
                          obtain ⟨v155, e155⟩ : ∃ y_9 : Int32, y_9 = x6_131 + 1 := ⟨_, rfl⟩
                          have i155 : v155.toInt = x6_131.toInt + 1 := i_addc e155 (by decide) (by omega) (by omega)
                          refine lv_iinc (v := v155) (lv' := [(6, .int v155), (7, .int v138), (0, .ref (L 0 0)), (1, .int m9), (2, .int a), (3, .int t), (4, .int b)]) S.1 S.2.1 dX5_goes_222 hl (k := 6) rfl (by rw [e155]; rfl) (by decide) rfl (fun ls hl => ?_)
                          refine lv_goto (tgt := 114) S.1 S.2.1 dX5_goes_225 (by decide) ?_
                          exact ih131 v155 σ_131 τ_131 _ _ ls (by omega) (by omega) (by first | exact hbe9 | exact hbe) hI hP hH hS (lv_sub hl [2, 3, 4, 5, 6, 0] rfl)
              exact cut_114_131 _ 1 σ τ _ _ ls (Nat.lt_succ_self _) (by omega) (by first | rfl | exact hbe) hI hP hH hS (lv_sub hl [2, 3, 4, 5, 6, 0] rfl)
            · have j130 := t_nle c130
              refine lv_aload_n S.1 S.2.1 dX5_goes_65 rfl (lv_at hl 1 rfl) ?_
              refine lv_iload_n S.1 S.2.1 dX5_goes_66 rfl (lv_at hl 2 rfl) ?_
              refine pM_0_34 S hnX5 K hH hS (mG wd_380) dX5_goes_67 (fun H locs hH hS => ?_)
              obtain ⟨σ156, eσ156⟩ : ∃ z_9 : QS, z_9 = rs σ 34 0 (fun _ => m9) := ⟨_, rfl⟩
              rw [← eσ156] at hH
              have hI := InvM_f eσ156 hI (by decide) (show ((-1) : Int) ≤ m9.toInt ∧ m9.toInt ≤ 8 by omega)
              have hP := Keep_w eσ156 hP (by decide)
              refine lv_aload_n S.1 S.2.1 dX5_goes_70 rfl (lv_at hl 1 rfl) ?_
              refine lv_iload S.1 S.2.1 dX5_goes_71 (lv_at hl 5 rfl) ?_
              refine pM_0_35 S hnX5 K hH hS (mG wd_381) dX5_goes_73 (fun H locs hH hS => ?_)
              obtain ⟨σ157, eσ157⟩ : ∃ z_9 : QS, z_9 = rs σ156 35 0 (fun _ => b) := ⟨_, rfl⟩
              rw [← eσ157] at hH
              have hI := InvM_f eσ157 hI (by decide) (any32 _)
              have hP := Keep_w eσ157 hP (by decide)
              refine lv_aload_n S.1 S.2.1 dX5_goes_76 rfl (lv_at hl 1 rfl) ?_
              refine lv_iload S.1 S.2.1 dX5_goes_77 (lv_at hl 0 rfl) ?_
              refine pM_0_36 S hnX5 K hH hS (mG wd_382) dX5_goes_79 (fun H locs hH hS => ?_)
              obtain ⟨σ158, eσ158⟩ : ∃ z_9 : QS, z_9 = rs σ157 36 0 (fun _ => v4) := ⟨_, rfl⟩
              rw [← eσ158] at hH
              have hI := InvM_f eσ158 hI (by decide) (any32 _)
              have hP := Keep_w eσ158 hP (by decide)
              refine lv_iconst (v := 0) S.1 S.2.1 dX5_goes_82 (by decide) ?_
              refine lv_istore (lv' := [(6, .int 0), (5, .int v4), (0, .ref (L 0 0)), (1, .int m9), (2, .int a), (3, .int t), (4, .int b)]) S.1 S.2.1 dX5_goes_83 hl (by decide) rfl (fun ls hl => ?_)
              have cut_85_159 : ∀ (n : Nat) (x6_159 : Int32) (σ_159 : QS) (τ_159 : Int64) (H : Heap) (locs : List Loc) (ls : Array Slot), (8 - x6_159.toInt).toNat < n → 0 ≤ x6_159.toInt ∧ x6_159.toInt ≤ 8 → (σ_159 33 = σ 33) → InvM σ_159 → Keep [34, 35, 36, 31, 30, 33] σ σ_159 → hW cntM gM D B L σ_159 τ_159 H → va_S A s.heap H locs → lv_has ls 8 [(0, .ref (L 0 0)), (1, .int m9), (2, .int a), (3, .int t), (4, .int b), (6, .int x6_159)] → W p l e { frames := fr + 1, cells := 0, slots := 0, locals := 8 + (8 + 11) + lo } s m [.ref (L 0 0), .int m9, .int a, .int t, .int b].toArray below meth c H locs 0 0 (MQ below (QcW cntM gM D B L A (pV (fun σ' τ' => InvM σ' ∧ Keep [34, 35, 36, 31, 30, 33] σ σ' ∧ σ' 33 = σ 33))) [.ref (L 0 0), .int m9, .int a, .int t, .int b].toArray s 0 0 A) (F0 m 85 ls []) := by
                intro n
                induction n with
                | zero => intro x6_159 σ_159 τ_159 H locs ls hm; exact absurd hm (Nat.not_lt_zero _)
                | succ n ih159 =>
                  intro x6_159 σ_159 τ_159 H locs ls hm159 h159_0 hbe hI hP hH hS hl
                  refine lv_iload S.1 S.2.1 dX5_goes_85 (lv_at hl 5 rfl) ?_
                  refine lv_iload_n S.1 S.2.1 dX5_goes_87 rfl (lv_at hl 1 rfl) ?_
                  refine lv_icmp_ge (tgt := 111) S.1 S.2.1 dX5_goes_88 (by decide) (fun c160 => ?_) (fun c160 => ?_)
                  · have j160 := t_le c160
                    refine lv_iconst (v := 1) S.1 S.2.1 dX5_goes_111 (by decide) ?_
                    refine lv_istore (lv' := [(6, .int 1), (0, .ref (L 0 0)), (1, .int m9), (2, .int a), (3, .int t), (4, .int b)]) S.1 S.2.1 dX5_goes_112 hl (by decide) rfl (fun ls hl => ?_)
                    have cut_114_161 : ∀ (n : Nat) (x6_161 : Int32) (σ_161 : QS) (τ_161 : Int64) (H : Heap) (locs : List Loc) (ls : Array Slot), (9 - x6_161.toInt).toNat < n → 1 ≤ x6_161.toInt ∧ x6_161.toInt ≤ 9 → (σ_161 33 = σ 33) → InvM σ_161 → Keep [34, 35, 36, 31, 30, 33] σ σ_161 → hW cntM gM D B L σ_161 τ_161 H → va_S A s.heap H locs → lv_has ls 8 [(0, .ref (L 0 0)), (1, .int m9), (2, .int a), (3, .int t), (4, .int b), (6, .int x6_161)] → W p l e { frames := fr + 1, cells := 0, slots := 0, locals := 8 + (8 + 11) + lo } s m [.ref (L 0 0), .int m9, .int a, .int t, .int b].toArray below meth c H locs 0 0 (MQ below (QcW cntM gM D B L A (pV (fun σ' τ' => InvM σ' ∧ Keep [34, 35, 36, 31, 30, 33] σ σ' ∧ σ' 33 = σ 33))) [.ref (L 0 0), .int m9, .int a, .int t, .int b].toArray s 0 0 A) (F0 m 114 ls []) := by
                      intro n
                      induction n with
                      | zero => intro x6_161 σ_161 τ_161 H locs ls hm; exact absurd hm (Nat.not_lt_zero _)
                      | succ n ih161 =>
                        intro x6_161 σ_161 τ_161 H locs ls hm161 h161_0 hbe hI hP hH hS hl
                        refine lv_iload S.1 S.2.1 dX5_goes_114 (lv_at hl 5 rfl) ?_
                        refine lv_bipush (v := 9) S.1 S.2.1 dX5_goes_116 (by decide) ?_
                        refine lv_icmp_ge (tgt := 228) S.1 S.2.1 dX5_goes_118 (by decide) (fun c162 => ?_) (fun c162 => ?_)
                        · have j162 := t_le c162
                          refine cW_vret S hr hk hH hS ?_ dX5_goes_228
                          exact ⟨rfl, hI, hP, by first | rfl | exact hbe⟩
                        · have j162 := t_nle c162
                          refine lv_iload_n S.1 S.2.1 dX5_goes_121 rfl (lv_at hl 3 rfl) ?_
                          refine lv_aload_n S.1 S.2.1 dX5_goes_122 rfl (lv_at hl 0 rfl) ?_
                          refine rM_0_27 S hnX5 K hH (mG wd_328) dX5_goes_123 ?_
                          refine lv_bipush (v := 9) S.1 S.2.1 dX5_goes_126 (by decide) ?_
                          refine lv_iload_n S.1 S.2.1 dX5_goes_128 rfl (lv_at hl 2 rfl) ?_
                          refine lv_imul S.1 S.2.1 dX5_goes_129 ?_
                          refine lv_topi (fun v163 e163 => ?_)
                          have i163 : v163.toInt = 9 * a.toInt := i_mulcl e163 (by decide) (by omega) (by omega)
                          refine lv_iload S.1 S.2.1 dX5_goes_130 (lv_at hl 5 rfl) ?_
                          refine lv_iadd S.1 S.2.1 dX5_goes_132 ?_
                          refine lv_topi (fun v164 e164 => ?_)
                          have i164 : v164.toInt = v163.toInt + x6_161.toInt := i_add e164 (by omega) (by omega)
                          refine lM_27 S K hH (vin (by omega) (by omega)) dX5_goes_133 ?_
                          refine lv_topi (fun v165 e165 => ?_)
                          refine lv_iadd S.1 S.2.1 dX5_goes_134 ?_
                          refine lv_topi (fun v166 e166 => ?_)
                          refine lv_aload_n S.1 S.2.1 dX5_goes_135 rfl (lv_at hl 0 rfl) ?_
                          refine rM_0_28 S hnX5 K hH (mG wd_329) dX5_goes_136 ?_
                          refine lv_iload S.1 S.2.1 dX5_goes_139 (lv_at hl 5 rfl) ?_
                          refine lM_28 S K hH (vin (by omega) (by omega)) dX5_goes_141 ?_
                          refine lv_topi (fun v167 e167 => ?_)
                          refine lv_iadd S.1 S.2.1 dX5_goes_142 ?_
                          refine lv_topi (fun v168 e168 => ?_)
                          refine lv_istore (lv' := [(7, .int v168), (0, .ref (L 0 0)), (1, .int m9), (2, .int a), (3, .int t), (4, .int b), (6, .int x6_161)]) S.1 S.2.1 dX5_goes_143 hl (by decide) rfl (fun ls hl => ?_)
                          refine lv_aload_n S.1 S.2.1 dX5_goes_145 rfl (lv_at hl 1 rfl) ?_
                          refine rM_0_32 S hnX5 K hH (mG wd_333) dX5_goes_146 ?_
                          refine lv_iload S.1 S.2.1 dX5_goes_149 (lv_at hl 6 rfl) ?_
                          refine lM_32 S K hH (vin (by omega) (by omega)) dX5_goes_151 ?_
                          refine lv_topi (fun v169 e169 => ?_)
                          refine lv_if_eq (tgt := 222) S.1 S.2.1 dX5_goes_152 (by decide) (fun c170 => ?_) (fun c170 => ?_)
                          · have j170 := t_eq c170
                            obtain ⟨v171, e171⟩ : ∃ y_9 : Int32, y_9 = x6_161 + 1 := ⟨_, rfl⟩
                            have i171 : v171.toInt = x6_161.toInt + 1 := i_addc e171 (by decide) (by omega) (by omega)
                            refine lv_iinc (v := v171) (lv' := [(6, .int v171), (7, .int v168), (0, .ref (L 0 0)), (1, .int m9), (2, .int a), (3, .int t), (4, .int b)]) S.1 S.2.1 dX5_goes_222 hl (k := 6) rfl (by rw [e171]; rfl) (by decide) rfl (fun ls hl => ?_)
                            refine lv_goto (tgt := 114) S.1 S.2.1 dX5_goes_225 (by decide) ?_
                            exact ih161 v171 σ_161 τ_161 _ _ ls (by omega) (by omega) (by first | exact hbe9 | exact hbe) hI hP hH hS (lv_sub hl [2, 3, 4, 5, 6, 0] rfl)
                          · have j170 := t_neq c170
                            refine lv_aload_n S.1 S.2.1 dX5_goes_155 rfl (lv_at hl 1 rfl) ?_
                            refine rM_0_33 S hnX5 K hH (mG wd_334) dX5_goes_156 ?_
                            refine lv_iload S.1 S.2.1 dX5_goes_159 (lv_at hl 6 rfl) ?_
                            refine lM_33 S K hH (vin (by omega) (by omega)) dX5_goes_161 ?_
                            refine lv_topi (fun v172 e172 => ?_)
                            refine lv_if_ne (tgt := 222) S.1 S.2.1 dX5_goes_162 (by decide) (fun c173 => ?_) (fun c173 => ?_)
                            · have j173 := t_neq c173
                              obtain ⟨v174, e174⟩ : ∃ y_9 : Int32, y_9 = x6_161 + 1 := ⟨_, rfl⟩
                              have i174 : v174.toInt = x6_161.toInt + 1 := i_addc e174 (by decide) (by omega) (by omega)
                              refine lv_iinc (v := v174) (lv' := [(6, .int v174), (7, .int v168), (0, .ref (L 0 0)), (1, .int m9), (2, .int a), (3, .int t), (4, .int b)]) S.1 S.2.1 dX5_goes_222 hl (k := 6) rfl (by rw [e174]; rfl) (by decide) rfl (fun ls hl => ?_)
                              refine lv_goto (tgt := 114) S.1 S.2.1 dX5_goes_225 (by decide) ?_
                              exact ih161 v174 σ_161 τ_161 _ _ ls (by omega) (by omega) (by first | exact hbe9 | exact hbe) hI hP hH hS (lv_sub hl [2, 3, 4, 5, 6, 0] rfl)
                            · have j173 := t_eq c173
                              refine lv_iload S.1 S.2.1 dX5_goes_165 (lv_at hl 0 rfl) ?_
                              refine lv_aload_n S.1 S.2.1 dX5_goes_167 rfl (lv_at hl 1 rfl) ?_
                              refine rM_0_37 S hnX5 K hH (mG wd_379) dX5_goes_168 ?_
                              refine lv_topi (fun v175 e175 => ?_)
                              refine lv_icmp_le (tgt := 177) S.1 S.2.1 dX5_goes_171 (by decide) (fun c176 => ?_) (fun c176 => ?_)
                              · have j176 := t_le c176
                                refine lv_aload_n S.1 S.2.1 dX5_goes_177 rfl (lv_at hl 1 rfl) ?_
                                refine rM_0_33 S hnX5 K hH (mG wd_334) dX5_goes_178 ?_
                                refine lv_iload S.1 S.2.1 dX5_goes_181 (lv_at hl 6 rfl) ?_
                                refine lv_iconst (v := 1) S.1 S.2.1 dX5_goes_183 (by decide) ?_
                                refine sM_33 S K hH hS (vin (by omega) (by omega)) dX5_goes_184 (fun H locs hH hS => ?_)
                                obtain ⟨σ177, eσ177⟩ : ∃ z_9 : QS, z_9 = rs σ_161 33 0 (upd (σ_161 33 0) x6_161.toNatClampNeg (vp_nar .boolean 1)) := ⟨_, rfl⟩
                                rw [← eσ177] at hH
                                have hI := InvM_a eσ177 hI (by decide) (any32 _)
                                have hP := Keep_w eσ177 hP (by decide)
                                have hb1 : cntB σ177 = m9.toInt + 1 := by rw [cntB_set eσ177 (by omega) (by omega) e172 (by omega), cntB_congr hbe]; omega
                                refine lv_aload_n S.1 S.2.1 dX5_goes_185 rfl (lv_at hl 1 rfl) ?_
                                refine rM_0_30 S hnX5 K hH (mG wd_331) dX5_goes_186 ?_
                                refine lv_iload_n S.1 S.2.1 dX5_goes_189 rfl (lv_at hl 2 rfl) ?_
                                refine lv_iload S.1 S.2.1 dX5_goes_190 (lv_at hl 6 rfl) ?_
                                refine sM_30 S K hH hS (vin (by omega) (by omega)) dX5_goes_192 (fun H locs hH hS => ?_)
                                obtain ⟨σ178, eσ178⟩ : ∃ z_9 : QS, z_9 = rs σ177 30 0 (upd (σ177 30 0) m9.toNatClampNeg x6_161) := ⟨_, rfl⟩
                                rw [← eσ178] at hH
                                have hI := InvM_a eσ178 hI (by decide) (any32 _)
                                have hP := Keep_w eσ178 hP (by decide)
                                have hb1 : cntB σ178 = m9.toInt + 1 := by rw [cntB_congr (σ := σ177) (by rw [eσ178, rs_v (by decide)])]; exact hb1
                                refine lv_aload_n S.1 S.2.1 dX5_goes_193 rfl (lv_at hl 1 rfl) ?_
                                refine lv_iload_n S.1 S.2.1 dX5_goes_194 rfl (lv_at hl 2 rfl) ?_
                                refine lv_iconst (v := 1) S.1 S.2.1 dX5_goes_195 (by decide) ?_
                                refine lv_iadd S.1 S.2.1 dX5_goes_196 ?_
                                refine lv_topi (fun v179 e179 => ?_)
                                have i179 : v179.toInt = m9.toInt + (1 : Int32).toInt := i_add e179 (by omega) (by omega)
                                refine lv_iload S.1 S.2.1 dX5_goes_197 (lv_at hl 6 rfl) ?_
                                refine lv_iload S.1 S.2.1 dX5_goes_199 (lv_at hl 0 rfl) ?_
                                refine lv_iload S.1 S.2.1 dX5_goes_201 (lv_at hl 5 rfl) ?_
                                refine lv_aload_n S.1 S.2.1 dX5_goes_203 rfl (lv_at hl 1 rfl) ?_
                                refine rM_0_29 S hnX5 K hH (mG wd_330) dX5_goes_204 ?_
                                refine lv_iload S.1 S.2.1 dX5_goes_207 (lv_at hl 6 rfl) ?_
                                refine lM_29 S K hH (vin (by omega) (by omega)) dX5_goes_209 ?_
                                refine lv_topi (fun v180 e180 => ?_)
                                refine lv_iadd S.1 S.2.1 dX5_goes_210 ?_
                                refine lv_topi (fun v181 e181 => ?_)
                                refine cW_bv (cW_V (n := 4) (As := [.int v179, .int x6_161, .int v168, .int v181]) (rest := []) (k := 0) (i := 0) S K hH (by decide) rfl rfl (IH σ178 τ_161 v179 x6_161 v168 v181 (by have h9 := cntB_le σ178; omega) (by omega) hI (by rw [hb1]; omega) (by omega)) gX5_goes_X5_goes rfl hdV_X5_goes ⟨Nat.le_refl _, Nat.le_refl _⟩ rfl hl.1 (Nat.le_of_ble_eq_true rfl) dX5_goes_211) hS (fun σ182 τ182 H locs q182 hH hS => ?_)
                                obtain ⟨hI, hP182, q182⟩ := q182
                                have hP := Keep_t hP hP182 (by decide)
                                refine lv_aload_n S.1 S.2.1 dX5_goes_214 rfl (lv_at hl 1 rfl) ?_
                                refine rM_0_33 S hnX5 K hH (mG wd_334) dX5_goes_215 ?_
                                refine lv_iload S.1 S.2.1 dX5_goes_218 (lv_at hl 6 rfl) ?_
                                refine lv_iconst (v := 0) S.1 S.2.1 dX5_goes_220 (by decide) ?_
                                refine sM_33 S K hH hS (vin (by omega) (by omega)) dX5_goes_221 (fun H locs hH hS => ?_)
                                obtain ⟨σ183, eσ183⟩ : ∃ z_9 : QS, z_9 = rs σ182 33 0 (upd (σ182 33 0) x6_161.toNatClampNeg (vp_nar .boolean 0)) := ⟨_, rfl⟩
                                rw [← eσ183] at hH
                                have hI := InvM_a eσ183 hI (by decide) (any32 _)
                                have hP := Keep_w eσ183 hP (by decide)
                                have hbe9 : σ183 33 = σ 33 := (been_back eσ177 (σ2 := σ178) (by rw [eσ178, rs_v (by decide)]) q182 eσ183 e172 (by omega)).trans hbe
                                obtain ⟨v184, e184⟩ : ∃ y_9 : Int32, y_9 = x6_161 + 1 := ⟨_, rfl⟩
                                have i184 : v184.toInt = x6_161.toInt + 1 := i_addc e184 (by decide) (by omega) (by omega)
                                refine lv_iinc (v := v184) (lv' := [(6, .int v184), (7, .int v168), (0, .ref (L 0 0)), (1, .int m9), (2, .int a), (3, .int t), (4, .int b)]) S.1 S.2.1 dX5_goes_222 hl (k := 6) rfl (by rw [e184]; rfl) (by decide) rfl (fun ls hl => ?_)
                                refine lv_goto (tgt := 114) S.1 S.2.1 dX5_goes_225 (by decide) ?_
                                exact ih161 v184 σ183 τ182 _ _ ls (by omega) (by omega) (by first | exact hbe9 | exact hbe) hI hP hH hS (lv_sub hl [2, 3, 4, 5, 6, 0] rfl)
                              · have j176 := t_nle c176
                                refine lv_goto (tgt := 222) S.1 S.2.1 dX5_goes_174 (by decide) ?_
                                obtain ⟨v185, e185⟩ : ∃ y_9 : Int32, y_9 = x6_161 + 1 := ⟨_, rfl⟩
                                have i185 : v185.toInt = x6_161.toInt + 1 := i_addc e185 (by decide) (by omega) (by omega)
                                refine lv_iinc (v := v185) (lv' := [(6, .int v185), (7, .int v168), (0, .ref (L 0 0)), (1, .int m9), (2, .int a), (3, .int t), (4, .int b)]) S.1 S.2.1 dX5_goes_222 hl (k := 6) rfl (by rw [e185]; rfl) (by decide) rfl (fun ls hl => ?_)
                                refine lv_goto (tgt := 114) S.1 S.2.1 dX5_goes_225 (by decide) ?_
                                exact ih161 v185 σ_161 τ_161 _ _ ls (by omega) (by omega) (by first | exact hbe9 | exact hbe) hI hP hH hS (lv_sub hl [2, 3, 4, 5, 6, 0] rfl)
                    exact cut_114_161 _ 1 σ_159 τ_159 _ _ ls (Nat.lt_succ_self _) (by omega) (by first | rfl | exact hbe) hI hP hH hS (lv_sub hl [1, 2, 3, 4, 5, 0] rfl)
                  · have j160 := t_nle c160
                    refine lv_aload_n S.1 S.2.1 dX5_goes_91 rfl (lv_at hl 0 rfl) ?_
                    refine rM_0_31 S hnX5 K hH (mG wd_332) dX5_goes_92 ?_
                    refine lv_iload S.1 S.2.1 dX5_goes_95 (lv_at hl 5 rfl) ?_
                    refine lv_aload_n S.1 S.2.1 dX5_goes_97 rfl (lv_at hl 0 rfl) ?_
                    refine rM_0_30 S hnX5 K hH (mG wd_331) dX5_goes_98 ?_
                    refine lv_iload S.1 S.2.1 dX5_goes_101 (lv_at hl 5 rfl) ?_
                    refine lM_30 S K hH (vin (by omega) (by omega)) dX5_goes_103 ?_
                    refine lv_topi (fun v186 e186 => ?_)
                    refine sM_31 S K hH hS (vin (by omega) (by omega)) dX5_goes_104 (fun H locs hH hS => ?_)
                    obtain ⟨σ187, eσ187⟩ : ∃ z_9 : QS, z_9 = rs σ_159 31 0 (upd (σ_159 31 0) x6_159.toNatClampNeg v186) := ⟨_, rfl⟩
                    rw [← eσ187] at hH
                    have hI := InvM_a eσ187 hI (by decide) (any32 _)
                    have hP := Keep_w eσ187 hP (by decide)
                    obtain ⟨v188, e188⟩ : ∃ y_9 : Int32, y_9 = x6_159 + 1 := ⟨_, rfl⟩
                    have i188 : v188.toInt = x6_159.toInt + 1 := i_addc e188 (by decide) (by omega) (by omega)
                    refine lv_iinc (v := v188) (lv' := [(6, .int v188), (0, .ref (L 0 0)), (1, .int m9), (2, .int a), (3, .int t), (4, .int b)]) S.1 S.2.1 dX5_goes_105 hl (k := 5) rfl (by rw [e188]; rfl) (by decide) rfl (fun ls hl => ?_)
                    refine lv_goto (tgt := 85) S.1 S.2.1 dX5_goes_108 (by decide) ?_
                    exact ih159 v188 σ187 τ_159 _ _ ls (by omega) (by omega) (by rw [eσ187, rs_v (by decide)]; exact hbe) hI hP hH hS (lv_sub hl [1, 2, 3, 4, 5, 0] rfl)
              exact cut_85_159 _ 0 σ158 τ _ _ ls (Nat.lt_succ_self _) (by omega) (by rw [eσ158, rs_v (by decide), eσ157, rs_v (by decide), eσ156, rs_v (by decide)]) hI hP hH hS (lv_sub hl [2, 3, 4, 5, 6, 0] rfl)
  · have j1 := t_eq c1
    refine lv_iconst (v := 0) S.1 S.2.1 dX5_goes_5 (by decide) ?_
    refine lv_goto (tgt := 18) S.1 S.2.1 dX5_goes_6 (by decide) ?_
    refine lv_iadd S.1 S.2.1 dX5_goes_18 ?_
    have y189 := any32 t
    refine lv_topi (fun v190 e190 => ?_)
    have i190 : v190.toInt = t.toInt + (0 : Int32).toInt := i_add e190 (by omega) (by omega)
    refine lv_istore (lv' := [(5, .int v190), (0, .ref (L 0 0)), (1, .int m9), (2, .int a), (3, .int t), (4, .int b)]) S.1 S.2.1 dX5_goes_19 hl (by decide) rfl (fun ls hl => ?_)
    refine lv_iload S.1 S.2.1 dX5_goes_21 (lv_at hl 0 rfl) ?_
    refine lv_aload_n S.1 S.2.1 dX5_goes_23 rfl (lv_at hl 1 rfl) ?_
    refine rM_0_37 S hnX5 K hH (mG wd_379) dX5_goes_24 ?_
    refine lv_topi (fun v191 e191 => ?_)
    refine lv_icmp_gt (tgt := 111) S.1 S.2.1 dX5_goes_27 (by decide) (fun c192 => ?_) (fun c192 => ?_)
    · have j192 := t_lt c192
      refine lv_iconst (v := 1) S.1 S.2.1 dX5_goes_111 (by decide) ?_
      refine lv_istore (lv' := [(6, .int 1), (5, .int v190), (0, .ref (L 0 0)), (1, .int m9), (2, .int a), (3, .int t), (4, .int b)]) S.1 S.2.1 dX5_goes_112 hl (by decide) rfl (fun ls hl => ?_)
      have cut_114_193 : ∀ (n : Nat) (x6_193 : Int32) (σ_193 : QS) (τ_193 : Int64) (H : Heap) (locs : List Loc) (ls : Array Slot), (9 - x6_193.toInt).toNat < n → 1 ≤ x6_193.toInt ∧ x6_193.toInt ≤ 9 → (σ_193 33 = σ 33) → InvM σ_193 → Keep [34, 35, 36, 31, 30, 33] σ σ_193 → hW cntM gM D B L σ_193 τ_193 H → va_S A s.heap H locs → lv_has ls 8 [(0, .ref (L 0 0)), (1, .int m9), (2, .int a), (3, .int t), (4, .int b), (6, .int x6_193)] → W p l e { frames := fr + 1, cells := 0, slots := 0, locals := 8 + (8 + 11) + lo } s m [.ref (L 0 0), .int m9, .int a, .int t, .int b].toArray below meth c H locs 0 0 (MQ below (QcW cntM gM D B L A (pV (fun σ' τ' => InvM σ' ∧ Keep [34, 35, 36, 31, 30, 33] σ σ' ∧ σ' 33 = σ 33))) [.ref (L 0 0), .int m9, .int a, .int t, .int b].toArray s 0 0 A) (F0 m 114 ls []) := by
        intro n
        induction n with
        | zero => intro x6_193 σ_193 τ_193 H locs ls hm; exact absurd hm (Nat.not_lt_zero _)
        | succ n ih193 =>
          intro x6_193 σ_193 τ_193 H locs ls hm193 h193_0 hbe hI hP hH hS hl
          refine lv_iload S.1 S.2.1 dX5_goes_114 (lv_at hl 5 rfl) ?_
          refine lv_bipush (v := 9) S.1 S.2.1 dX5_goes_116 (by decide) ?_
          refine lv_icmp_ge (tgt := 228) S.1 S.2.1 dX5_goes_118 (by decide) (fun c194 => ?_) (fun c194 => ?_)
          · have j194 := t_le c194
            refine cW_vret S hr hk hH hS ?_ dX5_goes_228
            exact ⟨rfl, hI, hP, by first | rfl | exact hbe⟩
          · have j194 := t_nle c194
            refine lv_iload_n S.1 S.2.1 dX5_goes_121 rfl (lv_at hl 3 rfl) ?_
            refine lv_aload_n S.1 S.2.1 dX5_goes_122 rfl (lv_at hl 0 rfl) ?_
            refine rM_0_27 S hnX5 K hH (mG wd_328) dX5_goes_123 ?_
            refine lv_bipush (v := 9) S.1 S.2.1 dX5_goes_126 (by decide) ?_
            refine lv_iload_n S.1 S.2.1 dX5_goes_128 rfl (lv_at hl 2 rfl) ?_
            refine lv_imul S.1 S.2.1 dX5_goes_129 ?_
            refine lv_topi (fun v195 e195 => ?_)
            have i195 : v195.toInt = 9 * a.toInt := i_mulcl e195 (by decide) (by omega) (by omega)
            refine lv_iload S.1 S.2.1 dX5_goes_130 (lv_at hl 5 rfl) ?_
            refine lv_iadd S.1 S.2.1 dX5_goes_132 ?_
            refine lv_topi (fun v196 e196 => ?_)
            have i196 : v196.toInt = v195.toInt + x6_193.toInt := i_add e196 (by omega) (by omega)
            refine lM_27 S K hH (vin (by omega) (by omega)) dX5_goes_133 ?_
            refine lv_topi (fun v197 e197 => ?_)
            refine lv_iadd S.1 S.2.1 dX5_goes_134 ?_
            refine lv_topi (fun v198 e198 => ?_)
            refine lv_aload_n S.1 S.2.1 dX5_goes_135 rfl (lv_at hl 0 rfl) ?_
            refine rM_0_28 S hnX5 K hH (mG wd_329) dX5_goes_136 ?_
            refine lv_iload S.1 S.2.1 dX5_goes_139 (lv_at hl 5 rfl) ?_
            refine lM_28 S K hH (vin (by omega) (by omega)) dX5_goes_141 ?_
            refine lv_topi (fun v199 e199 => ?_)
            refine lv_iadd S.1 S.2.1 dX5_goes_142 ?_
            refine lv_topi (fun v200 e200 => ?_)
            refine lv_istore (lv' := [(7, .int v200), (0, .ref (L 0 0)), (1, .int m9), (2, .int a), (3, .int t), (4, .int b), (6, .int x6_193)]) S.1 S.2.1 dX5_goes_143 hl (by decide) rfl (fun ls hl => ?_)
            refine lv_aload_n S.1 S.2.1 dX5_goes_145 rfl (lv_at hl 1 rfl) ?_
            refine rM_0_32 S hnX5 K hH (mG wd_333) dX5_goes_146 ?_
            refine lv_iload S.1 S.2.1 dX5_goes_149 (lv_at hl 6 rfl) ?_
            refine lM_32 S K hH (vin (by omega) (by omega)) dX5_goes_151 ?_
            refine lv_topi (fun v201 e201 => ?_)
            refine lv_if_eq (tgt := 222) S.1 S.2.1 dX5_goes_152 (by decide) (fun c202 => ?_) (fun c202 => ?_)
            · have j202 := t_eq c202
              obtain ⟨v203, e203⟩ : ∃ y_9 : Int32, y_9 = x6_193 + 1 := ⟨_, rfl⟩
              have i203 : v203.toInt = x6_193.toInt + 1 := i_addc e203 (by decide) (by omega) (by omega)
              refine lv_iinc (v := v203) (lv' := [(6, .int v203), (7, .int v200), (0, .ref (L 0 0)), (1, .int m9), (2, .int a), (3, .int t), (4, .int b)]) S.1 S.2.1 dX5_goes_222 hl (k := 6) rfl (by rw [e203]; rfl) (by decide) rfl (fun ls hl => ?_)
              refine lv_goto (tgt := 114) S.1 S.2.1 dX5_goes_225 (by decide) ?_
              exact ih193 v203 σ_193 τ_193 _ _ ls (by omega) (by omega) (by first | exact hbe9 | exact hbe) hI hP hH hS (lv_sub hl [2, 3, 4, 5, 6, 0] rfl)
            · have j202 := t_neq c202
              refine lv_aload_n S.1 S.2.1 dX5_goes_155 rfl (lv_at hl 1 rfl) ?_
              refine rM_0_33 S hnX5 K hH (mG wd_334) dX5_goes_156 ?_
              refine lv_iload S.1 S.2.1 dX5_goes_159 (lv_at hl 6 rfl) ?_
              refine lM_33 S K hH (vin (by omega) (by omega)) dX5_goes_161 ?_
              refine lv_topi (fun v204 e204 => ?_)
              refine lv_if_ne (tgt := 222) S.1 S.2.1 dX5_goes_162 (by decide) (fun c205 => ?_) (fun c205 => ?_)
              · have j205 := t_neq c205
                obtain ⟨v206, e206⟩ : ∃ y_9 : Int32, y_9 = x6_193 + 1 := ⟨_, rfl⟩
                have i206 : v206.toInt = x6_193.toInt + 1 := i_addc e206 (by decide) (by omega) (by omega)
                refine lv_iinc (v := v206) (lv' := [(6, .int v206), (7, .int v200), (0, .ref (L 0 0)), (1, .int m9), (2, .int a), (3, .int t), (4, .int b)]) S.1 S.2.1 dX5_goes_222 hl (k := 6) rfl (by rw [e206]; rfl) (by decide) rfl (fun ls hl => ?_)
                refine lv_goto (tgt := 114) S.1 S.2.1 dX5_goes_225 (by decide) ?_
                exact ih193 v206 σ_193 τ_193 _ _ ls (by omega) (by omega) (by first | exact hbe9 | exact hbe) hI hP hH hS (lv_sub hl [2, 3, 4, 5, 6, 0] rfl)
              · have j205 := t_eq c205
                refine lv_iload S.1 S.2.1 dX5_goes_165 (lv_at hl 0 rfl) ?_
                refine lv_aload_n S.1 S.2.1 dX5_goes_167 rfl (lv_at hl 1 rfl) ?_
                refine rM_0_37 S hnX5 K hH (mG wd_379) dX5_goes_168 ?_
                refine lv_topi (fun v207 e207 => ?_)
                refine lv_icmp_le (tgt := 177) S.1 S.2.1 dX5_goes_171 (by decide) (fun c208 => ?_) (fun c208 => ?_)
                · have j208 := t_le c208
                  refine lv_aload_n S.1 S.2.1 dX5_goes_177 rfl (lv_at hl 1 rfl) ?_
                  refine rM_0_33 S hnX5 K hH (mG wd_334) dX5_goes_178 ?_
                  refine lv_iload S.1 S.2.1 dX5_goes_181 (lv_at hl 6 rfl) ?_
                  refine lv_iconst (v := 1) S.1 S.2.1 dX5_goes_183 (by decide) ?_
                  refine sM_33 S K hH hS (vin (by omega) (by omega)) dX5_goes_184 (fun H locs hH hS => ?_)
                  obtain ⟨σ209, eσ209⟩ : ∃ z_9 : QS, z_9 = rs σ_193 33 0 (upd (σ_193 33 0) x6_193.toNatClampNeg (vp_nar .boolean 1)) := ⟨_, rfl⟩
                  rw [← eσ209] at hH
                  have hI := InvM_a eσ209 hI (by decide) (any32 _)
                  have hP := Keep_w eσ209 hP (by decide)
                  have hb1 : cntB σ209 = m9.toInt + 1 := by rw [cntB_set eσ209 (by omega) (by omega) e204 (by omega), cntB_congr hbe]; omega
                  refine lv_aload_n S.1 S.2.1 dX5_goes_185 rfl (lv_at hl 1 rfl) ?_
                  refine rM_0_30 S hnX5 K hH (mG wd_331) dX5_goes_186 ?_
                  refine lv_iload_n S.1 S.2.1 dX5_goes_189 rfl (lv_at hl 2 rfl) ?_
                  refine lv_iload S.1 S.2.1 dX5_goes_190 (lv_at hl 6 rfl) ?_
                  refine sM_30 S K hH hS (vin (by omega) (by omega)) dX5_goes_192 (fun H locs hH hS => ?_)
                  obtain ⟨σ210, eσ210⟩ : ∃ z_9 : QS, z_9 = rs σ209 30 0 (upd (σ209 30 0) m9.toNatClampNeg x6_193) := ⟨_, rfl⟩
                  rw [← eσ210] at hH
                  have hI := InvM_a eσ210 hI (by decide) (any32 _)
                  have hP := Keep_w eσ210 hP (by decide)
                  have hb1 : cntB σ210 = m9.toInt + 1 := by rw [cntB_congr (σ := σ209) (by rw [eσ210, rs_v (by decide)])]; exact hb1
                  refine lv_aload_n S.1 S.2.1 dX5_goes_193 rfl (lv_at hl 1 rfl) ?_
                  refine lv_iload_n S.1 S.2.1 dX5_goes_194 rfl (lv_at hl 2 rfl) ?_
                  refine lv_iconst (v := 1) S.1 S.2.1 dX5_goes_195 (by decide) ?_
                  refine lv_iadd S.1 S.2.1 dX5_goes_196 ?_
                  refine lv_topi (fun v211 e211 => ?_)
                  have i211 : v211.toInt = m9.toInt + (1 : Int32).toInt := i_add e211 (by omega) (by omega)
                  refine lv_iload S.1 S.2.1 dX5_goes_197 (lv_at hl 6 rfl) ?_
                  refine lv_iload S.1 S.2.1 dX5_goes_199 (lv_at hl 0 rfl) ?_
                  refine lv_iload S.1 S.2.1 dX5_goes_201 (lv_at hl 5 rfl) ?_
                  refine lv_aload_n S.1 S.2.1 dX5_goes_203 rfl (lv_at hl 1 rfl) ?_
                  refine rM_0_29 S hnX5 K hH (mG wd_330) dX5_goes_204 ?_
                  refine lv_iload S.1 S.2.1 dX5_goes_207 (lv_at hl 6 rfl) ?_
                  refine lM_29 S K hH (vin (by omega) (by omega)) dX5_goes_209 ?_
                  refine lv_topi (fun v212 e212 => ?_)
                  refine lv_iadd S.1 S.2.1 dX5_goes_210 ?_
                  refine lv_topi (fun v213 e213 => ?_)
                  refine cW_bv (cW_V (n := 4) (As := [.int v211, .int x6_193, .int v200, .int v213]) (rest := []) (k := 0) (i := 0) S K hH (by decide) rfl rfl (IH σ210 τ_193 v211 x6_193 v200 v213 (by have h9 := cntB_le σ210; omega) (by omega) hI (by rw [hb1]; omega) (by omega)) gX5_goes_X5_goes rfl hdV_X5_goes ⟨Nat.le_refl _, Nat.le_refl _⟩ rfl hl.1 (Nat.le_of_ble_eq_true rfl) dX5_goes_211) hS (fun σ214 τ214 H locs q214 hH hS => ?_)
                  obtain ⟨hI, hP214, q214⟩ := q214
                  have hP := Keep_t hP hP214 (by decide)
                  refine lv_aload_n S.1 S.2.1 dX5_goes_214 rfl (lv_at hl 1 rfl) ?_
                  refine rM_0_33 S hnX5 K hH (mG wd_334) dX5_goes_215 ?_
                  refine lv_iload S.1 S.2.1 dX5_goes_218 (lv_at hl 6 rfl) ?_
                  refine lv_iconst (v := 0) S.1 S.2.1 dX5_goes_220 (by decide) ?_
                  refine sM_33 S K hH hS (vin (by omega) (by omega)) dX5_goes_221 (fun H locs hH hS => ?_)
                  obtain ⟨σ215, eσ215⟩ : ∃ z_9 : QS, z_9 = rs σ214 33 0 (upd (σ214 33 0) x6_193.toNatClampNeg (vp_nar .boolean 0)) := ⟨_, rfl⟩
                  rw [← eσ215] at hH
                  have hI := InvM_a eσ215 hI (by decide) (any32 _)
                  have hP := Keep_w eσ215 hP (by decide)
                  have hbe9 : σ215 33 = σ 33 := (been_back eσ209 (σ2 := σ210) (by rw [eσ210, rs_v (by decide)]) q214 eσ215 e204 (by omega)).trans hbe
                  obtain ⟨v216, e216⟩ : ∃ y_9 : Int32, y_9 = x6_193 + 1 := ⟨_, rfl⟩
                  have i216 : v216.toInt = x6_193.toInt + 1 := i_addc e216 (by decide) (by omega) (by omega)
                  refine lv_iinc (v := v216) (lv' := [(6, .int v216), (7, .int v200), (0, .ref (L 0 0)), (1, .int m9), (2, .int a), (3, .int t), (4, .int b)]) S.1 S.2.1 dX5_goes_222 hl (k := 6) rfl (by rw [e216]; rfl) (by decide) rfl (fun ls hl => ?_)
                  refine lv_goto (tgt := 114) S.1 S.2.1 dX5_goes_225 (by decide) ?_
                  exact ih193 v216 σ215 τ214 _ _ ls (by omega) (by omega) (by first | exact hbe9 | exact hbe) hI hP hH hS (lv_sub hl [2, 3, 4, 5, 6, 0] rfl)
                · have j208 := t_nle c208
                  refine lv_goto (tgt := 222) S.1 S.2.1 dX5_goes_174 (by decide) ?_
                  obtain ⟨v217, e217⟩ : ∃ y_9 : Int32, y_9 = x6_193 + 1 := ⟨_, rfl⟩
                  have i217 : v217.toInt = x6_193.toInt + 1 := i_addc e217 (by decide) (by omega) (by omega)
                  refine lv_iinc (v := v217) (lv' := [(6, .int v217), (7, .int v200), (0, .ref (L 0 0)), (1, .int m9), (2, .int a), (3, .int t), (4, .int b)]) S.1 S.2.1 dX5_goes_222 hl (k := 6) rfl (by rw [e217]; rfl) (by decide) rfl (fun ls hl => ?_)
                  refine lv_goto (tgt := 114) S.1 S.2.1 dX5_goes_225 (by decide) ?_
                  exact ih193 v217 σ_193 τ_193 _ _ ls (by omega) (by omega) (by first | exact hbe9 | exact hbe) hI hP hH hS (lv_sub hl [2, 3, 4, 5, 6, 0] rfl)
      exact cut_114_193 _ 1 σ τ _ _ ls (Nat.lt_succ_self _) (by omega) (by first | rfl | exact hbe) hI hP hH hS (lv_sub hl [2, 3, 4, 5, 6, 0] rfl)
    · have j192 := t_nlt c192
      refine lv_aload_n S.1 S.2.1 dX5_goes_30 rfl (lv_at hl 1 rfl) ?_
      refine rM_0_34 S hnX5 K hH (mG wd_380) dX5_goes_31 ?_
      refine lv_topi (fun v218 e218 => ?_)
      have b218 : (-1) ≤ v218.toInt ∧ v218.toInt ≤ 8 := by rw [e218]; exact hI.1 34 0 0
      refine lv_iconst (v := (-1)) S.1 S.2.1 dX5_goes_34 (by decide) ?_
      refine lv_icmp_eq (tgt := 65) S.1 S.2.1 dX5_goes_35 (by decide) (fun c219 => ?_) (fun c219 => ?_)
      · have j219 := t_eq c219
        refine lv_aload_n S.1 S.2.1 dX5_goes_65 rfl (lv_at hl 1 rfl) ?_
        refine lv_iload_n S.1 S.2.1 dX5_goes_66 rfl (lv_at hl 2 rfl) ?_
        refine pM_0_34 S hnX5 K hH hS (mG wd_380) dX5_goes_67 (fun H locs hH hS => ?_)
        obtain ⟨σ220, eσ220⟩ : ∃ z_9 : QS, z_9 = rs σ 34 0 (fun _ => m9) := ⟨_, rfl⟩
        rw [← eσ220] at hH
        have hI := InvM_f eσ220 hI (by decide) (show ((-1) : Int) ≤ m9.toInt ∧ m9.toInt ≤ 8 by omega)
        have hP := Keep_w eσ220 hP (by decide)
        refine lv_aload_n S.1 S.2.1 dX5_goes_70 rfl (lv_at hl 1 rfl) ?_
        refine lv_iload S.1 S.2.1 dX5_goes_71 (lv_at hl 5 rfl) ?_
        refine pM_0_35 S hnX5 K hH hS (mG wd_381) dX5_goes_73 (fun H locs hH hS => ?_)
        obtain ⟨σ221, eσ221⟩ : ∃ z_9 : QS, z_9 = rs σ220 35 0 (fun _ => b) := ⟨_, rfl⟩
        rw [← eσ221] at hH
        have hI := InvM_f eσ221 hI (by decide) (any32 _)
        have hP := Keep_w eσ221 hP (by decide)
        refine lv_aload_n S.1 S.2.1 dX5_goes_76 rfl (lv_at hl 1 rfl) ?_
        refine lv_iload S.1 S.2.1 dX5_goes_77 (lv_at hl 0 rfl) ?_
        refine pM_0_36 S hnX5 K hH hS (mG wd_382) dX5_goes_79 (fun H locs hH hS => ?_)
        obtain ⟨σ222, eσ222⟩ : ∃ z_9 : QS, z_9 = rs σ221 36 0 (fun _ => v190) := ⟨_, rfl⟩
        rw [← eσ222] at hH
        have hI := InvM_f eσ222 hI (by decide) (any32 _)
        have hP := Keep_w eσ222 hP (by decide)
        refine lv_iconst (v := 0) S.1 S.2.1 dX5_goes_82 (by decide) ?_
        refine lv_istore (lv' := [(6, .int 0), (5, .int v190), (0, .ref (L 0 0)), (1, .int m9), (2, .int a), (3, .int t), (4, .int b)]) S.1 S.2.1 dX5_goes_83 hl (by decide) rfl (fun ls hl => ?_)
        have cut_85_223 : ∀ (n : Nat) (x6_223 : Int32) (σ_223 : QS) (τ_223 : Int64) (H : Heap) (locs : List Loc) (ls : Array Slot), (8 - x6_223.toInt).toNat < n → 0 ≤ x6_223.toInt ∧ x6_223.toInt ≤ 8 → (σ_223 33 = σ 33) → InvM σ_223 → Keep [34, 35, 36, 31, 30, 33] σ σ_223 → hW cntM gM D B L σ_223 τ_223 H → va_S A s.heap H locs → lv_has ls 8 [(0, .ref (L 0 0)), (1, .int m9), (2, .int a), (3, .int t), (4, .int b), (6, .int x6_223)] → W p l e { frames := fr + 1, cells := 0, slots := 0, locals := 8 + (8 + 11) + lo } s m [.ref (L 0 0), .int m9, .int a, .int t, .int b].toArray below meth c H locs 0 0 (MQ below (QcW cntM gM D B L A (pV (fun σ' τ' => InvM σ' ∧ Keep [34, 35, 36, 31, 30, 33] σ σ' ∧ σ' 33 = σ 33))) [.ref (L 0 0), .int m9, .int a, .int t, .int b].toArray s 0 0 A) (F0 m 85 ls []) := by
          intro n
          induction n with
          | zero => intro x6_223 σ_223 τ_223 H locs ls hm; exact absurd hm (Nat.not_lt_zero _)
          | succ n ih223 =>
            intro x6_223 σ_223 τ_223 H locs ls hm223 h223_0 hbe hI hP hH hS hl
            refine lv_iload S.1 S.2.1 dX5_goes_85 (lv_at hl 5 rfl) ?_
            refine lv_iload_n S.1 S.2.1 dX5_goes_87 rfl (lv_at hl 1 rfl) ?_
            refine lv_icmp_ge (tgt := 111) S.1 S.2.1 dX5_goes_88 (by decide) (fun c224 => ?_) (fun c224 => ?_)
            · have j224 := t_le c224
              refine lv_iconst (v := 1) S.1 S.2.1 dX5_goes_111 (by decide) ?_
              refine lv_istore (lv' := [(6, .int 1), (0, .ref (L 0 0)), (1, .int m9), (2, .int a), (3, .int t), (4, .int b)]) S.1 S.2.1 dX5_goes_112 hl (by decide) rfl (fun ls hl => ?_)
              have cut_114_225 : ∀ (n : Nat) (x6_225 : Int32) (σ_225 : QS) (τ_225 : Int64) (H : Heap) (locs : List Loc) (ls : Array Slot), (9 - x6_225.toInt).toNat < n → 1 ≤ x6_225.toInt ∧ x6_225.toInt ≤ 9 → (σ_225 33 = σ 33) → InvM σ_225 → Keep [34, 35, 36, 31, 30, 33] σ σ_225 → hW cntM gM D B L σ_225 τ_225 H → va_S A s.heap H locs → lv_has ls 8 [(0, .ref (L 0 0)), (1, .int m9), (2, .int a), (3, .int t), (4, .int b), (6, .int x6_225)] → W p l e { frames := fr + 1, cells := 0, slots := 0, locals := 8 + (8 + 11) + lo } s m [.ref (L 0 0), .int m9, .int a, .int t, .int b].toArray below meth c H locs 0 0 (MQ below (QcW cntM gM D B L A (pV (fun σ' τ' => InvM σ' ∧ Keep [34, 35, 36, 31, 30, 33] σ σ' ∧ σ' 33 = σ 33))) [.ref (L 0 0), .int m9, .int a, .int t, .int b].toArray s 0 0 A) (F0 m 114 ls []) := by
                intro n
                induction n with
                | zero => intro x6_225 σ_225 τ_225 H locs ls hm; exact absurd hm (Nat.not_lt_zero _)
                | succ n ih225 =>
                  intro x6_225 σ_225 τ_225 H locs ls hm225 h225_0 hbe hI hP hH hS hl
                  refine lv_iload S.1 S.2.1 dX5_goes_114 (lv_at hl 5 rfl) ?_
                  refine lv_bipush (v := 9) S.1 S.2.1 dX5_goes_116 (by decide) ?_
                  refine lv_icmp_ge (tgt := 228) S.1 S.2.1 dX5_goes_118 (by decide) (fun c226 => ?_) (fun c226 => ?_)
                  · have j226 := t_le c226
                    refine cW_vret S hr hk hH hS ?_ dX5_goes_228
                    exact ⟨rfl, hI, hP, by first | rfl | exact hbe⟩
                  · have j226 := t_nle c226
                    refine lv_iload_n S.1 S.2.1 dX5_goes_121 rfl (lv_at hl 3 rfl) ?_
                    refine lv_aload_n S.1 S.2.1 dX5_goes_122 rfl (lv_at hl 0 rfl) ?_
                    refine rM_0_27 S hnX5 K hH (mG wd_328) dX5_goes_123 ?_
                    refine lv_bipush (v := 9) S.1 S.2.1 dX5_goes_126 (by decide) ?_
                    refine lv_iload_n S.1 S.2.1 dX5_goes_128 rfl (lv_at hl 2 rfl) ?_
                    refine lv_imul S.1 S.2.1 dX5_goes_129 ?_
                    refine lv_topi (fun v227 e227 => ?_)
                    have i227 : v227.toInt = 9 * a.toInt := i_mulcl e227 (by decide) (by omega) (by omega)
                    refine lv_iload S.1 S.2.1 dX5_goes_130 (lv_at hl 5 rfl) ?_
                    refine lv_iadd S.1 S.2.1 dX5_goes_132 ?_
                    refine lv_topi (fun v228 e228 => ?_)
                    have i228 : v228.toInt = v227.toInt + x6_225.toInt := i_add e228 (by omega) (by omega)
                    refine lM_27 S K hH (vin (by omega) (by omega)) dX5_goes_133 ?_
                    refine lv_topi (fun v229 e229 => ?_)
                    refine lv_iadd S.1 S.2.1 dX5_goes_134 ?_
                    refine lv_topi (fun v230 e230 => ?_)
                    refine lv_aload_n S.1 S.2.1 dX5_goes_135 rfl (lv_at hl 0 rfl) ?_
                    refine rM_0_28 S hnX5 K hH (mG wd_329) dX5_goes_136 ?_
                    refine lv_iload S.1 S.2.1 dX5_goes_139 (lv_at hl 5 rfl) ?_
                    refine lM_28 S K hH (vin (by omega) (by omega)) dX5_goes_141 ?_
                    refine lv_topi (fun v231 e231 => ?_)
                    refine lv_iadd S.1 S.2.1 dX5_goes_142 ?_
                    refine lv_topi (fun v232 e232 => ?_)
                    refine lv_istore (lv' := [(7, .int v232), (0, .ref (L 0 0)), (1, .int m9), (2, .int a), (3, .int t), (4, .int b), (6, .int x6_225)]) S.1 S.2.1 dX5_goes_143 hl (by decide) rfl (fun ls hl => ?_)
                    refine lv_aload_n S.1 S.2.1 dX5_goes_145 rfl (lv_at hl 1 rfl) ?_
                    refine rM_0_32 S hnX5 K hH (mG wd_333) dX5_goes_146 ?_
                    refine lv_iload S.1 S.2.1 dX5_goes_149 (lv_at hl 6 rfl) ?_
                    refine lM_32 S K hH (vin (by omega) (by omega)) dX5_goes_151 ?_
                    refine lv_topi (fun v233 e233 => ?_)
                    refine lv_if_eq (tgt := 222) S.1 S.2.1 dX5_goes_152 (by decide) (fun c234 => ?_) (fun c234 => ?_)
                    · have j234 := t_eq c234
                      obtain ⟨v235, e235⟩ : ∃ y_9 : Int32, y_9 = x6_225 + 1 := ⟨_, rfl⟩
                      have i235 : v235.toInt = x6_225.toInt + 1 := i_addc e235 (by decide) (by omega) (by omega)
                      refine lv_iinc (v := v235) (lv' := [(6, .int v235), (7, .int v232), (0, .ref (L 0 0)), (1, .int m9), (2, .int a), (3, .int t), (4, .int b)]) S.1 S.2.1 dX5_goes_222 hl (k := 6) rfl (by rw [e235]; rfl) (by decide) rfl (fun ls hl => ?_)
                      refine lv_goto (tgt := 114) S.1 S.2.1 dX5_goes_225 (by decide) ?_
                      exact ih225 v235 σ_225 τ_225 _ _ ls (by omega) (by omega) (by first | exact hbe9 | exact hbe) hI hP hH hS (lv_sub hl [2, 3, 4, 5, 6, 0] rfl)
                    · have j234 := t_neq c234
                      refine lv_aload_n S.1 S.2.1 dX5_goes_155 rfl (lv_at hl 1 rfl) ?_
                      refine rM_0_33 S hnX5 K hH (mG wd_334) dX5_goes_156 ?_
                      refine lv_iload S.1 S.2.1 dX5_goes_159 (lv_at hl 6 rfl) ?_
                      refine lM_33 S K hH (vin (by omega) (by omega)) dX5_goes_161 ?_
                      refine lv_topi (fun v236 e236 => ?_)
                      refine lv_if_ne (tgt := 222) S.1 S.2.1 dX5_goes_162 (by decide) (fun c237 => ?_) (fun c237 => ?_)
                      · have j237 := t_neq c237
                        obtain ⟨v238, e238⟩ : ∃ y_9 : Int32, y_9 = x6_225 + 1 := ⟨_, rfl⟩
                        have i238 : v238.toInt = x6_225.toInt + 1 := i_addc e238 (by decide) (by omega) (by omega)
                        refine lv_iinc (v := v238) (lv' := [(6, .int v238), (7, .int v232), (0, .ref (L 0 0)), (1, .int m9), (2, .int a), (3, .int t), (4, .int b)]) S.1 S.2.1 dX5_goes_222 hl (k := 6) rfl (by rw [e238]; rfl) (by decide) rfl (fun ls hl => ?_)
                        refine lv_goto (tgt := 114) S.1 S.2.1 dX5_goes_225 (by decide) ?_
                        exact ih225 v238 σ_225 τ_225 _ _ ls (by omega) (by omega) (by first | exact hbe9 | exact hbe) hI hP hH hS (lv_sub hl [2, 3, 4, 5, 6, 0] rfl)
                      · have j237 := t_eq c237
                        refine lv_iload S.1 S.2.1 dX5_goes_165 (lv_at hl 0 rfl) ?_
                        refine lv_aload_n S.1 S.2.1 dX5_goes_167 rfl (lv_at hl 1 rfl) ?_
                        refine rM_0_37 S hnX5 K hH (mG wd_379) dX5_goes_168 ?_
                        refine lv_topi (fun v239 e239 => ?_)
                        refine lv_icmp_le (tgt := 177) S.1 S.2.1 dX5_goes_171 (by decide) (fun c240 => ?_) (fun c240 => ?_)
                        · have j240 := t_le c240
                          refine lv_aload_n S.1 S.2.1 dX5_goes_177 rfl (lv_at hl 1 rfl) ?_
                          refine rM_0_33 S hnX5 K hH (mG wd_334) dX5_goes_178 ?_
                          refine lv_iload S.1 S.2.1 dX5_goes_181 (lv_at hl 6 rfl) ?_
                          refine lv_iconst (v := 1) S.1 S.2.1 dX5_goes_183 (by decide) ?_
                          refine sM_33 S K hH hS (vin (by omega) (by omega)) dX5_goes_184 (fun H locs hH hS => ?_)
                          obtain ⟨σ241, eσ241⟩ : ∃ z_9 : QS, z_9 = rs σ_225 33 0 (upd (σ_225 33 0) x6_225.toNatClampNeg (vp_nar .boolean 1)) := ⟨_, rfl⟩
                          rw [← eσ241] at hH
                          have hI := InvM_a eσ241 hI (by decide) (any32 _)
                          have hP := Keep_w eσ241 hP (by decide)
                          have hb1 : cntB σ241 = m9.toInt + 1 := by rw [cntB_set eσ241 (by omega) (by omega) e236 (by omega), cntB_congr hbe]; omega
                          refine lv_aload_n S.1 S.2.1 dX5_goes_185 rfl (lv_at hl 1 rfl) ?_
                          refine rM_0_30 S hnX5 K hH (mG wd_331) dX5_goes_186 ?_
                          refine lv_iload_n S.1 S.2.1 dX5_goes_189 rfl (lv_at hl 2 rfl) ?_
                          refine lv_iload S.1 S.2.1 dX5_goes_190 (lv_at hl 6 rfl) ?_
                          refine sM_30 S K hH hS (vin (by omega) (by omega)) dX5_goes_192 (fun H locs hH hS => ?_)
                          obtain ⟨σ242, eσ242⟩ : ∃ z_9 : QS, z_9 = rs σ241 30 0 (upd (σ241 30 0) m9.toNatClampNeg x6_225) := ⟨_, rfl⟩
                          rw [← eσ242] at hH
                          have hI := InvM_a eσ242 hI (by decide) (any32 _)
                          have hP := Keep_w eσ242 hP (by decide)
                          have hb1 : cntB σ242 = m9.toInt + 1 := by rw [cntB_congr (σ := σ241) (by rw [eσ242, rs_v (by decide)])]; exact hb1
                          refine lv_aload_n S.1 S.2.1 dX5_goes_193 rfl (lv_at hl 1 rfl) ?_
                          refine lv_iload_n S.1 S.2.1 dX5_goes_194 rfl (lv_at hl 2 rfl) ?_
                          refine lv_iconst (v := 1) S.1 S.2.1 dX5_goes_195 (by decide) ?_
                          refine lv_iadd S.1 S.2.1 dX5_goes_196 ?_
                          refine lv_topi (fun v243 e243 => ?_)
                          have i243 : v243.toInt = m9.toInt + (1 : Int32).toInt := i_add e243 (by omega) (by omega)
                          refine lv_iload S.1 S.2.1 dX5_goes_197 (lv_at hl 6 rfl) ?_
                          refine lv_iload S.1 S.2.1 dX5_goes_199 (lv_at hl 0 rfl) ?_
                          refine lv_iload S.1 S.2.1 dX5_goes_201 (lv_at hl 5 rfl) ?_
                          refine lv_aload_n S.1 S.2.1 dX5_goes_203 rfl (lv_at hl 1 rfl) ?_
                          refine rM_0_29 S hnX5 K hH (mG wd_330) dX5_goes_204 ?_
                          refine lv_iload S.1 S.2.1 dX5_goes_207 (lv_at hl 6 rfl) ?_
                          refine lM_29 S K hH (vin (by omega) (by omega)) dX5_goes_209 ?_
                          refine lv_topi (fun v244 e244 => ?_)
                          refine lv_iadd S.1 S.2.1 dX5_goes_210 ?_
                          refine lv_topi (fun v245 e245 => ?_)
                          refine cW_bv (cW_V (n := 4) (As := [.int v243, .int x6_225, .int v232, .int v245]) (rest := []) (k := 0) (i := 0) S K hH (by decide) rfl rfl (IH σ242 τ_225 v243 x6_225 v232 v245 (by have h9 := cntB_le σ242; omega) (by omega) hI (by rw [hb1]; omega) (by omega)) gX5_goes_X5_goes rfl hdV_X5_goes ⟨Nat.le_refl _, Nat.le_refl _⟩ rfl hl.1 (Nat.le_of_ble_eq_true rfl) dX5_goes_211) hS (fun σ246 τ246 H locs q246 hH hS => ?_)
                          obtain ⟨hI, hP246, q246⟩ := q246
                          have hP := Keep_t hP hP246 (by decide)
                          refine lv_aload_n S.1 S.2.1 dX5_goes_214 rfl (lv_at hl 1 rfl) ?_
                          refine rM_0_33 S hnX5 K hH (mG wd_334) dX5_goes_215 ?_
                          refine lv_iload S.1 S.2.1 dX5_goes_218 (lv_at hl 6 rfl) ?_
                          refine lv_iconst (v := 0) S.1 S.2.1 dX5_goes_220 (by decide) ?_
                          refine sM_33 S K hH hS (vin (by omega) (by omega)) dX5_goes_221 (fun H locs hH hS => ?_)
                          obtain ⟨σ247, eσ247⟩ : ∃ z_9 : QS, z_9 = rs σ246 33 0 (upd (σ246 33 0) x6_225.toNatClampNeg (vp_nar .boolean 0)) := ⟨_, rfl⟩
                          rw [← eσ247] at hH
                          have hI := InvM_a eσ247 hI (by decide) (any32 _)
                          have hP := Keep_w eσ247 hP (by decide)
                          have hbe9 : σ247 33 = σ 33 := (been_back eσ241 (σ2 := σ242) (by rw [eσ242, rs_v (by decide)]) q246 eσ247 e236 (by omega)).trans hbe
                          obtain ⟨v248, e248⟩ : ∃ y_9 : Int32, y_9 = x6_225 + 1 := ⟨_, rfl⟩
                          have i248 : v248.toInt = x6_225.toInt + 1 := i_addc e248 (by decide) (by omega) (by omega)
                          refine lv_iinc (v := v248) (lv' := [(6, .int v248), (7, .int v232), (0, .ref (L 0 0)), (1, .int m9), (2, .int a), (3, .int t), (4, .int b)]) S.1 S.2.1 dX5_goes_222 hl (k := 6) rfl (by rw [e248]; rfl) (by decide) rfl (fun ls hl => ?_)
                          refine lv_goto (tgt := 114) S.1 S.2.1 dX5_goes_225 (by decide) ?_
                          exact ih225 v248 σ247 τ246 _ _ ls (by omega) (by omega) (by first | exact hbe9 | exact hbe) hI hP hH hS (lv_sub hl [2, 3, 4, 5, 6, 0] rfl)
                        · have j240 := t_nle c240
                          refine lv_goto (tgt := 222) S.1 S.2.1 dX5_goes_174 (by decide) ?_
                          obtain ⟨v249, e249⟩ : ∃ y_9 : Int32, y_9 = x6_225 + 1 := ⟨_, rfl⟩
                          have i249 : v249.toInt = x6_225.toInt + 1 := i_addc e249 (by decide) (by omega) (by omega)
                          refine lv_iinc (v := v249) (lv' := [(6, .int v249), (7, .int v232), (0, .ref (L 0 0)), (1, .int m9), (2, .int a), (3, .int t), (4, .int b)]) S.1 S.2.1 dX5_goes_222 hl (k := 6) rfl (by rw [e249]; rfl) (by decide) rfl (fun ls hl => ?_)
                          refine lv_goto (tgt := 114) S.1 S.2.1 dX5_goes_225 (by decide) ?_
                          exact ih225 v249 σ_225 τ_225 _ _ ls (by omega) (by omega) (by first | exact hbe9 | exact hbe) hI hP hH hS (lv_sub hl [2, 3, 4, 5, 6, 0] rfl)
              exact cut_114_225 _ 1 σ_223 τ_223 _ _ ls (Nat.lt_succ_self _) (by omega) (by first | rfl | exact hbe) hI hP hH hS (lv_sub hl [1, 2, 3, 4, 5, 0] rfl)
            · have j224 := t_nle c224
              exact absurd j224 (by omega)
        exact cut_85_223 _ 0 σ222 τ _ _ ls (Nat.lt_succ_self _) (by omega) (by rw [eσ222, rs_v (by decide), eσ221, rs_v (by decide), eσ220, rs_v (by decide)]) hI hP hH hS (lv_sub hl [2, 3, 4, 5, 6, 0] rfl)
      · have j219 := t_neq c219
        refine lv_iload S.1 S.2.1 dX5_goes_38 (lv_at hl 5 rfl) ?_
        refine lv_aload_n S.1 S.2.1 dX5_goes_40 rfl (lv_at hl 1 rfl) ?_
        refine rM_0_35 S hnX5 K hH (mG wd_381) dX5_goes_41 ?_
        refine lv_topi (fun v250 e250 => ?_)
        refine lv_icmp_gt (tgt := 65) S.1 S.2.1 dX5_goes_44 (by decide) (fun c251 => ?_) (fun c251 => ?_)
        · have j251 := t_lt c251
          refine lv_aload_n S.1 S.2.1 dX5_goes_65 rfl (lv_at hl 1 rfl) ?_
          refine lv_iload_n S.1 S.2.1 dX5_goes_66 rfl (lv_at hl 2 rfl) ?_
          refine pM_0_34 S hnX5 K hH hS (mG wd_380) dX5_goes_67 (fun H locs hH hS => ?_)
          obtain ⟨σ252, eσ252⟩ : ∃ z_9 : QS, z_9 = rs σ 34 0 (fun _ => m9) := ⟨_, rfl⟩
          rw [← eσ252] at hH
          have hI := InvM_f eσ252 hI (by decide) (show ((-1) : Int) ≤ m9.toInt ∧ m9.toInt ≤ 8 by omega)
          have hP := Keep_w eσ252 hP (by decide)
          refine lv_aload_n S.1 S.2.1 dX5_goes_70 rfl (lv_at hl 1 rfl) ?_
          refine lv_iload S.1 S.2.1 dX5_goes_71 (lv_at hl 5 rfl) ?_
          refine pM_0_35 S hnX5 K hH hS (mG wd_381) dX5_goes_73 (fun H locs hH hS => ?_)
          obtain ⟨σ253, eσ253⟩ : ∃ z_9 : QS, z_9 = rs σ252 35 0 (fun _ => b) := ⟨_, rfl⟩
          rw [← eσ253] at hH
          have hI := InvM_f eσ253 hI (by decide) (any32 _)
          have hP := Keep_w eσ253 hP (by decide)
          refine lv_aload_n S.1 S.2.1 dX5_goes_76 rfl (lv_at hl 1 rfl) ?_
          refine lv_iload S.1 S.2.1 dX5_goes_77 (lv_at hl 0 rfl) ?_
          refine pM_0_36 S hnX5 K hH hS (mG wd_382) dX5_goes_79 (fun H locs hH hS => ?_)
          obtain ⟨σ254, eσ254⟩ : ∃ z_9 : QS, z_9 = rs σ253 36 0 (fun _ => v190) := ⟨_, rfl⟩
          rw [← eσ254] at hH
          have hI := InvM_f eσ254 hI (by decide) (any32 _)
          have hP := Keep_w eσ254 hP (by decide)
          refine lv_iconst (v := 0) S.1 S.2.1 dX5_goes_82 (by decide) ?_
          refine lv_istore (lv' := [(6, .int 0), (5, .int v190), (0, .ref (L 0 0)), (1, .int m9), (2, .int a), (3, .int t), (4, .int b)]) S.1 S.2.1 dX5_goes_83 hl (by decide) rfl (fun ls hl => ?_)
          have cut_85_255 : ∀ (n : Nat) (x6_255 : Int32) (σ_255 : QS) (τ_255 : Int64) (H : Heap) (locs : List Loc) (ls : Array Slot), (8 - x6_255.toInt).toNat < n → 0 ≤ x6_255.toInt ∧ x6_255.toInt ≤ 8 → (σ_255 33 = σ 33) → InvM σ_255 → Keep [34, 35, 36, 31, 30, 33] σ σ_255 → hW cntM gM D B L σ_255 τ_255 H → va_S A s.heap H locs → lv_has ls 8 [(0, .ref (L 0 0)), (1, .int m9), (2, .int a), (3, .int t), (4, .int b), (6, .int x6_255)] → W p l e { frames := fr + 1, cells := 0, slots := 0, locals := 8 + (8 + 11) + lo } s m [.ref (L 0 0), .int m9, .int a, .int t, .int b].toArray below meth c H locs 0 0 (MQ below (QcW cntM gM D B L A (pV (fun σ' τ' => InvM σ' ∧ Keep [34, 35, 36, 31, 30, 33] σ σ' ∧ σ' 33 = σ 33))) [.ref (L 0 0), .int m9, .int a, .int t, .int b].toArray s 0 0 A) (F0 m 85 ls []) := by
            intro n
            induction n with
            | zero => intro x6_255 σ_255 τ_255 H locs ls hm; exact absurd hm (Nat.not_lt_zero _)
            | succ n ih255 =>
              intro x6_255 σ_255 τ_255 H locs ls hm255 h255_0 hbe hI hP hH hS hl
              refine lv_iload S.1 S.2.1 dX5_goes_85 (lv_at hl 5 rfl) ?_
              refine lv_iload_n S.1 S.2.1 dX5_goes_87 rfl (lv_at hl 1 rfl) ?_
              refine lv_icmp_ge (tgt := 111) S.1 S.2.1 dX5_goes_88 (by decide) (fun c256 => ?_) (fun c256 => ?_)
              · have j256 := t_le c256
                refine lv_iconst (v := 1) S.1 S.2.1 dX5_goes_111 (by decide) ?_
                refine lv_istore (lv' := [(6, .int 1), (0, .ref (L 0 0)), (1, .int m9), (2, .int a), (3, .int t), (4, .int b)]) S.1 S.2.1 dX5_goes_112 hl (by decide) rfl (fun ls hl => ?_)
                have cut_114_257 : ∀ (n : Nat) (x6_257 : Int32) (σ_257 : QS) (τ_257 : Int64) (H : Heap) (locs : List Loc) (ls : Array Slot), (9 - x6_257.toInt).toNat < n → 1 ≤ x6_257.toInt ∧ x6_257.toInt ≤ 9 → (σ_257 33 = σ 33) → InvM σ_257 → Keep [34, 35, 36, 31, 30, 33] σ σ_257 → hW cntM gM D B L σ_257 τ_257 H → va_S A s.heap H locs → lv_has ls 8 [(0, .ref (L 0 0)), (1, .int m9), (2, .int a), (3, .int t), (4, .int b), (6, .int x6_257)] → W p l e { frames := fr + 1, cells := 0, slots := 0, locals := 8 + (8 + 11) + lo } s m [.ref (L 0 0), .int m9, .int a, .int t, .int b].toArray below meth c H locs 0 0 (MQ below (QcW cntM gM D B L A (pV (fun σ' τ' => InvM σ' ∧ Keep [34, 35, 36, 31, 30, 33] σ σ' ∧ σ' 33 = σ 33))) [.ref (L 0 0), .int m9, .int a, .int t, .int b].toArray s 0 0 A) (F0 m 114 ls []) := by
                  intro n
                  induction n with
                  | zero => intro x6_257 σ_257 τ_257 H locs ls hm; exact absurd hm (Nat.not_lt_zero _)
                  | succ n ih257 =>
                    intro x6_257 σ_257 τ_257 H locs ls hm257 h257_0 hbe hI hP hH hS hl
                    refine lv_iload S.1 S.2.1 dX5_goes_114 (lv_at hl 5 rfl) ?_
                    refine lv_bipush (v := 9) S.1 S.2.1 dX5_goes_116 (by decide) ?_
                    refine lv_icmp_ge (tgt := 228) S.1 S.2.1 dX5_goes_118 (by decide) (fun c258 => ?_) (fun c258 => ?_)
                    · have j258 := t_le c258
                      refine cW_vret S hr hk hH hS ?_ dX5_goes_228
                      exact ⟨rfl, hI, hP, by first | rfl | exact hbe⟩
                    · have j258 := t_nle c258
                      refine lv_iload_n S.1 S.2.1 dX5_goes_121 rfl (lv_at hl 3 rfl) ?_
                      refine lv_aload_n S.1 S.2.1 dX5_goes_122 rfl (lv_at hl 0 rfl) ?_
                      refine rM_0_27 S hnX5 K hH (mG wd_328) dX5_goes_123 ?_
                      refine lv_bipush (v := 9) S.1 S.2.1 dX5_goes_126 (by decide) ?_
                      refine lv_iload_n S.1 S.2.1 dX5_goes_128 rfl (lv_at hl 2 rfl) ?_
                      refine lv_imul S.1 S.2.1 dX5_goes_129 ?_
                      refine lv_topi (fun v259 e259 => ?_)
                      have i259 : v259.toInt = 9 * a.toInt := i_mulcl e259 (by decide) (by omega) (by omega)
                      refine lv_iload S.1 S.2.1 dX5_goes_130 (lv_at hl 5 rfl) ?_
                      refine lv_iadd S.1 S.2.1 dX5_goes_132 ?_
                      refine lv_topi (fun v260 e260 => ?_)
                      have i260 : v260.toInt = v259.toInt + x6_257.toInt := i_add e260 (by omega) (by omega)
                      refine lM_27 S K hH (vin (by omega) (by omega)) dX5_goes_133 ?_
                      refine lv_topi (fun v261 e261 => ?_)
                      refine lv_iadd S.1 S.2.1 dX5_goes_134 ?_
                      refine lv_topi (fun v262 e262 => ?_)
                      refine lv_aload_n S.1 S.2.1 dX5_goes_135 rfl (lv_at hl 0 rfl) ?_
                      refine rM_0_28 S hnX5 K hH (mG wd_329) dX5_goes_136 ?_
                      refine lv_iload S.1 S.2.1 dX5_goes_139 (lv_at hl 5 rfl) ?_
                      refine lM_28 S K hH (vin (by omega) (by omega)) dX5_goes_141 ?_
                      refine lv_topi (fun v263 e263 => ?_)
                      refine lv_iadd S.1 S.2.1 dX5_goes_142 ?_
                      refine lv_topi (fun v264 e264 => ?_)
                      refine lv_istore (lv' := [(7, .int v264), (0, .ref (L 0 0)), (1, .int m9), (2, .int a), (3, .int t), (4, .int b), (6, .int x6_257)]) S.1 S.2.1 dX5_goes_143 hl (by decide) rfl (fun ls hl => ?_)
                      refine lv_aload_n S.1 S.2.1 dX5_goes_145 rfl (lv_at hl 1 rfl) ?_
                      refine rM_0_32 S hnX5 K hH (mG wd_333) dX5_goes_146 ?_
                      refine lv_iload S.1 S.2.1 dX5_goes_149 (lv_at hl 6 rfl) ?_
                      refine lM_32 S K hH (vin (by omega) (by omega)) dX5_goes_151 ?_
                      refine lv_topi (fun v265 e265 => ?_)
                      refine lv_if_eq (tgt := 222) S.1 S.2.1 dX5_goes_152 (by decide) (fun c266 => ?_) (fun c266 => ?_)
                      · have j266 := t_eq c266
                        obtain ⟨v267, e267⟩ : ∃ y_9 : Int32, y_9 = x6_257 + 1 := ⟨_, rfl⟩
                        have i267 : v267.toInt = x6_257.toInt + 1 := i_addc e267 (by decide) (by omega) (by omega)
                        refine lv_iinc (v := v267) (lv' := [(6, .int v267), (7, .int v264), (0, .ref (L 0 0)), (1, .int m9), (2, .int a), (3, .int t), (4, .int b)]) S.1 S.2.1 dX5_goes_222 hl (k := 6) rfl (by rw [e267]; rfl) (by decide) rfl (fun ls hl => ?_)
                        refine lv_goto (tgt := 114) S.1 S.2.1 dX5_goes_225 (by decide) ?_
                        exact ih257 v267 σ_257 τ_257 _ _ ls (by omega) (by omega) (by first | exact hbe9 | exact hbe) hI hP hH hS (lv_sub hl [2, 3, 4, 5, 6, 0] rfl)
                      · have j266 := t_neq c266
                        refine lv_aload_n S.1 S.2.1 dX5_goes_155 rfl (lv_at hl 1 rfl) ?_
                        refine rM_0_33 S hnX5 K hH (mG wd_334) dX5_goes_156 ?_
                        refine lv_iload S.1 S.2.1 dX5_goes_159 (lv_at hl 6 rfl) ?_
                        refine lM_33 S K hH (vin (by omega) (by omega)) dX5_goes_161 ?_
                        refine lv_topi (fun v268 e268 => ?_)
                        refine lv_if_ne (tgt := 222) S.1 S.2.1 dX5_goes_162 (by decide) (fun c269 => ?_) (fun c269 => ?_)
                        · have j269 := t_neq c269
                          obtain ⟨v270, e270⟩ : ∃ y_9 : Int32, y_9 = x6_257 + 1 := ⟨_, rfl⟩
                          have i270 : v270.toInt = x6_257.toInt + 1 := i_addc e270 (by decide) (by omega) (by omega)
                          refine lv_iinc (v := v270) (lv' := [(6, .int v270), (7, .int v264), (0, .ref (L 0 0)), (1, .int m9), (2, .int a), (3, .int t), (4, .int b)]) S.1 S.2.1 dX5_goes_222 hl (k := 6) rfl (by rw [e270]; rfl) (by decide) rfl (fun ls hl => ?_)
                          refine lv_goto (tgt := 114) S.1 S.2.1 dX5_goes_225 (by decide) ?_
                          exact ih257 v270 σ_257 τ_257 _ _ ls (by omega) (by omega) (by first | exact hbe9 | exact hbe) hI hP hH hS (lv_sub hl [2, 3, 4, 5, 6, 0] rfl)
                        · have j269 := t_eq c269
                          refine lv_iload S.1 S.2.1 dX5_goes_165 (lv_at hl 0 rfl) ?_
                          refine lv_aload_n S.1 S.2.1 dX5_goes_167 rfl (lv_at hl 1 rfl) ?_
                          refine rM_0_37 S hnX5 K hH (mG wd_379) dX5_goes_168 ?_
                          refine lv_topi (fun v271 e271 => ?_)
                          refine lv_icmp_le (tgt := 177) S.1 S.2.1 dX5_goes_171 (by decide) (fun c272 => ?_) (fun c272 => ?_)
                          · have j272 := t_le c272
                            refine lv_aload_n S.1 S.2.1 dX5_goes_177 rfl (lv_at hl 1 rfl) ?_
                            refine rM_0_33 S hnX5 K hH (mG wd_334) dX5_goes_178 ?_
                            refine lv_iload S.1 S.2.1 dX5_goes_181 (lv_at hl 6 rfl) ?_
                            refine lv_iconst (v := 1) S.1 S.2.1 dX5_goes_183 (by decide) ?_
                            refine sM_33 S K hH hS (vin (by omega) (by omega)) dX5_goes_184 (fun H locs hH hS => ?_)
                            obtain ⟨σ273, eσ273⟩ : ∃ z_9 : QS, z_9 = rs σ_257 33 0 (upd (σ_257 33 0) x6_257.toNatClampNeg (vp_nar .boolean 1)) := ⟨_, rfl⟩
                            rw [← eσ273] at hH
                            have hI := InvM_a eσ273 hI (by decide) (any32 _)
                            have hP := Keep_w eσ273 hP (by decide)
                            have hb1 : cntB σ273 = m9.toInt + 1 := by rw [cntB_set eσ273 (by omega) (by omega) e268 (by omega), cntB_congr hbe]; omega
                            refine lv_aload_n S.1 S.2.1 dX5_goes_185 rfl (lv_at hl 1 rfl) ?_
                            refine rM_0_30 S hnX5 K hH (mG wd_331) dX5_goes_186 ?_
                            refine lv_iload_n S.1 S.2.1 dX5_goes_189 rfl (lv_at hl 2 rfl) ?_
                            refine lv_iload S.1 S.2.1 dX5_goes_190 (lv_at hl 6 rfl) ?_
                            refine sM_30 S K hH hS (vin (by omega) (by omega)) dX5_goes_192 (fun H locs hH hS => ?_)
                            obtain ⟨σ274, eσ274⟩ : ∃ z_9 : QS, z_9 = rs σ273 30 0 (upd (σ273 30 0) m9.toNatClampNeg x6_257) := ⟨_, rfl⟩
                            rw [← eσ274] at hH
                            have hI := InvM_a eσ274 hI (by decide) (any32 _)
                            have hP := Keep_w eσ274 hP (by decide)
                            have hb1 : cntB σ274 = m9.toInt + 1 := by rw [cntB_congr (σ := σ273) (by rw [eσ274, rs_v (by decide)])]; exact hb1
                            refine lv_aload_n S.1 S.2.1 dX5_goes_193 rfl (lv_at hl 1 rfl) ?_
                            refine lv_iload_n S.1 S.2.1 dX5_goes_194 rfl (lv_at hl 2 rfl) ?_
                            refine lv_iconst (v := 1) S.1 S.2.1 dX5_goes_195 (by decide) ?_
                            refine lv_iadd S.1 S.2.1 dX5_goes_196 ?_
                            refine lv_topi (fun v275 e275 => ?_)
                            have i275 : v275.toInt = m9.toInt + (1 : Int32).toInt := i_add e275 (by omega) (by omega)
                            refine lv_iload S.1 S.2.1 dX5_goes_197 (lv_at hl 6 rfl) ?_
                            refine lv_iload S.1 S.2.1 dX5_goes_199 (lv_at hl 0 rfl) ?_
                            refine lv_iload S.1 S.2.1 dX5_goes_201 (lv_at hl 5 rfl) ?_
                            refine lv_aload_n S.1 S.2.1 dX5_goes_203 rfl (lv_at hl 1 rfl) ?_
                            refine rM_0_29 S hnX5 K hH (mG wd_330) dX5_goes_204 ?_
                            refine lv_iload S.1 S.2.1 dX5_goes_207 (lv_at hl 6 rfl) ?_
                            refine lM_29 S K hH (vin (by omega) (by omega)) dX5_goes_209 ?_
                            refine lv_topi (fun v276 e276 => ?_)
                            refine lv_iadd S.1 S.2.1 dX5_goes_210 ?_
                            refine lv_topi (fun v277 e277 => ?_)
                            refine cW_bv (cW_V (n := 4) (As := [.int v275, .int x6_257, .int v264, .int v277]) (rest := []) (k := 0) (i := 0) S K hH (by decide) rfl rfl (IH σ274 τ_257 v275 x6_257 v264 v277 (by have h9 := cntB_le σ274; omega) (by omega) hI (by rw [hb1]; omega) (by omega)) gX5_goes_X5_goes rfl hdV_X5_goes ⟨Nat.le_refl _, Nat.le_refl _⟩ rfl hl.1 (Nat.le_of_ble_eq_true rfl) dX5_goes_211) hS (fun σ278 τ278 H locs q278 hH hS => ?_)
                            obtain ⟨hI, hP278, q278⟩ := q278
                            have hP := Keep_t hP hP278 (by decide)
                            refine lv_aload_n S.1 S.2.1 dX5_goes_214 rfl (lv_at hl 1 rfl) ?_
                            refine rM_0_33 S hnX5 K hH (mG wd_334) dX5_goes_215 ?_
                            refine lv_iload S.1 S.2.1 dX5_goes_218 (lv_at hl 6 rfl) ?_
                            refine lv_iconst (v := 0) S.1 S.2.1 dX5_goes_220 (by decide) ?_
                            refine sM_33 S K hH hS (vin (by omega) (by omega)) dX5_goes_221 (fun H locs hH hS => ?_)
                            obtain ⟨σ279, eσ279⟩ : ∃ z_9 : QS, z_9 = rs σ278 33 0 (upd (σ278 33 0) x6_257.toNatClampNeg (vp_nar .boolean 0)) := ⟨_, rfl⟩
                            rw [← eσ279] at hH
                            have hI := InvM_a eσ279 hI (by decide) (any32 _)
                            have hP := Keep_w eσ279 hP (by decide)
                            have hbe9 : σ279 33 = σ 33 := (been_back eσ273 (σ2 := σ274) (by rw [eσ274, rs_v (by decide)]) q278 eσ279 e268 (by omega)).trans hbe
                            obtain ⟨v280, e280⟩ : ∃ y_9 : Int32, y_9 = x6_257 + 1 := ⟨_, rfl⟩
                            have i280 : v280.toInt = x6_257.toInt + 1 := i_addc e280 (by decide) (by omega) (by omega)
                            refine lv_iinc (v := v280) (lv' := [(6, .int v280), (7, .int v264), (0, .ref (L 0 0)), (1, .int m9), (2, .int a), (3, .int t), (4, .int b)]) S.1 S.2.1 dX5_goes_222 hl (k := 6) rfl (by rw [e280]; rfl) (by decide) rfl (fun ls hl => ?_)
                            refine lv_goto (tgt := 114) S.1 S.2.1 dX5_goes_225 (by decide) ?_
                            exact ih257 v280 σ279 τ278 _ _ ls (by omega) (by omega) (by first | exact hbe9 | exact hbe) hI hP hH hS (lv_sub hl [2, 3, 4, 5, 6, 0] rfl)
                          · have j272 := t_nle c272
                            refine lv_goto (tgt := 222) S.1 S.2.1 dX5_goes_174 (by decide) ?_
                            obtain ⟨v281, e281⟩ : ∃ y_9 : Int32, y_9 = x6_257 + 1 := ⟨_, rfl⟩
                            have i281 : v281.toInt = x6_257.toInt + 1 := i_addc e281 (by decide) (by omega) (by omega)
                            refine lv_iinc (v := v281) (lv' := [(6, .int v281), (7, .int v264), (0, .ref (L 0 0)), (1, .int m9), (2, .int a), (3, .int t), (4, .int b)]) S.1 S.2.1 dX5_goes_222 hl (k := 6) rfl (by rw [e281]; rfl) (by decide) rfl (fun ls hl => ?_)
                            refine lv_goto (tgt := 114) S.1 S.2.1 dX5_goes_225 (by decide) ?_
                            exact ih257 v281 σ_257 τ_257 _ _ ls (by omega) (by omega) (by first | exact hbe9 | exact hbe) hI hP hH hS (lv_sub hl [2, 3, 4, 5, 6, 0] rfl)
                exact cut_114_257 _ 1 σ_255 τ_255 _ _ ls (Nat.lt_succ_self _) (by omega) (by first | rfl | exact hbe) hI hP hH hS (lv_sub hl [1, 2, 3, 4, 5, 0] rfl)
              · have j256 := t_nle c256
                exact absurd j256 (by omega)
          exact cut_85_255 _ 0 σ254 τ _ _ ls (Nat.lt_succ_self _) (by omega) (by rw [eσ254, rs_v (by decide), eσ253, rs_v (by decide), eσ252, rs_v (by decide)]) hI hP hH hS (lv_sub hl [2, 3, 4, 5, 6, 0] rfl)
        · have j251 := t_nlt c251
          refine lv_iload S.1 S.2.1 dX5_goes_47 (lv_at hl 5 rfl) ?_
          refine lv_aload_n S.1 S.2.1 dX5_goes_49 rfl (lv_at hl 1 rfl) ?_
          refine rM_0_35 S hnX5 K hH (mG wd_381) dX5_goes_50 ?_
          refine lv_topi (fun v282 e282 => ?_)
          have k282 : v282.toInt = v250.toInt := by rw [e282]; rw [← e250]
          refine lv_icmp_ne (tgt := 111) S.1 S.2.1 dX5_goes_53 (by decide) (fun c283 => ?_) (fun c283 => ?_)
          · have j283 := t_neq c283
            refine lv_iconst (v := 1) S.1 S.2.1 dX5_goes_111 (by decide) ?_
            refine lv_istore (lv' := [(6, .int 1), (5, .int v190), (0, .ref (L 0 0)), (1, .int m9), (2, .int a), (3, .int t), (4, .int b)]) S.1 S.2.1 dX5_goes_112 hl (by decide) rfl (fun ls hl => ?_)
            have cut_114_284 : ∀ (n : Nat) (x6_284 : Int32) (σ_284 : QS) (τ_284 : Int64) (H : Heap) (locs : List Loc) (ls : Array Slot), (9 - x6_284.toInt).toNat < n → 1 ≤ x6_284.toInt ∧ x6_284.toInt ≤ 9 → (σ_284 33 = σ 33) → InvM σ_284 → Keep [34, 35, 36, 31, 30, 33] σ σ_284 → hW cntM gM D B L σ_284 τ_284 H → va_S A s.heap H locs → lv_has ls 8 [(0, .ref (L 0 0)), (1, .int m9), (2, .int a), (3, .int t), (4, .int b), (6, .int x6_284)] → W p l e { frames := fr + 1, cells := 0, slots := 0, locals := 8 + (8 + 11) + lo } s m [.ref (L 0 0), .int m9, .int a, .int t, .int b].toArray below meth c H locs 0 0 (MQ below (QcW cntM gM D B L A (pV (fun σ' τ' => InvM σ' ∧ Keep [34, 35, 36, 31, 30, 33] σ σ' ∧ σ' 33 = σ 33))) [.ref (L 0 0), .int m9, .int a, .int t, .int b].toArray s 0 0 A) (F0 m 114 ls []) := by
              intro n
              induction n with
              | zero => intro x6_284 σ_284 τ_284 H locs ls hm; exact absurd hm (Nat.not_lt_zero _)
              | succ n ih284 =>
                intro x6_284 σ_284 τ_284 H locs ls hm284 h284_0 hbe hI hP hH hS hl
                refine lv_iload S.1 S.2.1 dX5_goes_114 (lv_at hl 5 rfl) ?_
                refine lv_bipush (v := 9) S.1 S.2.1 dX5_goes_116 (by decide) ?_
                refine lv_icmp_ge (tgt := 228) S.1 S.2.1 dX5_goes_118 (by decide) (fun c285 => ?_) (fun c285 => ?_)
                · have j285 := t_le c285
                  refine cW_vret S hr hk hH hS ?_ dX5_goes_228
                  exact ⟨rfl, hI, hP, by first | rfl | exact hbe⟩
                · have j285 := t_nle c285
                  refine lv_iload_n S.1 S.2.1 dX5_goes_121 rfl (lv_at hl 3 rfl) ?_
                  refine lv_aload_n S.1 S.2.1 dX5_goes_122 rfl (lv_at hl 0 rfl) ?_
                  refine rM_0_27 S hnX5 K hH (mG wd_328) dX5_goes_123 ?_
                  refine lv_bipush (v := 9) S.1 S.2.1 dX5_goes_126 (by decide) ?_
                  refine lv_iload_n S.1 S.2.1 dX5_goes_128 rfl (lv_at hl 2 rfl) ?_
                  refine lv_imul S.1 S.2.1 dX5_goes_129 ?_
                  refine lv_topi (fun v286 e286 => ?_)
                  have i286 : v286.toInt = 9 * a.toInt := i_mulcl e286 (by decide) (by omega) (by omega)
                  refine lv_iload S.1 S.2.1 dX5_goes_130 (lv_at hl 5 rfl) ?_
                  refine lv_iadd S.1 S.2.1 dX5_goes_132 ?_
                  refine lv_topi (fun v287 e287 => ?_)
                  have i287 : v287.toInt = v286.toInt + x6_284.toInt := i_add e287 (by omega) (by omega)
                  refine lM_27 S K hH (vin (by omega) (by omega)) dX5_goes_133 ?_
                  refine lv_topi (fun v288 e288 => ?_)
                  refine lv_iadd S.1 S.2.1 dX5_goes_134 ?_
                  refine lv_topi (fun v289 e289 => ?_)
                  refine lv_aload_n S.1 S.2.1 dX5_goes_135 rfl (lv_at hl 0 rfl) ?_
                  refine rM_0_28 S hnX5 K hH (mG wd_329) dX5_goes_136 ?_
                  refine lv_iload S.1 S.2.1 dX5_goes_139 (lv_at hl 5 rfl) ?_
                  refine lM_28 S K hH (vin (by omega) (by omega)) dX5_goes_141 ?_
                  refine lv_topi (fun v290 e290 => ?_)
                  refine lv_iadd S.1 S.2.1 dX5_goes_142 ?_
                  refine lv_topi (fun v291 e291 => ?_)
                  refine lv_istore (lv' := [(7, .int v291), (0, .ref (L 0 0)), (1, .int m9), (2, .int a), (3, .int t), (4, .int b), (6, .int x6_284)]) S.1 S.2.1 dX5_goes_143 hl (by decide) rfl (fun ls hl => ?_)
                  refine lv_aload_n S.1 S.2.1 dX5_goes_145 rfl (lv_at hl 1 rfl) ?_
                  refine rM_0_32 S hnX5 K hH (mG wd_333) dX5_goes_146 ?_
                  refine lv_iload S.1 S.2.1 dX5_goes_149 (lv_at hl 6 rfl) ?_
                  refine lM_32 S K hH (vin (by omega) (by omega)) dX5_goes_151 ?_
                  refine lv_topi (fun v292 e292 => ?_)
                  refine lv_if_eq (tgt := 222) S.1 S.2.1 dX5_goes_152 (by decide) (fun c293 => ?_) (fun c293 => ?_)
                  · have j293 := t_eq c293
                    obtain ⟨v294, e294⟩ : ∃ y_9 : Int32, y_9 = x6_284 + 1 := ⟨_, rfl⟩
                    have i294 : v294.toInt = x6_284.toInt + 1 := i_addc e294 (by decide) (by omega) (by omega)
                    refine lv_iinc (v := v294) (lv' := [(6, .int v294), (7, .int v291), (0, .ref (L 0 0)), (1, .int m9), (2, .int a), (3, .int t), (4, .int b)]) S.1 S.2.1 dX5_goes_222 hl (k := 6) rfl (by rw [e294]; rfl) (by decide) rfl (fun ls hl => ?_)
                    refine lv_goto (tgt := 114) S.1 S.2.1 dX5_goes_225 (by decide) ?_
                    exact ih284 v294 σ_284 τ_284 _ _ ls (by omega) (by omega) (by first | exact hbe9 | exact hbe) hI hP hH hS (lv_sub hl [2, 3, 4, 5, 6, 0] rfl)
                  · have j293 := t_neq c293
                    refine lv_aload_n S.1 S.2.1 dX5_goes_155 rfl (lv_at hl 1 rfl) ?_
                    refine rM_0_33 S hnX5 K hH (mG wd_334) dX5_goes_156 ?_
                    refine lv_iload S.1 S.2.1 dX5_goes_159 (lv_at hl 6 rfl) ?_
                    refine lM_33 S K hH (vin (by omega) (by omega)) dX5_goes_161 ?_
                    refine lv_topi (fun v295 e295 => ?_)
                    refine lv_if_ne (tgt := 222) S.1 S.2.1 dX5_goes_162 (by decide) (fun c296 => ?_) (fun c296 => ?_)
                    · have j296 := t_neq c296
                      obtain ⟨v297, e297⟩ : ∃ y_9 : Int32, y_9 = x6_284 + 1 := ⟨_, rfl⟩
                      have i297 : v297.toInt = x6_284.toInt + 1 := i_addc e297 (by decide) (by omega) (by omega)
                      refine lv_iinc (v := v297) (lv' := [(6, .int v297), (7, .int v291), (0, .ref (L 0 0)), (1, .int m9), (2, .int a), (3, .int t), (4, .int b)]) S.1 S.2.1 dX5_goes_222 hl (k := 6) rfl (by rw [e297]; rfl) (by decide) rfl (fun ls hl => ?_)
                      refine lv_goto (tgt := 114) S.1 S.2.1 dX5_goes_225 (by decide) ?_
                      exact ih284 v297 σ_284 τ_284 _ _ ls (by omega) (by omega) (by first | exact hbe9 | exact hbe) hI hP hH hS (lv_sub hl [2, 3, 4, 5, 6, 0] rfl)
                    · have j296 := t_eq c296
                      refine lv_iload S.1 S.2.1 dX5_goes_165 (lv_at hl 0 rfl) ?_
                      refine lv_aload_n S.1 S.2.1 dX5_goes_167 rfl (lv_at hl 1 rfl) ?_
                      refine rM_0_37 S hnX5 K hH (mG wd_379) dX5_goes_168 ?_
                      refine lv_topi (fun v298 e298 => ?_)
                      refine lv_icmp_le (tgt := 177) S.1 S.2.1 dX5_goes_171 (by decide) (fun c299 => ?_) (fun c299 => ?_)
                      · have j299 := t_le c299
                        refine lv_aload_n S.1 S.2.1 dX5_goes_177 rfl (lv_at hl 1 rfl) ?_
                        refine rM_0_33 S hnX5 K hH (mG wd_334) dX5_goes_178 ?_
                        refine lv_iload S.1 S.2.1 dX5_goes_181 (lv_at hl 6 rfl) ?_
                        refine lv_iconst (v := 1) S.1 S.2.1 dX5_goes_183 (by decide) ?_
                        refine sM_33 S K hH hS (vin (by omega) (by omega)) dX5_goes_184 (fun H locs hH hS => ?_)
                        obtain ⟨σ300, eσ300⟩ : ∃ z_9 : QS, z_9 = rs σ_284 33 0 (upd (σ_284 33 0) x6_284.toNatClampNeg (vp_nar .boolean 1)) := ⟨_, rfl⟩
                        rw [← eσ300] at hH
                        have hI := InvM_a eσ300 hI (by decide) (any32 _)
                        have hP := Keep_w eσ300 hP (by decide)
                        have hb1 : cntB σ300 = m9.toInt + 1 := by rw [cntB_set eσ300 (by omega) (by omega) e295 (by omega), cntB_congr hbe]; omega
                        refine lv_aload_n S.1 S.2.1 dX5_goes_185 rfl (lv_at hl 1 rfl) ?_
                        refine rM_0_30 S hnX5 K hH (mG wd_331) dX5_goes_186 ?_
                        refine lv_iload_n S.1 S.2.1 dX5_goes_189 rfl (lv_at hl 2 rfl) ?_
                        refine lv_iload S.1 S.2.1 dX5_goes_190 (lv_at hl 6 rfl) ?_
                        refine sM_30 S K hH hS (vin (by omega) (by omega)) dX5_goes_192 (fun H locs hH hS => ?_)
                        obtain ⟨σ301, eσ301⟩ : ∃ z_9 : QS, z_9 = rs σ300 30 0 (upd (σ300 30 0) m9.toNatClampNeg x6_284) := ⟨_, rfl⟩
                        rw [← eσ301] at hH
                        have hI := InvM_a eσ301 hI (by decide) (any32 _)
                        have hP := Keep_w eσ301 hP (by decide)
                        have hb1 : cntB σ301 = m9.toInt + 1 := by rw [cntB_congr (σ := σ300) (by rw [eσ301, rs_v (by decide)])]; exact hb1
                        refine lv_aload_n S.1 S.2.1 dX5_goes_193 rfl (lv_at hl 1 rfl) ?_
                        refine lv_iload_n S.1 S.2.1 dX5_goes_194 rfl (lv_at hl 2 rfl) ?_
                        refine lv_iconst (v := 1) S.1 S.2.1 dX5_goes_195 (by decide) ?_
                        refine lv_iadd S.1 S.2.1 dX5_goes_196 ?_
                        refine lv_topi (fun v302 e302 => ?_)
                        have i302 : v302.toInt = m9.toInt + (1 : Int32).toInt := i_add e302 (by omega) (by omega)
                        refine lv_iload S.1 S.2.1 dX5_goes_197 (lv_at hl 6 rfl) ?_
                        refine lv_iload S.1 S.2.1 dX5_goes_199 (lv_at hl 0 rfl) ?_
                        refine lv_iload S.1 S.2.1 dX5_goes_201 (lv_at hl 5 rfl) ?_
                        refine lv_aload_n S.1 S.2.1 dX5_goes_203 rfl (lv_at hl 1 rfl) ?_
                        refine rM_0_29 S hnX5 K hH (mG wd_330) dX5_goes_204 ?_
                        refine lv_iload S.1 S.2.1 dX5_goes_207 (lv_at hl 6 rfl) ?_
                        refine lM_29 S K hH (vin (by omega) (by omega)) dX5_goes_209 ?_
                        refine lv_topi (fun v303 e303 => ?_)
                        refine lv_iadd S.1 S.2.1 dX5_goes_210 ?_
                        refine lv_topi (fun v304 e304 => ?_)
                        refine cW_bv (cW_V (n := 4) (As := [.int v302, .int x6_284, .int v291, .int v304]) (rest := []) (k := 0) (i := 0) S K hH (by decide) rfl rfl (IH σ301 τ_284 v302 x6_284 v291 v304 (by have h9 := cntB_le σ301; omega) (by omega) hI (by rw [hb1]; omega) (by omega)) gX5_goes_X5_goes rfl hdV_X5_goes ⟨Nat.le_refl _, Nat.le_refl _⟩ rfl hl.1 (Nat.le_of_ble_eq_true rfl) dX5_goes_211) hS (fun σ305 τ305 H locs q305 hH hS => ?_)
                        obtain ⟨hI, hP305, q305⟩ := q305
                        have hP := Keep_t hP hP305 (by decide)
                        refine lv_aload_n S.1 S.2.1 dX5_goes_214 rfl (lv_at hl 1 rfl) ?_
                        refine rM_0_33 S hnX5 K hH (mG wd_334) dX5_goes_215 ?_
                        refine lv_iload S.1 S.2.1 dX5_goes_218 (lv_at hl 6 rfl) ?_
                        refine lv_iconst (v := 0) S.1 S.2.1 dX5_goes_220 (by decide) ?_
                        refine sM_33 S K hH hS (vin (by omega) (by omega)) dX5_goes_221 (fun H locs hH hS => ?_)
                        obtain ⟨σ306, eσ306⟩ : ∃ z_9 : QS, z_9 = rs σ305 33 0 (upd (σ305 33 0) x6_284.toNatClampNeg (vp_nar .boolean 0)) := ⟨_, rfl⟩
                        rw [← eσ306] at hH
                        have hI := InvM_a eσ306 hI (by decide) (any32 _)
                        have hP := Keep_w eσ306 hP (by decide)
                        have hbe9 : σ306 33 = σ 33 := (been_back eσ300 (σ2 := σ301) (by rw [eσ301, rs_v (by decide)]) q305 eσ306 e295 (by omega)).trans hbe
                        obtain ⟨v307, e307⟩ : ∃ y_9 : Int32, y_9 = x6_284 + 1 := ⟨_, rfl⟩
                        have i307 : v307.toInt = x6_284.toInt + 1 := i_addc e307 (by decide) (by omega) (by omega)
                        refine lv_iinc (v := v307) (lv' := [(6, .int v307), (7, .int v291), (0, .ref (L 0 0)), (1, .int m9), (2, .int a), (3, .int t), (4, .int b)]) S.1 S.2.1 dX5_goes_222 hl (k := 6) rfl (by rw [e307]; rfl) (by decide) rfl (fun ls hl => ?_)
                        refine lv_goto (tgt := 114) S.1 S.2.1 dX5_goes_225 (by decide) ?_
                        exact ih284 v307 σ306 τ305 _ _ ls (by omega) (by omega) (by first | exact hbe9 | exact hbe) hI hP hH hS (lv_sub hl [2, 3, 4, 5, 6, 0] rfl)
                      · have j299 := t_nle c299
                        refine lv_goto (tgt := 222) S.1 S.2.1 dX5_goes_174 (by decide) ?_
                        obtain ⟨v308, e308⟩ : ∃ y_9 : Int32, y_9 = x6_284 + 1 := ⟨_, rfl⟩
                        have i308 : v308.toInt = x6_284.toInt + 1 := i_addc e308 (by decide) (by omega) (by omega)
                        refine lv_iinc (v := v308) (lv' := [(6, .int v308), (7, .int v291), (0, .ref (L 0 0)), (1, .int m9), (2, .int a), (3, .int t), (4, .int b)]) S.1 S.2.1 dX5_goes_222 hl (k := 6) rfl (by rw [e308]; rfl) (by decide) rfl (fun ls hl => ?_)
                        refine lv_goto (tgt := 114) S.1 S.2.1 dX5_goes_225 (by decide) ?_
                        exact ih284 v308 σ_284 τ_284 _ _ ls (by omega) (by omega) (by first | exact hbe9 | exact hbe) hI hP hH hS (lv_sub hl [2, 3, 4, 5, 6, 0] rfl)
            exact cut_114_284 _ 1 σ τ _ _ ls (Nat.lt_succ_self _) (by omega) (by first | rfl | exact hbe) hI hP hH hS (lv_sub hl [2, 3, 4, 5, 6, 0] rfl)
          · have j283 := t_eq c283
            refine lv_iload S.1 S.2.1 dX5_goes_56 (lv_at hl 0 rfl) ?_
            refine lv_aload_n S.1 S.2.1 dX5_goes_58 rfl (lv_at hl 1 rfl) ?_
            refine rM_0_36 S hnX5 K hH (mG wd_382) dX5_goes_59 ?_
            refine lv_topi (fun v309 e309 => ?_)
            refine lv_icmp_ge (tgt := 111) S.1 S.2.1 dX5_goes_62 (by decide) (fun c310 => ?_) (fun c310 => ?_)
            · have j310 := t_le c310
              refine lv_iconst (v := 1) S.1 S.2.1 dX5_goes_111 (by decide) ?_
              refine lv_istore (lv' := [(6, .int 1), (5, .int v190), (0, .ref (L 0 0)), (1, .int m9), (2, .int a), (3, .int t), (4, .int b)]) S.1 S.2.1 dX5_goes_112 hl (by decide) rfl (fun ls hl => ?_)
              have cut_114_311 : ∀ (n : Nat) (x6_311 : Int32) (σ_311 : QS) (τ_311 : Int64) (H : Heap) (locs : List Loc) (ls : Array Slot), (9 - x6_311.toInt).toNat < n → 1 ≤ x6_311.toInt ∧ x6_311.toInt ≤ 9 → (σ_311 33 = σ 33) → InvM σ_311 → Keep [34, 35, 36, 31, 30, 33] σ σ_311 → hW cntM gM D B L σ_311 τ_311 H → va_S A s.heap H locs → lv_has ls 8 [(0, .ref (L 0 0)), (1, .int m9), (2, .int a), (3, .int t), (4, .int b), (6, .int x6_311)] → W p l e { frames := fr + 1, cells := 0, slots := 0, locals := 8 + (8 + 11) + lo } s m [.ref (L 0 0), .int m9, .int a, .int t, .int b].toArray below meth c H locs 0 0 (MQ below (QcW cntM gM D B L A (pV (fun σ' τ' => InvM σ' ∧ Keep [34, 35, 36, 31, 30, 33] σ σ' ∧ σ' 33 = σ 33))) [.ref (L 0 0), .int m9, .int a, .int t, .int b].toArray s 0 0 A) (F0 m 114 ls []) := by
                intro n
                induction n with
                | zero => intro x6_311 σ_311 τ_311 H locs ls hm; exact absurd hm (Nat.not_lt_zero _)
                | succ n ih311 =>
                  intro x6_311 σ_311 τ_311 H locs ls hm311 h311_0 hbe hI hP hH hS hl
                  refine lv_iload S.1 S.2.1 dX5_goes_114 (lv_at hl 5 rfl) ?_
                  refine lv_bipush (v := 9) S.1 S.2.1 dX5_goes_116 (by decide) ?_
                  refine lv_icmp_ge (tgt := 228) S.1 S.2.1 dX5_goes_118 (by decide) (fun c312 => ?_) (fun c312 => ?_)
                  · have j312 := t_le c312
                    refine cW_vret S hr hk hH hS ?_ dX5_goes_228
                    exact ⟨rfl, hI, hP, by first | rfl | exact hbe⟩
                  · have j312 := t_nle c312
                    refine lv_iload_n S.1 S.2.1 dX5_goes_121 rfl (lv_at hl 3 rfl) ?_
                    refine lv_aload_n S.1 S.2.1 dX5_goes_122 rfl (lv_at hl 0 rfl) ?_
                    refine rM_0_27 S hnX5 K hH (mG wd_328) dX5_goes_123 ?_
                    refine lv_bipush (v := 9) S.1 S.2.1 dX5_goes_126 (by decide) ?_
                    refine lv_iload_n S.1 S.2.1 dX5_goes_128 rfl (lv_at hl 2 rfl) ?_
                    refine lv_imul S.1 S.2.1 dX5_goes_129 ?_
                    refine lv_topi (fun v313 e313 => ?_)
                    have i313 : v313.toInt = 9 * a.toInt := i_mulcl e313 (by decide) (by omega) (by omega)
                    refine lv_iload S.1 S.2.1 dX5_goes_130 (lv_at hl 5 rfl) ?_
                    refine lv_iadd S.1 S.2.1 dX5_goes_132 ?_
                    refine lv_topi (fun v314 e314 => ?_)
                    have i314 : v314.toInt = v313.toInt + x6_311.toInt := i_add e314 (by omega) (by omega)
                    refine lM_27 S K hH (vin (by omega) (by omega)) dX5_goes_133 ?_
                    refine lv_topi (fun v315 e315 => ?_)
                    refine lv_iadd S.1 S.2.1 dX5_goes_134 ?_
                    refine lv_topi (fun v316 e316 => ?_)
                    refine lv_aload_n S.1 S.2.1 dX5_goes_135 rfl (lv_at hl 0 rfl) ?_
                    refine rM_0_28 S hnX5 K hH (mG wd_329) dX5_goes_136 ?_
                    refine lv_iload S.1 S.2.1 dX5_goes_139 (lv_at hl 5 rfl) ?_
                    refine lM_28 S K hH (vin (by omega) (by omega)) dX5_goes_141 ?_
                    refine lv_topi (fun v317 e317 => ?_)
                    refine lv_iadd S.1 S.2.1 dX5_goes_142 ?_
                    refine lv_topi (fun v318 e318 => ?_)
                    refine lv_istore (lv' := [(7, .int v318), (0, .ref (L 0 0)), (1, .int m9), (2, .int a), (3, .int t), (4, .int b), (6, .int x6_311)]) S.1 S.2.1 dX5_goes_143 hl (by decide) rfl (fun ls hl => ?_)
                    refine lv_aload_n S.1 S.2.1 dX5_goes_145 rfl (lv_at hl 1 rfl) ?_
                    refine rM_0_32 S hnX5 K hH (mG wd_333) dX5_goes_146 ?_
                    refine lv_iload S.1 S.2.1 dX5_goes_149 (lv_at hl 6 rfl) ?_
                    refine lM_32 S K hH (vin (by omega) (by omega)) dX5_goes_151 ?_
                    refine lv_topi (fun v319 e319 => ?_)
                    refine lv_if_eq (tgt := 222) S.1 S.2.1 dX5_goes_152 (by decide) (fun c320 => ?_) (fun c320 => ?_)
                    · have j320 := t_eq c320
                      obtain ⟨v321, e321⟩ : ∃ y_9 : Int32, y_9 = x6_311 + 1 := ⟨_, rfl⟩
                      have i321 : v321.toInt = x6_311.toInt + 1 := i_addc e321 (by decide) (by omega) (by omega)
                      refine lv_iinc (v := v321) (lv' := [(6, .int v321), (7, .int v318), (0, .ref (L 0 0)), (1, .int m9), (2, .int a), (3, .int t), (4, .int b)]) S.1 S.2.1 dX5_goes_222 hl (k := 6) rfl (by rw [e321]; rfl) (by decide) rfl (fun ls hl => ?_)
                      refine lv_goto (tgt := 114) S.1 S.2.1 dX5_goes_225 (by decide) ?_
                      exact ih311 v321 σ_311 τ_311 _ _ ls (by omega) (by omega) (by first | exact hbe9 | exact hbe) hI hP hH hS (lv_sub hl [2, 3, 4, 5, 6, 0] rfl)
                    · have j320 := t_neq c320
                      refine lv_aload_n S.1 S.2.1 dX5_goes_155 rfl (lv_at hl 1 rfl) ?_
                      refine rM_0_33 S hnX5 K hH (mG wd_334) dX5_goes_156 ?_
                      refine lv_iload S.1 S.2.1 dX5_goes_159 (lv_at hl 6 rfl) ?_
                      refine lM_33 S K hH (vin (by omega) (by omega)) dX5_goes_161 ?_
                      refine lv_topi (fun v322 e322 => ?_)
                      refine lv_if_ne (tgt := 222) S.1 S.2.1 dX5_goes_162 (by decide) (fun c323 => ?_) (fun c323 => ?_)
                      · have j323 := t_neq c323
                        obtain ⟨v324, e324⟩ : ∃ y_9 : Int32, y_9 = x6_311 + 1 := ⟨_, rfl⟩
                        have i324 : v324.toInt = x6_311.toInt + 1 := i_addc e324 (by decide) (by omega) (by omega)
                        refine lv_iinc (v := v324) (lv' := [(6, .int v324), (7, .int v318), (0, .ref (L 0 0)), (1, .int m9), (2, .int a), (3, .int t), (4, .int b)]) S.1 S.2.1 dX5_goes_222 hl (k := 6) rfl (by rw [e324]; rfl) (by decide) rfl (fun ls hl => ?_)
                        refine lv_goto (tgt := 114) S.1 S.2.1 dX5_goes_225 (by decide) ?_
                        exact ih311 v324 σ_311 τ_311 _ _ ls (by omega) (by omega) (by first | exact hbe9 | exact hbe) hI hP hH hS (lv_sub hl [2, 3, 4, 5, 6, 0] rfl)
                      · have j323 := t_eq c323
                        refine lv_iload S.1 S.2.1 dX5_goes_165 (lv_at hl 0 rfl) ?_
                        refine lv_aload_n S.1 S.2.1 dX5_goes_167 rfl (lv_at hl 1 rfl) ?_
                        refine rM_0_37 S hnX5 K hH (mG wd_379) dX5_goes_168 ?_
                        refine lv_topi (fun v325 e325 => ?_)
                        refine lv_icmp_le (tgt := 177) S.1 S.2.1 dX5_goes_171 (by decide) (fun c326 => ?_) (fun c326 => ?_)
                        · have j326 := t_le c326
                          refine lv_aload_n S.1 S.2.1 dX5_goes_177 rfl (lv_at hl 1 rfl) ?_
                          refine rM_0_33 S hnX5 K hH (mG wd_334) dX5_goes_178 ?_
                          refine lv_iload S.1 S.2.1 dX5_goes_181 (lv_at hl 6 rfl) ?_
                          refine lv_iconst (v := 1) S.1 S.2.1 dX5_goes_183 (by decide) ?_
                          refine sM_33 S K hH hS (vin (by omega) (by omega)) dX5_goes_184 (fun H locs hH hS => ?_)
                          obtain ⟨σ327, eσ327⟩ : ∃ z_9 : QS, z_9 = rs σ_311 33 0 (upd (σ_311 33 0) x6_311.toNatClampNeg (vp_nar .boolean 1)) := ⟨_, rfl⟩
                          rw [← eσ327] at hH
                          have hI := InvM_a eσ327 hI (by decide) (any32 _)
                          have hP := Keep_w eσ327 hP (by decide)
                          have hb1 : cntB σ327 = m9.toInt + 1 := by rw [cntB_set eσ327 (by omega) (by omega) e322 (by omega), cntB_congr hbe]; omega
                          refine lv_aload_n S.1 S.2.1 dX5_goes_185 rfl (lv_at hl 1 rfl) ?_
                          refine rM_0_30 S hnX5 K hH (mG wd_331) dX5_goes_186 ?_
                          refine lv_iload_n S.1 S.2.1 dX5_goes_189 rfl (lv_at hl 2 rfl) ?_
                          refine lv_iload S.1 S.2.1 dX5_goes_190 (lv_at hl 6 rfl) ?_
                          refine sM_30 S K hH hS (vin (by omega) (by omega)) dX5_goes_192 (fun H locs hH hS => ?_)
                          obtain ⟨σ328, eσ328⟩ : ∃ z_9 : QS, z_9 = rs σ327 30 0 (upd (σ327 30 0) m9.toNatClampNeg x6_311) := ⟨_, rfl⟩
                          rw [← eσ328] at hH
                          have hI := InvM_a eσ328 hI (by decide) (any32 _)
                          have hP := Keep_w eσ328 hP (by decide)
                          have hb1 : cntB σ328 = m9.toInt + 1 := by rw [cntB_congr (σ := σ327) (by rw [eσ328, rs_v (by decide)])]; exact hb1
                          refine lv_aload_n S.1 S.2.1 dX5_goes_193 rfl (lv_at hl 1 rfl) ?_
                          refine lv_iload_n S.1 S.2.1 dX5_goes_194 rfl (lv_at hl 2 rfl) ?_
                          refine lv_iconst (v := 1) S.1 S.2.1 dX5_goes_195 (by decide) ?_
                          refine lv_iadd S.1 S.2.1 dX5_goes_196 ?_
                          refine lv_topi (fun v329 e329 => ?_)
                          have i329 : v329.toInt = m9.toInt + (1 : Int32).toInt := i_add e329 (by omega) (by omega)
                          refine lv_iload S.1 S.2.1 dX5_goes_197 (lv_at hl 6 rfl) ?_
                          refine lv_iload S.1 S.2.1 dX5_goes_199 (lv_at hl 0 rfl) ?_
                          refine lv_iload S.1 S.2.1 dX5_goes_201 (lv_at hl 5 rfl) ?_
                          refine lv_aload_n S.1 S.2.1 dX5_goes_203 rfl (lv_at hl 1 rfl) ?_
                          refine rM_0_29 S hnX5 K hH (mG wd_330) dX5_goes_204 ?_
                          refine lv_iload S.1 S.2.1 dX5_goes_207 (lv_at hl 6 rfl) ?_
                          refine lM_29 S K hH (vin (by omega) (by omega)) dX5_goes_209 ?_
                          refine lv_topi (fun v330 e330 => ?_)
                          refine lv_iadd S.1 S.2.1 dX5_goes_210 ?_
                          refine lv_topi (fun v331 e331 => ?_)
                          refine cW_bv (cW_V (n := 4) (As := [.int v329, .int x6_311, .int v318, .int v331]) (rest := []) (k := 0) (i := 0) S K hH (by decide) rfl rfl (IH σ328 τ_311 v329 x6_311 v318 v331 (by have h9 := cntB_le σ328; omega) (by omega) hI (by rw [hb1]; omega) (by omega)) gX5_goes_X5_goes rfl hdV_X5_goes ⟨Nat.le_refl _, Nat.le_refl _⟩ rfl hl.1 (Nat.le_of_ble_eq_true rfl) dX5_goes_211) hS (fun σ332 τ332 H locs q332 hH hS => ?_)
                          obtain ⟨hI, hP332, q332⟩ := q332
                          have hP := Keep_t hP hP332 (by decide)
                          refine lv_aload_n S.1 S.2.1 dX5_goes_214 rfl (lv_at hl 1 rfl) ?_
                          refine rM_0_33 S hnX5 K hH (mG wd_334) dX5_goes_215 ?_
                          refine lv_iload S.1 S.2.1 dX5_goes_218 (lv_at hl 6 rfl) ?_
                          refine lv_iconst (v := 0) S.1 S.2.1 dX5_goes_220 (by decide) ?_
                          refine sM_33 S K hH hS (vin (by omega) (by omega)) dX5_goes_221 (fun H locs hH hS => ?_)
                          obtain ⟨σ333, eσ333⟩ : ∃ z_9 : QS, z_9 = rs σ332 33 0 (upd (σ332 33 0) x6_311.toNatClampNeg (vp_nar .boolean 0)) := ⟨_, rfl⟩
                          rw [← eσ333] at hH
                          have hI := InvM_a eσ333 hI (by decide) (any32 _)
                          have hP := Keep_w eσ333 hP (by decide)
                          have hbe9 : σ333 33 = σ 33 := (been_back eσ327 (σ2 := σ328) (by rw [eσ328, rs_v (by decide)]) q332 eσ333 e322 (by omega)).trans hbe
                          obtain ⟨v334, e334⟩ : ∃ y_9 : Int32, y_9 = x6_311 + 1 := ⟨_, rfl⟩
                          have i334 : v334.toInt = x6_311.toInt + 1 := i_addc e334 (by decide) (by omega) (by omega)
                          refine lv_iinc (v := v334) (lv' := [(6, .int v334), (7, .int v318), (0, .ref (L 0 0)), (1, .int m9), (2, .int a), (3, .int t), (4, .int b)]) S.1 S.2.1 dX5_goes_222 hl (k := 6) rfl (by rw [e334]; rfl) (by decide) rfl (fun ls hl => ?_)
                          refine lv_goto (tgt := 114) S.1 S.2.1 dX5_goes_225 (by decide) ?_
                          exact ih311 v334 σ333 τ332 _ _ ls (by omega) (by omega) (by first | exact hbe9 | exact hbe) hI hP hH hS (lv_sub hl [2, 3, 4, 5, 6, 0] rfl)
                        · have j326 := t_nle c326
                          refine lv_goto (tgt := 222) S.1 S.2.1 dX5_goes_174 (by decide) ?_
                          obtain ⟨v335, e335⟩ : ∃ y_9 : Int32, y_9 = x6_311 + 1 := ⟨_, rfl⟩
                          have i335 : v335.toInt = x6_311.toInt + 1 := i_addc e335 (by decide) (by omega) (by omega)
                          refine lv_iinc (v := v335) (lv' := [(6, .int v335), (7, .int v318), (0, .ref (L 0 0)), (1, .int m9), (2, .int a), (3, .int t), (4, .int b)]) S.1 S.2.1 dX5_goes_222 hl (k := 6) rfl (by rw [e335]; rfl) (by decide) rfl (fun ls hl => ?_)
                          refine lv_goto (tgt := 114) S.1 S.2.1 dX5_goes_225 (by decide) ?_
                          exact ih311 v335 σ_311 τ_311 _ _ ls (by omega) (by omega) (by first | exact hbe9 | exact hbe) hI hP hH hS (lv_sub hl [2, 3, 4, 5, 6, 0] rfl)
              exact cut_114_311 _ 1 σ τ _ _ ls (Nat.lt_succ_self _) (by omega) (by first | rfl | exact hbe) hI hP hH hS (lv_sub hl [2, 3, 4, 5, 6, 0] rfl)
            · have j310 := t_nle c310
              refine lv_aload_n S.1 S.2.1 dX5_goes_65 rfl (lv_at hl 1 rfl) ?_
              refine lv_iload_n S.1 S.2.1 dX5_goes_66 rfl (lv_at hl 2 rfl) ?_
              refine pM_0_34 S hnX5 K hH hS (mG wd_380) dX5_goes_67 (fun H locs hH hS => ?_)
              obtain ⟨σ336, eσ336⟩ : ∃ z_9 : QS, z_9 = rs σ 34 0 (fun _ => m9) := ⟨_, rfl⟩
              rw [← eσ336] at hH
              have hI := InvM_f eσ336 hI (by decide) (show ((-1) : Int) ≤ m9.toInt ∧ m9.toInt ≤ 8 by omega)
              have hP := Keep_w eσ336 hP (by decide)
              refine lv_aload_n S.1 S.2.1 dX5_goes_70 rfl (lv_at hl 1 rfl) ?_
              refine lv_iload S.1 S.2.1 dX5_goes_71 (lv_at hl 5 rfl) ?_
              refine pM_0_35 S hnX5 K hH hS (mG wd_381) dX5_goes_73 (fun H locs hH hS => ?_)
              obtain ⟨σ337, eσ337⟩ : ∃ z_9 : QS, z_9 = rs σ336 35 0 (fun _ => b) := ⟨_, rfl⟩
              rw [← eσ337] at hH
              have hI := InvM_f eσ337 hI (by decide) (any32 _)
              have hP := Keep_w eσ337 hP (by decide)
              refine lv_aload_n S.1 S.2.1 dX5_goes_76 rfl (lv_at hl 1 rfl) ?_
              refine lv_iload S.1 S.2.1 dX5_goes_77 (lv_at hl 0 rfl) ?_
              refine pM_0_36 S hnX5 K hH hS (mG wd_382) dX5_goes_79 (fun H locs hH hS => ?_)
              obtain ⟨σ338, eσ338⟩ : ∃ z_9 : QS, z_9 = rs σ337 36 0 (fun _ => v190) := ⟨_, rfl⟩
              rw [← eσ338] at hH
              have hI := InvM_f eσ338 hI (by decide) (any32 _)
              have hP := Keep_w eσ338 hP (by decide)
              refine lv_iconst (v := 0) S.1 S.2.1 dX5_goes_82 (by decide) ?_
              refine lv_istore (lv' := [(6, .int 0), (5, .int v190), (0, .ref (L 0 0)), (1, .int m9), (2, .int a), (3, .int t), (4, .int b)]) S.1 S.2.1 dX5_goes_83 hl (by decide) rfl (fun ls hl => ?_)
              have cut_85_339 : ∀ (n : Nat) (x6_339 : Int32) (σ_339 : QS) (τ_339 : Int64) (H : Heap) (locs : List Loc) (ls : Array Slot), (8 - x6_339.toInt).toNat < n → 0 ≤ x6_339.toInt ∧ x6_339.toInt ≤ 8 → (σ_339 33 = σ 33) → InvM σ_339 → Keep [34, 35, 36, 31, 30, 33] σ σ_339 → hW cntM gM D B L σ_339 τ_339 H → va_S A s.heap H locs → lv_has ls 8 [(0, .ref (L 0 0)), (1, .int m9), (2, .int a), (3, .int t), (4, .int b), (6, .int x6_339)] → W p l e { frames := fr + 1, cells := 0, slots := 0, locals := 8 + (8 + 11) + lo } s m [.ref (L 0 0), .int m9, .int a, .int t, .int b].toArray below meth c H locs 0 0 (MQ below (QcW cntM gM D B L A (pV (fun σ' τ' => InvM σ' ∧ Keep [34, 35, 36, 31, 30, 33] σ σ' ∧ σ' 33 = σ 33))) [.ref (L 0 0), .int m9, .int a, .int t, .int b].toArray s 0 0 A) (F0 m 85 ls []) := by
                intro n
                induction n with
                | zero => intro x6_339 σ_339 τ_339 H locs ls hm; exact absurd hm (Nat.not_lt_zero _)
                | succ n ih339 =>
                  intro x6_339 σ_339 τ_339 H locs ls hm339 h339_0 hbe hI hP hH hS hl
                  refine lv_iload S.1 S.2.1 dX5_goes_85 (lv_at hl 5 rfl) ?_
                  refine lv_iload_n S.1 S.2.1 dX5_goes_87 rfl (lv_at hl 1 rfl) ?_
                  refine lv_icmp_ge (tgt := 111) S.1 S.2.1 dX5_goes_88 (by decide) (fun c340 => ?_) (fun c340 => ?_)
                  · have j340 := t_le c340
                    refine lv_iconst (v := 1) S.1 S.2.1 dX5_goes_111 (by decide) ?_
                    refine lv_istore (lv' := [(6, .int 1), (0, .ref (L 0 0)), (1, .int m9), (2, .int a), (3, .int t), (4, .int b)]) S.1 S.2.1 dX5_goes_112 hl (by decide) rfl (fun ls hl => ?_)
                    have cut_114_341 : ∀ (n : Nat) (x6_341 : Int32) (σ_341 : QS) (τ_341 : Int64) (H : Heap) (locs : List Loc) (ls : Array Slot), (9 - x6_341.toInt).toNat < n → 1 ≤ x6_341.toInt ∧ x6_341.toInt ≤ 9 → (σ_341 33 = σ 33) → InvM σ_341 → Keep [34, 35, 36, 31, 30, 33] σ σ_341 → hW cntM gM D B L σ_341 τ_341 H → va_S A s.heap H locs → lv_has ls 8 [(0, .ref (L 0 0)), (1, .int m9), (2, .int a), (3, .int t), (4, .int b), (6, .int x6_341)] → W p l e { frames := fr + 1, cells := 0, slots := 0, locals := 8 + (8 + 11) + lo } s m [.ref (L 0 0), .int m9, .int a, .int t, .int b].toArray below meth c H locs 0 0 (MQ below (QcW cntM gM D B L A (pV (fun σ' τ' => InvM σ' ∧ Keep [34, 35, 36, 31, 30, 33] σ σ' ∧ σ' 33 = σ 33))) [.ref (L 0 0), .int m9, .int a, .int t, .int b].toArray s 0 0 A) (F0 m 114 ls []) := by
                      intro n
                      induction n with
                      | zero => intro x6_341 σ_341 τ_341 H locs ls hm; exact absurd hm (Nat.not_lt_zero _)
                      | succ n ih341 =>
                        intro x6_341 σ_341 τ_341 H locs ls hm341 h341_0 hbe hI hP hH hS hl
                        refine lv_iload S.1 S.2.1 dX5_goes_114 (lv_at hl 5 rfl) ?_
                        refine lv_bipush (v := 9) S.1 S.2.1 dX5_goes_116 (by decide) ?_
                        refine lv_icmp_ge (tgt := 228) S.1 S.2.1 dX5_goes_118 (by decide) (fun c342 => ?_) (fun c342 => ?_)
                        · have j342 := t_le c342
                          refine cW_vret S hr hk hH hS ?_ dX5_goes_228
                          exact ⟨rfl, hI, hP, by first | rfl | exact hbe⟩
                        · have j342 := t_nle c342
                          refine lv_iload_n S.1 S.2.1 dX5_goes_121 rfl (lv_at hl 3 rfl) ?_
                          refine lv_aload_n S.1 S.2.1 dX5_goes_122 rfl (lv_at hl 0 rfl) ?_
                          refine rM_0_27 S hnX5 K hH (mG wd_328) dX5_goes_123 ?_
                          refine lv_bipush (v := 9) S.1 S.2.1 dX5_goes_126 (by decide) ?_
                          refine lv_iload_n S.1 S.2.1 dX5_goes_128 rfl (lv_at hl 2 rfl) ?_
                          refine lv_imul S.1 S.2.1 dX5_goes_129 ?_
                          refine lv_topi (fun v343 e343 => ?_)
                          have i343 : v343.toInt = 9 * a.toInt := i_mulcl e343 (by decide) (by omega) (by omega)
                          refine lv_iload S.1 S.2.1 dX5_goes_130 (lv_at hl 5 rfl) ?_
                          refine lv_iadd S.1 S.2.1 dX5_goes_132 ?_
                          refine lv_topi (fun v344 e344 => ?_)
                          have i344 : v344.toInt = v343.toInt + x6_341.toInt := i_add e344 (by omega) (by omega)
                          refine lM_27 S K hH (vin (by omega) (by omega)) dX5_goes_133 ?_
                          refine lv_topi (fun v345 e345 => ?_)
                          refine lv_iadd S.1 S.2.1 dX5_goes_134 ?_
                          refine lv_topi (fun v346 e346 => ?_)
                          refine lv_aload_n S.1 S.2.1 dX5_goes_135 rfl (lv_at hl 0 rfl) ?_
                          refine rM_0_28 S hnX5 K hH (mG wd_329) dX5_goes_136 ?_
                          refine lv_iload S.1 S.2.1 dX5_goes_139 (lv_at hl 5 rfl) ?_
                          refine lM_28 S K hH (vin (by omega) (by omega)) dX5_goes_141 ?_
                          refine lv_topi (fun v347 e347 => ?_)
                          refine lv_iadd S.1 S.2.1 dX5_goes_142 ?_
                          refine lv_topi (fun v348 e348 => ?_)
                          refine lv_istore (lv' := [(7, .int v348), (0, .ref (L 0 0)), (1, .int m9), (2, .int a), (3, .int t), (4, .int b), (6, .int x6_341)]) S.1 S.2.1 dX5_goes_143 hl (by decide) rfl (fun ls hl => ?_)
                          refine lv_aload_n S.1 S.2.1 dX5_goes_145 rfl (lv_at hl 1 rfl) ?_
                          refine rM_0_32 S hnX5 K hH (mG wd_333) dX5_goes_146 ?_
                          refine lv_iload S.1 S.2.1 dX5_goes_149 (lv_at hl 6 rfl) ?_
                          refine lM_32 S K hH (vin (by omega) (by omega)) dX5_goes_151 ?_
                          refine lv_topi (fun v349 e349 => ?_)
                          refine lv_if_eq (tgt := 222) S.1 S.2.1 dX5_goes_152 (by decide) (fun c350 => ?_) (fun c350 => ?_)
                          · have j350 := t_eq c350
                            obtain ⟨v351, e351⟩ : ∃ y_9 : Int32, y_9 = x6_341 + 1 := ⟨_, rfl⟩
                            have i351 : v351.toInt = x6_341.toInt + 1 := i_addc e351 (by decide) (by omega) (by omega)
                            refine lv_iinc (v := v351) (lv' := [(6, .int v351), (7, .int v348), (0, .ref (L 0 0)), (1, .int m9), (2, .int a), (3, .int t), (4, .int b)]) S.1 S.2.1 dX5_goes_222 hl (k := 6) rfl (by rw [e351]; rfl) (by decide) rfl (fun ls hl => ?_)
                            refine lv_goto (tgt := 114) S.1 S.2.1 dX5_goes_225 (by decide) ?_
                            exact ih341 v351 σ_341 τ_341 _ _ ls (by omega) (by omega) (by first | exact hbe9 | exact hbe) hI hP hH hS (lv_sub hl [2, 3, 4, 5, 6, 0] rfl)
                          · have j350 := t_neq c350
                            refine lv_aload_n S.1 S.2.1 dX5_goes_155 rfl (lv_at hl 1 rfl) ?_
                            refine rM_0_33 S hnX5 K hH (mG wd_334) dX5_goes_156 ?_
                            refine lv_iload S.1 S.2.1 dX5_goes_159 (lv_at hl 6 rfl) ?_
                            refine lM_33 S K hH (vin (by omega) (by omega)) dX5_goes_161 ?_
                            refine lv_topi (fun v352 e352 => ?_)
                            refine lv_if_ne (tgt := 222) S.1 S.2.1 dX5_goes_162 (by decide) (fun c353 => ?_) (fun c353 => ?_)
                            · have j353 := t_neq c353
                              obtain ⟨v354, e354⟩ : ∃ y_9 : Int32, y_9 = x6_341 + 1 := ⟨_, rfl⟩
                              have i354 : v354.toInt = x6_341.toInt + 1 := i_addc e354 (by decide) (by omega) (by omega)
                              refine lv_iinc (v := v354) (lv' := [(6, .int v354), (7, .int v348), (0, .ref (L 0 0)), (1, .int m9), (2, .int a), (3, .int t), (4, .int b)]) S.1 S.2.1 dX5_goes_222 hl (k := 6) rfl (by rw [e354]; rfl) (by decide) rfl (fun ls hl => ?_)
                              refine lv_goto (tgt := 114) S.1 S.2.1 dX5_goes_225 (by decide) ?_
                              exact ih341 v354 σ_341 τ_341 _ _ ls (by omega) (by omega) (by first | exact hbe9 | exact hbe) hI hP hH hS (lv_sub hl [2, 3, 4, 5, 6, 0] rfl)
                            · have j353 := t_eq c353
                              refine lv_iload S.1 S.2.1 dX5_goes_165 (lv_at hl 0 rfl) ?_
                              refine lv_aload_n S.1 S.2.1 dX5_goes_167 rfl (lv_at hl 1 rfl) ?_
                              refine rM_0_37 S hnX5 K hH (mG wd_379) dX5_goes_168 ?_
                              refine lv_topi (fun v355 e355 => ?_)
                              refine lv_icmp_le (tgt := 177) S.1 S.2.1 dX5_goes_171 (by decide) (fun c356 => ?_) (fun c356 => ?_)
                              · have j356 := t_le c356
                                refine lv_aload_n S.1 S.2.1 dX5_goes_177 rfl (lv_at hl 1 rfl) ?_
                                refine rM_0_33 S hnX5 K hH (mG wd_334) dX5_goes_178 ?_
                                refine lv_iload S.1 S.2.1 dX5_goes_181 (lv_at hl 6 rfl) ?_
                                refine lv_iconst (v := 1) S.1 S.2.1 dX5_goes_183 (by decide) ?_
                                refine sM_33 S K hH hS (vin (by omega) (by omega)) dX5_goes_184 (fun H locs hH hS => ?_)
                                obtain ⟨σ357, eσ357⟩ : ∃ z_9 : QS, z_9 = rs σ_341 33 0 (upd (σ_341 33 0) x6_341.toNatClampNeg (vp_nar .boolean 1)) := ⟨_, rfl⟩
                                rw [← eσ357] at hH
                                have hI := InvM_a eσ357 hI (by decide) (any32 _)
                                have hP := Keep_w eσ357 hP (by decide)
                                have hb1 : cntB σ357 = m9.toInt + 1 := by rw [cntB_set eσ357 (by omega) (by omega) e352 (by omega), cntB_congr hbe]; omega
                                refine lv_aload_n S.1 S.2.1 dX5_goes_185 rfl (lv_at hl 1 rfl) ?_
                                refine rM_0_30 S hnX5 K hH (mG wd_331) dX5_goes_186 ?_
                                refine lv_iload_n S.1 S.2.1 dX5_goes_189 rfl (lv_at hl 2 rfl) ?_
                                refine lv_iload S.1 S.2.1 dX5_goes_190 (lv_at hl 6 rfl) ?_
                                refine sM_30 S K hH hS (vin (by omega) (by omega)) dX5_goes_192 (fun H locs hH hS => ?_)
                                obtain ⟨σ358, eσ358⟩ : ∃ z_9 : QS, z_9 = rs σ357 30 0 (upd (σ357 30 0) m9.toNatClampNeg x6_341) := ⟨_, rfl⟩
                                rw [← eσ358] at hH
                                have hI := InvM_a eσ358 hI (by decide) (any32 _)
                                have hP := Keep_w eσ358 hP (by decide)
                                have hb1 : cntB σ358 = m9.toInt + 1 := by rw [cntB_congr (σ := σ357) (by rw [eσ358, rs_v (by decide)])]; exact hb1
                                refine lv_aload_n S.1 S.2.1 dX5_goes_193 rfl (lv_at hl 1 rfl) ?_
                                refine lv_iload_n S.1 S.2.1 dX5_goes_194 rfl (lv_at hl 2 rfl) ?_
                                refine lv_iconst (v := 1) S.1 S.2.1 dX5_goes_195 (by decide) ?_
                                refine lv_iadd S.1 S.2.1 dX5_goes_196 ?_
                                refine lv_topi (fun v359 e359 => ?_)
                                have i359 : v359.toInt = m9.toInt + (1 : Int32).toInt := i_add e359 (by omega) (by omega)
                                refine lv_iload S.1 S.2.1 dX5_goes_197 (lv_at hl 6 rfl) ?_
                                refine lv_iload S.1 S.2.1 dX5_goes_199 (lv_at hl 0 rfl) ?_
                                refine lv_iload S.1 S.2.1 dX5_goes_201 (lv_at hl 5 rfl) ?_
                                refine lv_aload_n S.1 S.2.1 dX5_goes_203 rfl (lv_at hl 1 rfl) ?_
                                refine rM_0_29 S hnX5 K hH (mG wd_330) dX5_goes_204 ?_
                                refine lv_iload S.1 S.2.1 dX5_goes_207 (lv_at hl 6 rfl) ?_
                                refine lM_29 S K hH (vin (by omega) (by omega)) dX5_goes_209 ?_
                                refine lv_topi (fun v360 e360 => ?_)
                                refine lv_iadd S.1 S.2.1 dX5_goes_210 ?_
                                refine lv_topi (fun v361 e361 => ?_)
                                refine cW_bv (cW_V (n := 4) (As := [.int v359, .int x6_341, .int v348, .int v361]) (rest := []) (k := 0) (i := 0) S K hH (by decide) rfl rfl (IH σ358 τ_341 v359 x6_341 v348 v361 (by have h9 := cntB_le σ358; omega) (by omega) hI (by rw [hb1]; omega) (by omega)) gX5_goes_X5_goes rfl hdV_X5_goes ⟨Nat.le_refl _, Nat.le_refl _⟩ rfl hl.1 (Nat.le_of_ble_eq_true rfl) dX5_goes_211) hS (fun σ362 τ362 H locs q362 hH hS => ?_)
                                obtain ⟨hI, hP362, q362⟩ := q362
                                have hP := Keep_t hP hP362 (by decide)
                                refine lv_aload_n S.1 S.2.1 dX5_goes_214 rfl (lv_at hl 1 rfl) ?_
                                refine rM_0_33 S hnX5 K hH (mG wd_334) dX5_goes_215 ?_
                                refine lv_iload S.1 S.2.1 dX5_goes_218 (lv_at hl 6 rfl) ?_
                                refine lv_iconst (v := 0) S.1 S.2.1 dX5_goes_220 (by decide) ?_
                                refine sM_33 S K hH hS (vin (by omega) (by omega)) dX5_goes_221 (fun H locs hH hS => ?_)
                                obtain ⟨σ363, eσ363⟩ : ∃ z_9 : QS, z_9 = rs σ362 33 0 (upd (σ362 33 0) x6_341.toNatClampNeg (vp_nar .boolean 0)) := ⟨_, rfl⟩
                                rw [← eσ363] at hH
                                have hI := InvM_a eσ363 hI (by decide) (any32 _)
                                have hP := Keep_w eσ363 hP (by decide)
                                have hbe9 : σ363 33 = σ 33 := (been_back eσ357 (σ2 := σ358) (by rw [eσ358, rs_v (by decide)]) q362 eσ363 e352 (by omega)).trans hbe
                                obtain ⟨v364, e364⟩ : ∃ y_9 : Int32, y_9 = x6_341 + 1 := ⟨_, rfl⟩
                                have i364 : v364.toInt = x6_341.toInt + 1 := i_addc e364 (by decide) (by omega) (by omega)
                                refine lv_iinc (v := v364) (lv' := [(6, .int v364), (7, .int v348), (0, .ref (L 0 0)), (1, .int m9), (2, .int a), (3, .int t), (4, .int b)]) S.1 S.2.1 dX5_goes_222 hl (k := 6) rfl (by rw [e364]; rfl) (by decide) rfl (fun ls hl => ?_)
                                refine lv_goto (tgt := 114) S.1 S.2.1 dX5_goes_225 (by decide) ?_
                                exact ih341 v364 σ363 τ362 _ _ ls (by omega) (by omega) (by first | exact hbe9 | exact hbe) hI hP hH hS (lv_sub hl [2, 3, 4, 5, 6, 0] rfl)
                              · have j356 := t_nle c356
                                refine lv_goto (tgt := 222) S.1 S.2.1 dX5_goes_174 (by decide) ?_
                                obtain ⟨v365, e365⟩ : ∃ y_9 : Int32, y_9 = x6_341 + 1 := ⟨_, rfl⟩
                                have i365 : v365.toInt = x6_341.toInt + 1 := i_addc e365 (by decide) (by omega) (by omega)
                                refine lv_iinc (v := v365) (lv' := [(6, .int v365), (7, .int v348), (0, .ref (L 0 0)), (1, .int m9), (2, .int a), (3, .int t), (4, .int b)]) S.1 S.2.1 dX5_goes_222 hl (k := 6) rfl (by rw [e365]; rfl) (by decide) rfl (fun ls hl => ?_)
                                refine lv_goto (tgt := 114) S.1 S.2.1 dX5_goes_225 (by decide) ?_
                                exact ih341 v365 σ_341 τ_341 _ _ ls (by omega) (by omega) (by first | exact hbe9 | exact hbe) hI hP hH hS (lv_sub hl [2, 3, 4, 5, 6, 0] rfl)
                    exact cut_114_341 _ 1 σ_339 τ_339 _ _ ls (Nat.lt_succ_self _) (by omega) (by first | rfl | exact hbe) hI hP hH hS (lv_sub hl [1, 2, 3, 4, 5, 0] rfl)
                  · have j340 := t_nle c340
                    exact absurd j340 (by omega)
              exact cut_85_339 _ 0 σ338 τ _ _ ls (Nat.lt_succ_self _) (by omega) (by rw [eσ338, rs_v (by decide), eσ337, rs_v (by decide), eσ336, rs_v (by decide)]) hI hP hH hS (lv_sub hl [2, 3, 4, 5, 6, 0] rfl)
