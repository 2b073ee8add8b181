set_option maxHeartbeats 4000000 in
set_option maxRecDepth 100000 in
theorem k_X5_goes (l : Launch) (D : va_G) (B : Nat → ClassId) (L : QL) (A : Nat → Prop) (σ : QS) (τ : Int64) (m9 : Int32) (a : Int32) (t : Int32) (b : Int32) (pz : List Nat) (fr lo : Nat) (IH : ∀ (σ : QS) (τ : Int64) (m1 a1 t1 b1 : Int32) (p1 : List Nat), (0 ≤ m1.toInt ∧ m1.toInt ≤ 8) → (0 ≤ a1.toInt ∧ a1.toInt ≤ 8) → (0 ≤ t1.toInt ∧ t1.toInt ≤ 500) → (0 ≤ b1.toInt ∧ b1.toInt ≤ 800) → InvM σ → gP σ p1 m1 a1 t1 b1 → gR σ (fun q => ezLt q p1) → b1.toInt ≤ 100 * m1.toInt → m1.toInt = m9.toInt + 1 → cW cntM gM l D B L A yX5_goes wsX5_goes fr lo [.ref (L 0 0), .int m1, .int a1, .int t1, .int b1] σ τ (pV (fun σ' τ' => InvM σ' ∧ Keep [34, 35, 36, 31, 30, 33] σ σ' ∧ τ' = τ ∧ (σ' 33 = σ 33 ∧ (∀ k : Nat, (k : Int) < m1.toInt → σ' 30 0 k = σ 30 0 k) ∧ gR σ' (fun q => ezLt q (p1 ++ [9])))))) (hp0 : 0 ≤ m9.toInt ∧ m9.toInt ≤ 8) (hp1 : 0 ≤ a.toInt ∧ a.toInt ≤ 8) (hp2 : 0 ≤ t.toInt ∧ t.toInt ≤ 500) (hp3 : 0 ≤ b.toInt ∧ b.toInt ≤ 800) (hI : InvM σ) (hp5 : gP σ pz m9 a t b) (hp6 : gR σ (fun q => ezLt q pz)) (hp7 : b.toInt ≤ 100 * m9.toInt) : cW cntM gM l D B L A yX5_goes wsX5_goes (fr + 1) (8 + (8 + 11) + lo) [.ref (L 0 0), .int m9, .int a, .int t, .int b] σ τ (pV (fun σ' τ' => InvM σ' ∧ Keep [34, 35, 36, 31, 30, 33] σ σ' ∧ τ' = τ ∧ (σ' 33 = σ 33 ∧ (∀ k : Nat, (k : Int) < m9.toInt → σ' 30 0 k = σ 30 0 k) ∧ gR σ' (fun q => ezLt q (pz ++ [9]))))) := by
  refine cW_of (cc := cX5_goes) (nL := 8) (ret := none) (by decide) rfl (Nat.le_of_ble_eq_true rfl) ?_
  intro p e s m below meth c S hr hk K hH hS ls hl
  have hnX5 : ∀ w ∈ wsX50, w ∈ wsX5_goes := fun w h => mG (tX5 w h)
  have lm1 : ((-1) : Int32).toInt = -1 := by decide
  have l0 : (0 : Int32).toInt = 0 := by decide
  have l1 : (1 : Int32).toInt = 1 := by decide
  have l9 : (9 : Int32).toInt = 9 := by decide
  have hP : Keep [34, 35, 36, 31, 30, 33] σ σ := Keep_r
  have hIv := hI.1
  have hl : lv_has ls 8 [(0, .ref (L 0 0)), (1, .int m9), (2, .int a), (3, .int t), (4, .int b)] := hl
  refine lv_iload_n S.1 S.2.1 dX5_goes_0 rfl (lv_at hl 3 rfl) ?_
  refine lv_iload_n S.1 S.2.1 dX5_goes_1 rfl (lv_at hl 1 rfl) ?_
  refine lv_if_ne (tgt := 9) S.1 S.2.1 dX5_goes_2 (by decide) (fun c1 => ?_) (fun c1 => ?_)
  · have j1 := t_neq c1
    refine lv_aload_n S.1 S.2.1 dX5_goes_9 rfl (lv_at hl 0 rfl) ?_
    refine rM_0_27 S hnX5 K hH (mG wd_328) dX5_goes_10 ?_
    refine lv_bipush (v := 9) S.1 S.2.1 dX5_goes_13 (by decide) ?_
    refine lv_iload_n S.1 S.2.1 dX5_goes_15 rfl (lv_at hl 2 rfl) ?_
    refine lv_imul S.1 S.2.1 dX5_goes_16 ?_
    refine lv_topi (fun v2 e2 => ?_)
    have i2 : v2.toInt = 9 * a.toInt := i_mulcl e2 (by decide) (by omega) (by omega)
    refine lM_27 S K hH (vin (by omega) (by omega)) dX5_goes_17 ?_
    refine lv_topi (fun v3 e3 => ?_)
    have b3 : 0 ≤ v3.toInt ∧ v3.toInt ≤ 60 := by rw [e3]; exact hI.1 27 0 v2.toNatClampNeg
    refine lv_iadd S.1 S.2.1 dX5_goes_18 ?_
    refine lv_topi (fun v4 e4 => ?_)
    have i4 : v4.toInt = t.toInt + v3.toInt := i_add e4 (by omega) (by omega)
    refine lv_istore (lv' := [(5, .int v4), (0, .ref (L 0 0)), (1, .int m9), (2, .int a), (3, .int t), (4, .int b)]) S.1 S.2.1 dX5_goes_19 hl (by decide) rfl (fun ls hl => ?_)
    have hm9 : v4.toInt = ezTot (wkC (σ 27 0)) (mnC (σ 28 0)) pz := by first | exact gT0 hp5 (by omega) (by omega) | exact gT1 hp5 (by omega) (by rw [i4, e3, ix9z i2 (by omega)])
    refine lv_iload S.1 S.2.1 dX5_goes_21 (lv_at hl 0 rfl) ?_
    refine lv_aload_n S.1 S.2.1 dX5_goes_23 rfl (lv_at hl 1 rfl) ?_
    refine rM_0_37 S hnX5 K hH (mG wd_379) dX5_goes_24 ?_
    refine lv_topi (fun v5 e5 => ?_)
    have b5 : 0 ≤ v5.toInt ∧ v5.toInt ≤ 500 := by rw [e5]; exact hI.1 37 0 0
    have f24 : v5.toInt = (σ 37 0 0).toInt := by rw [e5]
    refine lv_icmp_gt (tgt := 111) S.1 S.2.1 dX5_goes_27 (by decide) (fun c6 => ?_) (fun c6 => ?_)
    · have j6 := t_lt c6
      refine lv_iconst (v := 1) S.1 S.2.1 dX5_goes_111 (by decide) ?_
      refine lv_istore (lv' := [(6, .int 1), (5, .int v4), (0, .ref (L 0 0)), (1, .int m9), (2, .int a), (3, .int t), (4, .int b)]) S.1 S.2.1 dX5_goes_112 hl (by decide) rfl (fun ls hl => ?_)
      have cut_114_7 : ∀ (n : Nat) (x6_7 : Int32) (σ_7 : QS) (H : Heap) (locs : List Loc) (ls : Array Slot), (9 - x6_7.toInt).toNat < n → 1 ≤ x6_7.toInt ∧ x6_7.toInt ≤ 9 → (σ_7 33 = σ 33) → (∀ k : Nat, (k : Int) < m9.toInt → σ_7 30 0 k = σ 30 0 k) → (gR σ_7 (fun q => ezLt q (pz ++ [x6_7.toNatClampNeg]))) → InvM σ_7 → Keep [34, 35, 36, 31, 30, 33] σ σ_7 → hW cntM gM D B L σ_7 τ H → va_S A s.heap H locs → lv_has ls 8 [(0, .ref (L 0 0)), (1, .int m9), (2, .int a), (3, .int t), (4, .int b), (6, .int x6_7)] → W p l e { frames := fr + 1, cells := 0, slots := 0, locals := 8 + (8 + 11) + lo } s m [.ref (L 0 0), .int m9, .int a, .int t, .int b].toArray below meth c H locs 0 0 (MQ below (QcW cntM gM D B L A (pV (fun σ' τ' => InvM σ' ∧ Keep [34, 35, 36, 31, 30, 33] σ σ' ∧ τ' = τ ∧ (σ' 33 = σ 33 ∧ (∀ k : Nat, (k : Int) < m9.toInt → σ' 30 0 k = σ 30 0 k) ∧ gR σ' (fun q => ezLt q (pz ++ [9])))))) [.ref (L 0 0), .int m9, .int a, .int t, .int b].toArray s 0 0 A) (F0 m 114 ls []) := by
        intro n
        induction n with
        | zero => intro x6_7 σ_7 H locs ls hm; exact absurd hm (Nat.not_lt_zero _)
        | succ n ih7 =>
          intro x6_7 σ_7 H locs ls hm7 h7_0 hbe hrk hrr hI hP hH hS hl
          refine lv_iload S.1 S.2.1 dX5_goes_114 (lv_at hl 5 rfl) ?_
          refine lv_bipush (v := 9) S.1 S.2.1 dX5_goes_116 (by decide) ?_
          refine lv_icmp_ge (tgt := 228) S.1 S.2.1 dX5_goes_118 (by decide) (fun c8 => ?_) (fun c8 => ?_)
          · have j8 := t_le c8
            refine cW_vret S hr hk hH hS ?_ dX5_goes_228
            exact ⟨rfl, hI, hP, rfl, by refine ⟨hbe, hrk, ?_⟩; have h9 : x6_7.toNatClampNeg = 9 := (by have h8 := cl_eq (j := x6_7) (by omega); omega); rw [h9] at hrr; exact hrr⟩
          · have j8 := t_nle c8
            refine lv_iload_n S.1 S.2.1 dX5_goes_121 rfl (lv_at hl 3 rfl) ?_
            refine lv_aload_n S.1 S.2.1 dX5_goes_122 rfl (lv_at hl 0 rfl) ?_
            refine rM_0_27 S hnX5 K hH (mG wd_328) dX5_goes_123 ?_
            refine lv_bipush (v := 9) S.1 S.2.1 dX5_goes_126 (by decide) ?_
            refine lv_iload_n S.1 S.2.1 dX5_goes_128 rfl (lv_at hl 2 rfl) ?_
            refine lv_imul S.1 S.2.1 dX5_goes_129 ?_
            refine lv_topi (fun v9 e9 => ?_)
            have i9 : v9.toInt = 9 * a.toInt := i_mulcl e9 (by decide) (by omega) (by omega)
            refine lv_iload S.1 S.2.1 dX5_goes_130 (lv_at hl 5 rfl) ?_
            refine lv_iadd S.1 S.2.1 dX5_goes_132 ?_
            refine lv_topi (fun v10 e10 => ?_)
            have i10 : v10.toInt = v9.toInt + x6_7.toInt := i_add e10 (by omega) (by omega)
            refine lM_27 S K hH (vin (by omega) (by omega)) dX5_goes_133 ?_
            refine lv_topi (fun v11 e11 => ?_)
            have b11 : 0 ≤ v11.toInt ∧ v11.toInt ≤ 60 := by rw [e11]; exact hI.1 27 0 v10.toNatClampNeg
            refine lv_iadd S.1 S.2.1 dX5_goes_134 ?_
            refine lv_topi (fun v12 e12 => ?_)
            have i12 : v12.toInt = t.toInt + v11.toInt := i_add e12 (by omega) (by omega)
            refine lv_aload_n S.1 S.2.1 dX5_goes_135 rfl (lv_at hl 0 rfl) ?_
            refine rM_0_28 S hnX5 K hH (mG wd_329) dX5_goes_136 ?_
            refine lv_iload S.1 S.2.1 dX5_goes_139 (lv_at hl 5 rfl) ?_
            refine lM_28 S K hH (vin (by omega) (by omega)) dX5_goes_141 ?_
            refine lv_topi (fun v13 e13 => ?_)
            have b13 : 0 ≤ v13.toInt ∧ v13.toInt ≤ 60 := by rw [e13]; exact hI.1 28 0 x6_7.toNatClampNeg
            refine lv_iadd S.1 S.2.1 dX5_goes_142 ?_
            refine lv_topi (fun v14 e14 => ?_)
            have i14 : v14.toInt = v12.toInt + v13.toInt := i_add e14 (by omega) (by omega)
            refine lv_istore (lv' := [(7, .int v14), (0, .ref (L 0 0)), (1, .int m9), (2, .int a), (3, .int t), (4, .int b), (6, .int x6_7)]) S.1 S.2.1 dX5_goes_143 hl (by decide) rfl (fun ls hl => ?_)
            have ht9 : v14.toInt = t.toInt + (σ 27 0 (9 * a.toNatClampNeg + x6_7.toNatClampNeg)).toInt + (σ 28 0 x6_7.toNatClampNeg).toInt := by rw [i14, i12, e11, e13, hP 27 (by decide), hP 28 (by decide), ix9 i9 i10 (by omega) (by omega)]
            refine lv_aload_n S.1 S.2.1 dX5_goes_145 rfl (lv_at hl 1 rfl) ?_
            refine rM_0_32 S hnX5 K hH (mG wd_333) dX5_goes_146 ?_
            refine lv_iload S.1 S.2.1 dX5_goes_149 (lv_at hl 6 rfl) ?_
            refine lM_32 S K hH (vin (by omega) (by omega)) dX5_goes_151 ?_
            refine lv_topi (fun v15 e15 => ?_)
            have f151 : v15 = σ 32 0 x6_7.toNatClampNeg := by rw [e15, hP 32 (by decide)]
            refine lv_if_eq (tgt := 222) S.1 S.2.1 dX5_goes_152 (by decide) (fun c16 => ?_) (fun c16 => ?_)
            · have j16 := t_eq c16
              obtain ⟨v17, e17⟩ : ∃ y_9 : Int32, y_9 = x6_7 + 1 := ⟨_, rfl⟩
              have i17 : v17.toInt = x6_7.toInt + 1 := i_addc e17 (by decide) (by omega) (by omega)
              refine lv_iinc (v := v17) (lv' := [(6, .int v17), (7, .int v14), (0, .ref (L 0 0)), (1, .int m9), (2, .int a), (3, .int t), (4, .int b)]) S.1 S.2.1 dX5_goes_222 hl (k := 6) rfl (by rw [e17]; rfl) (by decide) rfl (fun ls hl => ?_)
              refine lv_goto (tgt := 114) S.1 S.2.1 dX5_goes_225 (by decide) ?_
              exact ih7 v17 σ_7 _ _ ls (by omega) (by omega) (by first | exact hbe9 | exact hbe) (by first | exact hrk9 | exact hrk) (by first | exact gWent hgw (by omega) i17 | exact gSkip hIv hp5 (fun v hv => hP v (fun z => by revert hv z; revert v; decide)) hrr (by omega) (by omega) i17 (Or.inl (f151.symm.trans (by assumption))) | exact gSkip hIv hp5 (fun v hv => hP v (fun z => by revert hv z; revert v; decide)) hrr (by omega) (by omega) i17 (Or.inr (Or.inl (fun z => absurd (f161.trans z) (by assumption)))) | exact gSkip hIv hp5 (fun v hv => hP v (fun z => by revert hv z; revert v; decide)) hrr (by omega) (by omega) i17 (Or.inr (Or.inr (by rw [← ht9]; omega)))) hI hP hH hS (lv_sub hl [2, 3, 4, 5, 6, 0] rfl)
            · have j16 := t_neq c16
              refine lv_aload_n S.1 S.2.1 dX5_goes_155 rfl (lv_at hl 1 rfl) ?_
              refine rM_0_33 S hnX5 K hH (mG wd_334) dX5_goes_156 ?_
              refine lv_iload S.1 S.2.1 dX5_goes_159 (lv_at hl 6 rfl) ?_
              refine lM_33 S K hH (vin (by omega) (by omega)) dX5_goes_161 ?_
              refine lv_topi (fun v18 e18 => ?_)
              have f161 : v18 = σ 33 0 x6_7.toNatClampNeg := by rw [e18, hbe]
              refine lv_if_ne (tgt := 222) S.1 S.2.1 dX5_goes_162 (by decide) (fun c19 => ?_) (fun c19 => ?_)
              · have j19 := t_neq c19
                obtain ⟨v20, e20⟩ : ∃ y_9 : Int32, y_9 = x6_7 + 1 := ⟨_, rfl⟩
                have i20 : v20.toInt = x6_7.toInt + 1 := i_addc e20 (by decide) (by omega) (by omega)
                refine lv_iinc (v := v20) (lv' := [(6, .int v20), (7, .int v14), (0, .ref (L 0 0)), (1, .int m9), (2, .int a), (3, .int t), (4, .int b)]) S.1 S.2.1 dX5_goes_222 hl (k := 6) rfl (by rw [e20]; rfl) (by decide) rfl (fun ls hl => ?_)
                refine lv_goto (tgt := 114) S.1 S.2.1 dX5_goes_225 (by decide) ?_
                exact ih7 v20 σ_7 _ _ ls (by omega) (by omega) (by first | exact hbe9 | exact hbe) (by first | exact hrk9 | exact hrk) (by first | exact gWent hgw (by omega) i20 | exact gSkip hIv hp5 (fun v hv => hP v (fun z => by revert hv z; revert v; decide)) hrr (by omega) (by omega) i20 (Or.inl (f151.symm.trans (by assumption))) | exact gSkip hIv hp5 (fun v hv => hP v (fun z => by revert hv z; revert v; decide)) hrr (by omega) (by omega) i20 (Or.inr (Or.inl (fun z => absurd (f161.trans z) (by assumption)))) | exact gSkip hIv hp5 (fun v hv => hP v (fun z => by revert hv z; revert v; decide)) hrr (by omega) (by omega) i20 (Or.inr (Or.inr (by rw [← ht9]; omega)))) hI hP hH hS (lv_sub hl [2, 3, 4, 5, 6, 0] rfl)
              · have j19 := t_eq c19
                refine lv_iload S.1 S.2.1 dX5_goes_165 (lv_at hl 0 rfl) ?_
                refine lv_aload_n S.1 S.2.1 dX5_goes_167 rfl (lv_at hl 1 rfl) ?_
                refine rM_0_37 S hnX5 K hH (mG wd_379) dX5_goes_168 ?_
                refine lv_topi (fun v21 e21 => ?_)
                have b21 : 0 ≤ v21.toInt ∧ v21.toInt ≤ 500 := by rw [e21]; exact hI.1 37 0 0
                have f168 : v21.toInt = (σ 37 0 0).toInt := by rw [e21, hP 37 (by decide)]
                refine lv_icmp_le (tgt := 177) S.1 S.2.1 dX5_goes_171 (by decide) (fun c22 => ?_) (fun c22 => ?_)
                · have j22 := t_le c22
                  refine lv_aload_n S.1 S.2.1 dX5_goes_177 rfl (lv_at hl 1 rfl) ?_
                  refine rM_0_33 S hnX5 K hH (mG wd_334) dX5_goes_178 ?_
                  refine lv_iload S.1 S.2.1 dX5_goes_181 (lv_at hl 6 rfl) ?_
                  refine lv_iconst (v := 1) S.1 S.2.1 dX5_goes_183 (by decide) ?_
                  refine sM_33 S K hH hS (vin (by omega) (by omega)) dX5_goes_184 (fun H locs hH hS => ?_)
                  obtain ⟨σ23, eσ23⟩ : ∃ z_9 : QS, z_9 = rs σ_7 33 0 (upd (σ_7 33 0) x6_7.toNatClampNeg (vp_nar .boolean 1)) := ⟨_, rfl⟩
                  rw [← eσ23] at hH
                  have hI := InvM_a eσ23 hI (by decide) (any32 _)
                  have hP := Keep_w eσ23 hP (by decide)
                  refine lv_aload_n S.1 S.2.1 dX5_goes_185 rfl (lv_at hl 1 rfl) ?_
                  refine rM_0_30 S hnX5 K hH (mG wd_331) dX5_goes_186 ?_
                  refine lv_iload_n S.1 S.2.1 dX5_goes_189 rfl (lv_at hl 2 rfl) ?_
                  refine lv_iload S.1 S.2.1 dX5_goes_190 (lv_at hl 6 rfl) ?_
                  refine sM_30 S K hH hS (vin (by omega) (by omega)) dX5_goes_192 (fun H locs hH hS => ?_)
                  obtain ⟨σ24, eσ24⟩ : ∃ z_9 : QS, z_9 = rs σ23 30 0 (upd (σ23 30 0) m9.toNatClampNeg x6_7) := ⟨_, rfl⟩
                  rw [← eσ24] at hH
                  have hI := InvM_a eσ24 hI (by decide) (any32 _)
                  have hP := Keep_w eσ24 hP (by decide)
                  refine lv_aload_n S.1 S.2.1 dX5_goes_193 rfl (lv_at hl 1 rfl) ?_
                  refine lv_iload_n S.1 S.2.1 dX5_goes_194 rfl (lv_at hl 2 rfl) ?_
                  refine lv_iconst (v := 1) S.1 S.2.1 dX5_goes_195 (by decide) ?_
                  refine lv_iadd S.1 S.2.1 dX5_goes_196 ?_
                  refine lv_topi (fun v25 e25 => ?_)
                  have i25 : v25.toInt = m9.toInt + (1 : Int32).toInt := i_add e25 (by omega) (by omega)
                  refine lv_iload S.1 S.2.1 dX5_goes_197 (lv_at hl 6 rfl) ?_
                  refine lv_iload S.1 S.2.1 dX5_goes_199 (lv_at hl 0 rfl) ?_
                  refine lv_iload S.1 S.2.1 dX5_goes_201 (lv_at hl 5 rfl) ?_
                  refine lv_aload_n S.1 S.2.1 dX5_goes_203 rfl (lv_at hl 1 rfl) ?_
                  refine rM_0_29 S hnX5 K hH (mG wd_330) dX5_goes_204 ?_
                  refine lv_iload S.1 S.2.1 dX5_goes_207 (lv_at hl 6 rfl) ?_
                  refine lM_29 S K hH (vin (by omega) (by omega)) dX5_goes_209 ?_
                  refine lv_topi (fun v26 e26 => ?_)
                  have b26 : 0 ≤ v26.toInt ∧ v26.toInt ≤ 100 := by rw [e26]; exact hI.1 29 0 x6_7.toNatClampNeg
                  have f209 : v26.toInt = (σ 29 0 x6_7.toNatClampNeg).toInt := by rw [e26, hP 29 (by decide)]
                  refine lv_iadd S.1 S.2.1 dX5_goes_210 ?_
                  refine lv_topi (fun v27 e27 => ?_)
                  have i27 : v27.toInt = b.toInt + v26.toInt := i_add e27 (by omega) (by omega)
                  have hgd9 : gP σ24 (pz ++ [x6_7.toNatClampNeg]) v25 x6_7 v14 v27 := gDown hp5 (fun v hv => hP v (fun z => by revert hv z; revert v; decide)) (by omega) (by omega) (fun z => absurd (f151.trans z) (by assumption)) (f161.symm.trans (by assumption)) (by omega) ht9 (by rw [i27, f209]) (fun c => by rw [eσ24, rs_v (by decide), eσ23, rs_self, hbe]; rfl) (fun k h9 => by rw [eσ24, rs_self, eσ23, rs_v (by decide)]; unfold upd; have h8 := cl_eq (j := m9) (by omega); by_cases hq : k = m9.toNatClampNeg; rw [if_pos hq, if_pos (by omega)]; rw [if_neg hq, if_neg (by omega)]; exact hrk k (by omega))
                  have hgr9 : gR σ24 (fun q => ezLt q (pz ++ [x6_7.toNatClampNeg])) := gR_of hrr (fun v hv => by rw [eσ24, rs_v (by intro z; subst z; revert hv; decide), eσ23, rs_v (by intro z; subst z; revert hv; decide)])
                  have hlen9 : 0 ≤ v25.toInt ∧ v25.toInt ≤ 8 := by have h9 := isP_len _ hgd9.1.1 (fun s hs => ⟨(hgd9.1.2 s hs).1, (hgd9.1.2 s hs).2.1⟩) 8 (fun s hs => (hgd9.1.2 s hs).2.1); have h8 := hgd9.2.1; omega
                  refine cW_bv (cW_V (n := 4) (As := [.int v25, .int x6_7, .int v14, .int v27]) (rest := []) (k := 0) (i := 0) S K hH (by decide) rfl rfl (IH σ24 τ v25 x6_7 v14 v27 (pz ++ [x6_7.toNatClampNeg]) (hlen9) (by omega) (by omega) (by omega) hI (hgd9) (hgr9) (by omega) (by omega)) gX5_goes_X5_goes rfl hdV_X5_goes ⟨Nat.le_refl _, Nat.le_refl _⟩ rfl hl.1 (Nat.le_of_ble_eq_true rfl) dX5_goes_211) hS (fun σ28 τ28 H locs q28 hH hS => ?_)
                  obtain ⟨hI, hP28, hτ28, q28⟩ := q28
                  rw [hτ28] at hH
                  have hP := Keep_t hP hP28 (by decide)
                  refine lv_aload_n S.1 S.2.1 dX5_goes_214 rfl (lv_at hl 1 rfl) ?_
                  refine rM_0_33 S hnX5 K hH (mG wd_334) dX5_goes_215 ?_
                  refine lv_iload S.1 S.2.1 dX5_goes_218 (lv_at hl 6 rfl) ?_
                  refine lv_iconst (v := 0) S.1 S.2.1 dX5_goes_220 (by decide) ?_
                  refine sM_33 S K hH hS (vin (by omega) (by omega)) dX5_goes_221 (fun H locs hH hS => ?_)
                  obtain ⟨σ29, eσ29⟩ : ∃ z_9 : QS, z_9 = rs σ28 33 0 (upd (σ28 33 0) x6_7.toNatClampNeg (vp_nar .boolean 0)) := ⟨_, rfl⟩
                  rw [← eσ29] at hH
                  have hI := InvM_a eσ29 hI (by decide) (any32 _)
                  have hP := Keep_w eσ29 hP (by decide)
                  have hbe9 : σ29 33 = σ 33 := (been_back eσ23 (σ2 := σ24) (by rw [eσ24, rs_v (by decide)]) (q28).1 eσ29 e18 (by omega)).trans hbe
                  have hrk9 : ∀ k : Nat, (k : Int) < m9.toInt → σ29 30 0 k = σ 30 0 k := fun k h9 => by rw [eσ29, rs_v (by decide), (q28).2.1 k (by omega), eσ24, rs_self, eσ23, rs_v (by decide)]; unfold upd; have h8 := cl_eq (j := m9) (by omega); rw [if_neg (by omega)]; exact hrk k h9
                  have hgw : gR σ29 (fun q => ezLt q ((pz ++ [x6_7.toNatClampNeg]) ++ [9])) := gR_of (q28).2.2 (fun v hv => by rw [eσ29, rs_v (by intro z; subst z; revert hv; decide)])
                  obtain ⟨v30, e30⟩ : ∃ y_9 : Int32, y_9 = x6_7 + 1 := ⟨_, rfl⟩
                  have i30 : v30.toInt = x6_7.toInt + 1 := i_addc e30 (by decide) (by omega) (by omega)
                  refine lv_iinc (v := v30) (lv' := [(6, .int v30), (7, .int v14), (0, .ref (L 0 0)), (1, .int m9), (2, .int a), (3, .int t), (4, .int b)]) S.1 S.2.1 dX5_goes_222 hl (k := 6) rfl (by rw [e30]; rfl) (by decide) rfl (fun ls hl => ?_)
                  refine lv_goto (tgt := 114) S.1 S.2.1 dX5_goes_225 (by decide) ?_
                  exact ih7 v30 σ29 _ _ ls (by omega) (by omega) (by first | exact hbe9 | exact hbe) (by first | exact hrk9 | exact hrk) (by first | exact gWent hgw (by omega) i30 | exact gSkip hIv hp5 (fun v hv => hP v (fun z => by revert hv z; revert v; decide)) hrr (by omega) (by omega) i30 (Or.inl (f151.symm.trans (by assumption))) | exact gSkip hIv hp5 (fun v hv => hP v (fun z => by revert hv z; revert v; decide)) hrr (by omega) (by omega) i30 (Or.inr (Or.inl (fun z => absurd (f161.trans z) (by assumption)))) | exact gSkip hIv hp5 (fun v hv => hP v (fun z => by revert hv z; revert v; decide)) hrr (by omega) (by omega) i30 (Or.inr (Or.inr (by rw [← ht9]; omega)))) hI hP hH hS (lv_sub hl [2, 3, 4, 5, 6, 0] rfl)
                · have j22 := t_nle c22
                  refine lv_goto (tgt := 222) S.1 S.2.1 dX5_goes_174 (by decide) ?_
                  obtain ⟨v31, e31⟩ : ∃ y_9 : Int32, y_9 = x6_7 + 1 := ⟨_, rfl⟩
                  have i31 : v31.toInt = x6_7.toInt + 1 := i_addc e31 (by decide) (by omega) (by omega)
                  refine lv_iinc (v := v31) (lv' := [(6, .int v31), (7, .int v14), (0, .ref (L 0 0)), (1, .int m9), (2, .int a), (3, .int t), (4, .int b)]) S.1 S.2.1 dX5_goes_222 hl (k := 6) rfl (by rw [e31]; rfl) (by decide) rfl (fun ls hl => ?_)
                  refine lv_goto (tgt := 114) S.1 S.2.1 dX5_goes_225 (by decide) ?_
                  exact ih7 v31 σ_7 _ _ ls (by omega) (by omega) (by first | exact hbe9 | exact hbe) (by first | exact hrk9 | exact hrk) (by first | exact gWent hgw (by omega) i31 | exact gSkip hIv hp5 (fun v hv => hP v (fun z => by revert hv z; revert v; decide)) hrr (by omega) (by omega) i31 (Or.inl (f151.symm.trans (by assumption))) | exact gSkip hIv hp5 (fun v hv => hP v (fun z => by revert hv z; revert v; decide)) hrr (by omega) (by omega) i31 (Or.inr (Or.inl (fun z => absurd (f161.trans z) (by assumption)))) | exact gSkip hIv hp5 (fun v hv => hP v (fun z => by revert hv z; revert v; decide)) hrr (by omega) (by omega) i31 (Or.inr (Or.inr (by rw [← ht9]; omega)))) hI hP hH hS (lv_sub hl [2, 3, 4, 5, 6, 0] rfl)
      exact cut_114_7 _ 1 σ _ _ ls (Nat.lt_succ_self _) (by omega) (by first | rfl | exact hbe) (by first | (intro k h9; rfl) | (intro k h9; rw [hrw])) (by rw [show (1 : Int32).toNatClampNeg = 1 by decide]; first | exact gOld hp5 hp6 (by omega) | exact gNew hp5 hp6 (fun v hv => hP v (fun z => by revert hv z; revert v; decide)) (by omega) (by omega) h3v.1 h3v.2.1 h3v.2.2 (fun k h9 => hcp k (by omega))) hI hP hH hS (lv_sub hl [2, 3, 4, 5, 6, 0] rfl)
    · have j6 := t_nlt c6
      refine lv_aload_n S.1 S.2.1 dX5_goes_30 rfl (lv_at hl 1 rfl) ?_
      refine rM_0_34 S hnX5 K hH (mG wd_380) dX5_goes_31 ?_
      refine lv_topi (fun v32 e32 => ?_)
      have b32 : (-1) ≤ v32.toInt ∧ v32.toInt ≤ 8 := by rw [e32]; exact hI.1 34 0 0
      have f31 : v32.toInt = (σ 34 0 0).toInt := by rw [e32]
      refine lv_iconst (v := (-1)) S.1 S.2.1 dX5_goes_34 (by decide) ?_
      refine lv_icmp_eq (tgt := 65) S.1 S.2.1 dX5_goes_35 (by decide) (fun c33 => ?_) (fun c33 => ?_)
      · have j33 := t_eq c33
        refine lv_aload_n S.1 S.2.1 dX5_goes_65 rfl (lv_at hl 1 rfl) ?_
        refine lv_iload_n S.1 S.2.1 dX5_goes_66 rfl (lv_at hl 2 rfl) ?_
        refine pM_0_34 S hnX5 K hH hS (mG wd_380) dX5_goes_67 (fun H locs hH hS => ?_)
        obtain ⟨σ34, eσ34⟩ : ∃ z_9 : QS, z_9 = rs σ 34 0 (fun _ => m9) := ⟨_, rfl⟩
        rw [← eσ34] at hH
        have hI := InvM_f eσ34 hI (by decide) (show ((-1) : Int) ≤ m9.toInt ∧ m9.toInt ≤ 8 by omega)
        have hP := Keep_w eσ34 hP (by decide)
        refine lv_aload_n S.1 S.2.1 dX5_goes_70 rfl (lv_at hl 1 rfl) ?_
        refine lv_iload S.1 S.2.1 dX5_goes_71 (lv_at hl 5 rfl) ?_
        refine pM_0_35 S hnX5 K hH hS (mG wd_381) dX5_goes_73 (fun H locs hH hS => ?_)
        obtain ⟨σ35, eσ35⟩ : ∃ z_9 : QS, z_9 = rs σ34 35 0 (fun _ => b) := ⟨_, rfl⟩
        rw [← eσ35] at hH
        have hI := InvM_f eσ35 hI (by decide) (any32 _)
        have hP := Keep_w eσ35 hP (by decide)
        refine lv_aload_n S.1 S.2.1 dX5_goes_76 rfl (lv_at hl 1 rfl) ?_
        refine lv_iload S.1 S.2.1 dX5_goes_77 (lv_at hl 0 rfl) ?_
        refine pM_0_36 S hnX5 K hH hS (mG wd_382) dX5_goes_79 (fun H locs hH hS => ?_)
        obtain ⟨σ36, eσ36⟩ : ∃ z_9 : QS, z_9 = rs σ35 36 0 (fun _ => v4) := ⟨_, rfl⟩
        rw [← eσ36] at hH
        have hI := InvM_f eσ36 hI (by decide) (any32 _)
        have hP := Keep_w eσ36 hP (by decide)
        refine lv_iconst (v := 0) S.1 S.2.1 dX5_goes_82 (by decide) ?_
        refine lv_istore (lv' := [(6, .int 0), (5, .int v4), (0, .ref (L 0 0)), (1, .int m9), (2, .int a), (3, .int t), (4, .int b)]) S.1 S.2.1 dX5_goes_83 hl (by decide) rfl (fun ls hl => ?_)
        have cut_85_37 : ∀ (n : Nat) (x6_37 : Int32) (σ_37 : QS) (H : Heap) (locs : List Loc) (ls : Array Slot), (8 - x6_37.toInt).toNat < n → 0 ≤ x6_37.toInt ∧ x6_37.toInt ≤ 8 → (σ_37 33 = σ 33) → (σ_37 30 = σ 30) → ((σ_37 34 0 0).toInt = m9.toInt ∧ (σ_37 35 0 0).toInt = b.toInt ∧ (σ_37 36 0 0).toInt = ezTot (wkC (σ 27 0)) (mnC (σ 28 0)) pz) → (∀ k : Nat, (k : Int) < x6_37.toInt → σ_37 31 0 k = σ 30 0 k) → InvM σ_37 → Keep [34, 35, 36, 31, 30, 33] σ σ_37 → hW cntM gM D B L σ_37 τ H → va_S A s.heap H locs → lv_has ls 8 [(0, .ref (L 0 0)), (1, .int m9), (2, .int a), (3, .int t), (4, .int b), (6, .int x6_37)] → W p l e { frames := fr + 1, cells := 0, slots := 0, locals := 8 + (8 + 11) + lo } s m [.ref (L 0 0), .int m9, .int a, .int t, .int b].toArray below meth c H locs 0 0 (MQ below (QcW cntM gM D B L A (pV (fun σ' τ' => InvM σ' ∧ Keep [34, 35, 36, 31, 30, 33] σ σ' ∧ τ' = τ ∧ (σ' 33 = σ 33 ∧ (∀ k : Nat, (k : Int) < m9.toInt → σ' 30 0 k = σ 30 0 k) ∧ gR σ' (fun q => ezLt q (pz ++ [9])))))) [.ref (L 0 0), .int m9, .int a, .int t, .int b].toArray s 0 0 A) (F0 m 85 ls []) := by
          intro n
          induction n with
          | zero => intro x6_37 σ_37 H locs ls hm; exact absurd hm (Nat.not_lt_zero _)
          | succ n ih37 =>
            intro x6_37 σ_37 H locs ls hm37 h37_0 hbe hrw h3v hcp hI hP hH hS hl
            refine lv_iload S.1 S.2.1 dX5_goes_85 (lv_at hl 5 rfl) ?_
            refine lv_iload_n S.1 S.2.1 dX5_goes_87 rfl (lv_at hl 1 rfl) ?_
            refine lv_icmp_ge (tgt := 111) S.1 S.2.1 dX5_goes_88 (by decide) (fun c38 => ?_) (fun c38 => ?_)
            · have j38 := t_le c38
              refine lv_iconst (v := 1) S.1 S.2.1 dX5_goes_111 (by decide) ?_
              refine lv_istore (lv' := [(6, .int 1), (0, .ref (L 0 0)), (1, .int m9), (2, .int a), (3, .int t), (4, .int b)]) S.1 S.2.1 dX5_goes_112 hl (by decide) rfl (fun ls hl => ?_)
              have cut_114_39 : ∀ (n : Nat) (x6_39 : Int32) (σ_39 : QS) (H : Heap) (locs : List Loc) (ls : Array Slot), (9 - x6_39.toInt).toNat < n → 1 ≤ x6_39.toInt ∧ x6_39.toInt ≤ 9 → (σ_39 33 = σ 33) → (∀ k : Nat, (k : Int) < m9.toInt → σ_39 30 0 k = σ 30 0 k) → (gR σ_39 (fun q => ezLt q (pz ++ [x6_39.toNatClampNeg]))) → InvM σ_39 → Keep [34, 35, 36, 31, 30, 33] σ σ_39 → hW cntM gM D B L σ_39 τ H → va_S A s.heap H locs → lv_has ls 8 [(0, .ref (L 0 0)), (1, .int m9), (2, .int a), (3, .int t), (4, .int b), (6, .int x6_39)] → W p l e { frames := fr + 1, cells := 0, slots := 0, locals := 8 + (8 + 11) + lo } s m [.ref (L 0 0), .int m9, .int a, .int t, .int b].toArray below meth c H locs 0 0 (MQ below (QcW cntM gM D B L A (pV (fun σ' τ' => InvM σ' ∧ Keep [34, 35, 36, 31, 30, 33] σ σ' ∧ τ' = τ ∧ (σ' 33 = σ 33 ∧ (∀ k : Nat, (k : Int) < m9.toInt → σ' 30 0 k = σ 30 0 k) ∧ gR σ' (fun q => ezLt q (pz ++ [9])))))) [.ref (L 0 0), .int m9, .int a, .int t, .int b].toArray s 0 0 A) (F0 m 114 ls []) := by
                intro n
                induction n with
                | zero => intro x6_39 σ_39 H locs ls hm; exact absurd hm (Nat.not_lt_zero _)
                | succ n ih39 =>
                  intro x6_39 σ_39 H locs ls hm39 h39_0 hbe hrk hrr hI hP hH hS hl
                  refine lv_iload S.1 S.2.1 dX5_goes_114 (lv_at hl 5 rfl) ?_
                  refine lv_bipush (v := 9) S.1 S.2.1 dX5_goes_116 (by decide) ?_
                  refine lv_icmp_ge (tgt := 228) S.1 S.2.1 dX5_goes_118 (by decide) (fun c40 => ?_) (fun c40 => ?_)
                  · have j40 := t_le c40
                    refine cW_vret S hr hk hH hS ?_ dX5_goes_228
                    exact ⟨rfl, hI, hP, rfl, by refine ⟨hbe, hrk, ?_⟩; have h9 : x6_39.toNatClampNeg = 9 := (by have h8 := cl_eq (j := x6_39) (by omega); omega); rw [h9] at hrr; exact hrr⟩
                  · have j40 := t_nle c40
                    refine lv_iload_n S.1 S.2.1 dX5_goes_121 rfl (lv_at hl 3 rfl) ?_
                    refine lv_aload_n S.1 S.2.1 dX5_goes_122 rfl (lv_at hl 0 rfl) ?_
                    refine rM_0_27 S hnX5 K hH (mG wd_328) dX5_goes_123 ?_
                    refine lv_bipush (v := 9) S.1 S.2.1 dX5_goes_126 (by decide) ?_
                    refine lv_iload_n S.1 S.2.1 dX5_goes_128 rfl (lv_at hl 2 rfl) ?_
                    refine lv_imul S.1 S.2.1 dX5_goes_129 ?_
                    refine lv_topi (fun v41 e41 => ?_)
                    have i41 : v41.toInt = 9 * a.toInt := i_mulcl e41 (by decide) (by omega) (by omega)
                    refine lv_iload S.1 S.2.1 dX5_goes_130 (lv_at hl 5 rfl) ?_
                    refine lv_iadd S.1 S.2.1 dX5_goes_132 ?_
                    refine lv_topi (fun v42 e42 => ?_)
                    have i42 : v42.toInt = v41.toInt + x6_39.toInt := i_add e42 (by omega) (by omega)
                    refine lM_27 S K hH (vin (by omega) (by omega)) dX5_goes_133 ?_
                    refine lv_topi (fun v43 e43 => ?_)
                    have b43 : 0 ≤ v43.toInt ∧ v43.toInt ≤ 60 := by rw [e43]; exact hI.1 27 0 v42.toNatClampNeg
                    refine lv_iadd S.1 S.2.1 dX5_goes_134 ?_
                    refine lv_topi (fun v44 e44 => ?_)
                    have i44 : v44.toInt = t.toInt + v43.toInt := i_add e44 (by omega) (by omega)
                    refine lv_aload_n S.1 S.2.1 dX5_goes_135 rfl (lv_at hl 0 rfl) ?_
                    refine rM_0_28 S hnX5 K hH (mG wd_329) dX5_goes_136 ?_
                    refine lv_iload S.1 S.2.1 dX5_goes_139 (lv_at hl 5 rfl) ?_
                    refine lM_28 S K hH (vin (by omega) (by omega)) dX5_goes_141 ?_
                    refine lv_topi (fun v45 e45 => ?_)
                    have b45 : 0 ≤ v45.toInt ∧ v45.toInt ≤ 60 := by rw [e45]; exact hI.1 28 0 x6_39.toNatClampNeg
                    refine lv_iadd S.1 S.2.1 dX5_goes_142 ?_
                    refine lv_topi (fun v46 e46 => ?_)
                    have i46 : v46.toInt = v44.toInt + v45.toInt := i_add e46 (by omega) (by omega)
                    refine lv_istore (lv' := [(7, .int v46), (0, .ref (L 0 0)), (1, .int m9), (2, .int a), (3, .int t), (4, .int b), (6, .int x6_39)]) S.1 S.2.1 dX5_goes_143 hl (by decide) rfl (fun ls hl => ?_)
                    have ht9 : v46.toInt = t.toInt + (σ 27 0 (9 * a.toNatClampNeg + x6_39.toNatClampNeg)).toInt + (σ 28 0 x6_39.toNatClampNeg).toInt := by rw [i46, i44, e43, e45, hP 27 (by decide), hP 28 (by decide), ix9 i41 i42 (by omega) (by omega)]
                    refine lv_aload_n S.1 S.2.1 dX5_goes_145 rfl (lv_at hl 1 rfl) ?_
                    refine rM_0_32 S hnX5 K hH (mG wd_333) dX5_goes_146 ?_
                    refine lv_iload S.1 S.2.1 dX5_goes_149 (lv_at hl 6 rfl) ?_
                    refine lM_32 S K hH (vin (by omega) (by omega)) dX5_goes_151 ?_
                    refine lv_topi (fun v47 e47 => ?_)
                    have f151 : v47 = σ 32 0 x6_39.toNatClampNeg := by rw [e47, hP 32 (by decide)]
                    refine lv_if_eq (tgt := 222) S.1 S.2.1 dX5_goes_152 (by decide) (fun c48 => ?_) (fun c48 => ?_)
                    · have j48 := t_eq c48
                      obtain ⟨v49, e49⟩ : ∃ y_9 : Int32, y_9 = x6_39 + 1 := ⟨_, rfl⟩
                      have i49 : v49.toInt = x6_39.toInt + 1 := i_addc e49 (by decide) (by omega) (by omega)
                      refine lv_iinc (v := v49) (lv' := [(6, .int v49), (7, .int v46), (0, .ref (L 0 0)), (1, .int m9), (2, .int a), (3, .int t), (4, .int b)]) S.1 S.2.1 dX5_goes_222 hl (k := 6) rfl (by rw [e49]; rfl) (by decide) rfl (fun ls hl => ?_)
                      refine lv_goto (tgt := 114) S.1 S.2.1 dX5_goes_225 (by decide) ?_
                      exact ih39 v49 σ_39 _ _ ls (by omega) (by omega) (by first | exact hbe9 | exact hbe) (by first | exact hrk9 | exact hrk) (by first | exact gWent hgw (by omega) i49 | exact gSkip hIv hp5 (fun v hv => hP v (fun z => by revert hv z; revert v; decide)) hrr (by omega) (by omega) i49 (Or.inl (f151.symm.trans (by assumption))) | exact gSkip hIv hp5 (fun v hv => hP v (fun z => by revert hv z; revert v; decide)) hrr (by omega) (by omega) i49 (Or.inr (Or.inl (fun z => absurd (f161.trans z) (by assumption)))) | exact gSkip hIv hp5 (fun v hv => hP v (fun z => by revert hv z; revert v; decide)) hrr (by omega) (by omega) i49 (Or.inr (Or.inr (by rw [← ht9]; omega)))) hI hP hH hS (lv_sub hl [2, 3, 4, 5, 6, 0] rfl)
                    · have j48 := t_neq c48
                      refine lv_aload_n S.1 S.2.1 dX5_goes_155 rfl (lv_at hl 1 rfl) ?_
                      refine rM_0_33 S hnX5 K hH (mG wd_334) dX5_goes_156 ?_
                      refine lv_iload S.1 S.2.1 dX5_goes_159 (lv_at hl 6 rfl) ?_
                      refine lM_33 S K hH (vin (by omega) (by omega)) dX5_goes_161 ?_
                      refine lv_topi (fun v50 e50 => ?_)
                      have f161 : v50 = σ 33 0 x6_39.toNatClampNeg := by rw [e50, hbe]
                      refine lv_if_ne (tgt := 222) S.1 S.2.1 dX5_goes_162 (by decide) (fun c51 => ?_) (fun c51 => ?_)
                      · have j51 := t_neq c51
                        obtain ⟨v52, e52⟩ : ∃ y_9 : Int32, y_9 = x6_39 + 1 := ⟨_, rfl⟩
                        have i52 : v52.toInt = x6_39.toInt + 1 := i_addc e52 (by decide) (by omega) (by omega)
                        refine lv_iinc (v := v52) (lv' := [(6, .int v52), (7, .int v46), (0, .ref (L 0 0)), (1, .int m9), (2, .int a), (3, .int t), (4, .int b)]) S.1 S.2.1 dX5_goes_222 hl (k := 6) rfl (by rw [e52]; rfl) (by decide) rfl (fun ls hl => ?_)
                        refine lv_goto (tgt := 114) S.1 S.2.1 dX5_goes_225 (by decide) ?_
                        exact ih39 v52 σ_39 _ _ ls (by omega) (by omega) (by first | exact hbe9 | exact hbe) (by first | exact hrk9 | exact hrk) (by first | exact gWent hgw (by omega) i52 | exact gSkip hIv hp5 (fun v hv => hP v (fun z => by revert hv z; revert v; decide)) hrr (by omega) (by omega) i52 (Or.inl (f151.symm.trans (by assumption))) | exact gSkip hIv hp5 (fun v hv => hP v (fun z => by revert hv z; revert v; decide)) hrr (by omega) (by omega) i52 (Or.inr (Or.inl (fun z => absurd (f161.trans z) (by assumption)))) | exact gSkip hIv hp5 (fun v hv => hP v (fun z => by revert hv z; revert v; decide)) hrr (by omega) (by omega) i52 (Or.inr (Or.inr (by rw [← ht9]; omega)))) hI hP hH hS (lv_sub hl [2, 3, 4, 5, 6, 0] rfl)
                      · have j51 := t_eq c51
                        refine lv_iload S.1 S.2.1 dX5_goes_165 (lv_at hl 0 rfl) ?_
                        refine lv_aload_n S.1 S.2.1 dX5_goes_167 rfl (lv_at hl 1 rfl) ?_
                        refine rM_0_37 S hnX5 K hH (mG wd_379) dX5_goes_168 ?_
                        refine lv_topi (fun v53 e53 => ?_)
                        have b53 : 0 ≤ v53.toInt ∧ v53.toInt ≤ 500 := by rw [e53]; exact hI.1 37 0 0
                        have f168 : v53.toInt = (σ 37 0 0).toInt := by rw [e53, hP 37 (by decide)]
                        refine lv_icmp_le (tgt := 177) S.1 S.2.1 dX5_goes_171 (by decide) (fun c54 => ?_) (fun c54 => ?_)
                        · have j54 := t_le c54
                          refine lv_aload_n S.1 S.2.1 dX5_goes_177 rfl (lv_at hl 1 rfl) ?_
                          refine rM_0_33 S hnX5 K hH (mG wd_334) dX5_goes_178 ?_
                          refine lv_iload S.1 S.2.1 dX5_goes_181 (lv_at hl 6 rfl) ?_
                          refine lv_iconst (v := 1) S.1 S.2.1 dX5_goes_183 (by decide) ?_
                          refine sM_33 S K hH hS (vin (by omega) (by omega)) dX5_goes_184 (fun H locs hH hS => ?_)
                          obtain ⟨σ55, eσ55⟩ : ∃ z_9 : QS, z_9 = rs σ_39 33 0 (upd (σ_39 33 0) x6_39.toNatClampNeg (vp_nar .boolean 1)) := ⟨_, rfl⟩
                          rw [← eσ55] at hH
                          have hI := InvM_a eσ55 hI (by decide) (any32 _)
                          have hP := Keep_w eσ55 hP (by decide)
                          refine lv_aload_n S.1 S.2.1 dX5_goes_185 rfl (lv_at hl 1 rfl) ?_
                          refine rM_0_30 S hnX5 K hH (mG wd_331) dX5_goes_186 ?_
                          refine lv_iload_n S.1 S.2.1 dX5_goes_189 rfl (lv_at hl 2 rfl) ?_
                          refine lv_iload S.1 S.2.1 dX5_goes_190 (lv_at hl 6 rfl) ?_
                          refine sM_30 S K hH hS (vin (by omega) (by omega)) dX5_goes_192 (fun H locs hH hS => ?_)
                          obtain ⟨σ56, eσ56⟩ : ∃ z_9 : QS, z_9 = rs σ55 30 0 (upd (σ55 30 0) m9.toNatClampNeg x6_39) := ⟨_, rfl⟩
                          rw [← eσ56] at hH
                          have hI := InvM_a eσ56 hI (by decide) (any32 _)
                          have hP := Keep_w eσ56 hP (by decide)
                          refine lv_aload_n S.1 S.2.1 dX5_goes_193 rfl (lv_at hl 1 rfl) ?_
                          refine lv_iload_n S.1 S.2.1 dX5_goes_194 rfl (lv_at hl 2 rfl) ?_
                          refine lv_iconst (v := 1) S.1 S.2.1 dX5_goes_195 (by decide) ?_
                          refine lv_iadd S.1 S.2.1 dX5_goes_196 ?_
                          refine lv_topi (fun v57 e57 => ?_)
                          have i57 : v57.toInt = m9.toInt + (1 : Int32).toInt := i_add e57 (by omega) (by omega)
                          refine lv_iload S.1 S.2.1 dX5_goes_197 (lv_at hl 6 rfl) ?_
                          refine lv_iload S.1 S.2.1 dX5_goes_199 (lv_at hl 0 rfl) ?_
                          refine lv_iload S.1 S.2.1 dX5_goes_201 (lv_at hl 5 rfl) ?_
                          refine lv_aload_n S.1 S.2.1 dX5_goes_203 rfl (lv_at hl 1 rfl) ?_
                          refine rM_0_29 S hnX5 K hH (mG wd_330) dX5_goes_204 ?_
                          refine lv_iload S.1 S.2.1 dX5_goes_207 (lv_at hl 6 rfl) ?_
                          refine lM_29 S K hH (vin (by omega) (by omega)) dX5_goes_209 ?_
                          refine lv_topi (fun v58 e58 => ?_)
                          have b58 : 0 ≤ v58.toInt ∧ v58.toInt ≤ 100 := by rw [e58]; exact hI.1 29 0 x6_39.toNatClampNeg
                          have f209 : v58.toInt = (σ 29 0 x6_39.toNatClampNeg).toInt := by rw [e58, hP 29 (by decide)]
                          refine lv_iadd S.1 S.2.1 dX5_goes_210 ?_
                          refine lv_topi (fun v59 e59 => ?_)
                          have i59 : v59.toInt = b.toInt + v58.toInt := i_add e59 (by omega) (by omega)
                          have hgd9 : gP σ56 (pz ++ [x6_39.toNatClampNeg]) v57 x6_39 v46 v59 := gDown hp5 (fun v hv => hP v (fun z => by revert hv z; revert v; decide)) (by omega) (by omega) (fun z => absurd (f151.trans z) (by assumption)) (f161.symm.trans (by assumption)) (by omega) ht9 (by rw [i59, f209]) (fun c => by rw [eσ56, rs_v (by decide), eσ55, rs_self, hbe]; rfl) (fun k h9 => by rw [eσ56, rs_self, eσ55, rs_v (by decide)]; unfold upd; have h8 := cl_eq (j := m9) (by omega); by_cases hq : k = m9.toNatClampNeg; rw [if_pos hq, if_pos (by omega)]; rw [if_neg hq, if_neg (by omega)]; exact hrk k (by omega))
                          have hgr9 : gR σ56 (fun q => ezLt q (pz ++ [x6_39.toNatClampNeg])) := gR_of hrr (fun v hv => by rw [eσ56, rs_v (by intro z; subst z; revert hv; decide), eσ55, rs_v (by intro z; subst z; revert hv; decide)])
                          have hlen9 : 0 ≤ v57.toInt ∧ v57.toInt ≤ 8 := by have h9 := isP_len _ hgd9.1.1 (fun s hs => ⟨(hgd9.1.2 s hs).1, (hgd9.1.2 s hs).2.1⟩) 8 (fun s hs => (hgd9.1.2 s hs).2.1); have h8 := hgd9.2.1; omega
                          refine cW_bv (cW_V (n := 4) (As := [.int v57, .int x6_39, .int v46, .int v59]) (rest := []) (k := 0) (i := 0) S K hH (by decide) rfl rfl (IH σ56 τ v57 x6_39 v46 v59 (pz ++ [x6_39.toNatClampNeg]) (hlen9) (by omega) (by omega) (by omega) hI (hgd9) (hgr9) (by omega) (by omega)) gX5_goes_X5_goes rfl hdV_X5_goes ⟨Nat.le_refl _, Nat.le_refl _⟩ rfl hl.1 (Nat.le_of_ble_eq_true rfl) dX5_goes_211) hS (fun σ60 τ60 H locs q60 hH hS => ?_)
                          obtain ⟨hI, hP60, hτ60, q60⟩ := q60
                          rw [hτ60] at hH
                          have hP := Keep_t hP hP60 (by decide)
                          refine lv_aload_n S.1 S.2.1 dX5_goes_214 rfl (lv_at hl 1 rfl) ?_
                          refine rM_0_33 S hnX5 K hH (mG wd_334) dX5_goes_215 ?_
                          refine lv_iload S.1 S.2.1 dX5_goes_218 (lv_at hl 6 rfl) ?_
                          refine lv_iconst (v := 0) S.1 S.2.1 dX5_goes_220 (by decide) ?_
                          refine sM_33 S K hH hS (vin (by omega) (by omega)) dX5_goes_221 (fun H locs hH hS => ?_)
                          obtain ⟨σ61, eσ61⟩ : ∃ z_9 : QS, z_9 = rs σ60 33 0 (upd (σ60 33 0) x6_39.toNatClampNeg (vp_nar .boolean 0)) := ⟨_, rfl⟩
                          rw [← eσ61] at hH
                          have hI := InvM_a eσ61 hI (by decide) (any32 _)
                          have hP := Keep_w eσ61 hP (by decide)
                          have hbe9 : σ61 33 = σ 33 := (been_back eσ55 (σ2 := σ56) (by rw [eσ56, rs_v (by decide)]) (q60).1 eσ61 e50 (by omega)).trans hbe
                          have hrk9 : ∀ k : Nat, (k : Int) < m9.toInt → σ61 30 0 k = σ 30 0 k := fun k h9 => by rw [eσ61, rs_v (by decide), (q60).2.1 k (by omega), eσ56, rs_self, eσ55, rs_v (by decide)]; unfold upd; have h8 := cl_eq (j := m9) (by omega); rw [if_neg (by omega)]; exact hrk k h9
                          have hgw : gR σ61 (fun q => ezLt q ((pz ++ [x6_39.toNatClampNeg]) ++ [9])) := gR_of (q60).2.2 (fun v hv => by rw [eσ61, rs_v (by intro z; subst z; revert hv; decide)])
                          obtain ⟨v62, e62⟩ : ∃ y_9 : Int32, y_9 = x6_39 + 1 := ⟨_, rfl⟩
                          have i62 : v62.toInt = x6_39.toInt + 1 := i_addc e62 (by decide) (by omega) (by omega)
                          refine lv_iinc (v := v62) (lv' := [(6, .int v62), (7, .int v46), (0, .ref (L 0 0)), (1, .int m9), (2, .int a), (3, .int t), (4, .int b)]) S.1 S.2.1 dX5_goes_222 hl (k := 6) rfl (by rw [e62]; rfl) (by decide) rfl (fun ls hl => ?_)
                          refine lv_goto (tgt := 114) S.1 S.2.1 dX5_goes_225 (by decide) ?_
                          exact ih39 v62 σ61 _ _ ls (by omega) (by omega) (by first | exact hbe9 | exact hbe) (by first | exact hrk9 | exact hrk) (by first | exact gWent hgw (by omega) i62 | exact gSkip hIv hp5 (fun v hv => hP v (fun z => by revert hv z; revert v; decide)) hrr (by omega) (by omega) i62 (Or.inl (f151.symm.trans (by assumption))) | exact gSkip hIv hp5 (fun v hv => hP v (fun z => by revert hv z; revert v; decide)) hrr (by omega) (by omega) i62 (Or.inr (Or.inl (fun z => absurd (f161.trans z) (by assumption)))) | exact gSkip hIv hp5 (fun v hv => hP v (fun z => by revert hv z; revert v; decide)) hrr (by omega) (by omega) i62 (Or.inr (Or.inr (by rw [← ht9]; omega)))) hI hP hH hS (lv_sub hl [2, 3, 4, 5, 6, 0] rfl)
                        · have j54 := t_nle c54
                          refine lv_goto (tgt := 222) S.1 S.2.1 dX5_goes_174 (by decide) ?_
                          obtain ⟨v63, e63⟩ : ∃ y_9 : Int32, y_9 = x6_39 + 1 := ⟨_, rfl⟩
                          have i63 : v63.toInt = x6_39.toInt + 1 := i_addc e63 (by decide) (by omega) (by omega)
                          refine lv_iinc (v := v63) (lv' := [(6, .int v63), (7, .int v46), (0, .ref (L 0 0)), (1, .int m9), (2, .int a), (3, .int t), (4, .int b)]) S.1 S.2.1 dX5_goes_222 hl (k := 6) rfl (by rw [e63]; rfl) (by decide) rfl (fun ls hl => ?_)
                          refine lv_goto (tgt := 114) S.1 S.2.1 dX5_goes_225 (by decide) ?_
                          exact ih39 v63 σ_39 _ _ ls (by omega) (by omega) (by first | exact hbe9 | exact hbe) (by first | exact hrk9 | exact hrk) (by first | exact gWent hgw (by omega) i63 | exact gSkip hIv hp5 (fun v hv => hP v (fun z => by revert hv z; revert v; decide)) hrr (by omega) (by omega) i63 (Or.inl (f151.symm.trans (by assumption))) | exact gSkip hIv hp5 (fun v hv => hP v (fun z => by revert hv z; revert v; decide)) hrr (by omega) (by omega) i63 (Or.inr (Or.inl (fun z => absurd (f161.trans z) (by assumption)))) | exact gSkip hIv hp5 (fun v hv => hP v (fun z => by revert hv z; revert v; decide)) hrr (by omega) (by omega) i63 (Or.inr (Or.inr (by rw [← ht9]; omega)))) hI hP hH hS (lv_sub hl [2, 3, 4, 5, 6, 0] rfl)
              exact cut_114_39 _ 1 σ_37 _ _ ls (Nat.lt_succ_self _) (by omega) (by first | rfl | exact hbe) (by first | (intro k h9; rfl) | (intro k h9; rw [hrw])) (by rw [show (1 : Int32).toNatClampNeg = 1 by decide]; first | exact gOld hp5 hp6 (by omega) | exact gNew hp5 hp6 (fun v hv => hP v (fun z => by revert hv z; revert v; decide)) (by omega) (by omega) h3v.1 h3v.2.1 h3v.2.2 (fun k h9 => hcp k (by omega))) hI hP hH hS (lv_sub hl [1, 2, 3, 4, 5, 0] rfl)
            · have j38 := t_nle c38
              refine lv_aload_n S.1 S.2.1 dX5_goes_91 rfl (lv_at hl 0 rfl) ?_
              refine rM_0_31 S hnX5 K hH (mG wd_332) dX5_goes_92 ?_
              refine lv_iload S.1 S.2.1 dX5_goes_95 (lv_at hl 5 rfl) ?_
              refine lv_aload_n S.1 S.2.1 dX5_goes_97 rfl (lv_at hl 0 rfl) ?_
              refine rM_0_30 S hnX5 K hH (mG wd_331) dX5_goes_98 ?_
              refine lv_iload S.1 S.2.1 dX5_goes_101 (lv_at hl 5 rfl) ?_
              refine lM_30 S K hH (vin (by omega) (by omega)) dX5_goes_103 ?_
              refine lv_topi (fun v64 e64 => ?_)
              have f103 : v64 = σ 30 0 x6_37.toNatClampNeg := by rw [e64, hrw]
              refine sM_31 S K hH hS (vin (by omega) (by omega)) dX5_goes_104 (fun H locs hH hS => ?_)
              obtain ⟨σ65, eσ65⟩ : ∃ z_9 : QS, z_9 = rs σ_37 31 0 (upd (σ_37 31 0) x6_37.toNatClampNeg v64) := ⟨_, rfl⟩
              rw [← eσ65] at hH
              have hI := InvM_a eσ65 hI (by decide) (any32 _)
              have hP := Keep_w eσ65 hP (by decide)
              obtain ⟨v66, e66⟩ : ∃ y_9 : Int32, y_9 = x6_37 + 1 := ⟨_, rfl⟩
              have i66 : v66.toInt = x6_37.toInt + 1 := i_addc e66 (by decide) (by omega) (by omega)
              refine lv_iinc (v := v66) (lv' := [(6, .int v66), (0, .ref (L 0 0)), (1, .int m9), (2, .int a), (3, .int t), (4, .int b)]) S.1 S.2.1 dX5_goes_105 hl (k := 5) rfl (by rw [e66]; rfl) (by decide) rfl (fun ls hl => ?_)
              refine lv_goto (tgt := 85) S.1 S.2.1 dX5_goes_108 (by decide) ?_
              exact ih37 v66 σ65 _ _ ls (by omega) (by omega) (by rw [eσ65, rs_v (by decide)]; exact hbe) (by rw [eσ65, rs_v (by decide)]; exact hrw) (by rw [eσ65, rs_v (by decide), rs_v (by decide), rs_v (by decide)]; exact h3v) (by intro k h9; have h8 := cl_eq (j := x6_37) (by omega); rw [eσ65, rs_self]; unfold upd; by_cases hq : k = (x6_37).toNatClampNeg; rw [if_pos hq, f103, hq]; rw [if_neg hq]; exact hcp k (by omega)) hI hP hH hS (lv_sub hl [1, 2, 3, 4, 5, 0] rfl)
        exact cut_85_37 _ 0 σ36 _ _ ls (Nat.lt_succ_self _) (by omega) (by rw [eσ36, rs_v (by decide), eσ35, rs_v (by decide), eσ34, rs_v (by decide)]) (by rw [eσ36, rs_v (by decide), eσ35, rs_v (by decide), eσ34, rs_v (by decide)]) (by refine ⟨?_, ?_, ?_⟩; rw [eσ36, rs_v (by decide), eσ35, rs_v (by decide), eσ34, rs_self]; rw [eσ36, rs_v (by decide), eσ35, rs_self]; rw [eσ36, rs_self]; exact hm9) (by intro k h9; exact absurd h9 (by omega)) hI hP hH hS (lv_sub hl [2, 3, 4, 5, 6, 0] rfl)
      · have j33 := t_neq c33
        refine lv_iload S.1 S.2.1 dX5_goes_38 (lv_at hl 5 rfl) ?_
        refine lv_aload_n S.1 S.2.1 dX5_goes_40 rfl (lv_at hl 1 rfl) ?_
        refine rM_0_35 S hnX5 K hH (mG wd_381) dX5_goes_41 ?_
        refine lv_topi (fun v67 e67 => ?_)
        have f41 : v67.toInt = (σ 35 0 0).toInt := by rw [e67]
        refine lv_icmp_gt (tgt := 65) S.1 S.2.1 dX5_goes_44 (by decide) (fun c68 => ?_) (fun c68 => ?_)
        · have j68 := t_lt c68
          refine lv_aload_n S.1 S.2.1 dX5_goes_65 rfl (lv_at hl 1 rfl) ?_
          refine lv_iload_n S.1 S.2.1 dX5_goes_66 rfl (lv_at hl 2 rfl) ?_
          refine pM_0_34 S hnX5 K hH hS (mG wd_380) dX5_goes_67 (fun H locs hH hS => ?_)
          obtain ⟨σ69, eσ69⟩ : ∃ z_9 : QS, z_9 = rs σ 34 0 (fun _ => m9) := ⟨_, rfl⟩
          rw [← eσ69] at hH
          have hI := InvM_f eσ69 hI (by decide) (show ((-1) : Int) ≤ m9.toInt ∧ m9.toInt ≤ 8 by omega)
          have hP := Keep_w eσ69 hP (by decide)
          refine lv_aload_n S.1 S.2.1 dX5_goes_70 rfl (lv_at hl 1 rfl) ?_
          refine lv_iload S.1 S.2.1 dX5_goes_71 (lv_at hl 5 rfl) ?_
          refine pM_0_35 S hnX5 K hH hS (mG wd_381) dX5_goes_73 (fun H locs hH hS => ?_)
          obtain ⟨σ70, eσ70⟩ : ∃ z_9 : QS, z_9 = rs σ69 35 0 (fun _ => b) := ⟨_, rfl⟩
          rw [← eσ70] at hH
          have hI := InvM_f eσ70 hI (by decide) (any32 _)
          have hP := Keep_w eσ70 hP (by decide)
          refine lv_aload_n S.1 S.2.1 dX5_goes_76 rfl (lv_at hl 1 rfl) ?_
          refine lv_iload S.1 S.2.1 dX5_goes_77 (lv_at hl 0 rfl) ?_
          refine pM_0_36 S hnX5 K hH hS (mG wd_382) dX5_goes_79 (fun H locs hH hS => ?_)
          obtain ⟨σ71, eσ71⟩ : ∃ z_9 : QS, z_9 = rs σ70 36 0 (fun _ => v4) := ⟨_, rfl⟩
          rw [← eσ71] at hH
          have hI := InvM_f eσ71 hI (by decide) (any32 _)
          have hP := Keep_w eσ71 hP (by decide)
          refine lv_iconst (v := 0) S.1 S.2.1 dX5_goes_82 (by decide) ?_
          refine lv_istore (lv' := [(6, .int 0), (5, .int v4), (0, .ref (L 0 0)), (1, .int m9), (2, .int a), (3, .int t), (4, .int b)]) S.1 S.2.1 dX5_goes_83 hl (by decide) rfl (fun ls hl => ?_)
          have cut_85_72 : ∀ (n : Nat) (x6_72 : Int32) (σ_72 : QS) (H : Heap) (locs : List Loc) (ls : Array Slot), (8 - x6_72.toInt).toNat < n → 0 ≤ x6_72.toInt ∧ x6_72.toInt ≤ 8 → (σ_72 33 = σ 33) → (σ_72 30 = σ 30) → ((σ_72 34 0 0).toInt = m9.toInt ∧ (σ_72 35 0 0).toInt = b.toInt ∧ (σ_72 36 0 0).toInt = ezTot (wkC (σ 27 0)) (mnC (σ 28 0)) pz) → (∀ k : Nat, (k : Int) < x6_72.toInt → σ_72 31 0 k = σ 30 0 k) → InvM σ_72 → Keep [34, 35, 36, 31, 30, 33] σ σ_72 → hW cntM gM D B L σ_72 τ H → va_S A s.heap H locs → lv_has ls 8 [(0, .ref (L 0 0)), (1, .int m9), (2, .int a), (3, .int t), (4, .int b), (6, .int x6_72)] → W p l e { frames := fr + 1, cells := 0, slots := 0, locals := 8 + (8 + 11) + lo } s m [.ref (L 0 0), .int m9, .int a, .int t, .int b].toArray below meth c H locs 0 0 (MQ below (QcW cntM gM D B L A (pV (fun σ' τ' => InvM σ' ∧ Keep [34, 35, 36, 31, 30, 33] σ σ' ∧ τ' = τ ∧ (σ' 33 = σ 33 ∧ (∀ k : Nat, (k : Int) < m9.toInt → σ' 30 0 k = σ 30 0 k) ∧ gR σ' (fun q => ezLt q (pz ++ [9])))))) [.ref (L 0 0), .int m9, .int a, .int t, .int b].toArray s 0 0 A) (F0 m 85 ls []) := by
            intro n
            induction n with
            | zero => intro x6_72 σ_72 H locs ls hm; exact absurd hm (Nat.not_lt_zero _)
            | succ n ih72 =>
              intro x6_72 σ_72 H locs ls hm72 h72_0 hbe hrw h3v hcp hI hP hH hS hl
              refine lv_iload S.1 S.2.1 dX5_goes_85 (lv_at hl 5 rfl) ?_
              refine lv_iload_n S.1 S.2.1 dX5_goes_87 rfl (lv_at hl 1 rfl) ?_
              refine lv_icmp_ge (tgt := 111) S.1 S.2.1 dX5_goes_88 (by decide) (fun c73 => ?_) (fun c73 => ?_)
              · have j73 := t_le c73
                refine lv_iconst (v := 1) S.1 S.2.1 dX5_goes_111 (by decide) ?_
                refine lv_istore (lv' := [(6, .int 1), (0, .ref (L 0 0)), (1, .int m9), (2, .int a), (3, .int t), (4, .int b)]) S.1 S.2.1 dX5_goes_112 hl (by decide) rfl (fun ls hl => ?_)
                have cut_114_74 : ∀ (n : Nat) (x6_74 : Int32) (σ_74 : QS) (H : Heap) (locs : List Loc) (ls : Array Slot), (9 - x6_74.toInt).toNat < n → 1 ≤ x6_74.toInt ∧ x6_74.toInt ≤ 9 → (σ_74 33 = σ 33) → (∀ k : Nat, (k : Int) < m9.toInt → σ_74 30 0 k = σ 30 0 k) → (gR σ_74 (fun q => ezLt q (pz ++ [x6_74.toNatClampNeg]))) → InvM σ_74 → Keep [34, 35, 36, 31, 30, 33] σ σ_74 → hW cntM gM D B L σ_74 τ H → va_S A s.heap H locs → lv_has ls 8 [(0, .ref (L 0 0)), (1, .int m9), (2, .int a), (3, .int t), (4, .int b), (6, .int x6_74)] → W p l e { frames := fr + 1, cells := 0, slots := 0, locals := 8 + (8 + 11) + lo } s m [.ref (L 0 0), .int m9, .int a, .int t, .int b].toArray below meth c H locs 0 0 (MQ below (QcW cntM gM D B L A (pV (fun σ' τ' => InvM σ' ∧ Keep [34, 35, 36, 31, 30, 33] σ σ' ∧ τ' = τ ∧ (σ' 33 = σ 33 ∧ (∀ k : Nat, (k : Int) < m9.toInt → σ' 30 0 k = σ 30 0 k) ∧ gR σ' (fun q => ezLt q (pz ++ [9])))))) [.ref (L 0 0), .int m9, .int a, .int t, .int b].toArray s 0 0 A) (F0 m 114 ls []) := by
                  intro n
                  induction n with
                  | zero => intro x6_74 σ_74 H locs ls hm; exact absurd hm (Nat.not_lt_zero _)
                  | succ n ih74 =>
                    intro x6_74 σ_74 H locs ls hm74 h74_0 hbe hrk hrr hI hP hH hS hl
                    refine lv_iload S.1 S.2.1 dX5_goes_114 (lv_at hl 5 rfl) ?_
                    refine lv_bipush (v := 9) S.1 S.2.1 dX5_goes_116 (by decide) ?_
                    refine lv_icmp_ge (tgt := 228) S.1 S.2.1 dX5_goes_118 (by decide) (fun c75 => ?_) (fun c75 => ?_)
                    · have j75 := t_le c75
                      refine cW_vret S hr hk hH hS ?_ dX5_goes_228
                      exact ⟨rfl, hI, hP, rfl, by refine ⟨hbe, hrk, ?_⟩; have h9 : x6_74.toNatClampNeg = 9 := (by have h8 := cl_eq (j := x6_74) (by omega); omega); rw [h9] at hrr; exact hrr⟩
                    · have j75 := t_nle c75
                      refine lv_iload_n S.1 S.2.1 dX5_goes_121 rfl (lv_at hl 3 rfl) ?_
                      refine lv_aload_n S.1 S.2.1 dX5_goes_122 rfl (lv_at hl 0 rfl) ?_
                      refine rM_0_27 S hnX5 K hH (mG wd_328) dX5_goes_123 ?_
                      refine lv_bipush (v := 9) S.1 S.2.1 dX5_goes_126 (by decide) ?_
                      refine lv_iload_n S.1 S.2.1 dX5_goes_128 rfl (lv_at hl 2 rfl) ?_
                      refine lv_imul S.1 S.2.1 dX5_goes_129 ?_
                      refine lv_topi (fun v76 e76 => ?_)
                      have i76 : v76.toInt = 9 * a.toInt := i_mulcl e76 (by decide) (by omega) (by omega)
                      refine lv_iload S.1 S.2.1 dX5_goes_130 (lv_at hl 5 rfl) ?_
                      refine lv_iadd S.1 S.2.1 dX5_goes_132 ?_
                      refine lv_topi (fun v77 e77 => ?_)
                      have i77 : v77.toInt = v76.toInt + x6_74.toInt := i_add e77 (by omega) (by omega)
                      refine lM_27 S K hH (vin (by omega) (by omega)) dX5_goes_133 ?_
                      refine lv_topi (fun v78 e78 => ?_)
                      have b78 : 0 ≤ v78.toInt ∧ v78.toInt ≤ 60 := by rw [e78]; exact hI.1 27 0 v77.toNatClampNeg
                      refine lv_iadd S.1 S.2.1 dX5_goes_134 ?_
                      refine lv_topi (fun v79 e79 => ?_)
                      have i79 : v79.toInt = t.toInt + v78.toInt := i_add e79 (by omega) (by omega)
                      refine lv_aload_n S.1 S.2.1 dX5_goes_135 rfl (lv_at hl 0 rfl) ?_
                      refine rM_0_28 S hnX5 K hH (mG wd_329) dX5_goes_136 ?_
                      refine lv_iload S.1 S.2.1 dX5_goes_139 (lv_at hl 5 rfl) ?_
                      refine lM_28 S K hH (vin (by omega) (by omega)) dX5_goes_141 ?_
                      refine lv_topi (fun v80 e80 => ?_)
                      have b80 : 0 ≤ v80.toInt ∧ v80.toInt ≤ 60 := by rw [e80]; exact hI.1 28 0 x6_74.toNatClampNeg
                      refine lv_iadd S.1 S.2.1 dX5_goes_142 ?_
                      refine lv_topi (fun v81 e81 => ?_)
                      have i81 : v81.toInt = v79.toInt + v80.toInt := i_add e81 (by omega) (by omega)
                      refine lv_istore (lv' := [(7, .int v81), (0, .ref (L 0 0)), (1, .int m9), (2, .int a), (3, .int t), (4, .int b), (6, .int x6_74)]) S.1 S.2.1 dX5_goes_143 hl (by decide) rfl (fun ls hl => ?_)
                      have ht9 : v81.toInt = t.toInt + (σ 27 0 (9 * a.toNatClampNeg + x6_74.toNatClampNeg)).toInt + (σ 28 0 x6_74.toNatClampNeg).toInt := by rw [i81, i79, e78, e80, hP 27 (by decide), hP 28 (by decide), ix9 i76 i77 (by omega) (by omega)]
                      refine lv_aload_n S.1 S.2.1 dX5_goes_145 rfl (lv_at hl 1 rfl) ?_
                      refine rM_0_32 S hnX5 K hH (mG wd_333) dX5_goes_146 ?_
                      refine lv_iload S.1 S.2.1 dX5_goes_149 (lv_at hl 6 rfl) ?_
                      refine lM_32 S K hH (vin (by omega) (by omega)) dX5_goes_151 ?_
                      refine lv_topi (fun v82 e82 => ?_)
                      have f151 : v82 = σ 32 0 x6_74.toNatClampNeg := by rw [e82, hP 32 (by decide)]
                      refine lv_if_eq (tgt := 222) S.1 S.2.1 dX5_goes_152 (by decide) (fun c83 => ?_) (fun c83 => ?_)
                      · have j83 := t_eq c83
                        obtain ⟨v84, e84⟩ : ∃ y_9 : Int32, y_9 = x6_74 + 1 := ⟨_, rfl⟩
                        have i84 : v84.toInt = x6_74.toInt + 1 := i_addc e84 (by decide) (by omega) (by omega)
                        refine lv_iinc (v := v84) (lv' := [(6, .int v84), (7, .int v81), (0, .ref (L 0 0)), (1, .int m9), (2, .int a), (3, .int t), (4, .int b)]) S.1 S.2.1 dX5_goes_222 hl (k := 6) rfl (by rw [e84]; rfl) (by decide) rfl (fun ls hl => ?_)
                        refine lv_goto (tgt := 114) S.1 S.2.1 dX5_goes_225 (by decide) ?_
                        exact ih74 v84 σ_74 _ _ ls (by omega) (by omega) (by first | exact hbe9 | exact hbe) (by first | exact hrk9 | exact hrk) (by first | exact gWent hgw (by omega) i84 | exact gSkip hIv hp5 (fun v hv => hP v (fun z => by revert hv z; revert v; decide)) hrr (by omega) (by omega) i84 (Or.inl (f151.symm.trans (by assumption))) | exact gSkip hIv hp5 (fun v hv => hP v (fun z => by revert hv z; revert v; decide)) hrr (by omega) (by omega) i84 (Or.inr (Or.inl (fun z => absurd (f161.trans z) (by assumption)))) | exact gSkip hIv hp5 (fun v hv => hP v (fun z => by revert hv z; revert v; decide)) hrr (by omega) (by omega) i84 (Or.inr (Or.inr (by rw [← ht9]; omega)))) hI hP hH hS (lv_sub hl [2, 3, 4, 5, 6, 0] rfl)
                      · have j83 := t_neq c83
                        refine lv_aload_n S.1 S.2.1 dX5_goes_155 rfl (lv_at hl 1 rfl) ?_
                        refine rM_0_33 S hnX5 K hH (mG wd_334) dX5_goes_156 ?_
                        refine lv_iload S.1 S.2.1 dX5_goes_159 (lv_at hl 6 rfl) ?_
                        refine lM_33 S K hH (vin (by omega) (by omega)) dX5_goes_161 ?_
                        refine lv_topi (fun v85 e85 => ?_)
                        have f161 : v85 = σ 33 0 x6_74.toNatClampNeg := by rw [e85, hbe]
                        refine lv_if_ne (tgt := 222) S.1 S.2.1 dX5_goes_162 (by decide) (fun c86 => ?_) (fun c86 => ?_)
                        · have j86 := t_neq c86
                          obtain ⟨v87, e87⟩ : ∃ y_9 : Int32, y_9 = x6_74 + 1 := ⟨_, rfl⟩
                          have i87 : v87.toInt = x6_74.toInt + 1 := i_addc e87 (by decide) (by omega) (by omega)
                          refine lv_iinc (v := v87) (lv' := [(6, .int v87), (7, .int v81), (0, .ref (L 0 0)), (1, .int m9), (2, .int a), (3, .int t), (4, .int b)]) S.1 S.2.1 dX5_goes_222 hl (k := 6) rfl (by rw [e87]; rfl) (by decide) rfl (fun ls hl => ?_)
                          refine lv_goto (tgt := 114) S.1 S.2.1 dX5_goes_225 (by decide) ?_
                          exact ih74 v87 σ_74 _ _ ls (by omega) (by omega) (by first | exact hbe9 | exact hbe) (by first | exact hrk9 | exact hrk) (by first | exact gWent hgw (by omega) i87 | exact gSkip hIv hp5 (fun v hv => hP v (fun z => by revert hv z; revert v; decide)) hrr (by omega) (by omega) i87 (Or.inl (f151.symm.trans (by assumption))) | exact gSkip hIv hp5 (fun v hv => hP v (fun z => by revert hv z; revert v; decide)) hrr (by omega) (by omega) i87 (Or.inr (Or.inl (fun z => absurd (f161.trans z) (by assumption)))) | exact gSkip hIv hp5 (fun v hv => hP v (fun z => by revert hv z; revert v; decide)) hrr (by omega) (by omega) i87 (Or.inr (Or.inr (by rw [← ht9]; omega)))) hI hP hH hS (lv_sub hl [2, 3, 4, 5, 6, 0] rfl)
                        · have j86 := t_eq c86
                          refine lv_iload S.1 S.2.1 dX5_goes_165 (lv_at hl 0 rfl) ?_
                          refine lv_aload_n S.1 S.2.1 dX5_goes_167 rfl (lv_at hl 1 rfl) ?_
                          refine rM_0_37 S hnX5 K hH (mG wd_379) dX5_goes_168 ?_
                          refine lv_topi (fun v88 e88 => ?_)
                          have b88 : 0 ≤ v88.toInt ∧ v88.toInt ≤ 500 := by rw [e88]; exact hI.1 37 0 0
                          have f168 : v88.toInt = (σ 37 0 0).toInt := by rw [e88, hP 37 (by decide)]
                          refine lv_icmp_le (tgt := 177) S.1 S.2.1 dX5_goes_171 (by decide) (fun c89 => ?_) (fun c89 => ?_)
                          · have j89 := t_le c89
                            refine lv_aload_n S.1 S.2.1 dX5_goes_177 rfl (lv_at hl 1 rfl) ?_
                            refine rM_0_33 S hnX5 K hH (mG wd_334) dX5_goes_178 ?_
                            refine lv_iload S.1 S.2.1 dX5_goes_181 (lv_at hl 6 rfl) ?_
                            refine lv_iconst (v := 1) S.1 S.2.1 dX5_goes_183 (by decide) ?_
                            refine sM_33 S K hH hS (vin (by omega) (by omega)) dX5_goes_184 (fun H locs hH hS => ?_)
                            obtain ⟨σ90, eσ90⟩ : ∃ z_9 : QS, z_9 = rs σ_74 33 0 (upd (σ_74 33 0) x6_74.toNatClampNeg (vp_nar .boolean 1)) := ⟨_, rfl⟩
                            rw [← eσ90] at hH
                            have hI := InvM_a eσ90 hI (by decide) (any32 _)
                            have hP := Keep_w eσ90 hP (by decide)
                            refine lv_aload_n S.1 S.2.1 dX5_goes_185 rfl (lv_at hl 1 rfl) ?_
                            refine rM_0_30 S hnX5 K hH (mG wd_331) dX5_goes_186 ?_
                            refine lv_iload_n S.1 S.2.1 dX5_goes_189 rfl (lv_at hl 2 rfl) ?_
                            refine lv_iload S.1 S.2.1 dX5_goes_190 (lv_at hl 6 rfl) ?_
                            refine sM_30 S K hH hS (vin (by omega) (by omega)) dX5_goes_192 (fun H locs hH hS => ?_)
                            obtain ⟨σ91, eσ91⟩ : ∃ z_9 : QS, z_9 = rs σ90 30 0 (upd (σ90 30 0) m9.toNatClampNeg x6_74) := ⟨_, rfl⟩
                            rw [← eσ91] at hH
                            have hI := InvM_a eσ91 hI (by decide) (any32 _)
                            have hP := Keep_w eσ91 hP (by decide)
                            refine lv_aload_n S.1 S.2.1 dX5_goes_193 rfl (lv_at hl 1 rfl) ?_
                            refine lv_iload_n S.1 S.2.1 dX5_goes_194 rfl (lv_at hl 2 rfl) ?_
                            refine lv_iconst (v := 1) S.1 S.2.1 dX5_goes_195 (by decide) ?_
                            refine lv_iadd S.1 S.2.1 dX5_goes_196 ?_
                            refine lv_topi (fun v92 e92 => ?_)
                            have i92 : v92.toInt = m9.toInt + (1 : Int32).toInt := i_add e92 (by omega) (by omega)
                            refine lv_iload S.1 S.2.1 dX5_goes_197 (lv_at hl 6 rfl) ?_
                            refine lv_iload S.1 S.2.1 dX5_goes_199 (lv_at hl 0 rfl) ?_
                            refine lv_iload S.1 S.2.1 dX5_goes_201 (lv_at hl 5 rfl) ?_
                            refine lv_aload_n S.1 S.2.1 dX5_goes_203 rfl (lv_at hl 1 rfl) ?_
                            refine rM_0_29 S hnX5 K hH (mG wd_330) dX5_goes_204 ?_
                            refine lv_iload S.1 S.2.1 dX5_goes_207 (lv_at hl 6 rfl) ?_
                            refine lM_29 S K hH (vin (by omega) (by omega)) dX5_goes_209 ?_
                            refine lv_topi (fun v93 e93 => ?_)
                            have b93 : 0 ≤ v93.toInt ∧ v93.toInt ≤ 100 := by rw [e93]; exact hI.1 29 0 x6_74.toNatClampNeg
                            have f209 : v93.toInt = (σ 29 0 x6_74.toNatClampNeg).toInt := by rw [e93, hP 29 (by decide)]
                            refine lv_iadd S.1 S.2.1 dX5_goes_210 ?_
                            refine lv_topi (fun v94 e94 => ?_)
                            have i94 : v94.toInt = b.toInt + v93.toInt := i_add e94 (by omega) (by omega)
                            have hgd9 : gP σ91 (pz ++ [x6_74.toNatClampNeg]) v92 x6_74 v81 v94 := gDown hp5 (fun v hv => hP v (fun z => by revert hv z; revert v; decide)) (by omega) (by omega) (fun z => absurd (f151.trans z) (by assumption)) (f161.symm.trans (by assumption)) (by omega) ht9 (by rw [i94, f209]) (fun c => by rw [eσ91, rs_v (by decide), eσ90, rs_self, hbe]; rfl) (fun k h9 => by rw [eσ91, rs_self, eσ90, rs_v (by decide)]; unfold upd; have h8 := cl_eq (j := m9) (by omega); by_cases hq : k = m9.toNatClampNeg; rw [if_pos hq, if_pos (by omega)]; rw [if_neg hq, if_neg (by omega)]; exact hrk k (by omega))
                            have hgr9 : gR σ91 (fun q => ezLt q (pz ++ [x6_74.toNatClampNeg])) := gR_of hrr (fun v hv => by rw [eσ91, rs_v (by intro z; subst z; revert hv; decide), eσ90, rs_v (by intro z; subst z; revert hv; decide)])
                            have hlen9 : 0 ≤ v92.toInt ∧ v92.toInt ≤ 8 := by have h9 := isP_len _ hgd9.1.1 (fun s hs => ⟨(hgd9.1.2 s hs).1, (hgd9.1.2 s hs).2.1⟩) 8 (fun s hs => (hgd9.1.2 s hs).2.1); have h8 := hgd9.2.1; omega
                            refine cW_bv (cW_V (n := 4) (As := [.int v92, .int x6_74, .int v81, .int v94]) (rest := []) (k := 0) (i := 0) S K hH (by decide) rfl rfl (IH σ91 τ v92 x6_74 v81 v94 (pz ++ [x6_74.toNatClampNeg]) (hlen9) (by omega) (by omega) (by omega) hI (hgd9) (hgr9) (by omega) (by omega)) gX5_goes_X5_goes rfl hdV_X5_goes ⟨Nat.le_refl _, Nat.le_refl _⟩ rfl hl.1 (Nat.le_of_ble_eq_true rfl) dX5_goes_211) hS (fun σ95 τ95 H locs q95 hH hS => ?_)
                            obtain ⟨hI, hP95, hτ95, q95⟩ := q95
                            rw [hτ95] at hH
                            have hP := Keep_t hP hP95 (by decide)
                            refine lv_aload_n S.1 S.2.1 dX5_goes_214 rfl (lv_at hl 1 rfl) ?_
                            refine rM_0_33 S hnX5 K hH (mG wd_334) dX5_goes_215 ?_
                            refine lv_iload S.1 S.2.1 dX5_goes_218 (lv_at hl 6 rfl) ?_
                            refine lv_iconst (v := 0) S.1 S.2.1 dX5_goes_220 (by decide) ?_
                            refine sM_33 S K hH hS (vin (by omega) (by omega)) dX5_goes_221 (fun H locs hH hS => ?_)
                            obtain ⟨σ96, eσ96⟩ : ∃ z_9 : QS, z_9 = rs σ95 33 0 (upd (σ95 33 0) x6_74.toNatClampNeg (vp_nar .boolean 0)) := ⟨_, rfl⟩
                            rw [← eσ96] at hH
                            have hI := InvM_a eσ96 hI (by decide) (any32 _)
                            have hP := Keep_w eσ96 hP (by decide)
                            have hbe9 : σ96 33 = σ 33 := (been_back eσ90 (σ2 := σ91) (by rw [eσ91, rs_v (by decide)]) (q95).1 eσ96 e85 (by omega)).trans hbe
                            have hrk9 : ∀ k : Nat, (k : Int) < m9.toInt → σ96 30 0 k = σ 30 0 k := fun k h9 => by rw [eσ96, rs_v (by decide), (q95).2.1 k (by omega), eσ91, rs_self, eσ90, rs_v (by decide)]; unfold upd; have h8 := cl_eq (j := m9) (by omega); rw [if_neg (by omega)]; exact hrk k h9
                            have hgw : gR σ96 (fun q => ezLt q ((pz ++ [x6_74.toNatClampNeg]) ++ [9])) := gR_of (q95).2.2 (fun v hv => by rw [eσ96, rs_v (by intro z; subst z; revert hv; decide)])
                            obtain ⟨v97, e97⟩ : ∃ y_9 : Int32, y_9 = x6_74 + 1 := ⟨_, rfl⟩
                            have i97 : v97.toInt = x6_74.toInt + 1 := i_addc e97 (by decide) (by omega) (by omega)
                            refine lv_iinc (v := v97) (lv' := [(6, .int v97), (7, .int v81), (0, .ref (L 0 0)), (1, .int m9), (2, .int a), (3, .int t), (4, .int b)]) S.1 S.2.1 dX5_goes_222 hl (k := 6) rfl (by rw [e97]; rfl) (by decide) rfl (fun ls hl => ?_)
                            refine lv_goto (tgt := 114) S.1 S.2.1 dX5_goes_225 (by decide) ?_
                            exact ih74 v97 σ96 _ _ ls (by omega) (by omega) (by first | exact hbe9 | exact hbe) (by first | exact hrk9 | exact hrk) (by first | exact gWent hgw (by omega) i97 | exact gSkip hIv hp5 (fun v hv => hP v (fun z => by revert hv z; revert v; decide)) hrr (by omega) (by omega) i97 (Or.inl (f151.symm.trans (by assumption))) | exact gSkip hIv hp5 (fun v hv => hP v (fun z => by revert hv z; revert v; decide)) hrr (by omega) (by omega) i97 (Or.inr (Or.inl (fun z => absurd (f161.trans z) (by assumption)))) | exact gSkip hIv hp5 (fun v hv => hP v (fun z => by revert hv z; revert v; decide)) hrr (by omega) (by omega) i97 (Or.inr (Or.inr (by rw [← ht9]; omega)))) hI hP hH hS (lv_sub hl [2, 3, 4, 5, 6, 0] rfl)
                          · have j89 := t_nle c89
                            refine lv_goto (tgt := 222) S.1 S.2.1 dX5_goes_174 (by decide) ?_
                            obtain ⟨v98, e98⟩ : ∃ y_9 : Int32, y_9 = x6_74 + 1 := ⟨_, rfl⟩
                            have i98 : v98.toInt = x6_74.toInt + 1 := i_addc e98 (by decide) (by omega) (by omega)
                            refine lv_iinc (v := v98) (lv' := [(6, .int v98), (7, .int v81), (0, .ref (L 0 0)), (1, .int m9), (2, .int a), (3, .int t), (4, .int b)]) S.1 S.2.1 dX5_goes_222 hl (k := 6) rfl (by rw [e98]; rfl) (by decide) rfl (fun ls hl => ?_)
                            refine lv_goto (tgt := 114) S.1 S.2.1 dX5_goes_225 (by decide) ?_
                            exact ih74 v98 σ_74 _ _ ls (by omega) (by omega) (by first | exact hbe9 | exact hbe) (by first | exact hrk9 | exact hrk) (by first | exact gWent hgw (by omega) i98 | exact gSkip hIv hp5 (fun v hv => hP v (fun z => by revert hv z; revert v; decide)) hrr (by omega) (by omega) i98 (Or.inl (f151.symm.trans (by assumption))) | exact gSkip hIv hp5 (fun v hv => hP v (fun z => by revert hv z; revert v; decide)) hrr (by omega) (by omega) i98 (Or.inr (Or.inl (fun z => absurd (f161.trans z) (by assumption)))) | exact gSkip hIv hp5 (fun v hv => hP v (fun z => by revert hv z; revert v; decide)) hrr (by omega) (by omega) i98 (Or.inr (Or.inr (by rw [← ht9]; omega)))) hI hP hH hS (lv_sub hl [2, 3, 4, 5, 6, 0] rfl)
                exact cut_114_74 _ 1 σ_72 _ _ ls (Nat.lt_succ_self _) (by omega) (by first | rfl | exact hbe) (by first | (intro k h9; rfl) | (intro k h9; rw [hrw])) (by rw [show (1 : Int32).toNatClampNeg = 1 by decide]; first | exact gOld hp5 hp6 (by omega) | exact gNew hp5 hp6 (fun v hv => hP v (fun z => by revert hv z; revert v; decide)) (by omega) (by omega) h3v.1 h3v.2.1 h3v.2.2 (fun k h9 => hcp k (by omega))) hI hP hH hS (lv_sub hl [1, 2, 3, 4, 5, 0] rfl)
              · have j73 := t_nle c73
                refine lv_aload_n S.1 S.2.1 dX5_goes_91 rfl (lv_at hl 0 rfl) ?_
                refine rM_0_31 S hnX5 K hH (mG wd_332) dX5_goes_92 ?_
                refine lv_iload S.1 S.2.1 dX5_goes_95 (lv_at hl 5 rfl) ?_
                refine lv_aload_n S.1 S.2.1 dX5_goes_97 rfl (lv_at hl 0 rfl) ?_
                refine rM_0_30 S hnX5 K hH (mG wd_331) dX5_goes_98 ?_
                refine lv_iload S.1 S.2.1 dX5_goes_101 (lv_at hl 5 rfl) ?_
                refine lM_30 S K hH (vin (by omega) (by omega)) dX5_goes_103 ?_
                refine lv_topi (fun v99 e99 => ?_)
                have f103 : v99 = σ 30 0 x6_72.toNatClampNeg := by rw [e99, hrw]
                refine sM_31 S K hH hS (vin (by omega) (by omega)) dX5_goes_104 (fun H locs hH hS => ?_)
                obtain ⟨σ100, eσ100⟩ : ∃ z_9 : QS, z_9 = rs σ_72 31 0 (upd (σ_72 31 0) x6_72.toNatClampNeg v99) := ⟨_, rfl⟩
                rw [← eσ100] at hH
                have hI := InvM_a eσ100 hI (by decide) (any32 _)
                have hP := Keep_w eσ100 hP (by decide)
                obtain ⟨v101, e101⟩ : ∃ y_9 : Int32, y_9 = x6_72 + 1 := ⟨_, rfl⟩
                have i101 : v101.toInt = x6_72.toInt + 1 := i_addc e101 (by decide) (by omega) (by omega)
                refine lv_iinc (v := v101) (lv' := [(6, .int v101), (0, .ref (L 0 0)), (1, .int m9), (2, .int a), (3, .int t), (4, .int b)]) S.1 S.2.1 dX5_goes_105 hl (k := 5) rfl (by rw [e101]; rfl) (by decide) rfl (fun ls hl => ?_)
                refine lv_goto (tgt := 85) S.1 S.2.1 dX5_goes_108 (by decide) ?_
                exact ih72 v101 σ100 _ _ ls (by omega) (by omega) (by rw [eσ100, rs_v (by decide)]; exact hbe) (by rw [eσ100, rs_v (by decide)]; exact hrw) (by rw [eσ100, rs_v (by decide), rs_v (by decide), rs_v (by decide)]; exact h3v) (by intro k h9; have h8 := cl_eq (j := x6_72) (by omega); rw [eσ100, rs_self]; unfold upd; by_cases hq : k = (x6_72).toNatClampNeg; rw [if_pos hq, f103, hq]; rw [if_neg hq]; exact hcp k (by omega)) hI hP hH hS (lv_sub hl [1, 2, 3, 4, 5, 0] rfl)
          exact cut_85_72 _ 0 σ71 _ _ ls (Nat.lt_succ_self _) (by omega) (by rw [eσ71, rs_v (by decide), eσ70, rs_v (by decide), eσ69, rs_v (by decide)]) (by rw [eσ71, rs_v (by decide), eσ70, rs_v (by decide), eσ69, rs_v (by decide)]) (by refine ⟨?_, ?_, ?_⟩; rw [eσ71, rs_v (by decide), eσ70, rs_v (by decide), eσ69, rs_self]; rw [eσ71, rs_v (by decide), eσ70, rs_self]; rw [eσ71, rs_self]; exact hm9) (by intro k h9; exact absurd h9 (by omega)) hI hP hH hS (lv_sub hl [2, 3, 4, 5, 6, 0] rfl)
        · have j68 := t_nlt c68
          refine lv_iload S.1 S.2.1 dX5_goes_47 (lv_at hl 5 rfl) ?_
          refine lv_aload_n S.1 S.2.1 dX5_goes_49 rfl (lv_at hl 1 rfl) ?_
          refine rM_0_35 S hnX5 K hH (mG wd_381) dX5_goes_50 ?_
          refine lv_topi (fun v102 e102 => ?_)
          have k102 : v102.toInt = v67.toInt := by rw [e102]; rw [← e67]
          have f50 : v102.toInt = (σ 35 0 0).toInt := by rw [e102]
          refine lv_icmp_ne (tgt := 111) S.1 S.2.1 dX5_goes_53 (by decide) (fun c103 => ?_) (fun c103 => ?_)
          · have j103 := t_neq c103
            refine lv_iconst (v := 1) S.1 S.2.1 dX5_goes_111 (by decide) ?_
            refine lv_istore (lv' := [(6, .int 1), (5, .int v4), (0, .ref (L 0 0)), (1, .int m9), (2, .int a), (3, .int t), (4, .int b)]) S.1 S.2.1 dX5_goes_112 hl (by decide) rfl (fun ls hl => ?_)
            have cut_114_104 : ∀ (n : Nat) (x6_104 : Int32) (σ_104 : QS) (H : Heap) (locs : List Loc) (ls : Array Slot), (9 - x6_104.toInt).toNat < n → 1 ≤ x6_104.toInt ∧ x6_104.toInt ≤ 9 → (σ_104 33 = σ 33) → (∀ k : Nat, (k : Int) < m9.toInt → σ_104 30 0 k = σ 30 0 k) → (gR σ_104 (fun q => ezLt q (pz ++ [x6_104.toNatClampNeg]))) → InvM σ_104 → Keep [34, 35, 36, 31, 30, 33] σ σ_104 → hW cntM gM D B L σ_104 τ H → va_S A s.heap H locs → lv_has ls 8 [(0, .ref (L 0 0)), (1, .int m9), (2, .int a), (3, .int t), (4, .int b), (6, .int x6_104)] → W p l e { frames := fr + 1, cells := 0, slots := 0, locals := 8 + (8 + 11) + lo } s m [.ref (L 0 0), .int m9, .int a, .int t, .int b].toArray below meth c H locs 0 0 (MQ below (QcW cntM gM D B L A (pV (fun σ' τ' => InvM σ' ∧ Keep [34, 35, 36, 31, 30, 33] σ σ' ∧ τ' = τ ∧ (σ' 33 = σ 33 ∧ (∀ k : Nat, (k : Int) < m9.toInt → σ' 30 0 k = σ 30 0 k) ∧ gR σ' (fun q => ezLt q (pz ++ [9])))))) [.ref (L 0 0), .int m9, .int a, .int t, .int b].toArray s 0 0 A) (F0 m 114 ls []) := by
              intro n
              induction n with
              | zero => intro x6_104 σ_104 H locs ls hm; exact absurd hm (Nat.not_lt_zero _)
              | succ n ih104 =>
                intro x6_104 σ_104 H locs ls hm104 h104_0 hbe hrk hrr hI hP hH hS hl
                refine lv_iload S.1 S.2.1 dX5_goes_114 (lv_at hl 5 rfl) ?_
                refine lv_bipush (v := 9) S.1 S.2.1 dX5_goes_116 (by decide) ?_
                refine lv_icmp_ge (tgt := 228) S.1 S.2.1 dX5_goes_118 (by decide) (fun c105 => ?_) (fun c105 => ?_)
                · have j105 := t_le c105
                  refine cW_vret S hr hk hH hS ?_ dX5_goes_228
                  exact ⟨rfl, hI, hP, rfl, by refine ⟨hbe, hrk, ?_⟩; have h9 : x6_104.toNatClampNeg = 9 := (by have h8 := cl_eq (j := x6_104) (by omega); omega); rw [h9] at hrr; exact hrr⟩
                · have j105 := t_nle c105
                  refine lv_iload_n S.1 S.2.1 dX5_goes_121 rfl (lv_at hl 3 rfl) ?_
                  refine lv_aload_n S.1 S.2.1 dX5_goes_122 rfl (lv_at hl 0 rfl) ?_
                  refine rM_0_27 S hnX5 K hH (mG wd_328) dX5_goes_123 ?_
                  refine lv_bipush (v := 9) S.1 S.2.1 dX5_goes_126 (by decide) ?_
                  refine lv_iload_n S.1 S.2.1 dX5_goes_128 rfl (lv_at hl 2 rfl) ?_
                  refine lv_imul S.1 S.2.1 dX5_goes_129 ?_
                  refine lv_topi (fun v106 e106 => ?_)
                  have i106 : v106.toInt = 9 * a.toInt := i_mulcl e106 (by decide) (by omega) (by omega)
                  refine lv_iload S.1 S.2.1 dX5_goes_130 (lv_at hl 5 rfl) ?_
                  refine lv_iadd S.1 S.2.1 dX5_goes_132 ?_
                  refine lv_topi (fun v107 e107 => ?_)
                  have i107 : v107.toInt = v106.toInt + x6_104.toInt := i_add e107 (by omega) (by omega)
                  refine lM_27 S K hH (vin (by omega) (by omega)) dX5_goes_133 ?_
                  refine lv_topi (fun v108 e108 => ?_)
                  have b108 : 0 ≤ v108.toInt ∧ v108.toInt ≤ 60 := by rw [e108]; exact hI.1 27 0 v107.toNatClampNeg
                  refine lv_iadd S.1 S.2.1 dX5_goes_134 ?_
                  refine lv_topi (fun v109 e109 => ?_)
                  have i109 : v109.toInt = t.toInt + v108.toInt := i_add e109 (by omega) (by omega)
                  refine lv_aload_n S.1 S.2.1 dX5_goes_135 rfl (lv_at hl 0 rfl) ?_
                  refine rM_0_28 S hnX5 K hH (mG wd_329) dX5_goes_136 ?_
                  refine lv_iload S.1 S.2.1 dX5_goes_139 (lv_at hl 5 rfl) ?_
                  refine lM_28 S K hH (vin (by omega) (by omega)) dX5_goes_141 ?_
                  refine lv_topi (fun v110 e110 => ?_)
                  have b110 : 0 ≤ v110.toInt ∧ v110.toInt ≤ 60 := by rw [e110]; exact hI.1 28 0 x6_104.toNatClampNeg
                  refine lv_iadd S.1 S.2.1 dX5_goes_142 ?_
                  refine lv_topi (fun v111 e111 => ?_)
                  have i111 : v111.toInt = v109.toInt + v110.toInt := i_add e111 (by omega) (by omega)
                  refine lv_istore (lv' := [(7, .int v111), (0, .ref (L 0 0)), (1, .int m9), (2, .int a), (3, .int t), (4, .int b), (6, .int x6_104)]) S.1 S.2.1 dX5_goes_143 hl (by decide) rfl (fun ls hl => ?_)
                  have ht9 : v111.toInt = t.toInt + (σ 27 0 (9 * a.toNatClampNeg + x6_104.toNatClampNeg)).toInt + (σ 28 0 x6_104.toNatClampNeg).toInt := by rw [i111, i109, e108, e110, hP 27 (by decide), hP 28 (by decide), ix9 i106 i107 (by omega) (by omega)]
                  refine lv_aload_n S.1 S.2.1 dX5_goes_145 rfl (lv_at hl 1 rfl) ?_
                  refine rM_0_32 S hnX5 K hH (mG wd_333) dX5_goes_146 ?_
                  refine lv_iload S.1 S.2.1 dX5_goes_149 (lv_at hl 6 rfl) ?_
                  refine lM_32 S K hH (vin (by omega) (by omega)) dX5_goes_151 ?_
                  refine lv_topi (fun v112 e112 => ?_)
                  have f151 : v112 = σ 32 0 x6_104.toNatClampNeg := by rw [e112, hP 32 (by decide)]
                  refine lv_if_eq (tgt := 222) S.1 S.2.1 dX5_goes_152 (by decide) (fun c113 => ?_) (fun c113 => ?_)
                  · have j113 := t_eq c113
                    obtain ⟨v114, e114⟩ : ∃ y_9 : Int32, y_9 = x6_104 + 1 := ⟨_, rfl⟩
                    have i114 : v114.toInt = x6_104.toInt + 1 := i_addc e114 (by decide) (by omega) (by omega)
                    refine lv_iinc (v := v114) (lv' := [(6, .int v114), (7, .int v111), (0, .ref (L 0 0)), (1, .int m9), (2, .int a), (3, .int t), (4, .int b)]) S.1 S.2.1 dX5_goes_222 hl (k := 6) rfl (by rw [e114]; rfl) (by decide) rfl (fun ls hl => ?_)
                    refine lv_goto (tgt := 114) S.1 S.2.1 dX5_goes_225 (by decide) ?_
                    exact ih104 v114 σ_104 _ _ ls (by omega) (by omega) (by first | exact hbe9 | exact hbe) (by first | exact hrk9 | exact hrk) (by first | exact gWent hgw (by omega) i114 | exact gSkip hIv hp5 (fun v hv => hP v (fun z => by revert hv z; revert v; decide)) hrr (by omega) (by omega) i114 (Or.inl (f151.symm.trans (by assumption))) | exact gSkip hIv hp5 (fun v hv => hP v (fun z => by revert hv z; revert v; decide)) hrr (by omega) (by omega) i114 (Or.inr (Or.inl (fun z => absurd (f161.trans z) (by assumption)))) | exact gSkip hIv hp5 (fun v hv => hP v (fun z => by revert hv z; revert v; decide)) hrr (by omega) (by omega) i114 (Or.inr (Or.inr (by rw [← ht9]; omega)))) hI hP hH hS (lv_sub hl [2, 3, 4, 5, 6, 0] rfl)
                  · have j113 := t_neq c113
                    refine lv_aload_n S.1 S.2.1 dX5_goes_155 rfl (lv_at hl 1 rfl) ?_
                    refine rM_0_33 S hnX5 K hH (mG wd_334) dX5_goes_156 ?_
                    refine lv_iload S.1 S.2.1 dX5_goes_159 (lv_at hl 6 rfl) ?_
                    refine lM_33 S K hH (vin (by omega) (by omega)) dX5_goes_161 ?_
                    refine lv_topi (fun v115 e115 => ?_)
                    have f161 : v115 = σ 33 0 x6_104.toNatClampNeg := by rw [e115, hbe]
                    refine lv_if_ne (tgt := 222) S.1 S.2.1 dX5_goes_162 (by decide) (fun c116 => ?_) (fun c116 => ?_)
                    · have j116 := t_neq c116
                      obtain ⟨v117, e117⟩ : ∃ y_9 : Int32, y_9 = x6_104 + 1 := ⟨_, rfl⟩
                      have i117 : v117.toInt = x6_104.toInt + 1 := i_addc e117 (by decide) (by omega) (by omega)
                      refine lv_iinc (v := v117) (lv' := [(6, .int v117), (7, .int v111), (0, .ref (L 0 0)), (1, .int m9), (2, .int a), (3, .int t), (4, .int b)]) S.1 S.2.1 dX5_goes_222 hl (k := 6) rfl (by rw [e117]; rfl) (by decide) rfl (fun ls hl => ?_)
                      refine lv_goto (tgt := 114) S.1 S.2.1 dX5_goes_225 (by decide) ?_
                      exact ih104 v117 σ_104 _ _ ls (by omega) (by omega) (by first | exact hbe9 | exact hbe) (by first | exact hrk9 | exact hrk) (by first | exact gWent hgw (by omega) i117 | exact gSkip hIv hp5 (fun v hv => hP v (fun z => by revert hv z; revert v; decide)) hrr (by omega) (by omega) i117 (Or.inl (f151.symm.trans (by assumption))) | exact gSkip hIv hp5 (fun v hv => hP v (fun z => by revert hv z; revert v; decide)) hrr (by omega) (by omega) i117 (Or.inr (Or.inl (fun z => absurd (f161.trans z) (by assumption)))) | exact gSkip hIv hp5 (fun v hv => hP v (fun z => by revert hv z; revert v; decide)) hrr (by omega) (by omega) i117 (Or.inr (Or.inr (by rw [← ht9]; omega)))) hI hP hH hS (lv_sub hl [2, 3, 4, 5, 6, 0] rfl)
                    · have j116 := t_eq c116
                      refine lv_iload S.1 S.2.1 dX5_goes_165 (lv_at hl 0 rfl) ?_
                      refine lv_aload_n S.1 S.2.1 dX5_goes_167 rfl (lv_at hl 1 rfl) ?_
                      refine rM_0_37 S hnX5 K hH (mG wd_379) dX5_goes_168 ?_
                      refine lv_topi (fun v118 e118 => ?_)
                      have b118 : 0 ≤ v118.toInt ∧ v118.toInt ≤ 500 := by rw [e118]; exact hI.1 37 0 0
                      have f168 : v118.toInt = (σ 37 0 0).toInt := by rw [e118, hP 37 (by decide)]
                      refine lv_icmp_le (tgt := 177) S.1 S.2.1 dX5_goes_171 (by decide) (fun c119 => ?_) (fun c119 => ?_)
                      · have j119 := t_le c119
                        refine lv_aload_n S.1 S.2.1 dX5_goes_177 rfl (lv_at hl 1 rfl) ?_
                        refine rM_0_33 S hnX5 K hH (mG wd_334) dX5_goes_178 ?_
                        refine lv_iload S.1 S.2.1 dX5_goes_181 (lv_at hl 6 rfl) ?_
                        refine lv_iconst (v := 1) S.1 S.2.1 dX5_goes_183 (by decide) ?_
                        refine sM_33 S K hH hS (vin (by omega) (by omega)) dX5_goes_184 (fun H locs hH hS => ?_)
                        obtain ⟨σ120, eσ120⟩ : ∃ z_9 : QS, z_9 = rs σ_104 33 0 (upd (σ_104 33 0) x6_104.toNatClampNeg (vp_nar .boolean 1)) := ⟨_, rfl⟩
                        rw [← eσ120] at hH
                        have hI := InvM_a eσ120 hI (by decide) (any32 _)
                        have hP := Keep_w eσ120 hP (by decide)
                        refine lv_aload_n S.1 S.2.1 dX5_goes_185 rfl (lv_at hl 1 rfl) ?_
                        refine rM_0_30 S hnX5 K hH (mG wd_331) dX5_goes_186 ?_
                        refine lv_iload_n S.1 S.2.1 dX5_goes_189 rfl (lv_at hl 2 rfl) ?_
                        refine lv_iload S.1 S.2.1 dX5_goes_190 (lv_at hl 6 rfl) ?_
                        refine sM_30 S K hH hS (vin (by omega) (by omega)) dX5_goes_192 (fun H locs hH hS => ?_)
                        obtain ⟨σ121, eσ121⟩ : ∃ z_9 : QS, z_9 = rs σ120 30 0 (upd (σ120 30 0) m9.toNatClampNeg x6_104) := ⟨_, rfl⟩
                        rw [← eσ121] at hH
                        have hI := InvM_a eσ121 hI (by decide) (any32 _)
                        have hP := Keep_w eσ121 hP (by decide)
                        refine lv_aload_n S.1 S.2.1 dX5_goes_193 rfl (lv_at hl 1 rfl) ?_
                        refine lv_iload_n S.1 S.2.1 dX5_goes_194 rfl (lv_at hl 2 rfl) ?_
                        refine lv_iconst (v := 1) S.1 S.2.1 dX5_goes_195 (by decide) ?_
                        refine lv_iadd S.1 S.2.1 dX5_goes_196 ?_
                        refine lv_topi (fun v122 e122 => ?_)
                        have i122 : v122.toInt = m9.toInt + (1 : Int32).toInt := i_add e122 (by omega) (by omega)
                        refine lv_iload S.1 S.2.1 dX5_goes_197 (lv_at hl 6 rfl) ?_
                        refine lv_iload S.1 S.2.1 dX5_goes_199 (lv_at hl 0 rfl) ?_
                        refine lv_iload S.1 S.2.1 dX5_goes_201 (lv_at hl 5 rfl) ?_
                        refine lv_aload_n S.1 S.2.1 dX5_goes_203 rfl (lv_at hl 1 rfl) ?_
                        refine rM_0_29 S hnX5 K hH (mG wd_330) dX5_goes_204 ?_
                        refine lv_iload S.1 S.2.1 dX5_goes_207 (lv_at hl 6 rfl) ?_
                        refine lM_29 S K hH (vin (by omega) (by omega)) dX5_goes_209 ?_
                        refine lv_topi (fun v123 e123 => ?_)
                        have b123 : 0 ≤ v123.toInt ∧ v123.toInt ≤ 100 := by rw [e123]; exact hI.1 29 0 x6_104.toNatClampNeg
                        have f209 : v123.toInt = (σ 29 0 x6_104.toNatClampNeg).toInt := by rw [e123, hP 29 (by decide)]
                        refine lv_iadd S.1 S.2.1 dX5_goes_210 ?_
                        refine lv_topi (fun v124 e124 => ?_)
                        have i124 : v124.toInt = b.toInt + v123.toInt := i_add e124 (by omega) (by omega)
                        have hgd9 : gP σ121 (pz ++ [x6_104.toNatClampNeg]) v122 x6_104 v111 v124 := gDown hp5 (fun v hv => hP v (fun z => by revert hv z; revert v; decide)) (by omega) (by omega) (fun z => absurd (f151.trans z) (by assumption)) (f161.symm.trans (by assumption)) (by omega) ht9 (by rw [i124, f209]) (fun c => by rw [eσ121, rs_v (by decide), eσ120, rs_self, hbe]; rfl) (fun k h9 => by rw [eσ121, rs_self, eσ120, rs_v (by decide)]; unfold upd; have h8 := cl_eq (j := m9) (by omega); by_cases hq : k = m9.toNatClampNeg; rw [if_pos hq, if_pos (by omega)]; rw [if_neg hq, if_neg (by omega)]; exact hrk k (by omega))
                        have hgr9 : gR σ121 (fun q => ezLt q (pz ++ [x6_104.toNatClampNeg])) := gR_of hrr (fun v hv => by rw [eσ121, rs_v (by intro z; subst z; revert hv; decide), eσ120, rs_v (by intro z; subst z; revert hv; decide)])
                        have hlen9 : 0 ≤ v122.toInt ∧ v122.toInt ≤ 8 := by have h9 := isP_len _ hgd9.1.1 (fun s hs => ⟨(hgd9.1.2 s hs).1, (hgd9.1.2 s hs).2.1⟩) 8 (fun s hs => (hgd9.1.2 s hs).2.1); have h8 := hgd9.2.1; omega
                        refine cW_bv (cW_V (n := 4) (As := [.int v122, .int x6_104, .int v111, .int v124]) (rest := []) (k := 0) (i := 0) S K hH (by decide) rfl rfl (IH σ121 τ v122 x6_104 v111 v124 (pz ++ [x6_104.toNatClampNeg]) (hlen9) (by omega) (by omega) (by omega) hI (hgd9) (hgr9) (by omega) (by omega)) gX5_goes_X5_goes rfl hdV_X5_goes ⟨Nat.le_refl _, Nat.le_refl _⟩ rfl hl.1 (Nat.le_of_ble_eq_true rfl) dX5_goes_211) hS (fun σ125 τ125 H locs q125 hH hS => ?_)
                        obtain ⟨hI, hP125, hτ125, q125⟩ := q125
                        rw [hτ125] at hH
                        have hP := Keep_t hP hP125 (by decide)
                        refine lv_aload_n S.1 S.2.1 dX5_goes_214 rfl (lv_at hl 1 rfl) ?_
                        refine rM_0_33 S hnX5 K hH (mG wd_334) dX5_goes_215 ?_
                        refine lv_iload S.1 S.2.1 dX5_goes_218 (lv_at hl 6 rfl) ?_
                        refine lv_iconst (v := 0) S.1 S.2.1 dX5_goes_220 (by decide) ?_
                        refine sM_33 S K hH hS (vin (by omega) (by omega)) dX5_goes_221 (fun H locs hH hS => ?_)
                        obtain ⟨σ126, eσ126⟩ : ∃ z_9 : QS, z_9 = rs σ125 33 0 (upd (σ125 33 0) x6_104.toNatClampNeg (vp_nar .boolean 0)) := ⟨_, rfl⟩
                        rw [← eσ126] at hH
                        have hI := InvM_a eσ126 hI (by decide) (any32 _)
                        have hP := Keep_w eσ126 hP (by decide)
                        have hbe9 : σ126 33 = σ 33 := (been_back eσ120 (σ2 := σ121) (by rw [eσ121, rs_v (by decide)]) (q125).1 eσ126 e115 (by omega)).trans hbe
                        have hrk9 : ∀ k : Nat, (k : Int) < m9.toInt → σ126 30 0 k = σ 30 0 k := fun k h9 => by rw [eσ126, rs_v (by decide), (q125).2.1 k (by omega), eσ121, rs_self, eσ120, rs_v (by decide)]; unfold upd; have h8 := cl_eq (j := m9) (by omega); rw [if_neg (by omega)]; exact hrk k h9
                        have hgw : gR σ126 (fun q => ezLt q ((pz ++ [x6_104.toNatClampNeg]) ++ [9])) := gR_of (q125).2.2 (fun v hv => by rw [eσ126, rs_v (by intro z; subst z; revert hv; decide)])
                        obtain ⟨v127, e127⟩ : ∃ y_9 : Int32, y_9 = x6_104 + 1 := ⟨_, rfl⟩
                        have i127 : v127.toInt = x6_104.toInt + 1 := i_addc e127 (by decide) (by omega) (by omega)
                        refine lv_iinc (v := v127) (lv' := [(6, .int v127), (7, .int v111), (0, .ref (L 0 0)), (1, .int m9), (2, .int a), (3, .int t), (4, .int b)]) S.1 S.2.1 dX5_goes_222 hl (k := 6) rfl (by rw [e127]; rfl) (by decide) rfl (fun ls hl => ?_)
                        refine lv_goto (tgt := 114) S.1 S.2.1 dX5_goes_225 (by decide) ?_
                        exact ih104 v127 σ126 _ _ ls (by omega) (by omega) (by first | exact hbe9 | exact hbe) (by first | exact hrk9 | exact hrk) (by first | exact gWent hgw (by omega) i127 | exact gSkip hIv hp5 (fun v hv => hP v (fun z => by revert hv z; revert v; decide)) hrr (by omega) (by omega) i127 (Or.inl (f151.symm.trans (by assumption))) | exact gSkip hIv hp5 (fun v hv => hP v (fun z => by revert hv z; revert v; decide)) hrr (by omega) (by omega) i127 (Or.inr (Or.inl (fun z => absurd (f161.trans z) (by assumption)))) | exact gSkip hIv hp5 (fun v hv => hP v (fun z => by revert hv z; revert v; decide)) hrr (by omega) (by omega) i127 (Or.inr (Or.inr (by rw [← ht9]; omega)))) hI hP hH hS (lv_sub hl [2, 3, 4, 5, 6, 0] rfl)
                      · have j119 := t_nle c119
                        refine lv_goto (tgt := 222) S.1 S.2.1 dX5_goes_174 (by decide) ?_
                        obtain ⟨v128, e128⟩ : ∃ y_9 : Int32, y_9 = x6_104 + 1 := ⟨_, rfl⟩
                        have i128 : v128.toInt = x6_104.toInt + 1 := i_addc e128 (by decide) (by omega) (by omega)
                        refine lv_iinc (v := v128) (lv' := [(6, .int v128), (7, .int v111), (0, .ref (L 0 0)), (1, .int m9), (2, .int a), (3, .int t), (4, .int b)]) S.1 S.2.1 dX5_goes_222 hl (k := 6) rfl (by rw [e128]; rfl) (by decide) rfl (fun ls hl => ?_)
                        refine lv_goto (tgt := 114) S.1 S.2.1 dX5_goes_225 (by decide) ?_
                        exact ih104 v128 σ_104 _ _ ls (by omega) (by omega) (by first | exact hbe9 | exact hbe) (by first | exact hrk9 | exact hrk) (by first | exact gWent hgw (by omega) i128 | exact gSkip hIv hp5 (fun v hv => hP v (fun z => by revert hv z; revert v; decide)) hrr (by omega) (by omega) i128 (Or.inl (f151.symm.trans (by assumption))) | exact gSkip hIv hp5 (fun v hv => hP v (fun z => by revert hv z; revert v; decide)) hrr (by omega) (by omega) i128 (Or.inr (Or.inl (fun z => absurd (f161.trans z) (by assumption)))) | exact gSkip hIv hp5 (fun v hv => hP v (fun z => by revert hv z; revert v; decide)) hrr (by omega) (by omega) i128 (Or.inr (Or.inr (by rw [← ht9]; omega)))) hI hP hH hS (lv_sub hl [2, 3, 4, 5, 6, 0] rfl)
            exact cut_114_104 _ 1 σ _ _ ls (Nat.lt_succ_self _) (by omega) (by first | rfl | exact hbe) (by first | (intro k h9; rfl) | (intro k h9; rw [hrw])) (by rw [show (1 : Int32).toNatClampNeg = 1 by decide]; first | exact gOld hp5 hp6 (by omega) | exact gNew hp5 hp6 (fun v hv => hP v (fun z => by revert hv z; revert v; decide)) (by omega) (by omega) h3v.1 h3v.2.1 h3v.2.2 (fun k h9 => hcp k (by omega))) hI hP hH hS (lv_sub hl [2, 3, 4, 5, 6, 0] rfl)
          · have j103 := t_eq c103
            refine lv_iload S.1 S.2.1 dX5_goes_56 (lv_at hl 0 rfl) ?_
            refine lv_aload_n S.1 S.2.1 dX5_goes_58 rfl (lv_at hl 1 rfl) ?_
            refine rM_0_36 S hnX5 K hH (mG wd_382) dX5_goes_59 ?_
            refine lv_topi (fun v129 e129 => ?_)
            have f59 : v129.toInt = (σ 36 0 0).toInt := by rw [e129]
            refine lv_icmp_ge (tgt := 111) S.1 S.2.1 dX5_goes_62 (by decide) (fun c130 => ?_) (fun c130 => ?_)
            · have j130 := t_le c130
              refine lv_iconst (v := 1) S.1 S.2.1 dX5_goes_111 (by decide) ?_
              refine lv_istore (lv' := [(6, .int 1), (5, .int v4), (0, .ref (L 0 0)), (1, .int m9), (2, .int a), (3, .int t), (4, .int b)]) S.1 S.2.1 dX5_goes_112 hl (by decide) rfl (fun ls hl => ?_)
              have cut_114_131 : ∀ (n : Nat) (x6_131 : Int32) (σ_131 : QS) (H : Heap) (locs : List Loc) (ls : Array Slot), (9 - x6_131.toInt).toNat < n → 1 ≤ x6_131.toInt ∧ x6_131.toInt ≤ 9 → (σ_131 33 = σ 33) → (∀ k : Nat, (k : Int) < m9.toInt → σ_131 30 0 k = σ 30 0 k) → (gR σ_131 (fun q => ezLt q (pz ++ [x6_131.toNatClampNeg]))) → InvM σ_131 → Keep [34, 35, 36, 31, 30, 33] σ σ_131 → hW cntM gM D B L σ_131 τ H → va_S A s.heap H locs → lv_has ls 8 [(0, .ref (L 0 0)), (1, .int m9), (2, .int a), (3, .int t), (4, .int b), (6, .int x6_131)] → W p l e { frames := fr + 1, cells := 0, slots := 0, locals := 8 + (8 + 11) + lo } s m [.ref (L 0 0), .int m9, .int a, .int t, .int b].toArray below meth c H locs 0 0 (MQ below (QcW cntM gM D B L A (pV (fun σ' τ' => InvM σ' ∧ Keep [34, 35, 36, 31, 30, 33] σ σ' ∧ τ' = τ ∧ (σ' 33 = σ 33 ∧ (∀ k : Nat, (k : Int) < m9.toInt → σ' 30 0 k = σ 30 0 k) ∧ gR σ' (fun q => ezLt q (pz ++ [9])))))) [.ref (L 0 0), .int m9, .int a, .int t, .int b].toArray s 0 0 A) (F0 m 114 ls []) := by
                intro n
                induction n with
                | zero => intro x6_131 σ_131 H locs ls hm; exact absurd hm (Nat.not_lt_zero _)
                | succ n ih131 =>
                  intro x6_131 σ_131 H locs ls hm131 h131_0 hbe hrk hrr hI hP hH hS hl
                  refine lv_iload S.1 S.2.1 dX5_goes_114 (lv_at hl 5 rfl) ?_
                  refine lv_bipush (v := 9) S.1 S.2.1 dX5_goes_116 (by decide) ?_
                  refine lv_icmp_ge (tgt := 228) S.1 S.2.1 dX5_goes_118 (by decide) (fun c132 => ?_) (fun c132 => ?_)
                  · have j132 := t_le c132
                    refine cW_vret S hr hk hH hS ?_ dX5_goes_228
                    exact ⟨rfl, hI, hP, rfl, by refine ⟨hbe, hrk, ?_⟩; have h9 : x6_131.toNatClampNeg = 9 := (by have h8 := cl_eq (j := x6_131) (by omega); omega); rw [h9] at hrr; exact hrr⟩
                  · have j132 := t_nle c132
                    refine lv_iload_n S.1 S.2.1 dX5_goes_121 rfl (lv_at hl 3 rfl) ?_
                    refine lv_aload_n S.1 S.2.1 dX5_goes_122 rfl (lv_at hl 0 rfl) ?_
                    refine rM_0_27 S hnX5 K hH (mG wd_328) dX5_goes_123 ?_
                    refine lv_bipush (v := 9) S.1 S.2.1 dX5_goes_126 (by decide) ?_
                    refine lv_iload_n S.1 S.2.1 dX5_goes_128 rfl (lv_at hl 2 rfl) ?_
                    refine lv_imul S.1 S.2.1 dX5_goes_129 ?_
                    refine lv_topi (fun v133 e133 => ?_)
                    have i133 : v133.toInt = 9 * a.toInt := i_mulcl e133 (by decide) (by omega) (by omega)
                    refine lv_iload S.1 S.2.1 dX5_goes_130 (lv_at hl 5 rfl) ?_
                    refine lv_iadd S.1 S.2.1 dX5_goes_132 ?_
                    refine lv_topi (fun v134 e134 => ?_)
                    have i134 : v134.toInt = v133.toInt + x6_131.toInt := i_add e134 (by omega) (by omega)
                    refine lM_27 S K hH (vin (by omega) (by omega)) dX5_goes_133 ?_
                    refine lv_topi (fun v135 e135 => ?_)
                    have b135 : 0 ≤ v135.toInt ∧ v135.toInt ≤ 60 := by rw [e135]; exact hI.1 27 0 v134.toNatClampNeg
                    refine lv_iadd S.1 S.2.1 dX5_goes_134 ?_
                    refine lv_topi (fun v136 e136 => ?_)
                    have i136 : v136.toInt = t.toInt + v135.toInt := i_add e136 (by omega) (by omega)
                    refine lv_aload_n S.1 S.2.1 dX5_goes_135 rfl (lv_at hl 0 rfl) ?_
                    refine rM_0_28 S hnX5 K hH (mG wd_329) dX5_goes_136 ?_
                    refine lv_iload S.1 S.2.1 dX5_goes_139 (lv_at hl 5 rfl) ?_
                    refine lM_28 S K hH (vin (by omega) (by omega)) dX5_goes_141 ?_
                    refine lv_topi (fun v137 e137 => ?_)
                    have b137 : 0 ≤ v137.toInt ∧ v137.toInt ≤ 60 := by rw [e137]; exact hI.1 28 0 x6_131.toNatClampNeg
                    refine lv_iadd S.1 S.2.1 dX5_goes_142 ?_
                    refine lv_topi (fun v138 e138 => ?_)
                    have i138 : v138.toInt = v136.toInt + v137.toInt := i_add e138 (by omega) (by omega)
                    refine lv_istore (lv' := [(7, .int v138), (0, .ref (L 0 0)), (1, .int m9), (2, .int a), (3, .int t), (4, .int b), (6, .int x6_131)]) S.1 S.2.1 dX5_goes_143 hl (by decide) rfl (fun ls hl => ?_)
                    have ht9 : v138.toInt = t.toInt + (σ 27 0 (9 * a.toNatClampNeg + x6_131.toNatClampNeg)).toInt + (σ 28 0 x6_131.toNatClampNeg).toInt := by rw [i138, i136, e135, e137, hP 27 (by decide), hP 28 (by decide), ix9 i133 i134 (by omega) (by omega)]
                    refine lv_aload_n S.1 S.2.1 dX5_goes_145 rfl (lv_at hl 1 rfl) ?_
                    refine rM_0_32 S hnX5 K hH (mG wd_333) dX5_goes_146 ?_
                    refine lv_iload S.1 S.2.1 dX5_goes_149 (lv_at hl 6 rfl) ?_
                    refine lM_32 S K hH (vin (by omega) (by omega)) dX5_goes_151 ?_
                    refine lv_topi (fun v139 e139 => ?_)
                    have f151 : v139 = σ 32 0 x6_131.toNatClampNeg := by rw [e139, hP 32 (by decide)]
                    refine lv_if_eq (tgt := 222) S.1 S.2.1 dX5_goes_152 (by decide) (fun c140 => ?_) (fun c140 => ?_)
                    · have j140 := t_eq c140
                      obtain ⟨v141, e141⟩ : ∃ y_9 : Int32, y_9 = x6_131 + 1 := ⟨_, rfl⟩
                      have i141 : v141.toInt = x6_131.toInt + 1 := i_addc e141 (by decide) (by omega) (by omega)
                      refine lv_iinc (v := v141) (lv' := [(6, .int v141), (7, .int v138), (0, .ref (L 0 0)), (1, .int m9), (2, .int a), (3, .int t), (4, .int b)]) S.1 S.2.1 dX5_goes_222 hl (k := 6) rfl (by rw [e141]; rfl) (by decide) rfl (fun ls hl => ?_)
                      refine lv_goto (tgt := 114) S.1 S.2.1 dX5_goes_225 (by decide) ?_
                      exact ih131 v141 σ_131 _ _ ls (by omega) (by omega) (by first | exact hbe9 | exact hbe) (by first | exact hrk9 | exact hrk) (by first | exact gWent hgw (by omega) i141 | exact gSkip hIv hp5 (fun v hv => hP v (fun z => by revert hv z; revert v; decide)) hrr (by omega) (by omega) i141 (Or.inl (f151.symm.trans (by assumption))) | exact gSkip hIv hp5 (fun v hv => hP v (fun z => by revert hv z; revert v; decide)) hrr (by omega) (by omega) i141 (Or.inr (Or.inl (fun z => absurd (f161.trans z) (by assumption)))) | exact gSkip hIv hp5 (fun v hv => hP v (fun z => by revert hv z; revert v; decide)) hrr (by omega) (by omega) i141 (Or.inr (Or.inr (by rw [← ht9]; omega)))) hI hP hH hS (lv_sub hl [2, 3, 4, 5, 6, 0] rfl)
                    · have j140 := t_neq c140
                      refine lv_aload_n S.1 S.2.1 dX5_goes_155 rfl (lv_at hl 1 rfl) ?_
                      refine rM_0_33 S hnX5 K hH (mG wd_334) dX5_goes_156 ?_
                      refine lv_iload S.1 S.2.1 dX5_goes_159 (lv_at hl 6 rfl) ?_
                      refine lM_33 S K hH (vin (by omega) (by omega)) dX5_goes_161 ?_
                      refine lv_topi (fun v142 e142 => ?_)
                      have f161 : v142 = σ 33 0 x6_131.toNatClampNeg := by rw [e142, hbe]
                      refine lv_if_ne (tgt := 222) S.1 S.2.1 dX5_goes_162 (by decide) (fun c143 => ?_) (fun c143 => ?_)
                      · have j143 := t_neq c143
                        obtain ⟨v144, e144⟩ : ∃ y_9 : Int32, y_9 = x6_131 + 1 := ⟨_, rfl⟩
                        have i144 : v144.toInt = x6_131.toInt + 1 := i_addc e144 (by decide) (by omega) (by omega)
                        refine lv_iinc (v := v144) (lv' := [(6, .int v144), (7, .int v138), (0, .ref (L 0 0)), (1, .int m9), (2, .int a), (3, .int t), (4, .int b)]) S.1 S.2.1 dX5_goes_222 hl (k := 6) rfl (by rw [e144]; rfl) (by decide) rfl (fun ls hl => ?_)
                        refine lv_goto (tgt := 114) S.1 S.2.1 dX5_goes_225 (by decide) ?_
                        exact ih131 v144 σ_131 _ _ ls (by omega) (by omega) (by first | exact hbe9 | exact hbe) (by first | exact hrk9 | exact hrk) (by first | exact gWent hgw (by omega) i144 | exact gSkip hIv hp5 (fun v hv => hP v (fun z => by revert hv z; revert v; decide)) hrr (by omega) (by omega) i144 (Or.inl (f151.symm.trans (by assumption))) | exact gSkip hIv hp5 (fun v hv => hP v (fun z => by revert hv z; revert v; decide)) hrr (by omega) (by omega) i144 (Or.inr (Or.inl (fun z => absurd (f161.trans z) (by assumption)))) | exact gSkip hIv hp5 (fun v hv => hP v (fun z => by revert hv z; revert v; decide)) hrr (by omega) (by omega) i144 (Or.inr (Or.inr (by rw [← ht9]; omega)))) hI hP hH hS (lv_sub hl [2, 3, 4, 5, 6, 0] rfl)
                      · have j143 := t_eq c143
                        refine lv_iload S.1 S.2.1 dX5_goes_165 (lv_at hl 0 rfl) ?_
                        refine lv_aload_n S.1 S.2.1 dX5_goes_167 rfl (lv_at hl 1 rfl) ?_
                        refine rM_0_37 S hnX5 K hH (mG wd_379) dX5_goes_168 ?_
                        refine lv_topi (fun v145 e145 => ?_)
                        have b145 : 0 ≤ v145.toInt ∧ v145.toInt ≤ 500 := by rw [e145]; exact hI.1 37 0 0
                        have f168 : v145.toInt = (σ 37 0 0).toInt := by rw [e145, hP 37 (by decide)]
                        refine lv_icmp_le (tgt := 177) S.1 S.2.1 dX5_goes_171 (by decide) (fun c146 => ?_) (fun c146 => ?_)
                        · have j146 := t_le c146
                          refine lv_aload_n S.1 S.2.1 dX5_goes_177 rfl (lv_at hl 1 rfl) ?_
                          refine rM_0_33 S hnX5 K hH (mG wd_334) dX5_goes_178 ?_
                          refine lv_iload S.1 S.2.1 dX5_goes_181 (lv_at hl 6 rfl) ?_
                          refine lv_iconst (v := 1) S.1 S.2.1 dX5_goes_183 (by decide) ?_
                          refine sM_33 S K hH hS (vin (by omega) (by omega)) dX5_goes_184 (fun H locs hH hS => ?_)
                          obtain ⟨σ147, eσ147⟩ : ∃ z_9 : QS, z_9 = rs σ_131 33 0 (upd (σ_131 33 0) x6_131.toNatClampNeg (vp_nar .boolean 1)) := ⟨_, rfl⟩
                          rw [← eσ147] at hH
                          have hI := InvM_a eσ147 hI (by decide) (any32 _)
                          have hP := Keep_w eσ147 hP (by decide)
                          refine lv_aload_n S.1 S.2.1 dX5_goes_185 rfl (lv_at hl 1 rfl) ?_
                          refine rM_0_30 S hnX5 K hH (mG wd_331) dX5_goes_186 ?_
                          refine lv_iload_n S.1 S.2.1 dX5_goes_189 rfl (lv_at hl 2 rfl) ?_
                          refine lv_iload S.1 S.2.1 dX5_goes_190 (lv_at hl 6 rfl) ?_
                          refine sM_30 S K hH hS (vin (by omega) (by omega)) dX5_goes_192 (fun H locs hH hS => ?_)
                          obtain ⟨σ148, eσ148⟩ : ∃ z_9 : QS, z_9 = rs σ147 30 0 (upd (σ147 30 0) m9.toNatClampNeg x6_131) := ⟨_, rfl⟩
                          rw [← eσ148] at hH
                          have hI := InvM_a eσ148 hI (by decide) (any32 _)
                          have hP := Keep_w eσ148 hP (by decide)
                          refine lv_aload_n S.1 S.2.1 dX5_goes_193 rfl (lv_at hl 1 rfl) ?_
                          refine lv_iload_n S.1 S.2.1 dX5_goes_194 rfl (lv_at hl 2 rfl) ?_
                          refine lv_iconst (v := 1) S.1 S.2.1 dX5_goes_195 (by decide) ?_
                          refine lv_iadd S.1 S.2.1 dX5_goes_196 ?_
                          refine lv_topi (fun v149 e149 => ?_)
                          have i149 : v149.toInt = m9.toInt + (1 : Int32).toInt := i_add e149 (by omega) (by omega)
                          refine lv_iload S.1 S.2.1 dX5_goes_197 (lv_at hl 6 rfl) ?_
                          refine lv_iload S.1 S.2.1 dX5_goes_199 (lv_at hl 0 rfl) ?_
                          refine lv_iload S.1 S.2.1 dX5_goes_201 (lv_at hl 5 rfl) ?_
                          refine lv_aload_n S.1 S.2.1 dX5_goes_203 rfl (lv_at hl 1 rfl) ?_
                          refine rM_0_29 S hnX5 K hH (mG wd_330) dX5_goes_204 ?_
                          refine lv_iload S.1 S.2.1 dX5_goes_207 (lv_at hl 6 rfl) ?_
                          refine lM_29 S K hH (vin (by omega) (by omega)) dX5_goes_209 ?_
                          refine lv_topi (fun v150 e150 => ?_)
                          have b150 : 0 ≤ v150.toInt ∧ v150.toInt ≤ 100 := by rw [e150]; exact hI.1 29 0 x6_131.toNatClampNeg
                          have f209 : v150.toInt = (σ 29 0 x6_131.toNatClampNeg).toInt := by rw [e150, hP 29 (by decide)]
                          refine lv_iadd S.1 S.2.1 dX5_goes_210 ?_
                          refine lv_topi (fun v151 e151 => ?_)
                          have i151 : v151.toInt = b.toInt + v150.toInt := i_add e151 (by omega) (by omega)
                          have hgd9 : gP σ148 (pz ++ [x6_131.toNatClampNeg]) v149 x6_131 v138 v151 := gDown hp5 (fun v hv => hP v (fun z => by revert hv z; revert v; decide)) (by omega) (by omega) (fun z => absurd (f151.trans z) (by assumption)) (f161.symm.trans (by assumption)) (by omega) ht9 (by rw [i151, f209]) (fun c => by rw [eσ148, rs_v (by decide), eσ147, rs_self, hbe]; rfl) (fun k h9 => by rw [eσ148, rs_self, eσ147, rs_v (by decide)]; unfold upd; have h8 := cl_eq (j := m9) (by omega); by_cases hq : k = m9.toNatClampNeg; rw [if_pos hq, if_pos (by omega)]; rw [if_neg hq, if_neg (by omega)]; exact hrk k (by omega))
                          have hgr9 : gR σ148 (fun q => ezLt q (pz ++ [x6_131.toNatClampNeg])) := gR_of hrr (fun v hv => by rw [eσ148, rs_v (by intro z; subst z; revert hv; decide), eσ147, rs_v (by intro z; subst z; revert hv; decide)])
                          have hlen9 : 0 ≤ v149.toInt ∧ v149.toInt ≤ 8 := by have h9 := isP_len _ hgd9.1.1 (fun s hs => ⟨(hgd9.1.2 s hs).1, (hgd9.1.2 s hs).2.1⟩) 8 (fun s hs => (hgd9.1.2 s hs).2.1); have h8 := hgd9.2.1; omega
                          refine cW_bv (cW_V (n := 4) (As := [.int v149, .int x6_131, .int v138, .int v151]) (rest := []) (k := 0) (i := 0) S K hH (by decide) rfl rfl (IH σ148 τ v149 x6_131 v138 v151 (pz ++ [x6_131.toNatClampNeg]) (hlen9) (by omega) (by omega) (by omega) hI (hgd9) (hgr9) (by omega) (by omega)) gX5_goes_X5_goes rfl hdV_X5_goes ⟨Nat.le_refl _, Nat.le_refl _⟩ rfl hl.1 (Nat.le_of_ble_eq_true rfl) dX5_goes_211) hS (fun σ152 τ152 H locs q152 hH hS => ?_)
                          obtain ⟨hI, hP152, hτ152, q152⟩ := q152
                          rw [hτ152] at hH
                          have hP := Keep_t hP hP152 (by decide)
                          refine lv_aload_n S.1 S.2.1 dX5_goes_214 rfl (lv_at hl 1 rfl) ?_
                          refine rM_0_33 S hnX5 K hH (mG wd_334) dX5_goes_215 ?_
                          refine lv_iload S.1 S.2.1 dX5_goes_218 (lv_at hl 6 rfl) ?_
                          refine lv_iconst (v := 0) S.1 S.2.1 dX5_goes_220 (by decide) ?_
                          refine sM_33 S K hH hS (vin (by omega) (by omega)) dX5_goes_221 (fun H locs hH hS => ?_)
                          obtain ⟨σ153, eσ153⟩ : ∃ z_9 : QS, z_9 = rs σ152 33 0 (upd (σ152 33 0) x6_131.toNatClampNeg (vp_nar .boolean 0)) := ⟨_, rfl⟩
                          rw [← eσ153] at hH
                          have hI := InvM_a eσ153 hI (by decide) (any32 _)
                          have hP := Keep_w eσ153 hP (by decide)
                          have hbe9 : σ153 33 = σ 33 := (been_back eσ147 (σ2 := σ148) (by rw [eσ148, rs_v (by decide)]) (q152).1 eσ153 e142 (by omega)).trans hbe
                          have hrk9 : ∀ k : Nat, (k : Int) < m9.toInt → σ153 30 0 k = σ 30 0 k := fun k h9 => by rw [eσ153, rs_v (by decide), (q152).2.1 k (by omega), eσ148, rs_self, eσ147, rs_v (by decide)]; unfold upd; have h8 := cl_eq (j := m9) (by omega); rw [if_neg (by omega)]; exact hrk k h9
                          have hgw : gR σ153 (fun q => ezLt q ((pz ++ [x6_131.toNatClampNeg]) ++ [9])) := gR_of (q152).2.2 (fun v hv => by rw [eσ153, rs_v (by intro z; subst z; revert hv; decide)])
                          obtain ⟨v154, e154⟩ : ∃ y_9 : Int32, y_9 = x6_131 + 1 := ⟨_, rfl⟩
                          have i154 : v154.toInt = x6_131.toInt + 1 := i_addc e154 (by decide) (by omega) (by omega)
                          refine lv_iinc (v := v154) (lv' := [(6, .int v154), (7, .int v138), (0, .ref (L 0 0)), (1, .int m9), (2, .int a), (3, .int t), (4, .int b)]) S.1 S.2.1 dX5_goes_222 hl (k := 6) rfl (by rw [e154]; rfl) (by decide) rfl (fun ls hl => ?_)
                          refine lv_goto (tgt := 114) S.1 S.2.1 dX5_goes_225 (by decide) ?_
                          exact ih131 v154 σ153 _ _ ls (by omega) (by omega) (by first | exact hbe9 | exact hbe) (by first | exact hrk9 | exact hrk) (by first | exact gWent hgw (by omega) i154 | exact gSkip hIv hp5 (fun v hv => hP v (fun z => by revert hv z; revert v; decide)) hrr (by omega) (by omega) i154 (Or.inl (f151.symm.trans (by assumption))) | exact gSkip hIv hp5 (fun v hv => hP v (fun z => by revert hv z; revert v; decide)) hrr (by omega) (by omega) i154 (Or.inr (Or.inl (fun z => absurd (f161.trans z) (by assumption)))) | exact gSkip hIv hp5 (fun v hv => hP v (fun z => by revert hv z; revert v; decide)) hrr (by omega) (by omega) i154 (Or.inr (Or.inr (by rw [← ht9]; omega)))) hI hP hH hS (lv_sub hl [2, 3, 4, 5, 6, 0] rfl)
                        · have j146 := t_nle c146
                          refine lv_goto (tgt := 222) S.1 S.2.1 dX5_goes_174 (by decide) ?_
                          obtain ⟨v155, e155⟩ : ∃ y_9 : Int32, y_9 = x6_131 + 1 := ⟨_, rfl⟩
                          have i155 : v155.toInt = x6_131.toInt + 1 := i_addc e155 (by decide) (by omega) (by omega)
                          refine lv_iinc (v := v155) (lv' := [(6, .int v155), (7, .int v138), (0, .ref (L 0 0)), (1, .int m9), (2, .int a), (3, .int t), (4, .int b)]) S.1 S.2.1 dX5_goes_222 hl (k := 6) rfl (by rw [e155]; rfl) (by decide) rfl (fun ls hl => ?_)
                          refine lv_goto (tgt := 114) S.1 S.2.1 dX5_goes_225 (by decide) ?_
                          exact ih131 v155 σ_131 _ _ ls (by omega) (by omega) (by first | exact hbe9 | exact hbe) (by first | exact hrk9 | exact hrk) (by first | exact gWent hgw (by omega) i155 | exact gSkip hIv hp5 (fun v hv => hP v (fun z => by revert hv z; revert v; decide)) hrr (by omega) (by omega) i155 (Or.inl (f151.symm.trans (by assumption))) | exact gSkip hIv hp5 (fun v hv => hP v (fun z => by revert hv z; revert v; decide)) hrr (by omega) (by omega) i155 (Or.inr (Or.inl (fun z => absurd (f161.trans z) (by assumption)))) | exact gSkip hIv hp5 (fun v hv => hP v (fun z => by revert hv z; revert v; decide)) hrr (by omega) (by omega) i155 (Or.inr (Or.inr (by rw [← ht9]; omega)))) hI hP hH hS (lv_sub hl [2, 3, 4, 5, 6, 0] rfl)
              exact cut_114_131 _ 1 σ _ _ ls (Nat.lt_succ_self _) (by omega) (by first | rfl | exact hbe) (by first | (intro k h9; rfl) | (intro k h9; rw [hrw])) (by rw [show (1 : Int32).toNatClampNeg = 1 by decide]; first | exact gOld hp5 hp6 (by omega) | exact gNew hp5 hp6 (fun v hv => hP v (fun z => by revert hv z; revert v; decide)) (by omega) (by omega) h3v.1 h3v.2.1 h3v.2.2 (fun k h9 => hcp k (by omega))) hI hP hH hS (lv_sub hl [2, 3, 4, 5, 6, 0] rfl)
            · have j130 := t_nle c130
              refine lv_aload_n S.1 S.2.1 dX5_goes_65 rfl (lv_at hl 1 rfl) ?_
              refine lv_iload_n S.1 S.2.1 dX5_goes_66 rfl (lv_at hl 2 rfl) ?_
              refine pM_0_34 S hnX5 K hH hS (mG wd_380) dX5_goes_67 (fun H locs hH hS => ?_)
              obtain ⟨σ156, eσ156⟩ : ∃ z_9 : QS, z_9 = rs σ 34 0 (fun _ => m9) := ⟨_, rfl⟩
              rw [← eσ156] at hH
              have hI := InvM_f eσ156 hI (by decide) (show ((-1) : Int) ≤ m9.toInt ∧ m9.toInt ≤ 8 by omega)
              have hP := Keep_w eσ156 hP (by decide)
              refine lv_aload_n S.1 S.2.1 dX5_goes_70 rfl (lv_at hl 1 rfl) ?_
              refine lv_iload S.1 S.2.1 dX5_goes_71 (lv_at hl 5 rfl) ?_
              refine pM_0_35 S hnX5 K hH hS (mG wd_381) dX5_goes_73 (fun H locs hH hS => ?_)
              obtain ⟨σ157, eσ157⟩ : ∃ z_9 : QS, z_9 = rs σ156 35 0 (fun _ => b) := ⟨_, rfl⟩
              rw [← eσ157] at hH
              have hI := InvM_f eσ157 hI (by decide) (any32 _)
              have hP := Keep_w eσ157 hP (by decide)
              refine lv_aload_n S.1 S.2.1 dX5_goes_76 rfl (lv_at hl 1 rfl) ?_
              refine lv_iload S.1 S.2.1 dX5_goes_77 (lv_at hl 0 rfl) ?_
              refine pM_0_36 S hnX5 K hH hS (mG wd_382) dX5_goes_79 (fun H locs hH hS => ?_)
              obtain ⟨σ158, eσ158⟩ : ∃ z_9 : QS, z_9 = rs σ157 36 0 (fun _ => v4) := ⟨_, rfl⟩
              rw [← eσ158] at hH
              have hI := InvM_f eσ158 hI (by decide) (any32 _)
              have hP := Keep_w eσ158 hP (by decide)
              refine lv_iconst (v := 0) S.1 S.2.1 dX5_goes_82 (by decide) ?_
              refine lv_istore (lv' := [(6, .int 0), (5, .int v4), (0, .ref (L 0 0)), (1, .int m9), (2, .int a), (3, .int t), (4, .int b)]) S.1 S.2.1 dX5_goes_83 hl (by decide) rfl (fun ls hl => ?_)
              have cut_85_159 : ∀ (n : Nat) (x6_159 : Int32) (σ_159 : QS) (H : Heap) (locs : List Loc) (ls : Array Slot), (8 - x6_159.toInt).toNat < n → 0 ≤ x6_159.toInt ∧ x6_159.toInt ≤ 8 → (σ_159 33 = σ 33) → (σ_159 30 = σ 30) → ((σ_159 34 0 0).toInt = m9.toInt ∧ (σ_159 35 0 0).toInt = b.toInt ∧ (σ_159 36 0 0).toInt = ezTot (wkC (σ 27 0)) (mnC (σ 28 0)) pz) → (∀ k : Nat, (k : Int) < x6_159.toInt → σ_159 31 0 k = σ 30 0 k) → InvM σ_159 → Keep [34, 35, 36, 31, 30, 33] σ σ_159 → hW cntM gM D B L σ_159 τ H → va_S A s.heap H locs → lv_has ls 8 [(0, .ref (L 0 0)), (1, .int m9), (2, .int a), (3, .int t), (4, .int b), (6, .int x6_159)] → W p l e { frames := fr + 1, cells := 0, slots := 0, locals := 8 + (8 + 11) + lo } s m [.ref (L 0 0), .int m9, .int a, .int t, .int b].toArray below meth c H locs 0 0 (MQ below (QcW cntM gM D B L A (pV (fun σ' τ' => InvM σ' ∧ Keep [34, 35, 36, 31, 30, 33] σ σ' ∧ τ' = τ ∧ (σ' 33 = σ 33 ∧ (∀ k : Nat, (k : Int) < m9.toInt → σ' 30 0 k = σ 30 0 k) ∧ gR σ' (fun q => ezLt q (pz ++ [9])))))) [.ref (L 0 0), .int m9, .int a, .int t, .int b].toArray s 0 0 A) (F0 m 85 ls []) := by
                intro n
                induction n with
                | zero => intro x6_159 σ_159 H locs ls hm; exact absurd hm (Nat.not_lt_zero _)
                | succ n ih159 =>
                  intro x6_159 σ_159 H locs ls hm159 h159_0 hbe hrw h3v hcp hI hP hH hS hl
                  refine lv_iload S.1 S.2.1 dX5_goes_85 (lv_at hl 5 rfl) ?_
                  refine lv_iload_n S.1 S.2.1 dX5_goes_87 rfl (lv_at hl 1 rfl) ?_
                  refine lv_icmp_ge (tgt := 111) S.1 S.2.1 dX5_goes_88 (by decide) (fun c160 => ?_) (fun c160 => ?_)
                  · have j160 := t_le c160
                    refine lv_iconst (v := 1) S.1 S.2.1 dX5_goes_111 (by decide) ?_
                    refine lv_istore (lv' := [(6, .int 1), (0, .ref (L 0 0)), (1, .int m9), (2, .int a), (3, .int t), (4, .int b)]) S.1 S.2.1 dX5_goes_112 hl (by decide) rfl (fun ls hl => ?_)
                    have cut_114_161 : ∀ (n : Nat) (x6_161 : Int32) (σ_161 : QS) (H : Heap) (locs : List Loc) (ls : Array Slot), (9 - x6_161.toInt).toNat < n → 1 ≤ x6_161.toInt ∧ x6_161.toInt ≤ 9 → (σ_161 33 = σ 33) → (∀ k : Nat, (k : Int) < m9.toInt → σ_161 30 0 k = σ 30 0 k) → (gR σ_161 (fun q => ezLt q (pz ++ [x6_161.toNatClampNeg]))) → InvM σ_161 → Keep [34, 35, 36, 31, 30, 33] σ σ_161 → hW cntM gM D B L σ_161 τ H → va_S A s.heap H locs → lv_has ls 8 [(0, .ref (L 0 0)), (1, .int m9), (2, .int a), (3, .int t), (4, .int b), (6, .int x6_161)] → W p l e { frames := fr + 1, cells := 0, slots := 0, locals := 8 + (8 + 11) + lo } s m [.ref (L 0 0), .int m9, .int a, .int t, .int b].toArray below meth c H locs 0 0 (MQ below (QcW cntM gM D B L A (pV (fun σ' τ' => InvM σ' ∧ Keep [34, 35, 36, 31, 30, 33] σ σ' ∧ τ' = τ ∧ (σ' 33 = σ 33 ∧ (∀ k : Nat, (k : Int) < m9.toInt → σ' 30 0 k = σ 30 0 k) ∧ gR σ' (fun q => ezLt q (pz ++ [9])))))) [.ref (L 0 0), .int m9, .int a, .int t, .int b].toArray s 0 0 A) (F0 m 114 ls []) := by
                      intro n
                      induction n with
                      | zero => intro x6_161 σ_161 H locs ls hm; exact absurd hm (Nat.not_lt_zero _)
                      | succ n ih161 =>
                        intro x6_161 σ_161 H locs ls hm161 h161_0 hbe hrk hrr hI hP hH hS hl
                        refine lv_iload S.1 S.2.1 dX5_goes_114 (lv_at hl 5 rfl) ?_
                        refine lv_bipush (v := 9) S.1 S.2.1 dX5_goes_116 (by decide) ?_
                        refine lv_icmp_ge (tgt := 228) S.1 S.2.1 dX5_goes_118 (by decide) (fun c162 => ?_) (fun c162 => ?_)
                        · have j162 := t_le c162
                          refine cW_vret S hr hk hH hS ?_ dX5_goes_228
                          exact ⟨rfl, hI, hP, rfl, by refine ⟨hbe, hrk, ?_⟩; have h9 : x6_161.toNatClampNeg = 9 := (by have h8 := cl_eq (j := x6_161) (by omega); omega); rw [h9] at hrr; exact hrr⟩
                        · have j162 := t_nle c162
                          refine lv_iload_n S.1 S.2.1 dX5_goes_121 rfl (lv_at hl 3 rfl) ?_
                          refine lv_aload_n S.1 S.2.1 dX5_goes_122 rfl (lv_at hl 0 rfl) ?_
                          refine rM_0_27 S hnX5 K hH (mG wd_328) dX5_goes_123 ?_
                          refine lv_bipush (v := 9) S.1 S.2.1 dX5_goes_126 (by decide) ?_
                          refine lv_iload_n S.1 S.2.1 dX5_goes_128 rfl (lv_at hl 2 rfl) ?_
                          refine lv_imul S.1 S.2.1 dX5_goes_129 ?_
                          refine lv_topi (fun v163 e163 => ?_)
                          have i163 : v163.toInt = 9 * a.toInt := i_mulcl e163 (by decide) (by omega) (by omega)
                          refine lv_iload S.1 S.2.1 dX5_goes_130 (lv_at hl 5 rfl) ?_
                          refine lv_iadd S.1 S.2.1 dX5_goes_132 ?_
                          refine lv_topi (fun v164 e164 => ?_)
                          have i164 : v164.toInt = v163.toInt + x6_161.toInt := i_add e164 (by omega) (by omega)
                          refine lM_27 S K hH (vin (by omega) (by omega)) dX5_goes_133 ?_
                          refine lv_topi (fun v165 e165 => ?_)
                          have b165 : 0 ≤ v165.toInt ∧ v165.toInt ≤ 60 := by rw [e165]; exact hI.1 27 0 v164.toNatClampNeg
                          refine lv_iadd S.1 S.2.1 dX5_goes_134 ?_
                          refine lv_topi (fun v166 e166 => ?_)
                          have i166 : v166.toInt = t.toInt + v165.toInt := i_add e166 (by omega) (by omega)
                          refine lv_aload_n S.1 S.2.1 dX5_goes_135 rfl (lv_at hl 0 rfl) ?_
                          refine rM_0_28 S hnX5 K hH (mG wd_329) dX5_goes_136 ?_
                          refine lv_iload S.1 S.2.1 dX5_goes_139 (lv_at hl 5 rfl) ?_
                          refine lM_28 S K hH (vin (by omega) (by omega)) dX5_goes_141 ?_
                          refine lv_topi (fun v167 e167 => ?_)
                          have b167 : 0 ≤ v167.toInt ∧ v167.toInt ≤ 60 := by rw [e167]; exact hI.1 28 0 x6_161.toNatClampNeg
                          refine lv_iadd S.1 S.2.1 dX5_goes_142 ?_
                          refine lv_topi (fun v168 e168 => ?_)
                          have i168 : v168.toInt = v166.toInt + v167.toInt := i_add e168 (by omega) (by omega)
                          refine lv_istore (lv' := [(7, .int v168), (0, .ref (L 0 0)), (1, .int m9), (2, .int a), (3, .int t), (4, .int b), (6, .int x6_161)]) S.1 S.2.1 dX5_goes_143 hl (by decide) rfl (fun ls hl => ?_)
                          have ht9 : v168.toInt = t.toInt + (σ 27 0 (9 * a.toNatClampNeg + x6_161.toNatClampNeg)).toInt + (σ 28 0 x6_161.toNatClampNeg).toInt := by rw [i168, i166, e165, e167, hP 27 (by decide), hP 28 (by decide), ix9 i163 i164 (by omega) (by omega)]
                          refine lv_aload_n S.1 S.2.1 dX5_goes_145 rfl (lv_at hl 1 rfl) ?_
                          refine rM_0_32 S hnX5 K hH (mG wd_333) dX5_goes_146 ?_
                          refine lv_iload S.1 S.2.1 dX5_goes_149 (lv_at hl 6 rfl) ?_
                          refine lM_32 S K hH (vin (by omega) (by omega)) dX5_goes_151 ?_
                          refine lv_topi (fun v169 e169 => ?_)
                          have f151 : v169 = σ 32 0 x6_161.toNatClampNeg := by rw [e169, hP 32 (by decide)]
                          refine lv_if_eq (tgt := 222) S.1 S.2.1 dX5_goes_152 (by decide) (fun c170 => ?_) (fun c170 => ?_)
                          · have j170 := t_eq c170
                            obtain ⟨v171, e171⟩ : ∃ y_9 : Int32, y_9 = x6_161 + 1 := ⟨_, rfl⟩
                            have i171 : v171.toInt = x6_161.toInt + 1 := i_addc e171 (by decide) (by omega) (by omega)
                            refine lv_iinc (v := v171) (lv' := [(6, .int v171), (7, .int v168), (0, .ref (L 0 0)), (1, .int m9), (2, .int a), (3, .int t), (4, .int b)]) S.1 S.2.1 dX5_goes_222 hl (k := 6) rfl (by rw [e171]; rfl) (by decide) rfl (fun ls hl => ?_)
                            refine lv_goto (tgt := 114) S.1 S.2.1 dX5_goes_225 (by decide) ?_
                            exact ih161 v171 σ_161 _ _ ls (by omega) (by omega) (by first | exact hbe9 | exact hbe) (by first | exact hrk9 | exact hrk) (by first | exact gWent hgw (by omega) i171 | exact gSkip hIv hp5 (fun v hv => hP v (fun z => by revert hv z; revert v; decide)) hrr (by omega) (by omega) i171 (Or.inl (f151.symm.trans (by assumption))) | exact gSkip hIv hp5 (fun v hv => hP v (fun z => by revert hv z; revert v; decide)) hrr (by omega) (by omega) i171 (Or.inr (Or.inl (fun z => absurd (f161.trans z) (by assumption)))) | exact gSkip hIv hp5 (fun v hv => hP v (fun z => by revert hv z; revert v; decide)) hrr (by omega) (by omega) i171 (Or.inr (Or.inr (by rw [← ht9]; omega)))) hI hP hH hS (lv_sub hl [2, 3, 4, 5, 6, 0] rfl)
                          · have j170 := t_neq c170
                            refine lv_aload_n S.1 S.2.1 dX5_goes_155 rfl (lv_at hl 1 rfl) ?_
                            refine rM_0_33 S hnX5 K hH (mG wd_334) dX5_goes_156 ?_
                            refine lv_iload S.1 S.2.1 dX5_goes_159 (lv_at hl 6 rfl) ?_
                            refine lM_33 S K hH (vin (by omega) (by omega)) dX5_goes_161 ?_
                            refine lv_topi (fun v172 e172 => ?_)
                            have f161 : v172 = σ 33 0 x6_161.toNatClampNeg := by rw [e172, hbe]
                            refine lv_if_ne (tgt := 222) S.1 S.2.1 dX5_goes_162 (by decide) (fun c173 => ?_) (fun c173 => ?_)
                            · have j173 := t_neq c173
                              obtain ⟨v174, e174⟩ : ∃ y_9 : Int32, y_9 = x6_161 + 1 := ⟨_, rfl⟩
                              have i174 : v174.toInt = x6_161.toInt + 1 := i_addc e174 (by decide) (by omega) (by omega)
                              refine lv_iinc (v := v174) (lv' := [(6, .int v174), (7, .int v168), (0, .ref (L 0 0)), (1, .int m9), (2, .int a), (3, .int t), (4, .int b)]) S.1 S.2.1 dX5_goes_222 hl (k := 6) rfl (by rw [e174]; rfl) (by decide) rfl (fun ls hl => ?_)
                              refine lv_goto (tgt := 114) S.1 S.2.1 dX5_goes_225 (by decide) ?_
                              exact ih161 v174 σ_161 _ _ ls (by omega) (by omega) (by first | exact hbe9 | exact hbe) (by first | exact hrk9 | exact hrk) (by first | exact gWent hgw (by omega) i174 | exact gSkip hIv hp5 (fun v hv => hP v (fun z => by revert hv z; revert v; decide)) hrr (by omega) (by omega) i174 (Or.inl (f151.symm.trans (by assumption))) | exact gSkip hIv hp5 (fun v hv => hP v (fun z => by revert hv z; revert v; decide)) hrr (by omega) (by omega) i174 (Or.inr (Or.inl (fun z => absurd (f161.trans z) (by assumption)))) | exact gSkip hIv hp5 (fun v hv => hP v (fun z => by revert hv z; revert v; decide)) hrr (by omega) (by omega) i174 (Or.inr (Or.inr (by rw [← ht9]; omega)))) hI hP hH hS (lv_sub hl [2, 3, 4, 5, 6, 0] rfl)
                            · have j173 := t_eq c173
                              refine lv_iload S.1 S.2.1 dX5_goes_165 (lv_at hl 0 rfl) ?_
                              refine lv_aload_n S.1 S.2.1 dX5_goes_167 rfl (lv_at hl 1 rfl) ?_
                              refine rM_0_37 S hnX5 K hH (mG wd_379) dX5_goes_168 ?_
                              refine lv_topi (fun v175 e175 => ?_)
                              have b175 : 0 ≤ v175.toInt ∧ v175.toInt ≤ 500 := by rw [e175]; exact hI.1 37 0 0
                              have f168 : v175.toInt = (σ 37 0 0).toInt := by rw [e175, hP 37 (by decide)]
                              refine lv_icmp_le (tgt := 177) S.1 S.2.1 dX5_goes_171 (by decide) (fun c176 => ?_) (fun c176 => ?_)
                              · have j176 := t_le c176
                                refine lv_aload_n S.1 S.2.1 dX5_goes_177 rfl (lv_at hl 1 rfl) ?_
                                refine rM_0_33 S hnX5 K hH (mG wd_334) dX5_goes_178 ?_
                                refine lv_iload S.1 S.2.1 dX5_goes_181 (lv_at hl 6 rfl) ?_
                                refine lv_iconst (v := 1) S.1 S.2.1 dX5_goes_183 (by decide) ?_
                                refine sM_33 S K hH hS (vin (by omega) (by omega)) dX5_goes_184 (fun H locs hH hS => ?_)
                                obtain ⟨σ177, eσ177⟩ : ∃ z_9 : QS, z_9 = rs σ_161 33 0 (upd (σ_161 33 0) x6_161.toNatClampNeg (vp_nar .boolean 1)) := ⟨_, rfl⟩
                                rw [← eσ177] at hH
                                have hI := InvM_a eσ177 hI (by decide) (any32 _)
                                have hP := Keep_w eσ177 hP (by decide)
                                refine lv_aload_n S.1 S.2.1 dX5_goes_185 rfl (lv_at hl 1 rfl) ?_
                                refine rM_0_30 S hnX5 K hH (mG wd_331) dX5_goes_186 ?_
                                refine lv_iload_n S.1 S.2.1 dX5_goes_189 rfl (lv_at hl 2 rfl) ?_
                                refine lv_iload S.1 S.2.1 dX5_goes_190 (lv_at hl 6 rfl) ?_
                                refine sM_30 S K hH hS (vin (by omega) (by omega)) dX5_goes_192 (fun H locs hH hS => ?_)
                                obtain ⟨σ178, eσ178⟩ : ∃ z_9 : QS, z_9 = rs σ177 30 0 (upd (σ177 30 0) m9.toNatClampNeg x6_161) := ⟨_, rfl⟩
                                rw [← eσ178] at hH
                                have hI := InvM_a eσ178 hI (by decide) (any32 _)
                                have hP := Keep_w eσ178 hP (by decide)
                                refine lv_aload_n S.1 S.2.1 dX5_goes_193 rfl (lv_at hl 1 rfl) ?_
                                refine lv_iload_n S.1 S.2.1 dX5_goes_194 rfl (lv_at hl 2 rfl) ?_
                                refine lv_iconst (v := 1) S.1 S.2.1 dX5_goes_195 (by decide) ?_
                                refine lv_iadd S.1 S.2.1 dX5_goes_196 ?_
                                refine lv_topi (fun v179 e179 => ?_)
                                have i179 : v179.toInt = m9.toInt + (1 : Int32).toInt := i_add e179 (by omega) (by omega)
                                refine lv_iload S.1 S.2.1 dX5_goes_197 (lv_at hl 6 rfl) ?_
                                refine lv_iload S.1 S.2.1 dX5_goes_199 (lv_at hl 0 rfl) ?_
                                refine lv_iload S.1 S.2.1 dX5_goes_201 (lv_at hl 5 rfl) ?_
                                refine lv_aload_n S.1 S.2.1 dX5_goes_203 rfl (lv_at hl 1 rfl) ?_
                                refine rM_0_29 S hnX5 K hH (mG wd_330) dX5_goes_204 ?_
                                refine lv_iload S.1 S.2.1 dX5_goes_207 (lv_at hl 6 rfl) ?_
                                refine lM_29 S K hH (vin (by omega) (by omega)) dX5_goes_209 ?_
                                refine lv_topi (fun v180 e180 => ?_)
                                have b180 : 0 ≤ v180.toInt ∧ v180.toInt ≤ 100 := by rw [e180]; exact hI.1 29 0 x6_161.toNatClampNeg
                                have f209 : v180.toInt = (σ 29 0 x6_161.toNatClampNeg).toInt := by rw [e180, hP 29 (by decide)]
                                refine lv_iadd S.1 S.2.1 dX5_goes_210 ?_
                                refine lv_topi (fun v181 e181 => ?_)
                                have i181 : v181.toInt = b.toInt + v180.toInt := i_add e181 (by omega) (by omega)
                                have hgd9 : gP σ178 (pz ++ [x6_161.toNatClampNeg]) v179 x6_161 v168 v181 := gDown hp5 (fun v hv => hP v (fun z => by revert hv z; revert v; decide)) (by omega) (by omega) (fun z => absurd (f151.trans z) (by assumption)) (f161.symm.trans (by assumption)) (by omega) ht9 (by rw [i181, f209]) (fun c => by rw [eσ178, rs_v (by decide), eσ177, rs_self, hbe]; rfl) (fun k h9 => by rw [eσ178, rs_self, eσ177, rs_v (by decide)]; unfold upd; have h8 := cl_eq (j := m9) (by omega); by_cases hq : k = m9.toNatClampNeg; rw [if_pos hq, if_pos (by omega)]; rw [if_neg hq, if_neg (by omega)]; exact hrk k (by omega))
                                have hgr9 : gR σ178 (fun q => ezLt q (pz ++ [x6_161.toNatClampNeg])) := gR_of hrr (fun v hv => by rw [eσ178, rs_v (by intro z; subst z; revert hv; decide), eσ177, rs_v (by intro z; subst z; revert hv; decide)])
                                have hlen9 : 0 ≤ v179.toInt ∧ v179.toInt ≤ 8 := by have h9 := isP_len _ hgd9.1.1 (fun s hs => ⟨(hgd9.1.2 s hs).1, (hgd9.1.2 s hs).2.1⟩) 8 (fun s hs => (hgd9.1.2 s hs).2.1); have h8 := hgd9.2.1; omega
                                refine cW_bv (cW_V (n := 4) (As := [.int v179, .int x6_161, .int v168, .int v181]) (rest := []) (k := 0) (i := 0) S K hH (by decide) rfl rfl (IH σ178 τ v179 x6_161 v168 v181 (pz ++ [x6_161.toNatClampNeg]) (hlen9) (by omega) (by omega) (by omega) hI (hgd9) (hgr9) (by omega) (by omega)) gX5_goes_X5_goes rfl hdV_X5_goes ⟨Nat.le_refl _, Nat.le_refl _⟩ rfl hl.1 (Nat.le_of_ble_eq_true rfl) dX5_goes_211) hS (fun σ182 τ182 H locs q182 hH hS => ?_)
                                obtain ⟨hI, hP182, hτ182, q182⟩ := q182
                                rw [hτ182] at hH
                                have hP := Keep_t hP hP182 (by decide)
                                refine lv_aload_n S.1 S.2.1 dX5_goes_214 rfl (lv_at hl 1 rfl) ?_
                                refine rM_0_33 S hnX5 K hH (mG wd_334) dX5_goes_215 ?_
                                refine lv_iload S.1 S.2.1 dX5_goes_218 (lv_at hl 6 rfl) ?_
                                refine lv_iconst (v := 0) S.1 S.2.1 dX5_goes_220 (by decide) ?_
                                refine sM_33 S K hH hS (vin (by omega) (by omega)) dX5_goes_221 (fun H locs hH hS => ?_)
                                obtain ⟨σ183, eσ183⟩ : ∃ z_9 : QS, z_9 = rs σ182 33 0 (upd (σ182 33 0) x6_161.toNatClampNeg (vp_nar .boolean 0)) := ⟨_, rfl⟩
                                rw [← eσ183] at hH
                                have hI := InvM_a eσ183 hI (by decide) (any32 _)
                                have hP := Keep_w eσ183 hP (by decide)
                                have hbe9 : σ183 33 = σ 33 := (been_back eσ177 (σ2 := σ178) (by rw [eσ178, rs_v (by decide)]) (q182).1 eσ183 e172 (by omega)).trans hbe
                                have hrk9 : ∀ k : Nat, (k : Int) < m9.toInt → σ183 30 0 k = σ 30 0 k := fun k h9 => by rw [eσ183, rs_v (by decide), (q182).2.1 k (by omega), eσ178, rs_self, eσ177, rs_v (by decide)]; unfold upd; have h8 := cl_eq (j := m9) (by omega); rw [if_neg (by omega)]; exact hrk k h9
                                have hgw : gR σ183 (fun q => ezLt q ((pz ++ [x6_161.toNatClampNeg]) ++ [9])) := gR_of (q182).2.2 (fun v hv => by rw [eσ183, rs_v (by intro z; subst z; revert hv; decide)])
                                obtain ⟨v184, e184⟩ : ∃ y_9 : Int32, y_9 = x6_161 + 1 := ⟨_, rfl⟩
                                have i184 : v184.toInt = x6_161.toInt + 1 := i_addc e184 (by decide) (by omega) (by omega)
                                refine lv_iinc (v := v184) (lv' := [(6, .int v184), (7, .int v168), (0, .ref (L 0 0)), (1, .int m9), (2, .int a), (3, .int t), (4, .int b)]) S.1 S.2.1 dX5_goes_222 hl (k := 6) rfl (by rw [e184]; rfl) (by decide) rfl (fun ls hl => ?_)
                                refine lv_goto (tgt := 114) S.1 S.2.1 dX5_goes_225 (by decide) ?_
                                exact ih161 v184 σ183 _ _ ls (by omega) (by omega) (by first | exact hbe9 | exact hbe) (by first | exact hrk9 | exact hrk) (by first | exact gWent hgw (by omega) i184 | exact gSkip hIv hp5 (fun v hv => hP v (fun z => by revert hv z; revert v; decide)) hrr (by omega) (by omega) i184 (Or.inl (f151.symm.trans (by assumption))) | exact gSkip hIv hp5 (fun v hv => hP v (fun z => by revert hv z; revert v; decide)) hrr (by omega) (by omega) i184 (Or.inr (Or.inl (fun z => absurd (f161.trans z) (by assumption)))) | exact gSkip hIv hp5 (fun v hv => hP v (fun z => by revert hv z; revert v; decide)) hrr (by omega) (by omega) i184 (Or.inr (Or.inr (by rw [← ht9]; omega)))) hI hP hH hS (lv_sub hl [2, 3, 4, 5, 6, 0] rfl)
                              · have j176 := t_nle c176
                                refine lv_goto (tgt := 222) S.1 S.2.1 dX5_goes_174 (by decide) ?_
                                obtain ⟨v185, e185⟩ : ∃ y_9 : Int32, y_9 = x6_161 + 1 := ⟨_, rfl⟩
                                have i185 : v185.toInt = x6_161.toInt + 1 := i_addc e185 (by decide) (by omega) (by omega)
                                refine lv_iinc (v := v185) (lv' := [(6, .int v185), (7, .int v168), (0, .ref (L 0 0)), (1, .int m9), (2, .int a), (3, .int t), (4, .int b)]) S.1 S.2.1 dX5_goes_222 hl (k := 6) rfl (by rw [e185]; rfl) (by decide) rfl (fun ls hl => ?_)
                                refine lv_goto (tgt := 114) S.1 S.2.1 dX5_goes_225 (by decide) ?_
                                exact ih161 v185 σ_161 _ _ ls (by omega) (by omega) (by first | exact hbe9 | exact hbe) (by first | exact hrk9 | exact hrk) (by first | exact gWent hgw (by omega) i185 | exact gSkip hIv hp5 (fun v hv => hP v (fun z => by revert hv z; revert v; decide)) hrr (by omega) (by omega) i185 (Or.inl (f151.symm.trans (by assumption))) | exact gSkip hIv hp5 (fun v hv => hP v (fun z => by revert hv z; revert v; decide)) hrr (by omega) (by omega) i185 (Or.inr (Or.inl (fun z => absurd (f161.trans z) (by assumption)))) | exact gSkip hIv hp5 (fun v hv => hP v (fun z => by revert hv z; revert v; decide)) hrr (by omega) (by omega) i185 (Or.inr (Or.inr (by rw [← ht9]; omega)))) hI hP hH hS (lv_sub hl [2, 3, 4, 5, 6, 0] rfl)
                    exact cut_114_161 _ 1 σ_159 _ _ ls (Nat.lt_succ_self _) (by omega) (by first | rfl | exact hbe) (by first | (intro k h9; rfl) | (intro k h9; rw [hrw])) (by rw [show (1 : Int32).toNatClampNeg = 1 by decide]; first | exact gOld hp5 hp6 (by omega) | exact gNew hp5 hp6 (fun v hv => hP v (fun z => by revert hv z; revert v; decide)) (by omega) (by omega) h3v.1 h3v.2.1 h3v.2.2 (fun k h9 => hcp k (by omega))) hI hP hH hS (lv_sub hl [1, 2, 3, 4, 5, 0] rfl)
                  · have j160 := t_nle c160
                    refine lv_aload_n S.1 S.2.1 dX5_goes_91 rfl (lv_at hl 0 rfl) ?_
                    refine rM_0_31 S hnX5 K hH (mG wd_332) dX5_goes_92 ?_
                    refine lv_iload S.1 S.2.1 dX5_goes_95 (lv_at hl 5 rfl) ?_
                    refine lv_aload_n S.1 S.2.1 dX5_goes_97 rfl (lv_at hl 0 rfl) ?_
                    refine rM_0_30 S hnX5 K hH (mG wd_331) dX5_goes_98 ?_
                    refine lv_iload S.1 S.2.1 dX5_goes_101 (lv_at hl 5 rfl) ?_
                    refine lM_30 S K hH (vin (by omega) (by omega)) dX5_goes_103 ?_
                    refine lv_topi (fun v186 e186 => ?_)
                    have f103 : v186 = σ 30 0 x6_159.toNatClampNeg := by rw [e186, hrw]
                    refine sM_31 S K hH hS (vin (by omega) (by omega)) dX5_goes_104 (fun H locs hH hS => ?_)
                    obtain ⟨σ187, eσ187⟩ : ∃ z_9 : QS, z_9 = rs σ_159 31 0 (upd (σ_159 31 0) x6_159.toNatClampNeg v186) := ⟨_, rfl⟩
                    rw [← eσ187] at hH
                    have hI := InvM_a eσ187 hI (by decide) (any32 _)
                    have hP := Keep_w eσ187 hP (by decide)
                    obtain ⟨v188, e188⟩ : ∃ y_9 : Int32, y_9 = x6_159 + 1 := ⟨_, rfl⟩
                    have i188 : v188.toInt = x6_159.toInt + 1 := i_addc e188 (by decide) (by omega) (by omega)
                    refine lv_iinc (v := v188) (lv' := [(6, .int v188), (0, .ref (L 0 0)), (1, .int m9), (2, .int a), (3, .int t), (4, .int b)]) S.1 S.2.1 dX5_goes_105 hl (k := 5) rfl (by rw [e188]; rfl) (by decide) rfl (fun ls hl => ?_)
                    refine lv_goto (tgt := 85) S.1 S.2.1 dX5_goes_108 (by decide) ?_
                    exact ih159 v188 σ187 _ _ ls (by omega) (by omega) (by rw [eσ187, rs_v (by decide)]; exact hbe) (by rw [eσ187, rs_v (by decide)]; exact hrw) (by rw [eσ187, rs_v (by decide), rs_v (by decide), rs_v (by decide)]; exact h3v) (by intro k h9; have h8 := cl_eq (j := x6_159) (by omega); rw [eσ187, rs_self]; unfold upd; by_cases hq : k = (x6_159).toNatClampNeg; rw [if_pos hq, f103, hq]; rw [if_neg hq]; exact hcp k (by omega)) hI hP hH hS (lv_sub hl [1, 2, 3, 4, 5, 0] rfl)
              exact cut_85_159 _ 0 σ158 _ _ ls (Nat.lt_succ_self _) (by omega) (by rw [eσ158, rs_v (by decide), eσ157, rs_v (by decide), eσ156, rs_v (by decide)]) (by rw [eσ158, rs_v (by decide), eσ157, rs_v (by decide), eσ156, rs_v (by decide)]) (by refine ⟨?_, ?_, ?_⟩; rw [eσ158, rs_v (by decide), eσ157, rs_v (by decide), eσ156, rs_self]; rw [eσ158, rs_v (by decide), eσ157, rs_self]; rw [eσ158, rs_self]; exact hm9) (by intro k h9; exact absurd h9 (by omega)) hI hP hH hS (lv_sub hl [2, 3, 4, 5, 6, 0] rfl)
  · have j1 := t_eq c1
    refine lv_iconst (v := 0) S.1 S.2.1 dX5_goes_5 (by decide) ?_
    refine lv_goto (tgt := 18) S.1 S.2.1 dX5_goes_6 (by decide) ?_
    refine lv_iadd S.1 S.2.1 dX5_goes_18 ?_
    refine lv_topi (fun v189 e189 => ?_)
    have i189 : v189.toInt = t.toInt + (0 : Int32).toInt := i_add e189 (by omega) (by omega)
    refine lv_istore (lv' := [(5, .int v189), (0, .ref (L 0 0)), (1, .int m9), (2, .int a), (3, .int t), (4, .int b)]) S.1 S.2.1 dX5_goes_19 hl (by decide) rfl (fun ls hl => ?_)
    have hm9 : v189.toInt = ezTot (wkC (σ 27 0)) (mnC (σ 28 0)) pz := by first | exact gT0 hp5 (by omega) (by omega) | exact gT1 hp5 (by omega) (by rw [i189, e3, ix9z i2 (by omega)])
    refine lv_iload S.1 S.2.1 dX5_goes_21 (lv_at hl 0 rfl) ?_
    refine lv_aload_n S.1 S.2.1 dX5_goes_23 rfl (lv_at hl 1 rfl) ?_
    refine rM_0_37 S hnX5 K hH (mG wd_379) dX5_goes_24 ?_
    refine lv_topi (fun v190 e190 => ?_)
    have b190 : 0 ≤ v190.toInt ∧ v190.toInt ≤ 500 := by rw [e190]; exact hI.1 37 0 0
    have f24 : v190.toInt = (σ 37 0 0).toInt := by rw [e190]
    refine lv_icmp_gt (tgt := 111) S.1 S.2.1 dX5_goes_27 (by decide) (fun c191 => ?_) (fun c191 => ?_)
    · have j191 := t_lt c191
      refine lv_iconst (v := 1) S.1 S.2.1 dX5_goes_111 (by decide) ?_
      refine lv_istore (lv' := [(6, .int 1), (5, .int v189), (0, .ref (L 0 0)), (1, .int m9), (2, .int a), (3, .int t), (4, .int b)]) S.1 S.2.1 dX5_goes_112 hl (by decide) rfl (fun ls hl => ?_)
      have cut_114_192 : ∀ (n : Nat) (x6_192 : Int32) (σ_192 : QS) (H : Heap) (locs : List Loc) (ls : Array Slot), (9 - x6_192.toInt).toNat < n → 1 ≤ x6_192.toInt ∧ x6_192.toInt ≤ 9 → (σ_192 33 = σ 33) → (∀ k : Nat, (k : Int) < m9.toInt → σ_192 30 0 k = σ 30 0 k) → (gR σ_192 (fun q => ezLt q (pz ++ [x6_192.toNatClampNeg]))) → InvM σ_192 → Keep [34, 35, 36, 31, 30, 33] σ σ_192 → hW cntM gM D B L σ_192 τ H → va_S A s.heap H locs → lv_has ls 8 [(0, .ref (L 0 0)), (1, .int m9), (2, .int a), (3, .int t), (4, .int b), (6, .int x6_192)] → W p l e { frames := fr + 1, cells := 0, slots := 0, locals := 8 + (8 + 11) + lo } s m [.ref (L 0 0), .int m9, .int a, .int t, .int b].toArray below meth c H locs 0 0 (MQ below (QcW cntM gM D B L A (pV (fun σ' τ' => InvM σ' ∧ Keep [34, 35, 36, 31, 30, 33] σ σ' ∧ τ' = τ ∧ (σ' 33 = σ 33 ∧ (∀ k : Nat, (k : Int) < m9.toInt → σ' 30 0 k = σ 30 0 k) ∧ gR σ' (fun q => ezLt q (pz ++ [9])))))) [.ref (L 0 0), .int m9, .int a, .int t, .int b].toArray s 0 0 A) (F0 m 114 ls []) := by
        intro n
        induction n with
        | zero => intro x6_192 σ_192 H locs ls hm; exact absurd hm (Nat.not_lt_zero _)
        | succ n ih192 =>
          intro x6_192 σ_192 H locs ls hm192 h192_0 hbe hrk hrr hI hP hH hS hl
          refine lv_iload S.1 S.2.1 dX5_goes_114 (lv_at hl 5 rfl) ?_
          refine lv_bipush (v := 9) S.1 S.2.1 dX5_goes_116 (by decide) ?_
          refine lv_icmp_ge (tgt := 228) S.1 S.2.1 dX5_goes_118 (by decide) (fun c193 => ?_) (fun c193 => ?_)
          · have j193 := t_le c193
            refine cW_vret S hr hk hH hS ?_ dX5_goes_228
            exact ⟨rfl, hI, hP, rfl, by refine ⟨hbe, hrk, ?_⟩; have h9 : x6_192.toNatClampNeg = 9 := (by have h8 := cl_eq (j := x6_192) (by omega); omega); rw [h9] at hrr; exact hrr⟩
          · have j193 := t_nle c193
            refine lv_iload_n S.1 S.2.1 dX5_goes_121 rfl (lv_at hl 3 rfl) ?_
            refine lv_aload_n S.1 S.2.1 dX5_goes_122 rfl (lv_at hl 0 rfl) ?_
            refine rM_0_27 S hnX5 K hH (mG wd_328) dX5_goes_123 ?_
            refine lv_bipush (v := 9) S.1 S.2.1 dX5_goes_126 (by decide) ?_
            refine lv_iload_n S.1 S.2.1 dX5_goes_128 rfl (lv_at hl 2 rfl) ?_
            refine lv_imul S.1 S.2.1 dX5_goes_129 ?_
            refine lv_topi (fun v194 e194 => ?_)
            have i194 : v194.toInt = 9 * a.toInt := i_mulcl e194 (by decide) (by omega) (by omega)
            refine lv_iload S.1 S.2.1 dX5_goes_130 (lv_at hl 5 rfl) ?_
            refine lv_iadd S.1 S.2.1 dX5_goes_132 ?_
            refine lv_topi (fun v195 e195 => ?_)
            have i195 : v195.toInt = v194.toInt + x6_192.toInt := i_add e195 (by omega) (by omega)
            refine lM_27 S K hH (vin (by omega) (by omega)) dX5_goes_133 ?_
            refine lv_topi (fun v196 e196 => ?_)
            have b196 : 0 ≤ v196.toInt ∧ v196.toInt ≤ 60 := by rw [e196]; exact hI.1 27 0 v195.toNatClampNeg
            refine lv_iadd S.1 S.2.1 dX5_goes_134 ?_
            refine lv_topi (fun v197 e197 => ?_)
            have i197 : v197.toInt = t.toInt + v196.toInt := i_add e197 (by omega) (by omega)
            refine lv_aload_n S.1 S.2.1 dX5_goes_135 rfl (lv_at hl 0 rfl) ?_
            refine rM_0_28 S hnX5 K hH (mG wd_329) dX5_goes_136 ?_
            refine lv_iload S.1 S.2.1 dX5_goes_139 (lv_at hl 5 rfl) ?_
            refine lM_28 S K hH (vin (by omega) (by omega)) dX5_goes_141 ?_
            refine lv_topi (fun v198 e198 => ?_)
            have b198 : 0 ≤ v198.toInt ∧ v198.toInt ≤ 60 := by rw [e198]; exact hI.1 28 0 x6_192.toNatClampNeg
            refine lv_iadd S.1 S.2.1 dX5_goes_142 ?_
            refine lv_topi (fun v199 e199 => ?_)
            have i199 : v199.toInt = v197.toInt + v198.toInt := i_add e199 (by omega) (by omega)
            refine lv_istore (lv' := [(7, .int v199), (0, .ref (L 0 0)), (1, .int m9), (2, .int a), (3, .int t), (4, .int b), (6, .int x6_192)]) S.1 S.2.1 dX5_goes_143 hl (by decide) rfl (fun ls hl => ?_)
            have ht9 : v199.toInt = t.toInt + (σ 27 0 (9 * a.toNatClampNeg + x6_192.toNatClampNeg)).toInt + (σ 28 0 x6_192.toNatClampNeg).toInt := by rw [i199, i197, e196, e198, hP 27 (by decide), hP 28 (by decide), ix9 i194 i195 (by omega) (by omega)]
            refine lv_aload_n S.1 S.2.1 dX5_goes_145 rfl (lv_at hl 1 rfl) ?_
            refine rM_0_32 S hnX5 K hH (mG wd_333) dX5_goes_146 ?_
            refine lv_iload S.1 S.2.1 dX5_goes_149 (lv_at hl 6 rfl) ?_
            refine lM_32 S K hH (vin (by omega) (by omega)) dX5_goes_151 ?_
            refine lv_topi (fun v200 e200 => ?_)
            have f151 : v200 = σ 32 0 x6_192.toNatClampNeg := by rw [e200, hP 32 (by decide)]
            refine lv_if_eq (tgt := 222) S.1 S.2.1 dX5_goes_152 (by decide) (fun c201 => ?_) (fun c201 => ?_)
            · have j201 := t_eq c201
              obtain ⟨v202, e202⟩ : ∃ y_9 : Int32, y_9 = x6_192 + 1 := ⟨_, rfl⟩
              have i202 : v202.toInt = x6_192.toInt + 1 := i_addc e202 (by decide) (by omega) (by omega)
              refine lv_iinc (v := v202) (lv' := [(6, .int v202), (7, .int v199), (0, .ref (L 0 0)), (1, .int m9), (2, .int a), (3, .int t), (4, .int b)]) S.1 S.2.1 dX5_goes_222 hl (k := 6) rfl (by rw [e202]; rfl) (by decide) rfl (fun ls hl => ?_)
              refine lv_goto (tgt := 114) S.1 S.2.1 dX5_goes_225 (by decide) ?_
              exact ih192 v202 σ_192 _ _ ls (by omega) (by omega) (by first | exact hbe9 | exact hbe) (by first | exact hrk9 | exact hrk) (by first | exact gWent hgw (by omega) i202 | exact gSkip hIv hp5 (fun v hv => hP v (fun z => by revert hv z; revert v; decide)) hrr (by omega) (by omega) i202 (Or.inl (f151.symm.trans (by assumption))) | exact gSkip hIv hp5 (fun v hv => hP v (fun z => by revert hv z; revert v; decide)) hrr (by omega) (by omega) i202 (Or.inr (Or.inl (fun z => absurd (f161.trans z) (by assumption)))) | exact gSkip hIv hp5 (fun v hv => hP v (fun z => by revert hv z; revert v; decide)) hrr (by omega) (by omega) i202 (Or.inr (Or.inr (by rw [← ht9]; omega)))) hI hP hH hS (lv_sub hl [2, 3, 4, 5, 6, 0] rfl)
            · have j201 := t_neq c201
              refine lv_aload_n S.1 S.2.1 dX5_goes_155 rfl (lv_at hl 1 rfl) ?_
              refine rM_0_33 S hnX5 K hH (mG wd_334) dX5_goes_156 ?_
              refine lv_iload S.1 S.2.1 dX5_goes_159 (lv_at hl 6 rfl) ?_
              refine lM_33 S K hH (vin (by omega) (by omega)) dX5_goes_161 ?_
              refine lv_topi (fun v203 e203 => ?_)
              have f161 : v203 = σ 33 0 x6_192.toNatClampNeg := by rw [e203, hbe]
              refine lv_if_ne (tgt := 222) S.1 S.2.1 dX5_goes_162 (by decide) (fun c204 => ?_) (fun c204 => ?_)
              · have j204 := t_neq c204
                obtain ⟨v205, e205⟩ : ∃ y_9 : Int32, y_9 = x6_192 + 1 := ⟨_, rfl⟩
                have i205 : v205.toInt = x6_192.toInt + 1 := i_addc e205 (by decide) (by omega) (by omega)
                refine lv_iinc (v := v205) (lv' := [(6, .int v205), (7, .int v199), (0, .ref (L 0 0)), (1, .int m9), (2, .int a), (3, .int t), (4, .int b)]) S.1 S.2.1 dX5_goes_222 hl (k := 6) rfl (by rw [e205]; rfl) (by decide) rfl (fun ls hl => ?_)
                refine lv_goto (tgt := 114) S.1 S.2.1 dX5_goes_225 (by decide) ?_
                exact ih192 v205 σ_192 _ _ ls (by omega) (by omega) (by first | exact hbe9 | exact hbe) (by first | exact hrk9 | exact hrk) (by first | exact gWent hgw (by omega) i205 | exact gSkip hIv hp5 (fun v hv => hP v (fun z => by revert hv z; revert v; decide)) hrr (by omega) (by omega) i205 (Or.inl (f151.symm.trans (by assumption))) | exact gSkip hIv hp5 (fun v hv => hP v (fun z => by revert hv z; revert v; decide)) hrr (by omega) (by omega) i205 (Or.inr (Or.inl (fun z => absurd (f161.trans z) (by assumption)))) | exact gSkip hIv hp5 (fun v hv => hP v (fun z => by revert hv z; revert v; decide)) hrr (by omega) (by omega) i205 (Or.inr (Or.inr (by rw [← ht9]; omega)))) hI hP hH hS (lv_sub hl [2, 3, 4, 5, 6, 0] rfl)
              · have j204 := t_eq c204
                refine lv_iload S.1 S.2.1 dX5_goes_165 (lv_at hl 0 rfl) ?_
                refine lv_aload_n S.1 S.2.1 dX5_goes_167 rfl (lv_at hl 1 rfl) ?_
                refine rM_0_37 S hnX5 K hH (mG wd_379) dX5_goes_168 ?_
                refine lv_topi (fun v206 e206 => ?_)
                have b206 : 0 ≤ v206.toInt ∧ v206.toInt ≤ 500 := by rw [e206]; exact hI.1 37 0 0
                have f168 : v206.toInt = (σ 37 0 0).toInt := by rw [e206, hP 37 (by decide)]
                refine lv_icmp_le (tgt := 177) S.1 S.2.1 dX5_goes_171 (by decide) (fun c207 => ?_) (fun c207 => ?_)
                · have j207 := t_le c207
                  refine lv_aload_n S.1 S.2.1 dX5_goes_177 rfl (lv_at hl 1 rfl) ?_
                  refine rM_0_33 S hnX5 K hH (mG wd_334) dX5_goes_178 ?_
                  refine lv_iload S.1 S.2.1 dX5_goes_181 (lv_at hl 6 rfl) ?_
                  refine lv_iconst (v := 1) S.1 S.2.1 dX5_goes_183 (by decide) ?_
                  refine sM_33 S K hH hS (vin (by omega) (by omega)) dX5_goes_184 (fun H locs hH hS => ?_)
                  obtain ⟨σ208, eσ208⟩ : ∃ z_9 : QS, z_9 = rs σ_192 33 0 (upd (σ_192 33 0) x6_192.toNatClampNeg (vp_nar .boolean 1)) := ⟨_, rfl⟩
                  rw [← eσ208] at hH
                  have hI := InvM_a eσ208 hI (by decide) (any32 _)
                  have hP := Keep_w eσ208 hP (by decide)
                  refine lv_aload_n S.1 S.2.1 dX5_goes_185 rfl (lv_at hl 1 rfl) ?_
                  refine rM_0_30 S hnX5 K hH (mG wd_331) dX5_goes_186 ?_
                  refine lv_iload_n S.1 S.2.1 dX5_goes_189 rfl (lv_at hl 2 rfl) ?_
                  refine lv_iload S.1 S.2.1 dX5_goes_190 (lv_at hl 6 rfl) ?_
                  refine sM_30 S K hH hS (vin (by omega) (by omega)) dX5_goes_192 (fun H locs hH hS => ?_)
                  obtain ⟨σ209, eσ209⟩ : ∃ z_9 : QS, z_9 = rs σ208 30 0 (upd (σ208 30 0) m9.toNatClampNeg x6_192) := ⟨_, rfl⟩
                  rw [← eσ209] at hH
                  have hI := InvM_a eσ209 hI (by decide) (any32 _)
                  have hP := Keep_w eσ209 hP (by decide)
                  refine lv_aload_n S.1 S.2.1 dX5_goes_193 rfl (lv_at hl 1 rfl) ?_
                  refine lv_iload_n S.1 S.2.1 dX5_goes_194 rfl (lv_at hl 2 rfl) ?_
                  refine lv_iconst (v := 1) S.1 S.2.1 dX5_goes_195 (by decide) ?_
                  refine lv_iadd S.1 S.2.1 dX5_goes_196 ?_
                  refine lv_topi (fun v210 e210 => ?_)
                  have i210 : v210.toInt = m9.toInt + (1 : Int32).toInt := i_add e210 (by omega) (by omega)
                  refine lv_iload S.1 S.2.1 dX5_goes_197 (lv_at hl 6 rfl) ?_
                  refine lv_iload S.1 S.2.1 dX5_goes_199 (lv_at hl 0 rfl) ?_
                  refine lv_iload S.1 S.2.1 dX5_goes_201 (lv_at hl 5 rfl) ?_
                  refine lv_aload_n S.1 S.2.1 dX5_goes_203 rfl (lv_at hl 1 rfl) ?_
                  refine rM_0_29 S hnX5 K hH (mG wd_330) dX5_goes_204 ?_
                  refine lv_iload S.1 S.2.1 dX5_goes_207 (lv_at hl 6 rfl) ?_
                  refine lM_29 S K hH (vin (by omega) (by omega)) dX5_goes_209 ?_
                  refine lv_topi (fun v211 e211 => ?_)
                  have b211 : 0 ≤ v211.toInt ∧ v211.toInt ≤ 100 := by rw [e211]; exact hI.1 29 0 x6_192.toNatClampNeg
                  have f209 : v211.toInt = (σ 29 0 x6_192.toNatClampNeg).toInt := by rw [e211, hP 29 (by decide)]
                  refine lv_iadd S.1 S.2.1 dX5_goes_210 ?_
                  refine lv_topi (fun v212 e212 => ?_)
                  have i212 : v212.toInt = b.toInt + v211.toInt := i_add e212 (by omega) (by omega)
                  have hgd9 : gP σ209 (pz ++ [x6_192.toNatClampNeg]) v210 x6_192 v199 v212 := gDown hp5 (fun v hv => hP v (fun z => by revert hv z; revert v; decide)) (by omega) (by omega) (fun z => absurd (f151.trans z) (by assumption)) (f161.symm.trans (by assumption)) (by omega) ht9 (by rw [i212, f209]) (fun c => by rw [eσ209, rs_v (by decide), eσ208, rs_self, hbe]; rfl) (fun k h9 => by rw [eσ209, rs_self, eσ208, rs_v (by decide)]; unfold upd; have h8 := cl_eq (j := m9) (by omega); by_cases hq : k = m9.toNatClampNeg; rw [if_pos hq, if_pos (by omega)]; rw [if_neg hq, if_neg (by omega)]; exact hrk k (by omega))
                  have hgr9 : gR σ209 (fun q => ezLt q (pz ++ [x6_192.toNatClampNeg])) := gR_of hrr (fun v hv => by rw [eσ209, rs_v (by intro z; subst z; revert hv; decide), eσ208, rs_v (by intro z; subst z; revert hv; decide)])
                  have hlen9 : 0 ≤ v210.toInt ∧ v210.toInt ≤ 8 := by have h9 := isP_len _ hgd9.1.1 (fun s hs => ⟨(hgd9.1.2 s hs).1, (hgd9.1.2 s hs).2.1⟩) 8 (fun s hs => (hgd9.1.2 s hs).2.1); have h8 := hgd9.2.1; omega
                  refine cW_bv (cW_V (n := 4) (As := [.int v210, .int x6_192, .int v199, .int v212]) (rest := []) (k := 0) (i := 0) S K hH (by decide) rfl rfl (IH σ209 τ v210 x6_192 v199 v212 (pz ++ [x6_192.toNatClampNeg]) (hlen9) (by omega) (by omega) (by omega) hI (hgd9) (hgr9) (by omega) (by omega)) gX5_goes_X5_goes rfl hdV_X5_goes ⟨Nat.le_refl _, Nat.le_refl _⟩ rfl hl.1 (Nat.le_of_ble_eq_true rfl) dX5_goes_211) hS (fun σ213 τ213 H locs q213 hH hS => ?_)
                  obtain ⟨hI, hP213, hτ213, q213⟩ := q213
                  rw [hτ213] at hH
                  have hP := Keep_t hP hP213 (by decide)
                  refine lv_aload_n S.1 S.2.1 dX5_goes_214 rfl (lv_at hl 1 rfl) ?_
                  refine rM_0_33 S hnX5 K hH (mG wd_334) dX5_goes_215 ?_
                  refine lv_iload S.1 S.2.1 dX5_goes_218 (lv_at hl 6 rfl) ?_
                  refine lv_iconst (v := 0) S.1 S.2.1 dX5_goes_220 (by decide) ?_
                  refine sM_33 S K hH hS (vin (by omega) (by omega)) dX5_goes_221 (fun H locs hH hS => ?_)
                  obtain ⟨σ214, eσ214⟩ : ∃ z_9 : QS, z_9 = rs σ213 33 0 (upd (σ213 33 0) x6_192.toNatClampNeg (vp_nar .boolean 0)) := ⟨_, rfl⟩
                  rw [← eσ214] at hH
                  have hI := InvM_a eσ214 hI (by decide) (any32 _)
                  have hP := Keep_w eσ214 hP (by decide)
                  have hbe9 : σ214 33 = σ 33 := (been_back eσ208 (σ2 := σ209) (by rw [eσ209, rs_v (by decide)]) (q213).1 eσ214 e203 (by omega)).trans hbe
                  have hrk9 : ∀ k : Nat, (k : Int) < m9.toInt → σ214 30 0 k = σ 30 0 k := fun k h9 => by rw [eσ214, rs_v (by decide), (q213).2.1 k (by omega), eσ209, rs_self, eσ208, rs_v (by decide)]; unfold upd; have h8 := cl_eq (j := m9) (by omega); rw [if_neg (by omega)]; exact hrk k h9
                  have hgw : gR σ214 (fun q => ezLt q ((pz ++ [x6_192.toNatClampNeg]) ++ [9])) := gR_of (q213).2.2 (fun v hv => by rw [eσ214, rs_v (by intro z; subst z; revert hv; decide)])
                  obtain ⟨v215, e215⟩ : ∃ y_9 : Int32, y_9 = x6_192 + 1 := ⟨_, rfl⟩
                  have i215 : v215.toInt = x6_192.toInt + 1 := i_addc e215 (by decide) (by omega) (by omega)
                  refine lv_iinc (v := v215) (lv' := [(6, .int v215), (7, .int v199), (0, .ref (L 0 0)), (1, .int m9), (2, .int a), (3, .int t), (4, .int b)]) S.1 S.2.1 dX5_goes_222 hl (k := 6) rfl (by rw [e215]; rfl) (by decide) rfl (fun ls hl => ?_)
                  refine lv_goto (tgt := 114) S.1 S.2.1 dX5_goes_225 (by decide) ?_
                  exact ih192 v215 σ214 _ _ ls (by omega) (by omega) (by first | exact hbe9 | exact hbe) (by first | exact hrk9 | exact hrk) (by first | exact gWent hgw (by omega) i215 | exact gSkip hIv hp5 (fun v hv => hP v (fun z => by revert hv z; revert v; decide)) hrr (by omega) (by omega) i215 (Or.inl (f151.symm.trans (by assumption))) | exact gSkip hIv hp5 (fun v hv => hP v (fun z => by revert hv z; revert v; decide)) hrr (by omega) (by omega) i215 (Or.inr (Or.inl (fun z => absurd (f161.trans z) (by assumption)))) | exact gSkip hIv hp5 (fun v hv => hP v (fun z => by revert hv z; revert v; decide)) hrr (by omega) (by omega) i215 (Or.inr (Or.inr (by rw [← ht9]; omega)))) hI hP hH hS (lv_sub hl [2, 3, 4, 5, 6, 0] rfl)
                · have j207 := t_nle c207
                  refine lv_goto (tgt := 222) S.1 S.2.1 dX5_goes_174 (by decide) ?_
                  obtain ⟨v216, e216⟩ : ∃ y_9 : Int32, y_9 = x6_192 + 1 := ⟨_, rfl⟩
                  have i216 : v216.toInt = x6_192.toInt + 1 := i_addc e216 (by decide) (by omega) (by omega)
                  refine lv_iinc (v := v216) (lv' := [(6, .int v216), (7, .int v199), (0, .ref (L 0 0)), (1, .int m9), (2, .int a), (3, .int t), (4, .int b)]) S.1 S.2.1 dX5_goes_222 hl (k := 6) rfl (by rw [e216]; rfl) (by decide) rfl (fun ls hl => ?_)
                  refine lv_goto (tgt := 114) S.1 S.2.1 dX5_goes_225 (by decide) ?_
                  exact ih192 v216 σ_192 _ _ ls (by omega) (by omega) (by first | exact hbe9 | exact hbe) (by first | exact hrk9 | exact hrk) (by first | exact gWent hgw (by omega) i216 | exact gSkip hIv hp5 (fun v hv => hP v (fun z => by revert hv z; revert v; decide)) hrr (by omega) (by omega) i216 (Or.inl (f151.symm.trans (by assumption))) | exact gSkip hIv hp5 (fun v hv => hP v (fun z => by revert hv z; revert v; decide)) hrr (by omega) (by omega) i216 (Or.inr (Or.inl (fun z => absurd (f161.trans z) (by assumption)))) | exact gSkip hIv hp5 (fun v hv => hP v (fun z => by revert hv z; revert v; decide)) hrr (by omega) (by omega) i216 (Or.inr (Or.inr (by rw [← ht9]; omega)))) hI hP hH hS (lv_sub hl [2, 3, 4, 5, 6, 0] rfl)
      exact cut_114_192 _ 1 σ _ _ ls (Nat.lt_succ_self _) (by omega) (by first | rfl | exact hbe) (by first | (intro k h9; rfl) | (intro k h9; rw [hrw])) (by rw [show (1 : Int32).toNatClampNeg = 1 by decide]; first | exact gOld hp5 hp6 (by omega) | exact gNew hp5 hp6 (fun v hv => hP v (fun z => by revert hv z; revert v; decide)) (by omega) (by omega) h3v.1 h3v.2.1 h3v.2.2 (fun k h9 => hcp k (by omega))) hI hP hH hS (lv_sub hl [2, 3, 4, 5, 6, 0] rfl)
    · have j191 := t_nlt c191
      refine lv_aload_n S.1 S.2.1 dX5_goes_30 rfl (lv_at hl 1 rfl) ?_
      refine rM_0_34 S hnX5 K hH (mG wd_380) dX5_goes_31 ?_
      refine lv_topi (fun v217 e217 => ?_)
      have b217 : (-1) ≤ v217.toInt ∧ v217.toInt ≤ 8 := by rw [e217]; exact hI.1 34 0 0
      have f31 : v217.toInt = (σ 34 0 0).toInt := by rw [e217]
      refine lv_iconst (v := (-1)) S.1 S.2.1 dX5_goes_34 (by decide) ?_
      refine lv_icmp_eq (tgt := 65) S.1 S.2.1 dX5_goes_35 (by decide) (fun c218 => ?_) (fun c218 => ?_)
      · have j218 := t_eq c218
        refine lv_aload_n S.1 S.2.1 dX5_goes_65 rfl (lv_at hl 1 rfl) ?_
        refine lv_iload_n S.1 S.2.1 dX5_goes_66 rfl (lv_at hl 2 rfl) ?_
        refine pM_0_34 S hnX5 K hH hS (mG wd_380) dX5_goes_67 (fun H locs hH hS => ?_)
        obtain ⟨σ219, eσ219⟩ : ∃ z_9 : QS, z_9 = rs σ 34 0 (fun _ => m9) := ⟨_, rfl⟩
        rw [← eσ219] at hH
        have hI := InvM_f eσ219 hI (by decide) (show ((-1) : Int) ≤ m9.toInt ∧ m9.toInt ≤ 8 by omega)
        have hP := Keep_w eσ219 hP (by decide)
        refine lv_aload_n S.1 S.2.1 dX5_goes_70 rfl (lv_at hl 1 rfl) ?_
        refine lv_iload S.1 S.2.1 dX5_goes_71 (lv_at hl 5 rfl) ?_
        refine pM_0_35 S hnX5 K hH hS (mG wd_381) dX5_goes_73 (fun H locs hH hS => ?_)
        obtain ⟨σ220, eσ220⟩ : ∃ z_9 : QS, z_9 = rs σ219 35 0 (fun _ => b) := ⟨_, rfl⟩
        rw [← eσ220] at hH
        have hI := InvM_f eσ220 hI (by decide) (any32 _)
        have hP := Keep_w eσ220 hP (by decide)
        refine lv_aload_n S.1 S.2.1 dX5_goes_76 rfl (lv_at hl 1 rfl) ?_
        refine lv_iload S.1 S.2.1 dX5_goes_77 (lv_at hl 0 rfl) ?_
        refine pM_0_36 S hnX5 K hH hS (mG wd_382) dX5_goes_79 (fun H locs hH hS => ?_)
        obtain ⟨σ221, eσ221⟩ : ∃ z_9 : QS, z_9 = rs σ220 36 0 (fun _ => v189) := ⟨_, rfl⟩
        rw [← eσ221] at hH
        have hI := InvM_f eσ221 hI (by decide) (any32 _)
        have hP := Keep_w eσ221 hP (by decide)
        refine lv_iconst (v := 0) S.1 S.2.1 dX5_goes_82 (by decide) ?_
        refine lv_istore (lv' := [(6, .int 0), (5, .int v189), (0, .ref (L 0 0)), (1, .int m9), (2, .int a), (3, .int t), (4, .int b)]) S.1 S.2.1 dX5_goes_83 hl (by decide) rfl (fun ls hl => ?_)
        have cut_85_222 : ∀ (n : Nat) (x6_222 : Int32) (σ_222 : QS) (H : Heap) (locs : List Loc) (ls : Array Slot), (8 - x6_222.toInt).toNat < n → 0 ≤ x6_222.toInt ∧ x6_222.toInt ≤ 8 → (σ_222 33 = σ 33) → (σ_222 30 = σ 30) → ((σ_222 34 0 0).toInt = m9.toInt ∧ (σ_222 35 0 0).toInt = b.toInt ∧ (σ_222 36 0 0).toInt = ezTot (wkC (σ 27 0)) (mnC (σ 28 0)) pz) → (∀ k : Nat, (k : Int) < x6_222.toInt → σ_222 31 0 k = σ 30 0 k) → InvM σ_222 → Keep [34, 35, 36, 31, 30, 33] σ σ_222 → hW cntM gM D B L σ_222 τ H → va_S A s.heap H locs → lv_has ls 8 [(0, .ref (L 0 0)), (1, .int m9), (2, .int a), (3, .int t), (4, .int b), (6, .int x6_222)] → W p l e { frames := fr + 1, cells := 0, slots := 0, locals := 8 + (8 + 11) + lo } s m [.ref (L 0 0), .int m9, .int a, .int t, .int b].toArray below meth c H locs 0 0 (MQ below (QcW cntM gM D B L A (pV (fun σ' τ' => InvM σ' ∧ Keep [34, 35, 36, 31, 30, 33] σ σ' ∧ τ' = τ ∧ (σ' 33 = σ 33 ∧ (∀ k : Nat, (k : Int) < m9.toInt → σ' 30 0 k = σ 30 0 k) ∧ gR σ' (fun q => ezLt q (pz ++ [9])))))) [.ref (L 0 0), .int m9, .int a, .int t, .int b].toArray s 0 0 A) (F0 m 85 ls []) := by
          intro n
          induction n with
          | zero => intro x6_222 σ_222 H locs ls hm; exact absurd hm (Nat.not_lt_zero _)
          | succ n ih222 =>
            intro x6_222 σ_222 H locs ls hm222 h222_0 hbe hrw h3v hcp hI hP hH hS hl
            refine lv_iload S.1 S.2.1 dX5_goes_85 (lv_at hl 5 rfl) ?_
            refine lv_iload_n S.1 S.2.1 dX5_goes_87 rfl (lv_at hl 1 rfl) ?_
            refine lv_icmp_ge (tgt := 111) S.1 S.2.1 dX5_goes_88 (by decide) (fun c223 => ?_) (fun c223 => ?_)
            · have j223 := t_le c223
              refine lv_iconst (v := 1) S.1 S.2.1 dX5_goes_111 (by decide) ?_
              refine lv_istore (lv' := [(6, .int 1), (0, .ref (L 0 0)), (1, .int m9), (2, .int a), (3, .int t), (4, .int b)]) S.1 S.2.1 dX5_goes_112 hl (by decide) rfl (fun ls hl => ?_)
              have cut_114_224 : ∀ (n : Nat) (x6_224 : Int32) (σ_224 : QS) (H : Heap) (locs : List Loc) (ls : Array Slot), (9 - x6_224.toInt).toNat < n → 1 ≤ x6_224.toInt ∧ x6_224.toInt ≤ 9 → (σ_224 33 = σ 33) → (∀ k : Nat, (k : Int) < m9.toInt → σ_224 30 0 k = σ 30 0 k) → (gR σ_224 (fun q => ezLt q (pz ++ [x6_224.toNatClampNeg]))) → InvM σ_224 → Keep [34, 35, 36, 31, 30, 33] σ σ_224 → hW cntM gM D B L σ_224 τ H → va_S A s.heap H locs → lv_has ls 8 [(0, .ref (L 0 0)), (1, .int m9), (2, .int a), (3, .int t), (4, .int b), (6, .int x6_224)] → W p l e { frames := fr + 1, cells := 0, slots := 0, locals := 8 + (8 + 11) + lo } s m [.ref (L 0 0), .int m9, .int a, .int t, .int b].toArray below meth c H locs 0 0 (MQ below (QcW cntM gM D B L A (pV (fun σ' τ' => InvM σ' ∧ Keep [34, 35, 36, 31, 30, 33] σ σ' ∧ τ' = τ ∧ (σ' 33 = σ 33 ∧ (∀ k : Nat, (k : Int) < m9.toInt → σ' 30 0 k = σ 30 0 k) ∧ gR σ' (fun q => ezLt q (pz ++ [9])))))) [.ref (L 0 0), .int m9, .int a, .int t, .int b].toArray s 0 0 A) (F0 m 114 ls []) := by
                intro n
                induction n with
                | zero => intro x6_224 σ_224 H locs ls hm; exact absurd hm (Nat.not_lt_zero _)
                | succ n ih224 =>
                  intro x6_224 σ_224 H locs ls hm224 h224_0 hbe hrk hrr hI hP hH hS hl
                  refine lv_iload S.1 S.2.1 dX5_goes_114 (lv_at hl 5 rfl) ?_
                  refine lv_bipush (v := 9) S.1 S.2.1 dX5_goes_116 (by decide) ?_
                  refine lv_icmp_ge (tgt := 228) S.1 S.2.1 dX5_goes_118 (by decide) (fun c225 => ?_) (fun c225 => ?_)
                  · have j225 := t_le c225
                    refine cW_vret S hr hk hH hS ?_ dX5_goes_228
                    exact ⟨rfl, hI, hP, rfl, by refine ⟨hbe, hrk, ?_⟩; have h9 : x6_224.toNatClampNeg = 9 := (by have h8 := cl_eq (j := x6_224) (by omega); omega); rw [h9] at hrr; exact hrr⟩
                  · have j225 := t_nle c225
                    refine lv_iload_n S.1 S.2.1 dX5_goes_121 rfl (lv_at hl 3 rfl) ?_
                    refine lv_aload_n S.1 S.2.1 dX5_goes_122 rfl (lv_at hl 0 rfl) ?_
                    refine rM_0_27 S hnX5 K hH (mG wd_328) dX5_goes_123 ?_
                    refine lv_bipush (v := 9) S.1 S.2.1 dX5_goes_126 (by decide) ?_
                    refine lv_iload_n S.1 S.2.1 dX5_goes_128 rfl (lv_at hl 2 rfl) ?_
                    refine lv_imul S.1 S.2.1 dX5_goes_129 ?_
                    refine lv_topi (fun v226 e226 => ?_)
                    have i226 : v226.toInt = 9 * a.toInt := i_mulcl e226 (by decide) (by omega) (by omega)
                    refine lv_iload S.1 S.2.1 dX5_goes_130 (lv_at hl 5 rfl) ?_
                    refine lv_iadd S.1 S.2.1 dX5_goes_132 ?_
                    refine lv_topi (fun v227 e227 => ?_)
                    have i227 : v227.toInt = v226.toInt + x6_224.toInt := i_add e227 (by omega) (by omega)
                    refine lM_27 S K hH (vin (by omega) (by omega)) dX5_goes_133 ?_
                    refine lv_topi (fun v228 e228 => ?_)
                    have b228 : 0 ≤ v228.toInt ∧ v228.toInt ≤ 60 := by rw [e228]; exact hI.1 27 0 v227.toNatClampNeg
                    refine lv_iadd S.1 S.2.1 dX5_goes_134 ?_
                    refine lv_topi (fun v229 e229 => ?_)
                    have i229 : v229.toInt = t.toInt + v228.toInt := i_add e229 (by omega) (by omega)
                    refine lv_aload_n S.1 S.2.1 dX5_goes_135 rfl (lv_at hl 0 rfl) ?_
                    refine rM_0_28 S hnX5 K hH (mG wd_329) dX5_goes_136 ?_
                    refine lv_iload S.1 S.2.1 dX5_goes_139 (lv_at hl 5 rfl) ?_
                    refine lM_28 S K hH (vin (by omega) (by omega)) dX5_goes_141 ?_
                    refine lv_topi (fun v230 e230 => ?_)
                    have b230 : 0 ≤ v230.toInt ∧ v230.toInt ≤ 60 := by rw [e230]; exact hI.1 28 0 x6_224.toNatClampNeg
                    refine lv_iadd S.1 S.2.1 dX5_goes_142 ?_
                    refine lv_topi (fun v231 e231 => ?_)
                    have i231 : v231.toInt = v229.toInt + v230.toInt := i_add e231 (by omega) (by omega)
                    refine lv_istore (lv' := [(7, .int v231), (0, .ref (L 0 0)), (1, .int m9), (2, .int a), (3, .int t), (4, .int b), (6, .int x6_224)]) S.1 S.2.1 dX5_goes_143 hl (by decide) rfl (fun ls hl => ?_)
                    have ht9 : v231.toInt = t.toInt + (σ 27 0 (9 * a.toNatClampNeg + x6_224.toNatClampNeg)).toInt + (σ 28 0 x6_224.toNatClampNeg).toInt := by rw [i231, i229, e228, e230, hP 27 (by decide), hP 28 (by decide), ix9 i226 i227 (by omega) (by omega)]
                    refine lv_aload_n S.1 S.2.1 dX5_goes_145 rfl (lv_at hl 1 rfl) ?_
                    refine rM_0_32 S hnX5 K hH (mG wd_333) dX5_goes_146 ?_
                    refine lv_iload S.1 S.2.1 dX5_goes_149 (lv_at hl 6 rfl) ?_
                    refine lM_32 S K hH (vin (by omega) (by omega)) dX5_goes_151 ?_
                    refine lv_topi (fun v232 e232 => ?_)
                    have f151 : v232 = σ 32 0 x6_224.toNatClampNeg := by rw [e232, hP 32 (by decide)]
                    refine lv_if_eq (tgt := 222) S.1 S.2.1 dX5_goes_152 (by decide) (fun c233 => ?_) (fun c233 => ?_)
                    · have j233 := t_eq c233
                      obtain ⟨v234, e234⟩ : ∃ y_9 : Int32, y_9 = x6_224 + 1 := ⟨_, rfl⟩
                      have i234 : v234.toInt = x6_224.toInt + 1 := i_addc e234 (by decide) (by omega) (by omega)
                      refine lv_iinc (v := v234) (lv' := [(6, .int v234), (7, .int v231), (0, .ref (L 0 0)), (1, .int m9), (2, .int a), (3, .int t), (4, .int b)]) S.1 S.2.1 dX5_goes_222 hl (k := 6) rfl (by rw [e234]; rfl) (by decide) rfl (fun ls hl => ?_)
                      refine lv_goto (tgt := 114) S.1 S.2.1 dX5_goes_225 (by decide) ?_
                      exact ih224 v234 σ_224 _ _ ls (by omega) (by omega) (by first | exact hbe9 | exact hbe) (by first | exact hrk9 | exact hrk) (by first | exact gWent hgw (by omega) i234 | exact gSkip hIv hp5 (fun v hv => hP v (fun z => by revert hv z; revert v; decide)) hrr (by omega) (by omega) i234 (Or.inl (f151.symm.trans (by assumption))) | exact gSkip hIv hp5 (fun v hv => hP v (fun z => by revert hv z; revert v; decide)) hrr (by omega) (by omega) i234 (Or.inr (Or.inl (fun z => absurd (f161.trans z) (by assumption)))) | exact gSkip hIv hp5 (fun v hv => hP v (fun z => by revert hv z; revert v; decide)) hrr (by omega) (by omega) i234 (Or.inr (Or.inr (by rw [← ht9]; omega)))) hI hP hH hS (lv_sub hl [2, 3, 4, 5, 6, 0] rfl)
                    · have j233 := t_neq c233
                      refine lv_aload_n S.1 S.2.1 dX5_goes_155 rfl (lv_at hl 1 rfl) ?_
                      refine rM_0_33 S hnX5 K hH (mG wd_334) dX5_goes_156 ?_
                      refine lv_iload S.1 S.2.1 dX5_goes_159 (lv_at hl 6 rfl) ?_
                      refine lM_33 S K hH (vin (by omega) (by omega)) dX5_goes_161 ?_
                      refine lv_topi (fun v235 e235 => ?_)
                      have f161 : v235 = σ 33 0 x6_224.toNatClampNeg := by rw [e235, hbe]
                      refine lv_if_ne (tgt := 222) S.1 S.2.1 dX5_goes_162 (by decide) (fun c236 => ?_) (fun c236 => ?_)
                      · have j236 := t_neq c236
                        obtain ⟨v237, e237⟩ : ∃ y_9 : Int32, y_9 = x6_224 + 1 := ⟨_, rfl⟩
                        have i237 : v237.toInt = x6_224.toInt + 1 := i_addc e237 (by decide) (by omega) (by omega)
                        refine lv_iinc (v := v237) (lv' := [(6, .int v237), (7, .int v231), (0, .ref (L 0 0)), (1, .int m9), (2, .int a), (3, .int t), (4, .int b)]) S.1 S.2.1 dX5_goes_222 hl (k := 6) rfl (by rw [e237]; rfl) (by decide) rfl (fun ls hl => ?_)
                        refine lv_goto (tgt := 114) S.1 S.2.1 dX5_goes_225 (by decide) ?_
                        exact ih224 v237 σ_224 _ _ ls (by omega) (by omega) (by first | exact hbe9 | exact hbe) (by first | exact hrk9 | exact hrk) (by first | exact gWent hgw (by omega) i237 | exact gSkip hIv hp5 (fun v hv => hP v (fun z => by revert hv z; revert v; decide)) hrr (by omega) (by omega) i237 (Or.inl (f151.symm.trans (by assumption))) | exact gSkip hIv hp5 (fun v hv => hP v (fun z => by revert hv z; revert v; decide)) hrr (by omega) (by omega) i237 (Or.inr (Or.inl (fun z => absurd (f161.trans z) (by assumption)))) | exact gSkip hIv hp5 (fun v hv => hP v (fun z => by revert hv z; revert v; decide)) hrr (by omega) (by omega) i237 (Or.inr (Or.inr (by rw [← ht9]; omega)))) hI hP hH hS (lv_sub hl [2, 3, 4, 5, 6, 0] rfl)
                      · have j236 := t_eq c236
                        refine lv_iload S.1 S.2.1 dX5_goes_165 (lv_at hl 0 rfl) ?_
                        refine lv_aload_n S.1 S.2.1 dX5_goes_167 rfl (lv_at hl 1 rfl) ?_
                        refine rM_0_37 S hnX5 K hH (mG wd_379) dX5_goes_168 ?_
                        refine lv_topi (fun v238 e238 => ?_)
                        have b238 : 0 ≤ v238.toInt ∧ v238.toInt ≤ 500 := by rw [e238]; exact hI.1 37 0 0
                        have f168 : v238.toInt = (σ 37 0 0).toInt := by rw [e238, hP 37 (by decide)]
                        refine lv_icmp_le (tgt := 177) S.1 S.2.1 dX5_goes_171 (by decide) (fun c239 => ?_) (fun c239 => ?_)
                        · have j239 := t_le c239
                          refine lv_aload_n S.1 S.2.1 dX5_goes_177 rfl (lv_at hl 1 rfl) ?_
                          refine rM_0_33 S hnX5 K hH (mG wd_334) dX5_goes_178 ?_
                          refine lv_iload S.1 S.2.1 dX5_goes_181 (lv_at hl 6 rfl) ?_
                          refine lv_iconst (v := 1) S.1 S.2.1 dX5_goes_183 (by decide) ?_
                          refine sM_33 S K hH hS (vin (by omega) (by omega)) dX5_goes_184 (fun H locs hH hS => ?_)
                          obtain ⟨σ240, eσ240⟩ : ∃ z_9 : QS, z_9 = rs σ_224 33 0 (upd (σ_224 33 0) x6_224.toNatClampNeg (vp_nar .boolean 1)) := ⟨_, rfl⟩
                          rw [← eσ240] at hH
                          have hI := InvM_a eσ240 hI (by decide) (any32 _)
                          have hP := Keep_w eσ240 hP (by decide)
                          refine lv_aload_n S.1 S.2.1 dX5_goes_185 rfl (lv_at hl 1 rfl) ?_
                          refine rM_0_30 S hnX5 K hH (mG wd_331) dX5_goes_186 ?_
                          refine lv_iload_n S.1 S.2.1 dX5_goes_189 rfl (lv_at hl 2 rfl) ?_
                          refine lv_iload S.1 S.2.1 dX5_goes_190 (lv_at hl 6 rfl) ?_
                          refine sM_30 S K hH hS (vin (by omega) (by omega)) dX5_goes_192 (fun H locs hH hS => ?_)
                          obtain ⟨σ241, eσ241⟩ : ∃ z_9 : QS, z_9 = rs σ240 30 0 (upd (σ240 30 0) m9.toNatClampNeg x6_224) := ⟨_, rfl⟩
                          rw [← eσ241] at hH
                          have hI := InvM_a eσ241 hI (by decide) (any32 _)
                          have hP := Keep_w eσ241 hP (by decide)
                          refine lv_aload_n S.1 S.2.1 dX5_goes_193 rfl (lv_at hl 1 rfl) ?_
                          refine lv_iload_n S.1 S.2.1 dX5_goes_194 rfl (lv_at hl 2 rfl) ?_
                          refine lv_iconst (v := 1) S.1 S.2.1 dX5_goes_195 (by decide) ?_
                          refine lv_iadd S.1 S.2.1 dX5_goes_196 ?_
                          refine lv_topi (fun v242 e242 => ?_)
                          have i242 : v242.toInt = m9.toInt + (1 : Int32).toInt := i_add e242 (by omega) (by omega)
                          refine lv_iload S.1 S.2.1 dX5_goes_197 (lv_at hl 6 rfl) ?_
                          refine lv_iload S.1 S.2.1 dX5_goes_199 (lv_at hl 0 rfl) ?_
                          refine lv_iload S.1 S.2.1 dX5_goes_201 (lv_at hl 5 rfl) ?_
                          refine lv_aload_n S.1 S.2.1 dX5_goes_203 rfl (lv_at hl 1 rfl) ?_
                          refine rM_0_29 S hnX5 K hH (mG wd_330) dX5_goes_204 ?_
                          refine lv_iload S.1 S.2.1 dX5_goes_207 (lv_at hl 6 rfl) ?_
                          refine lM_29 S K hH (vin (by omega) (by omega)) dX5_goes_209 ?_
                          refine lv_topi (fun v243 e243 => ?_)
                          have b243 : 0 ≤ v243.toInt ∧ v243.toInt ≤ 100 := by rw [e243]; exact hI.1 29 0 x6_224.toNatClampNeg
                          have f209 : v243.toInt = (σ 29 0 x6_224.toNatClampNeg).toInt := by rw [e243, hP 29 (by decide)]
                          refine lv_iadd S.1 S.2.1 dX5_goes_210 ?_
                          refine lv_topi (fun v244 e244 => ?_)
                          have i244 : v244.toInt = b.toInt + v243.toInt := i_add e244 (by omega) (by omega)
                          have hgd9 : gP σ241 (pz ++ [x6_224.toNatClampNeg]) v242 x6_224 v231 v244 := gDown hp5 (fun v hv => hP v (fun z => by revert hv z; revert v; decide)) (by omega) (by omega) (fun z => absurd (f151.trans z) (by assumption)) (f161.symm.trans (by assumption)) (by omega) ht9 (by rw [i244, f209]) (fun c => by rw [eσ241, rs_v (by decide), eσ240, rs_self, hbe]; rfl) (fun k h9 => by rw [eσ241, rs_self, eσ240, rs_v (by decide)]; unfold upd; have h8 := cl_eq (j := m9) (by omega); by_cases hq : k = m9.toNatClampNeg; rw [if_pos hq, if_pos (by omega)]; rw [if_neg hq, if_neg (by omega)]; exact hrk k (by omega))
                          have hgr9 : gR σ241 (fun q => ezLt q (pz ++ [x6_224.toNatClampNeg])) := gR_of hrr (fun v hv => by rw [eσ241, rs_v (by intro z; subst z; revert hv; decide), eσ240, rs_v (by intro z; subst z; revert hv; decide)])
                          have hlen9 : 0 ≤ v242.toInt ∧ v242.toInt ≤ 8 := by have h9 := isP_len _ hgd9.1.1 (fun s hs => ⟨(hgd9.1.2 s hs).1, (hgd9.1.2 s hs).2.1⟩) 8 (fun s hs => (hgd9.1.2 s hs).2.1); have h8 := hgd9.2.1; omega
                          refine cW_bv (cW_V (n := 4) (As := [.int v242, .int x6_224, .int v231, .int v244]) (rest := []) (k := 0) (i := 0) S K hH (by decide) rfl rfl (IH σ241 τ v242 x6_224 v231 v244 (pz ++ [x6_224.toNatClampNeg]) (hlen9) (by omega) (by omega) (by omega) hI (hgd9) (hgr9) (by omega) (by omega)) gX5_goes_X5_goes rfl hdV_X5_goes ⟨Nat.le_refl _, Nat.le_refl _⟩ rfl hl.1 (Nat.le_of_ble_eq_true rfl) dX5_goes_211) hS (fun σ245 τ245 H locs q245 hH hS => ?_)
                          obtain ⟨hI, hP245, hτ245, q245⟩ := q245
                          rw [hτ245] at hH
                          have hP := Keep_t hP hP245 (by decide)
                          refine lv_aload_n S.1 S.2.1 dX5_goes_214 rfl (lv_at hl 1 rfl) ?_
                          refine rM_0_33 S hnX5 K hH (mG wd_334) dX5_goes_215 ?_
                          refine lv_iload S.1 S.2.1 dX5_goes_218 (lv_at hl 6 rfl) ?_
                          refine lv_iconst (v := 0) S.1 S.2.1 dX5_goes_220 (by decide) ?_
                          refine sM_33 S K hH hS (vin (by omega) (by omega)) dX5_goes_221 (fun H locs hH hS => ?_)
                          obtain ⟨σ246, eσ246⟩ : ∃ z_9 : QS, z_9 = rs σ245 33 0 (upd (σ245 33 0) x6_224.toNatClampNeg (vp_nar .boolean 0)) := ⟨_, rfl⟩
                          rw [← eσ246] at hH
                          have hI := InvM_a eσ246 hI (by decide) (any32 _)
                          have hP := Keep_w eσ246 hP (by decide)
                          have hbe9 : σ246 33 = σ 33 := (been_back eσ240 (σ2 := σ241) (by rw [eσ241, rs_v (by decide)]) (q245).1 eσ246 e235 (by omega)).trans hbe
                          have hrk9 : ∀ k : Nat, (k : Int) < m9.toInt → σ246 30 0 k = σ 30 0 k := fun k h9 => by rw [eσ246, rs_v (by decide), (q245).2.1 k (by omega), eσ241, rs_self, eσ240, rs_v (by decide)]; unfold upd; have h8 := cl_eq (j := m9) (by omega); rw [if_neg (by omega)]; exact hrk k h9
                          have hgw : gR σ246 (fun q => ezLt q ((pz ++ [x6_224.toNatClampNeg]) ++ [9])) := gR_of (q245).2.2 (fun v hv => by rw [eσ246, rs_v (by intro z; subst z; revert hv; decide)])
                          obtain ⟨v247, e247⟩ : ∃ y_9 : Int32, y_9 = x6_224 + 1 := ⟨_, rfl⟩
                          have i247 : v247.toInt = x6_224.toInt + 1 := i_addc e247 (by decide) (by omega) (by omega)
                          refine lv_iinc (v := v247) (lv' := [(6, .int v247), (7, .int v231), (0, .ref (L 0 0)), (1, .int m9), (2, .int a), (3, .int t), (4, .int b)]) S.1 S.2.1 dX5_goes_222 hl (k := 6) rfl (by rw [e247]; rfl) (by decide) rfl (fun ls hl => ?_)
                          refine lv_goto (tgt := 114) S.1 S.2.1 dX5_goes_225 (by decide) ?_
                          exact ih224 v247 σ246 _ _ ls (by omega) (by omega) (by first | exact hbe9 | exact hbe) (by first | exact hrk9 | exact hrk) (by first | exact gWent hgw (by omega) i247 | exact gSkip hIv hp5 (fun v hv => hP v (fun z => by revert hv z; revert v; decide)) hrr (by omega) (by omega) i247 (Or.inl (f151.symm.trans (by assumption))) | exact gSkip hIv hp5 (fun v hv => hP v (fun z => by revert hv z; revert v; decide)) hrr (by omega) (by omega) i247 (Or.inr (Or.inl (fun z => absurd (f161.trans z) (by assumption)))) | exact gSkip hIv hp5 (fun v hv => hP v (fun z => by revert hv z; revert v; decide)) hrr (by omega) (by omega) i247 (Or.inr (Or.inr (by rw [← ht9]; omega)))) hI hP hH hS (lv_sub hl [2, 3, 4, 5, 6, 0] rfl)
                        · have j239 := t_nle c239
                          refine lv_goto (tgt := 222) S.1 S.2.1 dX5_goes_174 (by decide) ?_
                          obtain ⟨v248, e248⟩ : ∃ y_9 : Int32, y_9 = x6_224 + 1 := ⟨_, rfl⟩
                          have i248 : v248.toInt = x6_224.toInt + 1 := i_addc e248 (by decide) (by omega) (by omega)
                          refine lv_iinc (v := v248) (lv' := [(6, .int v248), (7, .int v231), (0, .ref (L 0 0)), (1, .int m9), (2, .int a), (3, .int t), (4, .int b)]) S.1 S.2.1 dX5_goes_222 hl (k := 6) rfl (by rw [e248]; rfl) (by decide) rfl (fun ls hl => ?_)
                          refine lv_goto (tgt := 114) S.1 S.2.1 dX5_goes_225 (by decide) ?_
                          exact ih224 v248 σ_224 _ _ ls (by omega) (by omega) (by first | exact hbe9 | exact hbe) (by first | exact hrk9 | exact hrk) (by first | exact gWent hgw (by omega) i248 | exact gSkip hIv hp5 (fun v hv => hP v (fun z => by revert hv z; revert v; decide)) hrr (by omega) (by omega) i248 (Or.inl (f151.symm.trans (by assumption))) | exact gSkip hIv hp5 (fun v hv => hP v (fun z => by revert hv z; revert v; decide)) hrr (by omega) (by omega) i248 (Or.inr (Or.inl (fun z => absurd (f161.trans z) (by assumption)))) | exact gSkip hIv hp5 (fun v hv => hP v (fun z => by revert hv z; revert v; decide)) hrr (by omega) (by omega) i248 (Or.inr (Or.inr (by rw [← ht9]; omega)))) hI hP hH hS (lv_sub hl [2, 3, 4, 5, 6, 0] rfl)
              exact cut_114_224 _ 1 σ_222 _ _ ls (Nat.lt_succ_self _) (by omega) (by first | rfl | exact hbe) (by first | (intro k h9; rfl) | (intro k h9; rw [hrw])) (by rw [show (1 : Int32).toNatClampNeg = 1 by decide]; first | exact gOld hp5 hp6 (by omega) | exact gNew hp5 hp6 (fun v hv => hP v (fun z => by revert hv z; revert v; decide)) (by omega) (by omega) h3v.1 h3v.2.1 h3v.2.2 (fun k h9 => hcp k (by omega))) hI hP hH hS (lv_sub hl [1, 2, 3, 4, 5, 0] rfl)
            · have j223 := t_nle c223
              exact absurd j223 (by omega)
        exact cut_85_222 _ 0 σ221 _ _ ls (Nat.lt_succ_self _) (by omega) (by rw [eσ221, rs_v (by decide), eσ220, rs_v (by decide), eσ219, rs_v (by decide)]) (by rw [eσ221, rs_v (by decide), eσ220, rs_v (by decide), eσ219, rs_v (by decide)]) (by refine ⟨?_, ?_, ?_⟩; rw [eσ221, rs_v (by decide), eσ220, rs_v (by decide), eσ219, rs_self]; rw [eσ221, rs_v (by decide), eσ220, rs_self]; rw [eσ221, rs_self]; exact hm9) (by intro k h9; exact absurd h9 (by omega)) hI hP hH hS (lv_sub hl [2, 3, 4, 5, 6, 0] rfl)
      · have j218 := t_neq c218
        refine lv_iload S.1 S.2.1 dX5_goes_38 (lv_at hl 5 rfl) ?_
        refine lv_aload_n S.1 S.2.1 dX5_goes_40 rfl (lv_at hl 1 rfl) ?_
        refine rM_0_35 S hnX5 K hH (mG wd_381) dX5_goes_41 ?_
        refine lv_topi (fun v249 e249 => ?_)
        have f41 : v249.toInt = (σ 35 0 0).toInt := by rw [e249]
        refine lv_icmp_gt (tgt := 65) S.1 S.2.1 dX5_goes_44 (by decide) (fun c250 => ?_) (fun c250 => ?_)
        · have j250 := t_lt c250
          refine lv_aload_n S.1 S.2.1 dX5_goes_65 rfl (lv_at hl 1 rfl) ?_
          refine lv_iload_n S.1 S.2.1 dX5_goes_66 rfl (lv_at hl 2 rfl) ?_
          refine pM_0_34 S hnX5 K hH hS (mG wd_380) dX5_goes_67 (fun H locs hH hS => ?_)
          obtain ⟨σ251, eσ251⟩ : ∃ z_9 : QS, z_9 = rs σ 34 0 (fun _ => m9) := ⟨_, rfl⟩
          rw [← eσ251] at hH
          have hI := InvM_f eσ251 hI (by decide) (show ((-1) : Int) ≤ m9.toInt ∧ m9.toInt ≤ 8 by omega)
          have hP := Keep_w eσ251 hP (by decide)
          refine lv_aload_n S.1 S.2.1 dX5_goes_70 rfl (lv_at hl 1 rfl) ?_
          refine lv_iload S.1 S.2.1 dX5_goes_71 (lv_at hl 5 rfl) ?_
          refine pM_0_35 S hnX5 K hH hS (mG wd_381) dX5_goes_73 (fun H locs hH hS => ?_)
          obtain ⟨σ252, eσ252⟩ : ∃ z_9 : QS, z_9 = rs σ251 35 0 (fun _ => b) := ⟨_, rfl⟩
          rw [← eσ252] at hH
          have hI := InvM_f eσ252 hI (by decide) (any32 _)
          have hP := Keep_w eσ252 hP (by decide)
          refine lv_aload_n S.1 S.2.1 dX5_goes_76 rfl (lv_at hl 1 rfl) ?_
          refine lv_iload S.1 S.2.1 dX5_goes_77 (lv_at hl 0 rfl) ?_
          refine pM_0_36 S hnX5 K hH hS (mG wd_382) dX5_goes_79 (fun H locs hH hS => ?_)
          obtain ⟨σ253, eσ253⟩ : ∃ z_9 : QS, z_9 = rs σ252 36 0 (fun _ => v189) := ⟨_, rfl⟩
          rw [← eσ253] at hH
          have hI := InvM_f eσ253 hI (by decide) (any32 _)
          have hP := Keep_w eσ253 hP (by decide)
          refine lv_iconst (v := 0) S.1 S.2.1 dX5_goes_82 (by decide) ?_
          refine lv_istore (lv' := [(6, .int 0), (5, .int v189), (0, .ref (L 0 0)), (1, .int m9), (2, .int a), (3, .int t), (4, .int b)]) S.1 S.2.1 dX5_goes_83 hl (by decide) rfl (fun ls hl => ?_)
          have cut_85_254 : ∀ (n : Nat) (x6_254 : Int32) (σ_254 : QS) (H : Heap) (locs : List Loc) (ls : Array Slot), (8 - x6_254.toInt).toNat < n → 0 ≤ x6_254.toInt ∧ x6_254.toInt ≤ 8 → (σ_254 33 = σ 33) → (σ_254 30 = σ 30) → ((σ_254 34 0 0).toInt = m9.toInt ∧ (σ_254 35 0 0).toInt = b.toInt ∧ (σ_254 36 0 0).toInt = ezTot (wkC (σ 27 0)) (mnC (σ 28 0)) pz) → (∀ k : Nat, (k : Int) < x6_254.toInt → σ_254 31 0 k = σ 30 0 k) → InvM σ_254 → Keep [34, 35, 36, 31, 30, 33] σ σ_254 → hW cntM gM D B L σ_254 τ H → va_S A s.heap H locs → lv_has ls 8 [(0, .ref (L 0 0)), (1, .int m9), (2, .int a), (3, .int t), (4, .int b), (6, .int x6_254)] → W p l e { frames := fr + 1, cells := 0, slots := 0, locals := 8 + (8 + 11) + lo } s m [.ref (L 0 0), .int m9, .int a, .int t, .int b].toArray below meth c H locs 0 0 (MQ below (QcW cntM gM D B L A (pV (fun σ' τ' => InvM σ' ∧ Keep [34, 35, 36, 31, 30, 33] σ σ' ∧ τ' = τ ∧ (σ' 33 = σ 33 ∧ (∀ k : Nat, (k : Int) < m9.toInt → σ' 30 0 k = σ 30 0 k) ∧ gR σ' (fun q => ezLt q (pz ++ [9])))))) [.ref (L 0 0), .int m9, .int a, .int t, .int b].toArray s 0 0 A) (F0 m 85 ls []) := by
            intro n
            induction n with
            | zero => intro x6_254 σ_254 H locs ls hm; exact absurd hm (Nat.not_lt_zero _)
            | succ n ih254 =>
              intro x6_254 σ_254 H locs ls hm254 h254_0 hbe hrw h3v hcp hI hP hH hS hl
              refine lv_iload S.1 S.2.1 dX5_goes_85 (lv_at hl 5 rfl) ?_
              refine lv_iload_n S.1 S.2.1 dX5_goes_87 rfl (lv_at hl 1 rfl) ?_
              refine lv_icmp_ge (tgt := 111) S.1 S.2.1 dX5_goes_88 (by decide) (fun c255 => ?_) (fun c255 => ?_)
              · have j255 := t_le c255
                refine lv_iconst (v := 1) S.1 S.2.1 dX5_goes_111 (by decide) ?_
                refine lv_istore (lv' := [(6, .int 1), (0, .ref (L 0 0)), (1, .int m9), (2, .int a), (3, .int t), (4, .int b)]) S.1 S.2.1 dX5_goes_112 hl (by decide) rfl (fun ls hl => ?_)
                have cut_114_256 : ∀ (n : Nat) (x6_256 : Int32) (σ_256 : QS) (H : Heap) (locs : List Loc) (ls : Array Slot), (9 - x6_256.toInt).toNat < n → 1 ≤ x6_256.toInt ∧ x6_256.toInt ≤ 9 → (σ_256 33 = σ 33) → (∀ k : Nat, (k : Int) < m9.toInt → σ_256 30 0 k = σ 30 0 k) → (gR σ_256 (fun q => ezLt q (pz ++ [x6_256.toNatClampNeg]))) → InvM σ_256 → Keep [34, 35, 36, 31, 30, 33] σ σ_256 → hW cntM gM D B L σ_256 τ H → va_S A s.heap H locs → lv_has ls 8 [(0, .ref (L 0 0)), (1, .int m9), (2, .int a), (3, .int t), (4, .int b), (6, .int x6_256)] → W p l e { frames := fr + 1, cells := 0, slots := 0, locals := 8 + (8 + 11) + lo } s m [.ref (L 0 0), .int m9, .int a, .int t, .int b].toArray below meth c H locs 0 0 (MQ below (QcW cntM gM D B L A (pV (fun σ' τ' => InvM σ' ∧ Keep [34, 35, 36, 31, 30, 33] σ σ' ∧ τ' = τ ∧ (σ' 33 = σ 33 ∧ (∀ k : Nat, (k : Int) < m9.toInt → σ' 30 0 k = σ 30 0 k) ∧ gR σ' (fun q => ezLt q (pz ++ [9])))))) [.ref (L 0 0), .int m9, .int a, .int t, .int b].toArray s 0 0 A) (F0 m 114 ls []) := by
                  intro n
                  induction n with
                  | zero => intro x6_256 σ_256 H locs ls hm; exact absurd hm (Nat.not_lt_zero _)
                  | succ n ih256 =>
                    intro x6_256 σ_256 H locs ls hm256 h256_0 hbe hrk hrr hI hP hH hS hl
                    refine lv_iload S.1 S.2.1 dX5_goes_114 (lv_at hl 5 rfl) ?_
                    refine lv_bipush (v := 9) S.1 S.2.1 dX5_goes_116 (by decide) ?_
                    refine lv_icmp_ge (tgt := 228) S.1 S.2.1 dX5_goes_118 (by decide) (fun c257 => ?_) (fun c257 => ?_)
                    · have j257 := t_le c257
                      refine cW_vret S hr hk hH hS ?_ dX5_goes_228
                      exact ⟨rfl, hI, hP, rfl, by refine ⟨hbe, hrk, ?_⟩; have h9 : x6_256.toNatClampNeg = 9 := (by have h8 := cl_eq (j := x6_256) (by omega); omega); rw [h9] at hrr; exact hrr⟩
                    · have j257 := t_nle c257
                      refine lv_iload_n S.1 S.2.1 dX5_goes_121 rfl (lv_at hl 3 rfl) ?_
                      refine lv_aload_n S.1 S.2.1 dX5_goes_122 rfl (lv_at hl 0 rfl) ?_
                      refine rM_0_27 S hnX5 K hH (mG wd_328) dX5_goes_123 ?_
                      refine lv_bipush (v := 9) S.1 S.2.1 dX5_goes_126 (by decide) ?_
                      refine lv_iload_n S.1 S.2.1 dX5_goes_128 rfl (lv_at hl 2 rfl) ?_
                      refine lv_imul S.1 S.2.1 dX5_goes_129 ?_
                      refine lv_topi (fun v258 e258 => ?_)
                      have i258 : v258.toInt = 9 * a.toInt := i_mulcl e258 (by decide) (by omega) (by omega)
                      refine lv_iload S.1 S.2.1 dX5_goes_130 (lv_at hl 5 rfl) ?_
                      refine lv_iadd S.1 S.2.1 dX5_goes_132 ?_
                      refine lv_topi (fun v259 e259 => ?_)
                      have i259 : v259.toInt = v258.toInt + x6_256.toInt := i_add e259 (by omega) (by omega)
                      refine lM_27 S K hH (vin (by omega) (by omega)) dX5_goes_133 ?_
                      refine lv_topi (fun v260 e260 => ?_)
                      have b260 : 0 ≤ v260.toInt ∧ v260.toInt ≤ 60 := by rw [e260]; exact hI.1 27 0 v259.toNatClampNeg
                      refine lv_iadd S.1 S.2.1 dX5_goes_134 ?_
                      refine lv_topi (fun v261 e261 => ?_)
                      have i261 : v261.toInt = t.toInt + v260.toInt := i_add e261 (by omega) (by omega)
                      refine lv_aload_n S.1 S.2.1 dX5_goes_135 rfl (lv_at hl 0 rfl) ?_
                      refine rM_0_28 S hnX5 K hH (mG wd_329) dX5_goes_136 ?_
                      refine lv_iload S.1 S.2.1 dX5_goes_139 (lv_at hl 5 rfl) ?_
                      refine lM_28 S K hH (vin (by omega) (by omega)) dX5_goes_141 ?_
                      refine lv_topi (fun v262 e262 => ?_)
                      have b262 : 0 ≤ v262.toInt ∧ v262.toInt ≤ 60 := by rw [e262]; exact hI.1 28 0 x6_256.toNatClampNeg
                      refine lv_iadd S.1 S.2.1 dX5_goes_142 ?_
                      refine lv_topi (fun v263 e263 => ?_)
                      have i263 : v263.toInt = v261.toInt + v262.toInt := i_add e263 (by omega) (by omega)
                      refine lv_istore (lv' := [(7, .int v263), (0, .ref (L 0 0)), (1, .int m9), (2, .int a), (3, .int t), (4, .int b), (6, .int x6_256)]) S.1 S.2.1 dX5_goes_143 hl (by decide) rfl (fun ls hl => ?_)
                      have ht9 : v263.toInt = t.toInt + (σ 27 0 (9 * a.toNatClampNeg + x6_256.toNatClampNeg)).toInt + (σ 28 0 x6_256.toNatClampNeg).toInt := by rw [i263, i261, e260, e262, hP 27 (by decide), hP 28 (by decide), ix9 i258 i259 (by omega) (by omega)]
                      refine lv_aload_n S.1 S.2.1 dX5_goes_145 rfl (lv_at hl 1 rfl) ?_
                      refine rM_0_32 S hnX5 K hH (mG wd_333) dX5_goes_146 ?_
                      refine lv_iload S.1 S.2.1 dX5_goes_149 (lv_at hl 6 rfl) ?_
                      refine lM_32 S K hH (vin (by omega) (by omega)) dX5_goes_151 ?_
                      refine lv_topi (fun v264 e264 => ?_)
                      have f151 : v264 = σ 32 0 x6_256.toNatClampNeg := by rw [e264, hP 32 (by decide)]
                      refine lv_if_eq (tgt := 222) S.1 S.2.1 dX5_goes_152 (by decide) (fun c265 => ?_) (fun c265 => ?_)
                      · have j265 := t_eq c265
                        obtain ⟨v266, e266⟩ : ∃ y_9 : Int32, y_9 = x6_256 + 1 := ⟨_, rfl⟩
                        have i266 : v266.toInt = x6_256.toInt + 1 := i_addc e266 (by decide) (by omega) (by omega)
                        refine lv_iinc (v := v266) (lv' := [(6, .int v266), (7, .int v263), (0, .ref (L 0 0)), (1, .int m9), (2, .int a), (3, .int t), (4, .int b)]) S.1 S.2.1 dX5_goes_222 hl (k := 6) rfl (by rw [e266]; rfl) (by decide) rfl (fun ls hl => ?_)
                        refine lv_goto (tgt := 114) S.1 S.2.1 dX5_goes_225 (by decide) ?_
                        exact ih256 v266 σ_256 _ _ ls (by omega) (by omega) (by first | exact hbe9 | exact hbe) (by first | exact hrk9 | exact hrk) (by first | exact gWent hgw (by omega) i266 | exact gSkip hIv hp5 (fun v hv => hP v (fun z => by revert hv z; revert v; decide)) hrr (by omega) (by omega) i266 (Or.inl (f151.symm.trans (by assumption))) | exact gSkip hIv hp5 (fun v hv => hP v (fun z => by revert hv z; revert v; decide)) hrr (by omega) (by omega) i266 (Or.inr (Or.inl (fun z => absurd (f161.trans z) (by assumption)))) | exact gSkip hIv hp5 (fun v hv => hP v (fun z => by revert hv z; revert v; decide)) hrr (by omega) (by omega) i266 (Or.inr (Or.inr (by rw [← ht9]; omega)))) hI hP hH hS (lv_sub hl [2, 3, 4, 5, 6, 0] rfl)
                      · have j265 := t_neq c265
                        refine lv_aload_n S.1 S.2.1 dX5_goes_155 rfl (lv_at hl 1 rfl) ?_
                        refine rM_0_33 S hnX5 K hH (mG wd_334) dX5_goes_156 ?_
                        refine lv_iload S.1 S.2.1 dX5_goes_159 (lv_at hl 6 rfl) ?_
                        refine lM_33 S K hH (vin (by omega) (by omega)) dX5_goes_161 ?_
                        refine lv_topi (fun v267 e267 => ?_)
                        have f161 : v267 = σ 33 0 x6_256.toNatClampNeg := by rw [e267, hbe]
                        refine lv_if_ne (tgt := 222) S.1 S.2.1 dX5_goes_162 (by decide) (fun c268 => ?_) (fun c268 => ?_)
                        · have j268 := t_neq c268
                          obtain ⟨v269, e269⟩ : ∃ y_9 : Int32, y_9 = x6_256 + 1 := ⟨_, rfl⟩
                          have i269 : v269.toInt = x6_256.toInt + 1 := i_addc e269 (by decide) (by omega) (by omega)
                          refine lv_iinc (v := v269) (lv' := [(6, .int v269), (7, .int v263), (0, .ref (L 0 0)), (1, .int m9), (2, .int a), (3, .int t), (4, .int b)]) S.1 S.2.1 dX5_goes_222 hl (k := 6) rfl (by rw [e269]; rfl) (by decide) rfl (fun ls hl => ?_)
                          refine lv_goto (tgt := 114) S.1 S.2.1 dX5_goes_225 (by decide) ?_
                          exact ih256 v269 σ_256 _ _ ls (by omega) (by omega) (by first | exact hbe9 | exact hbe) (by first | exact hrk9 | exact hrk) (by first | exact gWent hgw (by omega) i269 | exact gSkip hIv hp5 (fun v hv => hP v (fun z => by revert hv z; revert v; decide)) hrr (by omega) (by omega) i269 (Or.inl (f151.symm.trans (by assumption))) | exact gSkip hIv hp5 (fun v hv => hP v (fun z => by revert hv z; revert v; decide)) hrr (by omega) (by omega) i269 (Or.inr (Or.inl (fun z => absurd (f161.trans z) (by assumption)))) | exact gSkip hIv hp5 (fun v hv => hP v (fun z => by revert hv z; revert v; decide)) hrr (by omega) (by omega) i269 (Or.inr (Or.inr (by rw [← ht9]; omega)))) hI hP hH hS (lv_sub hl [2, 3, 4, 5, 6, 0] rfl)
                        · have j268 := t_eq c268
                          refine lv_iload S.1 S.2.1 dX5_goes_165 (lv_at hl 0 rfl) ?_
                          refine lv_aload_n S.1 S.2.1 dX5_goes_167 rfl (lv_at hl 1 rfl) ?_
                          refine rM_0_37 S hnX5 K hH (mG wd_379) dX5_goes_168 ?_
                          refine lv_topi (fun v270 e270 => ?_)
                          have b270 : 0 ≤ v270.toInt ∧ v270.toInt ≤ 500 := by rw [e270]; exact hI.1 37 0 0
                          have f168 : v270.toInt = (σ 37 0 0).toInt := by rw [e270, hP 37 (by decide)]
                          refine lv_icmp_le (tgt := 177) S.1 S.2.1 dX5_goes_171 (by decide) (fun c271 => ?_) (fun c271 => ?_)
                          · have j271 := t_le c271
                            refine lv_aload_n S.1 S.2.1 dX5_goes_177 rfl (lv_at hl 1 rfl) ?_
                            refine rM_0_33 S hnX5 K hH (mG wd_334) dX5_goes_178 ?_
                            refine lv_iload S.1 S.2.1 dX5_goes_181 (lv_at hl 6 rfl) ?_
                            refine lv_iconst (v := 1) S.1 S.2.1 dX5_goes_183 (by decide) ?_
                            refine sM_33 S K hH hS (vin (by omega) (by omega)) dX5_goes_184 (fun H locs hH hS => ?_)
                            obtain ⟨σ272, eσ272⟩ : ∃ z_9 : QS, z_9 = rs σ_256 33 0 (upd (σ_256 33 0) x6_256.toNatClampNeg (vp_nar .boolean 1)) := ⟨_, rfl⟩
                            rw [← eσ272] at hH
                            have hI := InvM_a eσ272 hI (by decide) (any32 _)
                            have hP := Keep_w eσ272 hP (by decide)
                            refine lv_aload_n S.1 S.2.1 dX5_goes_185 rfl (lv_at hl 1 rfl) ?_
                            refine rM_0_30 S hnX5 K hH (mG wd_331) dX5_goes_186 ?_
                            refine lv_iload_n S.1 S.2.1 dX5_goes_189 rfl (lv_at hl 2 rfl) ?_
                            refine lv_iload S.1 S.2.1 dX5_goes_190 (lv_at hl 6 rfl) ?_
                            refine sM_30 S K hH hS (vin (by omega) (by omega)) dX5_goes_192 (fun H locs hH hS => ?_)
                            obtain ⟨σ273, eσ273⟩ : ∃ z_9 : QS, z_9 = rs σ272 30 0 (upd (σ272 30 0) m9.toNatClampNeg x6_256) := ⟨_, rfl⟩
                            rw [← eσ273] at hH
                            have hI := InvM_a eσ273 hI (by decide) (any32 _)
                            have hP := Keep_w eσ273 hP (by decide)
                            refine lv_aload_n S.1 S.2.1 dX5_goes_193 rfl (lv_at hl 1 rfl) ?_
                            refine lv_iload_n S.1 S.2.1 dX5_goes_194 rfl (lv_at hl 2 rfl) ?_
                            refine lv_iconst (v := 1) S.1 S.2.1 dX5_goes_195 (by decide) ?_
                            refine lv_iadd S.1 S.2.1 dX5_goes_196 ?_
                            refine lv_topi (fun v274 e274 => ?_)
                            have i274 : v274.toInt = m9.toInt + (1 : Int32).toInt := i_add e274 (by omega) (by omega)
                            refine lv_iload S.1 S.2.1 dX5_goes_197 (lv_at hl 6 rfl) ?_
                            refine lv_iload S.1 S.2.1 dX5_goes_199 (lv_at hl 0 rfl) ?_
                            refine lv_iload S.1 S.2.1 dX5_goes_201 (lv_at hl 5 rfl) ?_
                            refine lv_aload_n S.1 S.2.1 dX5_goes_203 rfl (lv_at hl 1 rfl) ?_
                            refine rM_0_29 S hnX5 K hH (mG wd_330) dX5_goes_204 ?_
                            refine lv_iload S.1 S.2.1 dX5_goes_207 (lv_at hl 6 rfl) ?_
                            refine lM_29 S K hH (vin (by omega) (by omega)) dX5_goes_209 ?_
                            refine lv_topi (fun v275 e275 => ?_)
                            have b275 : 0 ≤ v275.toInt ∧ v275.toInt ≤ 100 := by rw [e275]; exact hI.1 29 0 x6_256.toNatClampNeg
                            have f209 : v275.toInt = (σ 29 0 x6_256.toNatClampNeg).toInt := by rw [e275, hP 29 (by decide)]
                            refine lv_iadd S.1 S.2.1 dX5_goes_210 ?_
                            refine lv_topi (fun v276 e276 => ?_)
                            have i276 : v276.toInt = b.toInt + v275.toInt := i_add e276 (by omega) (by omega)
                            have hgd9 : gP σ273 (pz ++ [x6_256.toNatClampNeg]) v274 x6_256 v263 v276 := gDown hp5 (fun v hv => hP v (fun z => by revert hv z; revert v; decide)) (by omega) (by omega) (fun z => absurd (f151.trans z) (by assumption)) (f161.symm.trans (by assumption)) (by omega) ht9 (by rw [i276, f209]) (fun c => by rw [eσ273, rs_v (by decide), eσ272, rs_self, hbe]; rfl) (fun k h9 => by rw [eσ273, rs_self, eσ272, rs_v (by decide)]; unfold upd; have h8 := cl_eq (j := m9) (by omega); by_cases hq : k = m9.toNatClampNeg; rw [if_pos hq, if_pos (by omega)]; rw [if_neg hq, if_neg (by omega)]; exact hrk k (by omega))
                            have hgr9 : gR σ273 (fun q => ezLt q (pz ++ [x6_256.toNatClampNeg])) := gR_of hrr (fun v hv => by rw [eσ273, rs_v (by intro z; subst z; revert hv; decide), eσ272, rs_v (by intro z; subst z; revert hv; decide)])
                            have hlen9 : 0 ≤ v274.toInt ∧ v274.toInt ≤ 8 := by have h9 := isP_len _ hgd9.1.1 (fun s hs => ⟨(hgd9.1.2 s hs).1, (hgd9.1.2 s hs).2.1⟩) 8 (fun s hs => (hgd9.1.2 s hs).2.1); have h8 := hgd9.2.1; omega
                            refine cW_bv (cW_V (n := 4) (As := [.int v274, .int x6_256, .int v263, .int v276]) (rest := []) (k := 0) (i := 0) S K hH (by decide) rfl rfl (IH σ273 τ v274 x6_256 v263 v276 (pz ++ [x6_256.toNatClampNeg]) (hlen9) (by omega) (by omega) (by omega) hI (hgd9) (hgr9) (by omega) (by omega)) gX5_goes_X5_goes rfl hdV_X5_goes ⟨Nat.le_refl _, Nat.le_refl _⟩ rfl hl.1 (Nat.le_of_ble_eq_true rfl) dX5_goes_211) hS (fun σ277 τ277 H locs q277 hH hS => ?_)
                            obtain ⟨hI, hP277, hτ277, q277⟩ := q277
                            rw [hτ277] at hH
                            have hP := Keep_t hP hP277 (by decide)
                            refine lv_aload_n S.1 S.2.1 dX5_goes_214 rfl (lv_at hl 1 rfl) ?_
                            refine rM_0_33 S hnX5 K hH (mG wd_334) dX5_goes_215 ?_
                            refine lv_iload S.1 S.2.1 dX5_goes_218 (lv_at hl 6 rfl) ?_
                            refine lv_iconst (v := 0) S.1 S.2.1 dX5_goes_220 (by decide) ?_
                            refine sM_33 S K hH hS (vin (by omega) (by omega)) dX5_goes_221 (fun H locs hH hS => ?_)
                            obtain ⟨σ278, eσ278⟩ : ∃ z_9 : QS, z_9 = rs σ277 33 0 (upd (σ277 33 0) x6_256.toNatClampNeg (vp_nar .boolean 0)) := ⟨_, rfl⟩
                            rw [← eσ278] at hH
                            have hI := InvM_a eσ278 hI (by decide) (any32 _)
                            have hP := Keep_w eσ278 hP (by decide)
                            have hbe9 : σ278 33 = σ 33 := (been_back eσ272 (σ2 := σ273) (by rw [eσ273, rs_v (by decide)]) (q277).1 eσ278 e267 (by omega)).trans hbe
                            have hrk9 : ∀ k : Nat, (k : Int) < m9.toInt → σ278 30 0 k = σ 30 0 k := fun k h9 => by rw [eσ278, rs_v (by decide), (q277).2.1 k (by omega), eσ273, rs_self, eσ272, rs_v (by decide)]; unfold upd; have h8 := cl_eq (j := m9) (by omega); rw [if_neg (by omega)]; exact hrk k h9
                            have hgw : gR σ278 (fun q => ezLt q ((pz ++ [x6_256.toNatClampNeg]) ++ [9])) := gR_of (q277).2.2 (fun v hv => by rw [eσ278, rs_v (by intro z; subst z; revert hv; decide)])
                            obtain ⟨v279, e279⟩ : ∃ y_9 : Int32, y_9 = x6_256 + 1 := ⟨_, rfl⟩
                            have i279 : v279.toInt = x6_256.toInt + 1 := i_addc e279 (by decide) (by omega) (by omega)
                            refine lv_iinc (v := v279) (lv' := [(6, .int v279), (7, .int v263), (0, .ref (L 0 0)), (1, .int m9), (2, .int a), (3, .int t), (4, .int b)]) S.1 S.2.1 dX5_goes_222 hl (k := 6) rfl (by rw [e279]; rfl) (by decide) rfl (fun ls hl => ?_)
                            refine lv_goto (tgt := 114) S.1 S.2.1 dX5_goes_225 (by decide) ?_
                            exact ih256 v279 σ278 _ _ ls (by omega) (by omega) (by first | exact hbe9 | exact hbe) (by first | exact hrk9 | exact hrk) (by first | exact gWent hgw (by omega) i279 | exact gSkip hIv hp5 (fun v hv => hP v (fun z => by revert hv z; revert v; decide)) hrr (by omega) (by omega) i279 (Or.inl (f151.symm.trans (by assumption))) | exact gSkip hIv hp5 (fun v hv => hP v (fun z => by revert hv z; revert v; decide)) hrr (by omega) (by omega) i279 (Or.inr (Or.inl (fun z => absurd (f161.trans z) (by assumption)))) | exact gSkip hIv hp5 (fun v hv => hP v (fun z => by revert hv z; revert v; decide)) hrr (by omega) (by omega) i279 (Or.inr (Or.inr (by rw [← ht9]; omega)))) hI hP hH hS (lv_sub hl [2, 3, 4, 5, 6, 0] rfl)
                          · have j271 := t_nle c271
                            refine lv_goto (tgt := 222) S.1 S.2.1 dX5_goes_174 (by decide) ?_
                            obtain ⟨v280, e280⟩ : ∃ y_9 : Int32, y_9 = x6_256 + 1 := ⟨_, rfl⟩
                            have i280 : v280.toInt = x6_256.toInt + 1 := i_addc e280 (by decide) (by omega) (by omega)
                            refine lv_iinc (v := v280) (lv' := [(6, .int v280), (7, .int v263), (0, .ref (L 0 0)), (1, .int m9), (2, .int a), (3, .int t), (4, .int b)]) S.1 S.2.1 dX5_goes_222 hl (k := 6) rfl (by rw [e280]; rfl) (by decide) rfl (fun ls hl => ?_)
                            refine lv_goto (tgt := 114) S.1 S.2.1 dX5_goes_225 (by decide) ?_
                            exact ih256 v280 σ_256 _ _ ls (by omega) (by omega) (by first | exact hbe9 | exact hbe) (by first | exact hrk9 | exact hrk) (by first | exact gWent hgw (by omega) i280 | exact gSkip hIv hp5 (fun v hv => hP v (fun z => by revert hv z; revert v; decide)) hrr (by omega) (by omega) i280 (Or.inl (f151.symm.trans (by assumption))) | exact gSkip hIv hp5 (fun v hv => hP v (fun z => by revert hv z; revert v; decide)) hrr (by omega) (by omega) i280 (Or.inr (Or.inl (fun z => absurd (f161.trans z) (by assumption)))) | exact gSkip hIv hp5 (fun v hv => hP v (fun z => by revert hv z; revert v; decide)) hrr (by omega) (by omega) i280 (Or.inr (Or.inr (by rw [← ht9]; omega)))) hI hP hH hS (lv_sub hl [2, 3, 4, 5, 6, 0] rfl)
                exact cut_114_256 _ 1 σ_254 _ _ ls (Nat.lt_succ_self _) (by omega) (by first | rfl | exact hbe) (by first | (intro k h9; rfl) | (intro k h9; rw [hrw])) (by rw [show (1 : Int32).toNatClampNeg = 1 by decide]; first | exact gOld hp5 hp6 (by omega) | exact gNew hp5 hp6 (fun v hv => hP v (fun z => by revert hv z; revert v; decide)) (by omega) (by omega) h3v.1 h3v.2.1 h3v.2.2 (fun k h9 => hcp k (by omega))) hI hP hH hS (lv_sub hl [1, 2, 3, 4, 5, 0] rfl)
              · have j255 := t_nle c255
                exact absurd j255 (by omega)
          exact cut_85_254 _ 0 σ253 _ _ ls (Nat.lt_succ_self _) (by omega) (by rw [eσ253, rs_v (by decide), eσ252, rs_v (by decide), eσ251, rs_v (by decide)]) (by rw [eσ253, rs_v (by decide), eσ252, rs_v (by decide), eσ251, rs_v (by decide)]) (by refine ⟨?_, ?_, ?_⟩; rw [eσ253, rs_v (by decide), eσ252, rs_v (by decide), eσ251, rs_self]; rw [eσ253, rs_v (by decide), eσ252, rs_self]; rw [eσ253, rs_self]; exact hm9) (by intro k h9; exact absurd h9 (by omega)) hI hP hH hS (lv_sub hl [2, 3, 4, 5, 6, 0] rfl)
        · have j250 := t_nlt c250
          refine lv_iload S.1 S.2.1 dX5_goes_47 (lv_at hl 5 rfl) ?_
          refine lv_aload_n S.1 S.2.1 dX5_goes_49 rfl (lv_at hl 1 rfl) ?_
          refine rM_0_35 S hnX5 K hH (mG wd_381) dX5_goes_50 ?_
          refine lv_topi (fun v281 e281 => ?_)
          have k281 : v281.toInt = v249.toInt := by rw [e281]; rw [← e249]
          have f50 : v281.toInt = (σ 35 0 0).toInt := by rw [e281]
          refine lv_icmp_ne (tgt := 111) S.1 S.2.1 dX5_goes_53 (by decide) (fun c282 => ?_) (fun c282 => ?_)
          · have j282 := t_neq c282
            refine lv_iconst (v := 1) S.1 S.2.1 dX5_goes_111 (by decide) ?_
            refine lv_istore (lv' := [(6, .int 1), (5, .int v189), (0, .ref (L 0 0)), (1, .int m9), (2, .int a), (3, .int t), (4, .int b)]) S.1 S.2.1 dX5_goes_112 hl (by decide) rfl (fun ls hl => ?_)
            have cut_114_283 : ∀ (n : Nat) (x6_283 : Int32) (σ_283 : QS) (H : Heap) (locs : List Loc) (ls : Array Slot), (9 - x6_283.toInt).toNat < n → 1 ≤ x6_283.toInt ∧ x6_283.toInt ≤ 9 → (σ_283 33 = σ 33) → (∀ k : Nat, (k : Int) < m9.toInt → σ_283 30 0 k = σ 30 0 k) → (gR σ_283 (fun q => ezLt q (pz ++ [x6_283.toNatClampNeg]))) → InvM σ_283 → Keep [34, 35, 36, 31, 30, 33] σ σ_283 → hW cntM gM D B L σ_283 τ H → va_S A s.heap H locs → lv_has ls 8 [(0, .ref (L 0 0)), (1, .int m9), (2, .int a), (3, .int t), (4, .int b), (6, .int x6_283)] → W p l e { frames := fr + 1, cells := 0, slots := 0, locals := 8 + (8 + 11) + lo } s m [.ref (L 0 0), .int m9, .int a, .int t, .int b].toArray below meth c H locs 0 0 (MQ below (QcW cntM gM D B L A (pV (fun σ' τ' => InvM σ' ∧ Keep [34, 35, 36, 31, 30, 33] σ σ' ∧ τ' = τ ∧ (σ' 33 = σ 33 ∧ (∀ k : Nat, (k : Int) < m9.toInt → σ' 30 0 k = σ 30 0 k) ∧ gR σ' (fun q => ezLt q (pz ++ [9])))))) [.ref (L 0 0), .int m9, .int a, .int t, .int b].toArray s 0 0 A) (F0 m 114 ls []) := by
              intro n
              induction n with
              | zero => intro x6_283 σ_283 H locs ls hm; exact absurd hm (Nat.not_lt_zero _)
              | succ n ih283 =>
                intro x6_283 σ_283 H locs ls hm283 h283_0 hbe hrk hrr hI hP hH hS hl
                refine lv_iload S.1 S.2.1 dX5_goes_114 (lv_at hl 5 rfl) ?_
                refine lv_bipush (v := 9) S.1 S.2.1 dX5_goes_116 (by decide) ?_
                refine lv_icmp_ge (tgt := 228) S.1 S.2.1 dX5_goes_118 (by decide) (fun c284 => ?_) (fun c284 => ?_)
                · have j284 := t_le c284
                  refine cW_vret S hr hk hH hS ?_ dX5_goes_228
                  exact ⟨rfl, hI, hP, rfl, by refine ⟨hbe, hrk, ?_⟩; have h9 : x6_283.toNatClampNeg = 9 := (by have h8 := cl_eq (j := x6_283) (by omega); omega); rw [h9] at hrr; exact hrr⟩
                · have j284 := t_nle c284
                  refine lv_iload_n S.1 S.2.1 dX5_goes_121 rfl (lv_at hl 3 rfl) ?_
                  refine lv_aload_n S.1 S.2.1 dX5_goes_122 rfl (lv_at hl 0 rfl) ?_
                  refine rM_0_27 S hnX5 K hH (mG wd_328) dX5_goes_123 ?_
                  refine lv_bipush (v := 9) S.1 S.2.1 dX5_goes_126 (by decide) ?_
                  refine lv_iload_n S.1 S.2.1 dX5_goes_128 rfl (lv_at hl 2 rfl) ?_
                  refine lv_imul S.1 S.2.1 dX5_goes_129 ?_
                  refine lv_topi (fun v285 e285 => ?_)
                  have i285 : v285.toInt = 9 * a.toInt := i_mulcl e285 (by decide) (by omega) (by omega)
                  refine lv_iload S.1 S.2.1 dX5_goes_130 (lv_at hl 5 rfl) ?_
                  refine lv_iadd S.1 S.2.1 dX5_goes_132 ?_
                  refine lv_topi (fun v286 e286 => ?_)
                  have i286 : v286.toInt = v285.toInt + x6_283.toInt := i_add e286 (by omega) (by omega)
                  refine lM_27 S K hH (vin (by omega) (by omega)) dX5_goes_133 ?_
                  refine lv_topi (fun v287 e287 => ?_)
                  have b287 : 0 ≤ v287.toInt ∧ v287.toInt ≤ 60 := by rw [e287]; exact hI.1 27 0 v286.toNatClampNeg
                  refine lv_iadd S.1 S.2.1 dX5_goes_134 ?_
                  refine lv_topi (fun v288 e288 => ?_)
                  have i288 : v288.toInt = t.toInt + v287.toInt := i_add e288 (by omega) (by omega)
                  refine lv_aload_n S.1 S.2.1 dX5_goes_135 rfl (lv_at hl 0 rfl) ?_
                  refine rM_0_28 S hnX5 K hH (mG wd_329) dX5_goes_136 ?_
                  refine lv_iload S.1 S.2.1 dX5_goes_139 (lv_at hl 5 rfl) ?_
                  refine lM_28 S K hH (vin (by omega) (by omega)) dX5_goes_141 ?_
                  refine lv_topi (fun v289 e289 => ?_)
                  have b289 : 0 ≤ v289.toInt ∧ v289.toInt ≤ 60 := by rw [e289]; exact hI.1 28 0 x6_283.toNatClampNeg
                  refine lv_iadd S.1 S.2.1 dX5_goes_142 ?_
                  refine lv_topi (fun v290 e290 => ?_)
                  have i290 : v290.toInt = v288.toInt + v289.toInt := i_add e290 (by omega) (by omega)
                  refine lv_istore (lv' := [(7, .int v290), (0, .ref (L 0 0)), (1, .int m9), (2, .int a), (3, .int t), (4, .int b), (6, .int x6_283)]) S.1 S.2.1 dX5_goes_143 hl (by decide) rfl (fun ls hl => ?_)
                  have ht9 : v290.toInt = t.toInt + (σ 27 0 (9 * a.toNatClampNeg + x6_283.toNatClampNeg)).toInt + (σ 28 0 x6_283.toNatClampNeg).toInt := by rw [i290, i288, e287, e289, hP 27 (by decide), hP 28 (by decide), ix9 i285 i286 (by omega) (by omega)]
                  refine lv_aload_n S.1 S.2.1 dX5_goes_145 rfl (lv_at hl 1 rfl) ?_
                  refine rM_0_32 S hnX5 K hH (mG wd_333) dX5_goes_146 ?_
                  refine lv_iload S.1 S.2.1 dX5_goes_149 (lv_at hl 6 rfl) ?_
                  refine lM_32 S K hH (vin (by omega) (by omega)) dX5_goes_151 ?_
                  refine lv_topi (fun v291 e291 => ?_)
                  have f151 : v291 = σ 32 0 x6_283.toNatClampNeg := by rw [e291, hP 32 (by decide)]
                  refine lv_if_eq (tgt := 222) S.1 S.2.1 dX5_goes_152 (by decide) (fun c292 => ?_) (fun c292 => ?_)
                  · have j292 := t_eq c292
                    obtain ⟨v293, e293⟩ : ∃ y_9 : Int32, y_9 = x6_283 + 1 := ⟨_, rfl⟩
                    have i293 : v293.toInt = x6_283.toInt + 1 := i_addc e293 (by decide) (by omega) (by omega)
                    refine lv_iinc (v := v293) (lv' := [(6, .int v293), (7, .int v290), (0, .ref (L 0 0)), (1, .int m9), (2, .int a), (3, .int t), (4, .int b)]) S.1 S.2.1 dX5_goes_222 hl (k := 6) rfl (by rw [e293]; rfl) (by decide) rfl (fun ls hl => ?_)
                    refine lv_goto (tgt := 114) S.1 S.2.1 dX5_goes_225 (by decide) ?_
                    exact ih283 v293 σ_283 _ _ ls (by omega) (by omega) (by first | exact hbe9 | exact hbe) (by first | exact hrk9 | exact hrk) (by first | exact gWent hgw (by omega) i293 | exact gSkip hIv hp5 (fun v hv => hP v (fun z => by revert hv z; revert v; decide)) hrr (by omega) (by omega) i293 (Or.inl (f151.symm.trans (by assumption))) | exact gSkip hIv hp5 (fun v hv => hP v (fun z => by revert hv z; revert v; decide)) hrr (by omega) (by omega) i293 (Or.inr (Or.inl (fun z => absurd (f161.trans z) (by assumption)))) | exact gSkip hIv hp5 (fun v hv => hP v (fun z => by revert hv z; revert v; decide)) hrr (by omega) (by omega) i293 (Or.inr (Or.inr (by rw [← ht9]; omega)))) hI hP hH hS (lv_sub hl [2, 3, 4, 5, 6, 0] rfl)
                  · have j292 := t_neq c292
                    refine lv_aload_n S.1 S.2.1 dX5_goes_155 rfl (lv_at hl 1 rfl) ?_
                    refine rM_0_33 S hnX5 K hH (mG wd_334) dX5_goes_156 ?_
                    refine lv_iload S.1 S.2.1 dX5_goes_159 (lv_at hl 6 rfl) ?_
                    refine lM_33 S K hH (vin (by omega) (by omega)) dX5_goes_161 ?_
                    refine lv_topi (fun v294 e294 => ?_)
                    have f161 : v294 = σ 33 0 x6_283.toNatClampNeg := by rw [e294, hbe]
                    refine lv_if_ne (tgt := 222) S.1 S.2.1 dX5_goes_162 (by decide) (fun c295 => ?_) (fun c295 => ?_)
                    · have j295 := t_neq c295
                      obtain ⟨v296, e296⟩ : ∃ y_9 : Int32, y_9 = x6_283 + 1 := ⟨_, rfl⟩
                      have i296 : v296.toInt = x6_283.toInt + 1 := i_addc e296 (by decide) (by omega) (by omega)
                      refine lv_iinc (v := v296) (lv' := [(6, .int v296), (7, .int v290), (0, .ref (L 0 0)), (1, .int m9), (2, .int a), (3, .int t), (4, .int b)]) S.1 S.2.1 dX5_goes_222 hl (k := 6) rfl (by rw [e296]; rfl) (by decide) rfl (fun ls hl => ?_)
                      refine lv_goto (tgt := 114) S.1 S.2.1 dX5_goes_225 (by decide) ?_
                      exact ih283 v296 σ_283 _ _ ls (by omega) (by omega) (by first | exact hbe9 | exact hbe) (by first | exact hrk9 | exact hrk) (by first | exact gWent hgw (by omega) i296 | exact gSkip hIv hp5 (fun v hv => hP v (fun z => by revert hv z; revert v; decide)) hrr (by omega) (by omega) i296 (Or.inl (f151.symm.trans (by assumption))) | exact gSkip hIv hp5 (fun v hv => hP v (fun z => by revert hv z; revert v; decide)) hrr (by omega) (by omega) i296 (Or.inr (Or.inl (fun z => absurd (f161.trans z) (by assumption)))) | exact gSkip hIv hp5 (fun v hv => hP v (fun z => by revert hv z; revert v; decide)) hrr (by omega) (by omega) i296 (Or.inr (Or.inr (by rw [← ht9]; omega)))) hI hP hH hS (lv_sub hl [2, 3, 4, 5, 6, 0] rfl)
                    · have j295 := t_eq c295
                      refine lv_iload S.1 S.2.1 dX5_goes_165 (lv_at hl 0 rfl) ?_
                      refine lv_aload_n S.1 S.2.1 dX5_goes_167 rfl (lv_at hl 1 rfl) ?_
                      refine rM_0_37 S hnX5 K hH (mG wd_379) dX5_goes_168 ?_
                      refine lv_topi (fun v297 e297 => ?_)
                      have b297 : 0 ≤ v297.toInt ∧ v297.toInt ≤ 500 := by rw [e297]; exact hI.1 37 0 0
                      have f168 : v297.toInt = (σ 37 0 0).toInt := by rw [e297, hP 37 (by decide)]
                      refine lv_icmp_le (tgt := 177) S.1 S.2.1 dX5_goes_171 (by decide) (fun c298 => ?_) (fun c298 => ?_)
                      · have j298 := t_le c298
                        refine lv_aload_n S.1 S.2.1 dX5_goes_177 rfl (lv_at hl 1 rfl) ?_
                        refine rM_0_33 S hnX5 K hH (mG wd_334) dX5_goes_178 ?_
                        refine lv_iload S.1 S.2.1 dX5_goes_181 (lv_at hl 6 rfl) ?_
                        refine lv_iconst (v := 1) S.1 S.2.1 dX5_goes_183 (by decide) ?_
                        refine sM_33 S K hH hS (vin (by omega) (by omega)) dX5_goes_184 (fun H locs hH hS => ?_)
                        obtain ⟨σ299, eσ299⟩ : ∃ z_9 : QS, z_9 = rs σ_283 33 0 (upd (σ_283 33 0) x6_283.toNatClampNeg (vp_nar .boolean 1)) := ⟨_, rfl⟩
                        rw [← eσ299] at hH
                        have hI := InvM_a eσ299 hI (by decide) (any32 _)
                        have hP := Keep_w eσ299 hP (by decide)
                        refine lv_aload_n S.1 S.2.1 dX5_goes_185 rfl (lv_at hl 1 rfl) ?_
                        refine rM_0_30 S hnX5 K hH (mG wd_331) dX5_goes_186 ?_
                        refine lv_iload_n S.1 S.2.1 dX5_goes_189 rfl (lv_at hl 2 rfl) ?_
                        refine lv_iload S.1 S.2.1 dX5_goes_190 (lv_at hl 6 rfl) ?_
                        refine sM_30 S K hH hS (vin (by omega) (by omega)) dX5_goes_192 (fun H locs hH hS => ?_)
                        obtain ⟨σ300, eσ300⟩ : ∃ z_9 : QS, z_9 = rs σ299 30 0 (upd (σ299 30 0) m9.toNatClampNeg x6_283) := ⟨_, rfl⟩
                        rw [← eσ300] at hH
                        have hI := InvM_a eσ300 hI (by decide) (any32 _)
                        have hP := Keep_w eσ300 hP (by decide)
                        refine lv_aload_n S.1 S.2.1 dX5_goes_193 rfl (lv_at hl 1 rfl) ?_
                        refine lv_iload_n S.1 S.2.1 dX5_goes_194 rfl (lv_at hl 2 rfl) ?_
                        refine lv_iconst (v := 1) S.1 S.2.1 dX5_goes_195 (by decide) ?_
                        refine lv_iadd S.1 S.2.1 dX5_goes_196 ?_
                        refine lv_topi (fun v301 e301 => ?_)
                        have i301 : v301.toInt = m9.toInt + (1 : Int32).toInt := i_add e301 (by omega) (by omega)
                        refine lv_iload S.1 S.2.1 dX5_goes_197 (lv_at hl 6 rfl) ?_
                        refine lv_iload S.1 S.2.1 dX5_goes_199 (lv_at hl 0 rfl) ?_
                        refine lv_iload S.1 S.2.1 dX5_goes_201 (lv_at hl 5 rfl) ?_
                        refine lv_aload_n S.1 S.2.1 dX5_goes_203 rfl (lv_at hl 1 rfl) ?_
                        refine rM_0_29 S hnX5 K hH (mG wd_330) dX5_goes_204 ?_
                        refine lv_iload S.1 S.2.1 dX5_goes_207 (lv_at hl 6 rfl) ?_
                        refine lM_29 S K hH (vin (by omega) (by omega)) dX5_goes_209 ?_
                        refine lv_topi (fun v302 e302 => ?_)
                        have b302 : 0 ≤ v302.toInt ∧ v302.toInt ≤ 100 := by rw [e302]; exact hI.1 29 0 x6_283.toNatClampNeg
                        have f209 : v302.toInt = (σ 29 0 x6_283.toNatClampNeg).toInt := by rw [e302, hP 29 (by decide)]
                        refine lv_iadd S.1 S.2.1 dX5_goes_210 ?_
                        refine lv_topi (fun v303 e303 => ?_)
                        have i303 : v303.toInt = b.toInt + v302.toInt := i_add e303 (by omega) (by omega)
                        have hgd9 : gP σ300 (pz ++ [x6_283.toNatClampNeg]) v301 x6_283 v290 v303 := gDown hp5 (fun v hv => hP v (fun z => by revert hv z; revert v; decide)) (by omega) (by omega) (fun z => absurd (f151.trans z) (by assumption)) (f161.symm.trans (by assumption)) (by omega) ht9 (by rw [i303, f209]) (fun c => by rw [eσ300, rs_v (by decide), eσ299, rs_self, hbe]; rfl) (fun k h9 => by rw [eσ300, rs_self, eσ299, rs_v (by decide)]; unfold upd; have h8 := cl_eq (j := m9) (by omega); by_cases hq : k = m9.toNatClampNeg; rw [if_pos hq, if_pos (by omega)]; rw [if_neg hq, if_neg (by omega)]; exact hrk k (by omega))
                        have hgr9 : gR σ300 (fun q => ezLt q (pz ++ [x6_283.toNatClampNeg])) := gR_of hrr (fun v hv => by rw [eσ300, rs_v (by intro z; subst z; revert hv; decide), eσ299, rs_v (by intro z; subst z; revert hv; decide)])
                        have hlen9 : 0 ≤ v301.toInt ∧ v301.toInt ≤ 8 := by have h9 := isP_len _ hgd9.1.1 (fun s hs => ⟨(hgd9.1.2 s hs).1, (hgd9.1.2 s hs).2.1⟩) 8 (fun s hs => (hgd9.1.2 s hs).2.1); have h8 := hgd9.2.1; omega
                        refine cW_bv (cW_V (n := 4) (As := [.int v301, .int x6_283, .int v290, .int v303]) (rest := []) (k := 0) (i := 0) S K hH (by decide) rfl rfl (IH σ300 τ v301 x6_283 v290 v303 (pz ++ [x6_283.toNatClampNeg]) (hlen9) (by omega) (by omega) (by omega) hI (hgd9) (hgr9) (by omega) (by omega)) gX5_goes_X5_goes rfl hdV_X5_goes ⟨Nat.le_refl _, Nat.le_refl _⟩ rfl hl.1 (Nat.le_of_ble_eq_true rfl) dX5_goes_211) hS (fun σ304 τ304 H locs q304 hH hS => ?_)
                        obtain ⟨hI, hP304, hτ304, q304⟩ := q304
                        rw [hτ304] at hH
                        have hP := Keep_t hP hP304 (by decide)
                        refine lv_aload_n S.1 S.2.1 dX5_goes_214 rfl (lv_at hl 1 rfl) ?_
                        refine rM_0_33 S hnX5 K hH (mG wd_334) dX5_goes_215 ?_
                        refine lv_iload S.1 S.2.1 dX5_goes_218 (lv_at hl 6 rfl) ?_
                        refine lv_iconst (v := 0) S.1 S.2.1 dX5_goes_220 (by decide) ?_
                        refine sM_33 S K hH hS (vin (by omega) (by omega)) dX5_goes_221 (fun H locs hH hS => ?_)
                        obtain ⟨σ305, eσ305⟩ : ∃ z_9 : QS, z_9 = rs σ304 33 0 (upd (σ304 33 0) x6_283.toNatClampNeg (vp_nar .boolean 0)) := ⟨_, rfl⟩
                        rw [← eσ305] at hH
                        have hI := InvM_a eσ305 hI (by decide) (any32 _)
                        have hP := Keep_w eσ305 hP (by decide)
                        have hbe9 : σ305 33 = σ 33 := (been_back eσ299 (σ2 := σ300) (by rw [eσ300, rs_v (by decide)]) (q304).1 eσ305 e294 (by omega)).trans hbe
                        have hrk9 : ∀ k : Nat, (k : Int) < m9.toInt → σ305 30 0 k = σ 30 0 k := fun k h9 => by rw [eσ305, rs_v (by decide), (q304).2.1 k (by omega), eσ300, rs_self, eσ299, rs_v (by decide)]; unfold upd; have h8 := cl_eq (j := m9) (by omega); rw [if_neg (by omega)]; exact hrk k h9
                        have hgw : gR σ305 (fun q => ezLt q ((pz ++ [x6_283.toNatClampNeg]) ++ [9])) := gR_of (q304).2.2 (fun v hv => by rw [eσ305, rs_v (by intro z; subst z; revert hv; decide)])
                        obtain ⟨v306, e306⟩ : ∃ y_9 : Int32, y_9 = x6_283 + 1 := ⟨_, rfl⟩
                        have i306 : v306.toInt = x6_283.toInt + 1 := i_addc e306 (by decide) (by omega) (by omega)
                        refine lv_iinc (v := v306) (lv' := [(6, .int v306), (7, .int v290), (0, .ref (L 0 0)), (1, .int m9), (2, .int a), (3, .int t), (4, .int b)]) S.1 S.2.1 dX5_goes_222 hl (k := 6) rfl (by rw [e306]; rfl) (by decide) rfl (fun ls hl => ?_)
                        refine lv_goto (tgt := 114) S.1 S.2.1 dX5_goes_225 (by decide) ?_
                        exact ih283 v306 σ305 _ _ ls (by omega) (by omega) (by first | exact hbe9 | exact hbe) (by first | exact hrk9 | exact hrk) (by first | exact gWent hgw (by omega) i306 | exact gSkip hIv hp5 (fun v hv => hP v (fun z => by revert hv z; revert v; decide)) hrr (by omega) (by omega) i306 (Or.inl (f151.symm.trans (by assumption))) | exact gSkip hIv hp5 (fun v hv => hP v (fun z => by revert hv z; revert v; decide)) hrr (by omega) (by omega) i306 (Or.inr (Or.inl (fun z => absurd (f161.trans z) (by assumption)))) | exact gSkip hIv hp5 (fun v hv => hP v (fun z => by revert hv z; revert v; decide)) hrr (by omega) (by omega) i306 (Or.inr (Or.inr (by rw [← ht9]; omega)))) hI hP hH hS (lv_sub hl [2, 3, 4, 5, 6, 0] rfl)
                      · have j298 := t_nle c298
                        refine lv_goto (tgt := 222) S.1 S.2.1 dX5_goes_174 (by decide) ?_
                        obtain ⟨v307, e307⟩ : ∃ y_9 : Int32, y_9 = x6_283 + 1 := ⟨_, rfl⟩
                        have i307 : v307.toInt = x6_283.toInt + 1 := i_addc e307 (by decide) (by omega) (by omega)
                        refine lv_iinc (v := v307) (lv' := [(6, .int v307), (7, .int v290), (0, .ref (L 0 0)), (1, .int m9), (2, .int a), (3, .int t), (4, .int b)]) S.1 S.2.1 dX5_goes_222 hl (k := 6) rfl (by rw [e307]; rfl) (by decide) rfl (fun ls hl => ?_)
                        refine lv_goto (tgt := 114) S.1 S.2.1 dX5_goes_225 (by decide) ?_
                        exact ih283 v307 σ_283 _ _ ls (by omega) (by omega) (by first | exact hbe9 | exact hbe) (by first | exact hrk9 | exact hrk) (by first | exact gWent hgw (by omega) i307 | exact gSkip hIv hp5 (fun v hv => hP v (fun z => by revert hv z; revert v; decide)) hrr (by omega) (by omega) i307 (Or.inl (f151.symm.trans (by assumption))) | exact gSkip hIv hp5 (fun v hv => hP v (fun z => by revert hv z; revert v; decide)) hrr (by omega) (by omega) i307 (Or.inr (Or.inl (fun z => absurd (f161.trans z) (by assumption)))) | exact gSkip hIv hp5 (fun v hv => hP v (fun z => by revert hv z; revert v; decide)) hrr (by omega) (by omega) i307 (Or.inr (Or.inr (by rw [← ht9]; omega)))) hI hP hH hS (lv_sub hl [2, 3, 4, 5, 6, 0] rfl)
            exact cut_114_283 _ 1 σ _ _ ls (Nat.lt_succ_self _) (by omega) (by first | rfl | exact hbe) (by first | (intro k h9; rfl) | (intro k h9; rw [hrw])) (by rw [show (1 : Int32).toNatClampNeg = 1 by decide]; first | exact gOld hp5 hp6 (by omega) | exact gNew hp5 hp6 (fun v hv => hP v (fun z => by revert hv z; revert v; decide)) (by omega) (by omega) h3v.1 h3v.2.1 h3v.2.2 (fun k h9 => hcp k (by omega))) hI hP hH hS (lv_sub hl [2, 3, 4, 5, 6, 0] rfl)
          · have j282 := t_eq c282
            refine lv_iload S.1 S.2.1 dX5_goes_56 (lv_at hl 0 rfl) ?_
            refine lv_aload_n S.1 S.2.1 dX5_goes_58 rfl (lv_at hl 1 rfl) ?_
            refine rM_0_36 S hnX5 K hH (mG wd_382) dX5_goes_59 ?_
            refine lv_topi (fun v308 e308 => ?_)
            have f59 : v308.toInt = (σ 36 0 0).toInt := by rw [e308]
            refine lv_icmp_ge (tgt := 111) S.1 S.2.1 dX5_goes_62 (by decide) (fun c309 => ?_) (fun c309 => ?_)
            · have j309 := t_le c309
              refine lv_iconst (v := 1) S.1 S.2.1 dX5_goes_111 (by decide) ?_
              refine lv_istore (lv' := [(6, .int 1), (5, .int v189), (0, .ref (L 0 0)), (1, .int m9), (2, .int a), (3, .int t), (4, .int b)]) S.1 S.2.1 dX5_goes_112 hl (by decide) rfl (fun ls hl => ?_)
              have cut_114_310 : ∀ (n : Nat) (x6_310 : Int32) (σ_310 : QS) (H : Heap) (locs : List Loc) (ls : Array Slot), (9 - x6_310.toInt).toNat < n → 1 ≤ x6_310.toInt ∧ x6_310.toInt ≤ 9 → (σ_310 33 = σ 33) → (∀ k : Nat, (k : Int) < m9.toInt → σ_310 30 0 k = σ 30 0 k) → (gR σ_310 (fun q => ezLt q (pz ++ [x6_310.toNatClampNeg]))) → InvM σ_310 → Keep [34, 35, 36, 31, 30, 33] σ σ_310 → hW cntM gM D B L σ_310 τ H → va_S A s.heap H locs → lv_has ls 8 [(0, .ref (L 0 0)), (1, .int m9), (2, .int a), (3, .int t), (4, .int b), (6, .int x6_310)] → W p l e { frames := fr + 1, cells := 0, slots := 0, locals := 8 + (8 + 11) + lo } s m [.ref (L 0 0), .int m9, .int a, .int t, .int b].toArray below meth c H locs 0 0 (MQ below (QcW cntM gM D B L A (pV (fun σ' τ' => InvM σ' ∧ Keep [34, 35, 36, 31, 30, 33] σ σ' ∧ τ' = τ ∧ (σ' 33 = σ 33 ∧ (∀ k : Nat, (k : Int) < m9.toInt → σ' 30 0 k = σ 30 0 k) ∧ gR σ' (fun q => ezLt q (pz ++ [9])))))) [.ref (L 0 0), .int m9, .int a, .int t, .int b].toArray s 0 0 A) (F0 m 114 ls []) := by
                intro n
                induction n with
                | zero => intro x6_310 σ_310 H locs ls hm; exact absurd hm (Nat.not_lt_zero _)
                | succ n ih310 =>
                  intro x6_310 σ_310 H locs ls hm310 h310_0 hbe hrk hrr hI hP hH hS hl
                  refine lv_iload S.1 S.2.1 dX5_goes_114 (lv_at hl 5 rfl) ?_
                  refine lv_bipush (v := 9) S.1 S.2.1 dX5_goes_116 (by decide) ?_
                  refine lv_icmp_ge (tgt := 228) S.1 S.2.1 dX5_goes_118 (by decide) (fun c311 => ?_) (fun c311 => ?_)
                  · have j311 := t_le c311
                    refine cW_vret S hr hk hH hS ?_ dX5_goes_228
                    exact ⟨rfl, hI, hP, rfl, by refine ⟨hbe, hrk, ?_⟩; have h9 : x6_310.toNatClampNeg = 9 := (by have h8 := cl_eq (j := x6_310) (by omega); omega); rw [h9] at hrr; exact hrr⟩
                  · have j311 := t_nle c311
                    refine lv_iload_n S.1 S.2.1 dX5_goes_121 rfl (lv_at hl 3 rfl) ?_
                    refine lv_aload_n S.1 S.2.1 dX5_goes_122 rfl (lv_at hl 0 rfl) ?_
                    refine rM_0_27 S hnX5 K hH (mG wd_328) dX5_goes_123 ?_
                    refine lv_bipush (v := 9) S.1 S.2.1 dX5_goes_126 (by decide) ?_
                    refine lv_iload_n S.1 S.2.1 dX5_goes_128 rfl (lv_at hl 2 rfl) ?_
                    refine lv_imul S.1 S.2.1 dX5_goes_129 ?_
                    refine lv_topi (fun v312 e312 => ?_)
                    have i312 : v312.toInt = 9 * a.toInt := i_mulcl e312 (by decide) (by omega) (by omega)
                    refine lv_iload S.1 S.2.1 dX5_goes_130 (lv_at hl 5 rfl) ?_
                    refine lv_iadd S.1 S.2.1 dX5_goes_132 ?_
                    refine lv_topi (fun v313 e313 => ?_)
                    have i313 : v313.toInt = v312.toInt + x6_310.toInt := i_add e313 (by omega) (by omega)
                    refine lM_27 S K hH (vin (by omega) (by omega)) dX5_goes_133 ?_
                    refine lv_topi (fun v314 e314 => ?_)
                    have b314 : 0 ≤ v314.toInt ∧ v314.toInt ≤ 60 := by rw [e314]; exact hI.1 27 0 v313.toNatClampNeg
                    refine lv_iadd S.1 S.2.1 dX5_goes_134 ?_
                    refine lv_topi (fun v315 e315 => ?_)
                    have i315 : v315.toInt = t.toInt + v314.toInt := i_add e315 (by omega) (by omega)
                    refine lv_aload_n S.1 S.2.1 dX5_goes_135 rfl (lv_at hl 0 rfl) ?_
                    refine rM_0_28 S hnX5 K hH (mG wd_329) dX5_goes_136 ?_
                    refine lv_iload S.1 S.2.1 dX5_goes_139 (lv_at hl 5 rfl) ?_
                    refine lM_28 S K hH (vin (by omega) (by omega)) dX5_goes_141 ?_
                    refine lv_topi (fun v316 e316 => ?_)
                    have b316 : 0 ≤ v316.toInt ∧ v316.toInt ≤ 60 := by rw [e316]; exact hI.1 28 0 x6_310.toNatClampNeg
                    refine lv_iadd S.1 S.2.1 dX5_goes_142 ?_
                    refine lv_topi (fun v317 e317 => ?_)
                    have i317 : v317.toInt = v315.toInt + v316.toInt := i_add e317 (by omega) (by omega)
                    refine lv_istore (lv' := [(7, .int v317), (0, .ref (L 0 0)), (1, .int m9), (2, .int a), (3, .int t), (4, .int b), (6, .int x6_310)]) S.1 S.2.1 dX5_goes_143 hl (by decide) rfl (fun ls hl => ?_)
                    have ht9 : v317.toInt = t.toInt + (σ 27 0 (9 * a.toNatClampNeg + x6_310.toNatClampNeg)).toInt + (σ 28 0 x6_310.toNatClampNeg).toInt := by rw [i317, i315, e314, e316, hP 27 (by decide), hP 28 (by decide), ix9 i312 i313 (by omega) (by omega)]
                    refine lv_aload_n S.1 S.2.1 dX5_goes_145 rfl (lv_at hl 1 rfl) ?_
                    refine rM_0_32 S hnX5 K hH (mG wd_333) dX5_goes_146 ?_
                    refine lv_iload S.1 S.2.1 dX5_goes_149 (lv_at hl 6 rfl) ?_
                    refine lM_32 S K hH (vin (by omega) (by omega)) dX5_goes_151 ?_
                    refine lv_topi (fun v318 e318 => ?_)
                    have f151 : v318 = σ 32 0 x6_310.toNatClampNeg := by rw [e318, hP 32 (by decide)]
                    refine lv_if_eq (tgt := 222) S.1 S.2.1 dX5_goes_152 (by decide) (fun c319 => ?_) (fun c319 => ?_)
                    · have j319 := t_eq c319
                      obtain ⟨v320, e320⟩ : ∃ y_9 : Int32, y_9 = x6_310 + 1 := ⟨_, rfl⟩
                      have i320 : v320.toInt = x6_310.toInt + 1 := i_addc e320 (by decide) (by omega) (by omega)
                      refine lv_iinc (v := v320) (lv' := [(6, .int v320), (7, .int v317), (0, .ref (L 0 0)), (1, .int m9), (2, .int a), (3, .int t), (4, .int b)]) S.1 S.2.1 dX5_goes_222 hl (k := 6) rfl (by rw [e320]; rfl) (by decide) rfl (fun ls hl => ?_)
                      refine lv_goto (tgt := 114) S.1 S.2.1 dX5_goes_225 (by decide) ?_
                      exact ih310 v320 σ_310 _ _ ls (by omega) (by omega) (by first | exact hbe9 | exact hbe) (by first | exact hrk9 | exact hrk) (by first | exact gWent hgw (by omega) i320 | exact gSkip hIv hp5 (fun v hv => hP v (fun z => by revert hv z; revert v; decide)) hrr (by omega) (by omega) i320 (Or.inl (f151.symm.trans (by assumption))) | exact gSkip hIv hp5 (fun v hv => hP v (fun z => by revert hv z; revert v; decide)) hrr (by omega) (by omega) i320 (Or.inr (Or.inl (fun z => absurd (f161.trans z) (by assumption)))) | exact gSkip hIv hp5 (fun v hv => hP v (fun z => by revert hv z; revert v; decide)) hrr (by omega) (by omega) i320 (Or.inr (Or.inr (by rw [← ht9]; omega)))) hI hP hH hS (lv_sub hl [2, 3, 4, 5, 6, 0] rfl)
                    · have j319 := t_neq c319
                      refine lv_aload_n S.1 S.2.1 dX5_goes_155 rfl (lv_at hl 1 rfl) ?_
                      refine rM_0_33 S hnX5 K hH (mG wd_334) dX5_goes_156 ?_
                      refine lv_iload S.1 S.2.1 dX5_goes_159 (lv_at hl 6 rfl) ?_
                      refine lM_33 S K hH (vin (by omega) (by omega)) dX5_goes_161 ?_
                      refine lv_topi (fun v321 e321 => ?_)
                      have f161 : v321 = σ 33 0 x6_310.toNatClampNeg := by rw [e321, hbe]
                      refine lv_if_ne (tgt := 222) S.1 S.2.1 dX5_goes_162 (by decide) (fun c322 => ?_) (fun c322 => ?_)
                      · have j322 := t_neq c322
                        obtain ⟨v323, e323⟩ : ∃ y_9 : Int32, y_9 = x6_310 + 1 := ⟨_, rfl⟩
                        have i323 : v323.toInt = x6_310.toInt + 1 := i_addc e323 (by decide) (by omega) (by omega)
                        refine lv_iinc (v := v323) (lv' := [(6, .int v323), (7, .int v317), (0, .ref (L 0 0)), (1, .int m9), (2, .int a), (3, .int t), (4, .int b)]) S.1 S.2.1 dX5_goes_222 hl (k := 6) rfl (by rw [e323]; rfl) (by decide) rfl (fun ls hl => ?_)
                        refine lv_goto (tgt := 114) S.1 S.2.1 dX5_goes_225 (by decide) ?_
                        exact ih310 v323 σ_310 _ _ ls (by omega) (by omega) (by first | exact hbe9 | exact hbe) (by first | exact hrk9 | exact hrk) (by first | exact gWent hgw (by omega) i323 | exact gSkip hIv hp5 (fun v hv => hP v (fun z => by revert hv z; revert v; decide)) hrr (by omega) (by omega) i323 (Or.inl (f151.symm.trans (by assumption))) | exact gSkip hIv hp5 (fun v hv => hP v (fun z => by revert hv z; revert v; decide)) hrr (by omega) (by omega) i323 (Or.inr (Or.inl (fun z => absurd (f161.trans z) (by assumption)))) | exact gSkip hIv hp5 (fun v hv => hP v (fun z => by revert hv z; revert v; decide)) hrr (by omega) (by omega) i323 (Or.inr (Or.inr (by rw [← ht9]; omega)))) hI hP hH hS (lv_sub hl [2, 3, 4, 5, 6, 0] rfl)
                      · have j322 := t_eq c322
                        refine lv_iload S.1 S.2.1 dX5_goes_165 (lv_at hl 0 rfl) ?_
                        refine lv_aload_n S.1 S.2.1 dX5_goes_167 rfl (lv_at hl 1 rfl) ?_
                        refine rM_0_37 S hnX5 K hH (mG wd_379) dX5_goes_168 ?_
                        refine lv_topi (fun v324 e324 => ?_)
                        have b324 : 0 ≤ v324.toInt ∧ v324.toInt ≤ 500 := by rw [e324]; exact hI.1 37 0 0
                        have f168 : v324.toInt = (σ 37 0 0).toInt := by rw [e324, hP 37 (by decide)]
                        refine lv_icmp_le (tgt := 177) S.1 S.2.1 dX5_goes_171 (by decide) (fun c325 => ?_) (fun c325 => ?_)
                        · have j325 := t_le c325
                          refine lv_aload_n S.1 S.2.1 dX5_goes_177 rfl (lv_at hl 1 rfl) ?_
                          refine rM_0_33 S hnX5 K hH (mG wd_334) dX5_goes_178 ?_
                          refine lv_iload S.1 S.2.1 dX5_goes_181 (lv_at hl 6 rfl) ?_
                          refine lv_iconst (v := 1) S.1 S.2.1 dX5_goes_183 (by decide) ?_
                          refine sM_33 S K hH hS (vin (by omega) (by omega)) dX5_goes_184 (fun H locs hH hS => ?_)
                          obtain ⟨σ326, eσ326⟩ : ∃ z_9 : QS, z_9 = rs σ_310 33 0 (upd (σ_310 33 0) x6_310.toNatClampNeg (vp_nar .boolean 1)) := ⟨_, rfl⟩
                          rw [← eσ326] at hH
                          have hI := InvM_a eσ326 hI (by decide) (any32 _)
                          have hP := Keep_w eσ326 hP (by decide)
                          refine lv_aload_n S.1 S.2.1 dX5_goes_185 rfl (lv_at hl 1 rfl) ?_
                          refine rM_0_30 S hnX5 K hH (mG wd_331) dX5_goes_186 ?_
                          refine lv_iload_n S.1 S.2.1 dX5_goes_189 rfl (lv_at hl 2 rfl) ?_
                          refine lv_iload S.1 S.2.1 dX5_goes_190 (lv_at hl 6 rfl) ?_
                          refine sM_30 S K hH hS (vin (by omega) (by omega)) dX5_goes_192 (fun H locs hH hS => ?_)
                          obtain ⟨σ327, eσ327⟩ : ∃ z_9 : QS, z_9 = rs σ326 30 0 (upd (σ326 30 0) m9.toNatClampNeg x6_310) := ⟨_, rfl⟩
                          rw [← eσ327] at hH
                          have hI := InvM_a eσ327 hI (by decide) (any32 _)
                          have hP := Keep_w eσ327 hP (by decide)
                          refine lv_aload_n S.1 S.2.1 dX5_goes_193 rfl (lv_at hl 1 rfl) ?_
                          refine lv_iload_n S.1 S.2.1 dX5_goes_194 rfl (lv_at hl 2 rfl) ?_
                          refine lv_iconst (v := 1) S.1 S.2.1 dX5_goes_195 (by decide) ?_
                          refine lv_iadd S.1 S.2.1 dX5_goes_196 ?_
                          refine lv_topi (fun v328 e328 => ?_)
                          have i328 : v328.toInt = m9.toInt + (1 : Int32).toInt := i_add e328 (by omega) (by omega)
                          refine lv_iload S.1 S.2.1 dX5_goes_197 (lv_at hl 6 rfl) ?_
                          refine lv_iload S.1 S.2.1 dX5_goes_199 (lv_at hl 0 rfl) ?_
                          refine lv_iload S.1 S.2.1 dX5_goes_201 (lv_at hl 5 rfl) ?_
                          refine lv_aload_n S.1 S.2.1 dX5_goes_203 rfl (lv_at hl 1 rfl) ?_
                          refine rM_0_29 S hnX5 K hH (mG wd_330) dX5_goes_204 ?_
                          refine lv_iload S.1 S.2.1 dX5_goes_207 (lv_at hl 6 rfl) ?_
                          refine lM_29 S K hH (vin (by omega) (by omega)) dX5_goes_209 ?_
                          refine lv_topi (fun v329 e329 => ?_)
                          have b329 : 0 ≤ v329.toInt ∧ v329.toInt ≤ 100 := by rw [e329]; exact hI.1 29 0 x6_310.toNatClampNeg
                          have f209 : v329.toInt = (σ 29 0 x6_310.toNatClampNeg).toInt := by rw [e329, hP 29 (by decide)]
                          refine lv_iadd S.1 S.2.1 dX5_goes_210 ?_
                          refine lv_topi (fun v330 e330 => ?_)
                          have i330 : v330.toInt = b.toInt + v329.toInt := i_add e330 (by omega) (by omega)
                          have hgd9 : gP σ327 (pz ++ [x6_310.toNatClampNeg]) v328 x6_310 v317 v330 := gDown hp5 (fun v hv => hP v (fun z => by revert hv z; revert v; decide)) (by omega) (by omega) (fun z => absurd (f151.trans z) (by assumption)) (f161.symm.trans (by assumption)) (by omega) ht9 (by rw [i330, f209]) (fun c => by rw [eσ327, rs_v (by decide), eσ326, rs_self, hbe]; rfl) (fun k h9 => by rw [eσ327, rs_self, eσ326, rs_v (by decide)]; unfold upd; have h8 := cl_eq (j := m9) (by omega); by_cases hq : k = m9.toNatClampNeg; rw [if_pos hq, if_pos (by omega)]; rw [if_neg hq, if_neg (by omega)]; exact hrk k (by omega))
                          have hgr9 : gR σ327 (fun q => ezLt q (pz ++ [x6_310.toNatClampNeg])) := gR_of hrr (fun v hv => by rw [eσ327, rs_v (by intro z; subst z; revert hv; decide), eσ326, rs_v (by intro z; subst z; revert hv; decide)])
                          have hlen9 : 0 ≤ v328.toInt ∧ v328.toInt ≤ 8 := by have h9 := isP_len _ hgd9.1.1 (fun s hs => ⟨(hgd9.1.2 s hs).1, (hgd9.1.2 s hs).2.1⟩) 8 (fun s hs => (hgd9.1.2 s hs).2.1); have h8 := hgd9.2.1; omega
                          refine cW_bv (cW_V (n := 4) (As := [.int v328, .int x6_310, .int v317, .int v330]) (rest := []) (k := 0) (i := 0) S K hH (by decide) rfl rfl (IH σ327 τ v328 x6_310 v317 v330 (pz ++ [x6_310.toNatClampNeg]) (hlen9) (by omega) (by omega) (by omega) hI (hgd9) (hgr9) (by omega) (by omega)) gX5_goes_X5_goes rfl hdV_X5_goes ⟨Nat.le_refl _, Nat.le_refl _⟩ rfl hl.1 (Nat.le_of_ble_eq_true rfl) dX5_goes_211) hS (fun σ331 τ331 H locs q331 hH hS => ?_)
                          obtain ⟨hI, hP331, hτ331, q331⟩ := q331
                          rw [hτ331] at hH
                          have hP := Keep_t hP hP331 (by decide)
                          refine lv_aload_n S.1 S.2.1 dX5_goes_214 rfl (lv_at hl 1 rfl) ?_
                          refine rM_0_33 S hnX5 K hH (mG wd_334) dX5_goes_215 ?_
                          refine lv_iload S.1 S.2.1 dX5_goes_218 (lv_at hl 6 rfl) ?_
                          refine lv_iconst (v := 0) S.1 S.2.1 dX5_goes_220 (by decide) ?_
                          refine sM_33 S K hH hS (vin (by omega) (by omega)) dX5_goes_221 (fun H locs hH hS => ?_)
                          obtain ⟨σ332, eσ332⟩ : ∃ z_9 : QS, z_9 = rs σ331 33 0 (upd (σ331 33 0) x6_310.toNatClampNeg (vp_nar .boolean 0)) := ⟨_, rfl⟩
                          rw [← eσ332] at hH
                          have hI := InvM_a eσ332 hI (by decide) (any32 _)
                          have hP := Keep_w eσ332 hP (by decide)
                          have hbe9 : σ332 33 = σ 33 := (been_back eσ326 (σ2 := σ327) (by rw [eσ327, rs_v (by decide)]) (q331).1 eσ332 e321 (by omega)).trans hbe
                          have hrk9 : ∀ k : Nat, (k : Int) < m9.toInt → σ332 30 0 k = σ 30 0 k := fun k h9 => by rw [eσ332, rs_v (by decide), (q331).2.1 k (by omega), eσ327, rs_self, eσ326, rs_v (by decide)]; unfold upd; have h8 := cl_eq (j := m9) (by omega); rw [if_neg (by omega)]; exact hrk k h9
                          have hgw : gR σ332 (fun q => ezLt q ((pz ++ [x6_310.toNatClampNeg]) ++ [9])) := gR_of (q331).2.2 (fun v hv => by rw [eσ332, rs_v (by intro z; subst z; revert hv; decide)])
                          obtain ⟨v333, e333⟩ : ∃ y_9 : Int32, y_9 = x6_310 + 1 := ⟨_, rfl⟩
                          have i333 : v333.toInt = x6_310.toInt + 1 := i_addc e333 (by decide) (by omega) (by omega)
                          refine lv_iinc (v := v333) (lv' := [(6, .int v333), (7, .int v317), (0, .ref (L 0 0)), (1, .int m9), (2, .int a), (3, .int t), (4, .int b)]) S.1 S.2.1 dX5_goes_222 hl (k := 6) rfl (by rw [e333]; rfl) (by decide) rfl (fun ls hl => ?_)
                          refine lv_goto (tgt := 114) S.1 S.2.1 dX5_goes_225 (by decide) ?_
                          exact ih310 v333 σ332 _ _ ls (by omega) (by omega) (by first | exact hbe9 | exact hbe) (by first | exact hrk9 | exact hrk) (by first | exact gWent hgw (by omega) i333 | exact gSkip hIv hp5 (fun v hv => hP v (fun z => by revert hv z; revert v; decide)) hrr (by omega) (by omega) i333 (Or.inl (f151.symm.trans (by assumption))) | exact gSkip hIv hp5 (fun v hv => hP v (fun z => by revert hv z; revert v; decide)) hrr (by omega) (by omega) i333 (Or.inr (Or.inl (fun z => absurd (f161.trans z) (by assumption)))) | exact gSkip hIv hp5 (fun v hv => hP v (fun z => by revert hv z; revert v; decide)) hrr (by omega) (by omega) i333 (Or.inr (Or.inr (by rw [← ht9]; omega)))) hI hP hH hS (lv_sub hl [2, 3, 4, 5, 6, 0] rfl)
                        · have j325 := t_nle c325
                          refine lv_goto (tgt := 222) S.1 S.2.1 dX5_goes_174 (by decide) ?_
                          obtain ⟨v334, e334⟩ : ∃ y_9 : Int32, y_9 = x6_310 + 1 := ⟨_, rfl⟩
                          have i334 : v334.toInt = x6_310.toInt + 1 := i_addc e334 (by decide) (by omega) (by omega)
                          refine lv_iinc (v := v334) (lv' := [(6, .int v334), (7, .int v317), (0, .ref (L 0 0)), (1, .int m9), (2, .int a), (3, .int t), (4, .int b)]) S.1 S.2.1 dX5_goes_222 hl (k := 6) rfl (by rw [e334]; rfl) (by decide) rfl (fun ls hl => ?_)
                          refine lv_goto (tgt := 114) S.1 S.2.1 dX5_goes_225 (by decide) ?_
                          exact ih310 v334 σ_310 _ _ ls (by omega) (by omega) (by first | exact hbe9 | exact hbe) (by first | exact hrk9 | exact hrk) (by first | exact gWent hgw (by omega) i334 | exact gSkip hIv hp5 (fun v hv => hP v (fun z => by revert hv z; revert v; decide)) hrr (by omega) (by omega) i334 (Or.inl (f151.symm.trans (by assumption))) | exact gSkip hIv hp5 (fun v hv => hP v (fun z => by revert hv z; revert v; decide)) hrr (by omega) (by omega) i334 (Or.inr (Or.inl (fun z => absurd (f161.trans z) (by assumption)))) | exact gSkip hIv hp5 (fun v hv => hP v (fun z => by revert hv z; revert v; decide)) hrr (by omega) (by omega) i334 (Or.inr (Or.inr (by rw [← ht9]; omega)))) hI hP hH hS (lv_sub hl [2, 3, 4, 5, 6, 0] rfl)
              exact cut_114_310 _ 1 σ _ _ ls (Nat.lt_succ_self _) (by omega) (by first | rfl | exact hbe) (by first | (intro k h9; rfl) | (intro k h9; rw [hrw])) (by rw [show (1 : Int32).toNatClampNeg = 1 by decide]; first | exact gOld hp5 hp6 (by omega) | exact gNew hp5 hp6 (fun v hv => hP v (fun z => by revert hv z; revert v; decide)) (by omega) (by omega) h3v.1 h3v.2.1 h3v.2.2 (fun k h9 => hcp k (by omega))) hI hP hH hS (lv_sub hl [2, 3, 4, 5, 6, 0] rfl)
            · have j309 := t_nle c309
              refine lv_aload_n S.1 S.2.1 dX5_goes_65 rfl (lv_at hl 1 rfl) ?_
              refine lv_iload_n S.1 S.2.1 dX5_goes_66 rfl (lv_at hl 2 rfl) ?_
              refine pM_0_34 S hnX5 K hH hS (mG wd_380) dX5_goes_67 (fun H locs hH hS => ?_)
              obtain ⟨σ335, eσ335⟩ : ∃ z_9 : QS, z_9 = rs σ 34 0 (fun _ => m9) := ⟨_, rfl⟩
              rw [← eσ335] at hH
              have hI := InvM_f eσ335 hI (by decide) (show ((-1) : Int) ≤ m9.toInt ∧ m9.toInt ≤ 8 by omega)
              have hP := Keep_w eσ335 hP (by decide)
              refine lv_aload_n S.1 S.2.1 dX5_goes_70 rfl (lv_at hl 1 rfl) ?_
              refine lv_iload S.1 S.2.1 dX5_goes_71 (lv_at hl 5 rfl) ?_
              refine pM_0_35 S hnX5 K hH hS (mG wd_381) dX5_goes_73 (fun H locs hH hS => ?_)
              obtain ⟨σ336, eσ336⟩ : ∃ z_9 : QS, z_9 = rs σ335 35 0 (fun _ => b) := ⟨_, rfl⟩
              rw [← eσ336] at hH
              have hI := InvM_f eσ336 hI (by decide) (any32 _)
              have hP := Keep_w eσ336 hP (by decide)
              refine lv_aload_n S.1 S.2.1 dX5_goes_76 rfl (lv_at hl 1 rfl) ?_
              refine lv_iload S.1 S.2.1 dX5_goes_77 (lv_at hl 0 rfl) ?_
              refine pM_0_36 S hnX5 K hH hS (mG wd_382) dX5_goes_79 (fun H locs hH hS => ?_)
              obtain ⟨σ337, eσ337⟩ : ∃ z_9 : QS, z_9 = rs σ336 36 0 (fun _ => v189) := ⟨_, rfl⟩
              rw [← eσ337] at hH
              have hI := InvM_f eσ337 hI (by decide) (any32 _)
              have hP := Keep_w eσ337 hP (by decide)
              refine lv_iconst (v := 0) S.1 S.2.1 dX5_goes_82 (by decide) ?_
              refine lv_istore (lv' := [(6, .int 0), (5, .int v189), (0, .ref (L 0 0)), (1, .int m9), (2, .int a), (3, .int t), (4, .int b)]) S.1 S.2.1 dX5_goes_83 hl (by decide) rfl (fun ls hl => ?_)
              have cut_85_338 : ∀ (n : Nat) (x6_338 : Int32) (σ_338 : QS) (H : Heap) (locs : List Loc) (ls : Array Slot), (8 - x6_338.toInt).toNat < n → 0 ≤ x6_338.toInt ∧ x6_338.toInt ≤ 8 → (σ_338 33 = σ 33) → (σ_338 30 = σ 30) → ((σ_338 34 0 0).toInt = m9.toInt ∧ (σ_338 35 0 0).toInt = b.toInt ∧ (σ_338 36 0 0).toInt = ezTot (wkC (σ 27 0)) (mnC (σ 28 0)) pz) → (∀ k : Nat, (k : Int) < x6_338.toInt → σ_338 31 0 k = σ 30 0 k) → InvM σ_338 → Keep [34, 35, 36, 31, 30, 33] σ σ_338 → hW cntM gM D B L σ_338 τ H → va_S A s.heap H locs → lv_has ls 8 [(0, .ref (L 0 0)), (1, .int m9), (2, .int a), (3, .int t), (4, .int b), (6, .int x6_338)] → W p l e { frames := fr + 1, cells := 0, slots := 0, locals := 8 + (8 + 11) + lo } s m [.ref (L 0 0), .int m9, .int a, .int t, .int b].toArray below meth c H locs 0 0 (MQ below (QcW cntM gM D B L A (pV (fun σ' τ' => InvM σ' ∧ Keep [34, 35, 36, 31, 30, 33] σ σ' ∧ τ' = τ ∧ (σ' 33 = σ 33 ∧ (∀ k : Nat, (k : Int) < m9.toInt → σ' 30 0 k = σ 30 0 k) ∧ gR σ' (fun q => ezLt q (pz ++ [9])))))) [.ref (L 0 0), .int m9, .int a, .int t, .int b].toArray s 0 0 A) (F0 m 85 ls []) := by
                intro n
                induction n with
                | zero => intro x6_338 σ_338 H locs ls hm; exact absurd hm (Nat.not_lt_zero _)
                | succ n ih338 =>
                  intro x6_338 σ_338 H locs ls hm338 h338_0 hbe hrw h3v hcp hI hP hH hS hl
                  refine lv_iload S.1 S.2.1 dX5_goes_85 (lv_at hl 5 rfl) ?_
                  refine lv_iload_n S.1 S.2.1 dX5_goes_87 rfl (lv_at hl 1 rfl) ?_
                  refine lv_icmp_ge (tgt := 111) S.1 S.2.1 dX5_goes_88 (by decide) (fun c339 => ?_) (fun c339 => ?_)
                  · have j339 := t_le c339
                    refine lv_iconst (v := 1) S.1 S.2.1 dX5_goes_111 (by decide) ?_
                    refine lv_istore (lv' := [(6, .int 1), (0, .ref (L 0 0)), (1, .int m9), (2, .int a), (3, .int t), (4, .int b)]) S.1 S.2.1 dX5_goes_112 hl (by decide) rfl (fun ls hl => ?_)
                    have cut_114_340 : ∀ (n : Nat) (x6_340 : Int32) (σ_340 : QS) (H : Heap) (locs : List Loc) (ls : Array Slot), (9 - x6_340.toInt).toNat < n → 1 ≤ x6_340.toInt ∧ x6_340.toInt ≤ 9 → (σ_340 33 = σ 33) → (∀ k : Nat, (k : Int) < m9.toInt → σ_340 30 0 k = σ 30 0 k) → (gR σ_340 (fun q => ezLt q (pz ++ [x6_340.toNatClampNeg]))) → InvM σ_340 → Keep [34, 35, 36, 31, 30, 33] σ σ_340 → hW cntM gM D B L σ_340 τ H → va_S A s.heap H locs → lv_has ls 8 [(0, .ref (L 0 0)), (1, .int m9), (2, .int a), (3, .int t), (4, .int b), (6, .int x6_340)] → W p l e { frames := fr + 1, cells := 0, slots := 0, locals := 8 + (8 + 11) + lo } s m [.ref (L 0 0), .int m9, .int a, .int t, .int b].toArray below meth c H locs 0 0 (MQ below (QcW cntM gM D B L A (pV (fun σ' τ' => InvM σ' ∧ Keep [34, 35, 36, 31, 30, 33] σ σ' ∧ τ' = τ ∧ (σ' 33 = σ 33 ∧ (∀ k : Nat, (k : Int) < m9.toInt → σ' 30 0 k = σ 30 0 k) ∧ gR σ' (fun q => ezLt q (pz ++ [9])))))) [.ref (L 0 0), .int m9, .int a, .int t, .int b].toArray s 0 0 A) (F0 m 114 ls []) := by
                      intro n
                      induction n with
                      | zero => intro x6_340 σ_340 H locs ls hm; exact absurd hm (Nat.not_lt_zero _)
                      | succ n ih340 =>
                        intro x6_340 σ_340 H locs ls hm340 h340_0 hbe hrk hrr hI hP hH hS hl
                        refine lv_iload S.1 S.2.1 dX5_goes_114 (lv_at hl 5 rfl) ?_
                        refine lv_bipush (v := 9) S.1 S.2.1 dX5_goes_116 (by decide) ?_
                        refine lv_icmp_ge (tgt := 228) S.1 S.2.1 dX5_goes_118 (by decide) (fun c341 => ?_) (fun c341 => ?_)
                        · have j341 := t_le c341
                          refine cW_vret S hr hk hH hS ?_ dX5_goes_228
                          exact ⟨rfl, hI, hP, rfl, by refine ⟨hbe, hrk, ?_⟩; have h9 : x6_340.toNatClampNeg = 9 := (by have h8 := cl_eq (j := x6_340) (by omega); omega); rw [h9] at hrr; exact hrr⟩
                        · have j341 := t_nle c341
                          refine lv_iload_n S.1 S.2.1 dX5_goes_121 rfl (lv_at hl 3 rfl) ?_
                          refine lv_aload_n S.1 S.2.1 dX5_goes_122 rfl (lv_at hl 0 rfl) ?_
                          refine rM_0_27 S hnX5 K hH (mG wd_328) dX5_goes_123 ?_
                          refine lv_bipush (v := 9) S.1 S.2.1 dX5_goes_126 (by decide) ?_
                          refine lv_iload_n S.1 S.2.1 dX5_goes_128 rfl (lv_at hl 2 rfl) ?_
                          refine lv_imul S.1 S.2.1 dX5_goes_129 ?_
                          refine lv_topi (fun v342 e342 => ?_)
                          have i342 : v342.toInt = 9 * a.toInt := i_mulcl e342 (by decide) (by omega) (by omega)
                          refine lv_iload S.1 S.2.1 dX5_goes_130 (lv_at hl 5 rfl) ?_
                          refine lv_iadd S.1 S.2.1 dX5_goes_132 ?_
                          refine lv_topi (fun v343 e343 => ?_)
                          have i343 : v343.toInt = v342.toInt + x6_340.toInt := i_add e343 (by omega) (by omega)
                          refine lM_27 S K hH (vin (by omega) (by omega)) dX5_goes_133 ?_
                          refine lv_topi (fun v344 e344 => ?_)
                          have b344 : 0 ≤ v344.toInt ∧ v344.toInt ≤ 60 := by rw [e344]; exact hI.1 27 0 v343.toNatClampNeg
                          refine lv_iadd S.1 S.2.1 dX5_goes_134 ?_
                          refine lv_topi (fun v345 e345 => ?_)
                          have i345 : v345.toInt = t.toInt + v344.toInt := i_add e345 (by omega) (by omega)
                          refine lv_aload_n S.1 S.2.1 dX5_goes_135 rfl (lv_at hl 0 rfl) ?_
                          refine rM_0_28 S hnX5 K hH (mG wd_329) dX5_goes_136 ?_
                          refine lv_iload S.1 S.2.1 dX5_goes_139 (lv_at hl 5 rfl) ?_
                          refine lM_28 S K hH (vin (by omega) (by omega)) dX5_goes_141 ?_
                          refine lv_topi (fun v346 e346 => ?_)
                          have b346 : 0 ≤ v346.toInt ∧ v346.toInt ≤ 60 := by rw [e346]; exact hI.1 28 0 x6_340.toNatClampNeg
                          refine lv_iadd S.1 S.2.1 dX5_goes_142 ?_
                          refine lv_topi (fun v347 e347 => ?_)
                          have i347 : v347.toInt = v345.toInt + v346.toInt := i_add e347 (by omega) (by omega)
                          refine lv_istore (lv' := [(7, .int v347), (0, .ref (L 0 0)), (1, .int m9), (2, .int a), (3, .int t), (4, .int b), (6, .int x6_340)]) S.1 S.2.1 dX5_goes_143 hl (by decide) rfl (fun ls hl => ?_)
                          have ht9 : v347.toInt = t.toInt + (σ 27 0 (9 * a.toNatClampNeg + x6_340.toNatClampNeg)).toInt + (σ 28 0 x6_340.toNatClampNeg).toInt := by rw [i347, i345, e344, e346, hP 27 (by decide), hP 28 (by decide), ix9 i342 i343 (by omega) (by omega)]
                          refine lv_aload_n S.1 S.2.1 dX5_goes_145 rfl (lv_at hl 1 rfl) ?_
                          refine rM_0_32 S hnX5 K hH (mG wd_333) dX5_goes_146 ?_
                          refine lv_iload S.1 S.2.1 dX5_goes_149 (lv_at hl 6 rfl) ?_
                          refine lM_32 S K hH (vin (by omega) (by omega)) dX5_goes_151 ?_
                          refine lv_topi (fun v348 e348 => ?_)
                          have f151 : v348 = σ 32 0 x6_340.toNatClampNeg := by rw [e348, hP 32 (by decide)]
                          refine lv_if_eq (tgt := 222) S.1 S.2.1 dX5_goes_152 (by decide) (fun c349 => ?_) (fun c349 => ?_)
                          · have j349 := t_eq c349
                            obtain ⟨v350, e350⟩ : ∃ y_9 : Int32, y_9 = x6_340 + 1 := ⟨_, rfl⟩
                            have i350 : v350.toInt = x6_340.toInt + 1 := i_addc e350 (by decide) (by omega) (by omega)
                            refine lv_iinc (v := v350) (lv' := [(6, .int v350), (7, .int v347), (0, .ref (L 0 0)), (1, .int m9), (2, .int a), (3, .int t), (4, .int b)]) S.1 S.2.1 dX5_goes_222 hl (k := 6) rfl (by rw [e350]; rfl) (by decide) rfl (fun ls hl => ?_)
                            refine lv_goto (tgt := 114) S.1 S.2.1 dX5_goes_225 (by decide) ?_
                            exact ih340 v350 σ_340 _ _ ls (by omega) (by omega) (by first | exact hbe9 | exact hbe) (by first | exact hrk9 | exact hrk) (by first | exact gWent hgw (by omega) i350 | exact gSkip hIv hp5 (fun v hv => hP v (fun z => by revert hv z; revert v; decide)) hrr (by omega) (by omega) i350 (Or.inl (f151.symm.trans (by assumption))) | exact gSkip hIv hp5 (fun v hv => hP v (fun z => by revert hv z; revert v; decide)) hrr (by omega) (by omega) i350 (Or.inr (Or.inl (fun z => absurd (f161.trans z) (by assumption)))) | exact gSkip hIv hp5 (fun v hv => hP v (fun z => by revert hv z; revert v; decide)) hrr (by omega) (by omega) i350 (Or.inr (Or.inr (by rw [← ht9]; omega)))) hI hP hH hS (lv_sub hl [2, 3, 4, 5, 6, 0] rfl)
                          · have j349 := t_neq c349
                            refine lv_aload_n S.1 S.2.1 dX5_goes_155 rfl (lv_at hl 1 rfl) ?_
                            refine rM_0_33 S hnX5 K hH (mG wd_334) dX5_goes_156 ?_
                            refine lv_iload S.1 S.2.1 dX5_goes_159 (lv_at hl 6 rfl) ?_
                            refine lM_33 S K hH (vin (by omega) (by omega)) dX5_goes_161 ?_
                            refine lv_topi (fun v351 e351 => ?_)
                            have f161 : v351 = σ 33 0 x6_340.toNatClampNeg := by rw [e351, hbe]
                            refine lv_if_ne (tgt := 222) S.1 S.2.1 dX5_goes_162 (by decide) (fun c352 => ?_) (fun c352 => ?_)
                            · have j352 := t_neq c352
                              obtain ⟨v353, e353⟩ : ∃ y_9 : Int32, y_9 = x6_340 + 1 := ⟨_, rfl⟩
                              have i353 : v353.toInt = x6_340.toInt + 1 := i_addc e353 (by decide) (by omega) (by omega)
                              refine lv_iinc (v := v353) (lv' := [(6, .int v353), (7, .int v347), (0, .ref (L 0 0)), (1, .int m9), (2, .int a), (3, .int t), (4, .int b)]) S.1 S.2.1 dX5_goes_222 hl (k := 6) rfl (by rw [e353]; rfl) (by decide) rfl (fun ls hl => ?_)
                              refine lv_goto (tgt := 114) S.1 S.2.1 dX5_goes_225 (by decide) ?_
                              exact ih340 v353 σ_340 _ _ ls (by omega) (by omega) (by first | exact hbe9 | exact hbe) (by first | exact hrk9 | exact hrk) (by first | exact gWent hgw (by omega) i353 | exact gSkip hIv hp5 (fun v hv => hP v (fun z => by revert hv z; revert v; decide)) hrr (by omega) (by omega) i353 (Or.inl (f151.symm.trans (by assumption))) | exact gSkip hIv hp5 (fun v hv => hP v (fun z => by revert hv z; revert v; decide)) hrr (by omega) (by omega) i353 (Or.inr (Or.inl (fun z => absurd (f161.trans z) (by assumption)))) | exact gSkip hIv hp5 (fun v hv => hP v (fun z => by revert hv z; revert v; decide)) hrr (by omega) (by omega) i353 (Or.inr (Or.inr (by rw [← ht9]; omega)))) hI hP hH hS (lv_sub hl [2, 3, 4, 5, 6, 0] rfl)
                            · have j352 := t_eq c352
                              refine lv_iload S.1 S.2.1 dX5_goes_165 (lv_at hl 0 rfl) ?_
                              refine lv_aload_n S.1 S.2.1 dX5_goes_167 rfl (lv_at hl 1 rfl) ?_
                              refine rM_0_37 S hnX5 K hH (mG wd_379) dX5_goes_168 ?_
                              refine lv_topi (fun v354 e354 => ?_)
                              have b354 : 0 ≤ v354.toInt ∧ v354.toInt ≤ 500 := by rw [e354]; exact hI.1 37 0 0
                              have f168 : v354.toInt = (σ 37 0 0).toInt := by rw [e354, hP 37 (by decide)]
                              refine lv_icmp_le (tgt := 177) S.1 S.2.1 dX5_goes_171 (by decide) (fun c355 => ?_) (fun c355 => ?_)
                              · have j355 := t_le c355
                                refine lv_aload_n S.1 S.2.1 dX5_goes_177 rfl (lv_at hl 1 rfl) ?_
                                refine rM_0_33 S hnX5 K hH (mG wd_334) dX5_goes_178 ?_
                                refine lv_iload S.1 S.2.1 dX5_goes_181 (lv_at hl 6 rfl) ?_
                                refine lv_iconst (v := 1) S.1 S.2.1 dX5_goes_183 (by decide) ?_
                                refine sM_33 S K hH hS (vin (by omega) (by omega)) dX5_goes_184 (fun H locs hH hS => ?_)
                                obtain ⟨σ356, eσ356⟩ : ∃ z_9 : QS, z_9 = rs σ_340 33 0 (upd (σ_340 33 0) x6_340.toNatClampNeg (vp_nar .boolean 1)) := ⟨_, rfl⟩
                                rw [← eσ356] at hH
                                have hI := InvM_a eσ356 hI (by decide) (any32 _)
                                have hP := Keep_w eσ356 hP (by decide)
                                refine lv_aload_n S.1 S.2.1 dX5_goes_185 rfl (lv_at hl 1 rfl) ?_
                                refine rM_0_30 S hnX5 K hH (mG wd_331) dX5_goes_186 ?_
                                refine lv_iload_n S.1 S.2.1 dX5_goes_189 rfl (lv_at hl 2 rfl) ?_
                                refine lv_iload S.1 S.2.1 dX5_goes_190 (lv_at hl 6 rfl) ?_
                                refine sM_30 S K hH hS (vin (by omega) (by omega)) dX5_goes_192 (fun H locs hH hS => ?_)
                                obtain ⟨σ357, eσ357⟩ : ∃ z_9 : QS, z_9 = rs σ356 30 0 (upd (σ356 30 0) m9.toNatClampNeg x6_340) := ⟨_, rfl⟩
                                rw [← eσ357] at hH
                                have hI := InvM_a eσ357 hI (by decide) (any32 _)
                                have hP := Keep_w eσ357 hP (by decide)
                                refine lv_aload_n S.1 S.2.1 dX5_goes_193 rfl (lv_at hl 1 rfl) ?_
                                refine lv_iload_n S.1 S.2.1 dX5_goes_194 rfl (lv_at hl 2 rfl) ?_
                                refine lv_iconst (v := 1) S.1 S.2.1 dX5_goes_195 (by decide) ?_
                                refine lv_iadd S.1 S.2.1 dX5_goes_196 ?_
                                refine lv_topi (fun v358 e358 => ?_)
                                have i358 : v358.toInt = m9.toInt + (1 : Int32).toInt := i_add e358 (by omega) (by omega)
                                refine lv_iload S.1 S.2.1 dX5_goes_197 (lv_at hl 6 rfl) ?_
                                refine lv_iload S.1 S.2.1 dX5_goes_199 (lv_at hl 0 rfl) ?_
                                refine lv_iload S.1 S.2.1 dX5_goes_201 (lv_at hl 5 rfl) ?_
                                refine lv_aload_n S.1 S.2.1 dX5_goes_203 rfl (lv_at hl 1 rfl) ?_
                                refine rM_0_29 S hnX5 K hH (mG wd_330) dX5_goes_204 ?_
                                refine lv_iload S.1 S.2.1 dX5_goes_207 (lv_at hl 6 rfl) ?_
                                refine lM_29 S K hH (vin (by omega) (by omega)) dX5_goes_209 ?_
                                refine lv_topi (fun v359 e359 => ?_)
                                have b359 : 0 ≤ v359.toInt ∧ v359.toInt ≤ 100 := by rw [e359]; exact hI.1 29 0 x6_340.toNatClampNeg
                                have f209 : v359.toInt = (σ 29 0 x6_340.toNatClampNeg).toInt := by rw [e359, hP 29 (by decide)]
                                refine lv_iadd S.1 S.2.1 dX5_goes_210 ?_
                                refine lv_topi (fun v360 e360 => ?_)
                                have i360 : v360.toInt = b.toInt + v359.toInt := i_add e360 (by omega) (by omega)
                                have hgd9 : gP σ357 (pz ++ [x6_340.toNatClampNeg]) v358 x6_340 v347 v360 := gDown hp5 (fun v hv => hP v (fun z => by revert hv z; revert v; decide)) (by omega) (by omega) (fun z => absurd (f151.trans z) (by assumption)) (f161.symm.trans (by assumption)) (by omega) ht9 (by rw [i360, f209]) (fun c => by rw [eσ357, rs_v (by decide), eσ356, rs_self, hbe]; rfl) (fun k h9 => by rw [eσ357, rs_self, eσ356, rs_v (by decide)]; unfold upd; have h8 := cl_eq (j := m9) (by omega); by_cases hq : k = m9.toNatClampNeg; rw [if_pos hq, if_pos (by omega)]; rw [if_neg hq, if_neg (by omega)]; exact hrk k (by omega))
                                have hgr9 : gR σ357 (fun q => ezLt q (pz ++ [x6_340.toNatClampNeg])) := gR_of hrr (fun v hv => by rw [eσ357, rs_v (by intro z; subst z; revert hv; decide), eσ356, rs_v (by intro z; subst z; revert hv; decide)])
                                have hlen9 : 0 ≤ v358.toInt ∧ v358.toInt ≤ 8 := by have h9 := isP_len _ hgd9.1.1 (fun s hs => ⟨(hgd9.1.2 s hs).1, (hgd9.1.2 s hs).2.1⟩) 8 (fun s hs => (hgd9.1.2 s hs).2.1); have h8 := hgd9.2.1; omega
                                refine cW_bv (cW_V (n := 4) (As := [.int v358, .int x6_340, .int v347, .int v360]) (rest := []) (k := 0) (i := 0) S K hH (by decide) rfl rfl (IH σ357 τ v358 x6_340 v347 v360 (pz ++ [x6_340.toNatClampNeg]) (hlen9) (by omega) (by omega) (by omega) hI (hgd9) (hgr9) (by omega) (by omega)) gX5_goes_X5_goes rfl hdV_X5_goes ⟨Nat.le_refl _, Nat.le_refl _⟩ rfl hl.1 (Nat.le_of_ble_eq_true rfl) dX5_goes_211) hS (fun σ361 τ361 H locs q361 hH hS => ?_)
                                obtain ⟨hI, hP361, hτ361, q361⟩ := q361
                                rw [hτ361] at hH
                                have hP := Keep_t hP hP361 (by decide)
                                refine lv_aload_n S.1 S.2.1 dX5_goes_214 rfl (lv_at hl 1 rfl) ?_
                                refine rM_0_33 S hnX5 K hH (mG wd_334) dX5_goes_215 ?_
                                refine lv_iload S.1 S.2.1 dX5_goes_218 (lv_at hl 6 rfl) ?_
                                refine lv_iconst (v := 0) S.1 S.2.1 dX5_goes_220 (by decide) ?_
                                refine sM_33 S K hH hS (vin (by omega) (by omega)) dX5_goes_221 (fun H locs hH hS => ?_)
                                obtain ⟨σ362, eσ362⟩ : ∃ z_9 : QS, z_9 = rs σ361 33 0 (upd (σ361 33 0) x6_340.toNatClampNeg (vp_nar .boolean 0)) := ⟨_, rfl⟩
                                rw [← eσ362] at hH
                                have hI := InvM_a eσ362 hI (by decide) (any32 _)
                                have hP := Keep_w eσ362 hP (by decide)
                                have hbe9 : σ362 33 = σ 33 := (been_back eσ356 (σ2 := σ357) (by rw [eσ357, rs_v (by decide)]) (q361).1 eσ362 e351 (by omega)).trans hbe
                                have hrk9 : ∀ k : Nat, (k : Int) < m9.toInt → σ362 30 0 k = σ 30 0 k := fun k h9 => by rw [eσ362, rs_v (by decide), (q361).2.1 k (by omega), eσ357, rs_self, eσ356, rs_v (by decide)]; unfold upd; have h8 := cl_eq (j := m9) (by omega); rw [if_neg (by omega)]; exact hrk k h9
                                have hgw : gR σ362 (fun q => ezLt q ((pz ++ [x6_340.toNatClampNeg]) ++ [9])) := gR_of (q361).2.2 (fun v hv => by rw [eσ362, rs_v (by intro z; subst z; revert hv; decide)])
                                obtain ⟨v363, e363⟩ : ∃ y_9 : Int32, y_9 = x6_340 + 1 := ⟨_, rfl⟩
                                have i363 : v363.toInt = x6_340.toInt + 1 := i_addc e363 (by decide) (by omega) (by omega)
                                refine lv_iinc (v := v363) (lv' := [(6, .int v363), (7, .int v347), (0, .ref (L 0 0)), (1, .int m9), (2, .int a), (3, .int t), (4, .int b)]) S.1 S.2.1 dX5_goes_222 hl (k := 6) rfl (by rw [e363]; rfl) (by decide) rfl (fun ls hl => ?_)
                                refine lv_goto (tgt := 114) S.1 S.2.1 dX5_goes_225 (by decide) ?_
                                exact ih340 v363 σ362 _ _ ls (by omega) (by omega) (by first | exact hbe9 | exact hbe) (by first | exact hrk9 | exact hrk) (by first | exact gWent hgw (by omega) i363 | exact gSkip hIv hp5 (fun v hv => hP v (fun z => by revert hv z; revert v; decide)) hrr (by omega) (by omega) i363 (Or.inl (f151.symm.trans (by assumption))) | exact gSkip hIv hp5 (fun v hv => hP v (fun z => by revert hv z; revert v; decide)) hrr (by omega) (by omega) i363 (Or.inr (Or.inl (fun z => absurd (f161.trans z) (by assumption)))) | exact gSkip hIv hp5 (fun v hv => hP v (fun z => by revert hv z; revert v; decide)) hrr (by omega) (by omega) i363 (Or.inr (Or.inr (by rw [← ht9]; omega)))) hI hP hH hS (lv_sub hl [2, 3, 4, 5, 6, 0] rfl)
                              · have j355 := t_nle c355
                                refine lv_goto (tgt := 222) S.1 S.2.1 dX5_goes_174 (by decide) ?_
                                obtain ⟨v364, e364⟩ : ∃ y_9 : Int32, y_9 = x6_340 + 1 := ⟨_, rfl⟩
                                have i364 : v364.toInt = x6_340.toInt + 1 := i_addc e364 (by decide) (by omega) (by omega)
                                refine lv_iinc (v := v364) (lv' := [(6, .int v364), (7, .int v347), (0, .ref (L 0 0)), (1, .int m9), (2, .int a), (3, .int t), (4, .int b)]) S.1 S.2.1 dX5_goes_222 hl (k := 6) rfl (by rw [e364]; rfl) (by decide) rfl (fun ls hl => ?_)
                                refine lv_goto (tgt := 114) S.1 S.2.1 dX5_goes_225 (by decide) ?_
                                exact ih340 v364 σ_340 _ _ ls (by omega) (by omega) (by first | exact hbe9 | exact hbe) (by first | exact hrk9 | exact hrk) (by first | exact gWent hgw (by omega) i364 | exact gSkip hIv hp5 (fun v hv => hP v (fun z => by revert hv z; revert v; decide)) hrr (by omega) (by omega) i364 (Or.inl (f151.symm.trans (by assumption))) | exact gSkip hIv hp5 (fun v hv => hP v (fun z => by revert hv z; revert v; decide)) hrr (by omega) (by omega) i364 (Or.inr (Or.inl (fun z => absurd (f161.trans z) (by assumption)))) | exact gSkip hIv hp5 (fun v hv => hP v (fun z => by revert hv z; revert v; decide)) hrr (by omega) (by omega) i364 (Or.inr (Or.inr (by rw [← ht9]; omega)))) hI hP hH hS (lv_sub hl [2, 3, 4, 5, 6, 0] rfl)
                    exact cut_114_340 _ 1 σ_338 _ _ ls (Nat.lt_succ_self _) (by omega) (by first | rfl | exact hbe) (by first | (intro k h9; rfl) | (intro k h9; rw [hrw])) (by rw [show (1 : Int32).toNatClampNeg = 1 by decide]; first | exact gOld hp5 hp6 (by omega) | exact gNew hp5 hp6 (fun v hv => hP v (fun z => by revert hv z; revert v; decide)) (by omega) (by omega) h3v.1 h3v.2.1 h3v.2.2 (fun k h9 => hcp k (by omega))) hI hP hH hS (lv_sub hl [1, 2, 3, 4, 5, 0] rfl)
                  · have j339 := t_nle c339
                    exact absurd j339 (by omega)
              exact cut_85_338 _ 0 σ337 _ _ ls (Nat.lt_succ_self _) (by omega) (by rw [eσ337, rs_v (by decide), eσ336, rs_v (by decide), eσ335, rs_v (by decide)]) (by rw [eσ337, rs_v (by decide), eσ336, rs_v (by decide), eσ335, rs_v (by decide)]) (by refine ⟨?_, ?_, ?_⟩; rw [eσ337, rs_v (by decide), eσ336, rs_v (by decide), eσ335, rs_self]; rw [eσ337, rs_v (by decide), eσ336, rs_self]; rw [eσ337, rs_self]; exact hm9) (by intro k h9; exact absurd h9 (by omega)) hI hP hH hS (lv_sub hl [2, 3, 4, 5, 6, 0] rfl)
