set_option maxHeartbeats 4000000 in
set_option maxRecDepth 100000 in
theorem k_X4_seekRide (l : Launch) (D : va_G) (B : Nat → ClassId) (L : QL) (A : Nat → Prop) (σ : QS) (τ : Int64) (q : Nat) (N : Net) (nn : Nat) (hp0 : q < 60) (hI : InvC σ) (hp2 : 0 ≤ (σ 32 q 0).toInt) (hp3 : NetC σ N) (hp4 : PaC σ N (σ 1 0 0).toInt ((σ 1 0 0).toInt + 1) nn) (hp5 : (nn : Int) = (σ 0 0 0).toInt) (hp6 : wts (pC σ) q) (hp7 : q < nn) : cW cntC gC l D B L A yX4_seekRide wsX4_seekRide 4 101 [.ref (L 0 0), .ref (L 20 q)] σ τ (pV (fun σ' τ' => InvC σ' ∧ Keep [5, 9, 41, 42, 43, 30, 31, 34, 35, 36, 37, 38, 40] σ σ' ∧ τ' = τ ∧ skP σ σ' N q nn)) := by
  refine cW_of (cc := cX4_seekRide) (nL := 9) (ret := none) (by decide) rfl (Nat.le_of_ble_eq_true rfl) ?_
  intro p e s m below meth c S hr hk K hH hS ls hl
  have hnX0 : ∀ w ∈ wsX00, w ∈ wsX4_seekRide := fun w h => mG (tX0 w h)
  have hnX2 : ∀ w ∈ wsX20, w ∈ wsX4_seekRide := fun w h => mG (tX2 w h)
  have hnX3 : ∀ w ∈ wsX30, w ∈ wsX4_seekRide := fun w h => mG (tX3 w h)
  have hnX4 : ∀ w ∈ wsX40, w ∈ wsX4_seekRide := fun w h => mG (tX4 w h)
  have lm1 : ((-1) : Int32).toInt = -1 := by decide
  have l0 : (0 : Int32).toInt = 0 := by decide
  have l1 : (1 : Int32).toInt = 1 := by decide
  have hP : Keep [5, 9, 41, 42, 43, 30, 31, 34, 35, 36, 37, 38, 40] σ σ := Keep_r
  have hR9 := hp3.1
  have hN9 := hp3.1.1
  have hH9 := hp3.2.1
  have hw9 : 0 ≤ (σ 1 0 0).toInt ∧ (σ 1 0 0).toInt ≤ 5000 := hI.1 1 0 0
  have hq9 : ((σ 1 0 0).toInt % 24).toNat < 24 := by omega
  have hm9 : (σ 1 0 0).toInt % 24 = (((σ 1 0 0).toInt % 24).toNat : Int) := by omega
  have hpl : (σ 34 q 0).toInt ≤ 11 := (hI.1 34 q 0).2
  have hl : lv_has ls 9 [(0, .ref (L 0 0)), (1, .ref (L 20 q))] := hl
  refine lv_aload_n S.1 S.2.1 dX4_seekRide_0 rfl (lv_at hl 0 rfl) ?_
  refine rC_0_0 S hnX4 K hH (mG wd_149) dX4_seekRide_1 ?_
  refine lv_aload_n S.1 S.2.1 dX4_seekRide_4 rfl (lv_at hl 0 rfl) ?_
  refine rC_0_4 S hnX4 K hH (mG wd_156) dX4_seekRide_5 ?_
  refine lv_topi (fun v1 e1 => ?_)
  have b1 : 0 ≤ v1.toInt ∧ v1.toInt ≤ 5000 := by rw [e1]; exact hI.1 1 0 0
  refine cW_bpi (cW_V (n := 1) (As := [.int v1]) (rest := []) (k := 2) (i := 0) S K hH (by decide) rfl rfl (k_X3_haltsEnd l D B L A σ τ v1 (by omega) hI) gX4_seekRide_X3_haltsEnd rfl hdV_X3_haltsEnd ⟨Nat.le_of_ble_eq_true rfl, Nat.le_of_ble_eq_true rfl⟩ rfl hl.1 (Nat.le_of_ble_eq_true rfl) dX4_seekRide_8) hS (fun v2 H locs q2 hH hS => ?_)
  refine lv_istore_n (lv' := [(2, .int v2), (0, .ref (L 0 0)), (1, .ref (L 20 q))]) S.1 S.2.1 dX4_seekRide_11 rfl hl (by decide) rfl (fun ls hl => ?_)
  have hb8 : v2 = σ 7 0 (((σ 1 0 0).toInt % 24).toNat + 1) := by rw [(q2).2, e1]
  refine lv_aload_n S.1 S.2.1 dX4_seekRide_12 rfl (lv_at hl 1 rfl) ?_
  refine rC_0_0 S hnX4 K hH (mG wd_149) dX4_seekRide_13 ?_
  refine lv_aload_n S.1 S.2.1 dX4_seekRide_16 rfl (lv_at hl 1 rfl) ?_
  refine rC_0_4 S hnX4 K hH (mG wd_156) dX4_seekRide_17 ?_
  refine lv_topi (fun v3 e3 => ?_)
  have b3 : 0 ≤ v3.toInt ∧ v3.toInt ≤ 5000 := by rw [e3]; exact hI.1 1 0 0
  have k3 : v3.toInt = v1.toInt := by rw [e3]; rw [← e1]
  refine cW_bpi (cW_V (n := 1) (As := [.int v3]) (rest := []) (k := 2) (i := 0) S K hH (by decide) rfl rfl (k_X3_haltsBegin l D B L A σ τ v3 (by omega) hI) gX4_seekRide_X3_haltsBegin rfl hdV_X3_haltsBegin ⟨Nat.le_of_ble_eq_true rfl, Nat.le_of_ble_eq_true rfl⟩ rfl hl.1 (Nat.le_of_ble_eq_true rfl) dX4_seekRide_20) hS (fun v4 H locs q4 hH hS => ?_)
  refine lv_istore_n (lv' := [(3, .int v4), (2, .int v2), (0, .ref (L 0 0)), (1, .ref (L 20 q))]) S.1 S.2.1 dX4_seekRide_23 rfl hl (by decide) rfl (fun ls hl => ?_)
  have cut_24_5 : ∀ (n : Nat) (x3_5 : Int32) (σ_5 : QS) (H : Heap) (locs : List Loc) (ls : Array Slot), (v2.toInt - x3_5.toInt).toNat < n → 0 ≤ x3_5.toInt ∧ x3_5.toInt ≤ 72 → (Keep [5, 9, 41, 42, 43] σ σ_5) → (PaC σ_5 N (σ 1 0 0).toInt ((σ 1 0 0).toInt + 1) nn) → (skI N (σ 1 0 0).toInt (capC σ) (pC σ) q (σ 6 0) (σ 7 0 ((σ 1 0 0).toInt % 24).toNat).toInt x3_5.toInt) → ((σ 7 0 ((σ 1 0 0).toInt % 24).toNat).toInt ≤ x3_5.toInt) → (x3_5.toInt ≤ v2.toInt) → InvC σ_5 → Keep [5, 9, 41, 42, 43, 30, 31, 34, 35, 36, 37, 38, 40] σ σ_5 → hW cntC gC D B L σ_5 τ H → va_S A s.heap H locs → lv_has ls 9 [(0, .ref (L 0 0)), (1, .ref (L 20 q)), (2, .int v2), (3, .int x3_5)] → W p l e { frames := 4, cells := 0, slots := 0, locals := 101 } s m [.ref (L 0 0), .ref (L 20 q)].toArray below meth c H locs 0 0 (MQ below (QcW cntC gC D B L A (pV (fun σ' τ' => InvC σ' ∧ Keep [5, 9, 41, 42, 43, 30, 31, 34, 35, 36, 37, 38, 40] σ σ' ∧ τ' = τ ∧ skP σ σ' N q nn))) [.ref (L 0 0), .ref (L 20 q)].toArray s 0 0 A) (F0 m 24 ls []) := by
    intro n
    induction n with
    | zero => intro x3_5 σ_5 H locs ls hm; exact absurd hm (Nat.not_lt_zero _)
    | succ n ih5 =>
      intro x3_5 σ_5 H locs ls hm5 h5_0 w1 w2 w3 wb we hI hP hH hS hl
      have y9 : (σ_5 7 0 24).toInt = (σ 7 0 24).toInt := by rw [hP 7 (by decide)]
      have y8 : (σ_5 32 q 0).toInt = (σ 32 q 0).toInt := by rw [hP 32 (by decide)]
      have pE : pC σ_5 = pC σ := pC_k w1 (by decide)
      have hwt : wts (pC σ_5) q := by rw [pE]; exact hp6
      have e1 : σ_5 1 = σ 1 := w1 1 (by decide)
      refine lv_iload_n S.1 S.2.1 dX4_seekRide_24 rfl (lv_at hl 3 rfl) ?_
      refine lv_iload_n S.1 S.2.1 dX4_seekRide_25 rfl (lv_at hl 2 rfl) ?_
      refine lv_icmp_ge (tgt := 184) S.1 S.2.1 dX4_seekRide_26 (by decide) (fun c6 => ?_) (fun c6 => ?_)
      · have j6 := t_le c6
        refine cW_vret S hr hk hH hS ?_ dX4_seekRide_184
        exact ⟨rfl, hI, hP, rfl, by refine ⟨Or.inr ⟨sk_e hN9 hH9 hq9 hm9 (by rw [← hb8, ← show x3_5.toInt = v2.toInt by omega]; exact w3), pE⟩, w2⟩⟩
      · have j6 := t_nle c6
        refine lv_aload_n S.1 S.2.1 dX4_seekRide_29 rfl (lv_at hl 0 rfl) ?_
        refine rC_0_0 S hnX4 K hH (mG wd_149) dX4_seekRide_30 ?_
        refine lv_iload_n S.1 S.2.1 dX4_seekRide_33 rfl (lv_at hl 3 rfl) ?_
        refine cW_bpi (cW_V (n := 1) (As := [.int x3_5]) (rest := []) (k := 2) (i := 0) S K hH (by decide) rfl rfl (k_X3_cartOf l D B L A σ_5 τ x3_5 (by omega) hI (by omega)) gX4_seekRide_X3_cartOf rfl hdV_X3_cartOf ⟨Nat.le_of_ble_eq_true rfl, Nat.le_of_ble_eq_true rfl⟩ rfl hl.1 (Nat.le_of_ble_eq_true rfl) dX4_seekRide_34) hS (fun v7 H locs q7 hH hS => ?_)
        refine lv_istore (lv' := [(4, .int v7), (0, .ref (L 0 0)), (1, .ref (L 20 q)), (2, .int v2), (3, .int x3_5)]) S.1 S.2.1 dX4_seekRide_37 hl (by decide) rfl (fun ls hl => ?_)
        have ki := cl_eq (j := x3_5) (by omega)
        obtain ⟨kC, kS, k1, k2, k3, k4, k5, k6⟩ := halt_at hN9 hH9 hq9 (i := x3_5.toInt) (k := x3_5.toNatClampNeg) wb (by rw [← hb8]; omega) ki
        have k7 : v7 = nI kC := by rw [(q7).2, w1 6 (by decide)]; exact k4
        have k9 : v7.toNatClampNeg = kC := by rw [k7]; exact (nI_cl (by have := hN9.1; omega)).1
        have kK := hN9.1
        refine lv_aload_n S.1 S.2.1 dX4_seekRide_39 rfl (lv_at hl 1 rfl) ?_
        refine rC_0_0 S hnX4 K hH (mG wd_149) dX4_seekRide_40 ?_
        refine lv_iload_n S.1 S.2.1 dX4_seekRide_43 rfl (lv_at hl 4 rfl) ?_
        refine cW_bpi (cW_V (n := 1) (As := [.int x3_5]) (rest := []) (k := 2) (i := 0) S K hH (by decide) rfl rfl (k_X3_stopOf l D B L A σ_5 τ x3_5 (by omega) hI (by omega)) gX4_seekRide_X3_stopOf rfl hdV_X3_stopOf ⟨Nat.le_of_ble_eq_true rfl, Nat.le_of_ble_eq_true rfl⟩ rfl hl.1 (Nat.le_of_ble_eq_true rfl) dX4_seekRide_44) hS (fun v8 H locs q8 hH hS => ?_)
        refine lv_istore (lv' := [(5, .int v8), (4, .int v7), (0, .ref (L 0 0)), (1, .ref (L 20 q)), (2, .int v2), (3, .int x3_5)]) S.1 S.2.1 dX4_seekRide_47 hl (by decide) rfl (fun ls hl => ?_)
        have k10 : v8 = nI kS := by rw [(q8).2, w1 6 (by decide)]; exact k5
        have k11 : v8.toNatClampNeg = kS := by rw [k10]; exact (nI_cl (by have := (hN9.2 kC k1).1; omega)).1
        have k12 : v8.toInt = kS := by have z3 := cl_eq (j := v8) (by omega); omega
        refine lv_aload_n S.1 S.2.1 dX4_seekRide_49 rfl (lv_at hl 2 rfl) ?_
        refine rC_0_0 S hnX4 K hH (mG wd_149) dX4_seekRide_50 ?_
        refine rC_2_0 S hnX3 K hH (mG wd_167) dX4_seekRide_53 ?_
        refine lv_iload S.1 S.2.1 dX4_seekRide_56 (lv_at hl 1 rfl) ?_
        refine lC_3 S K hH (vin (by omega) (by omega)) dX4_seekRide_58 ?_
        refine lv_astore (lv' := [(6, .ref (L 14 v7.toNatClampNeg)), (5, .int v8), (4, .int v7), (0, .ref (L 0 0)), (1, .ref (L 20 q)), (2, .int v2), (3, .int x3_5)]) S.1 S.2.1 dX4_seekRide_59 hl (by decide) rfl (fun ls hl => ?_)
        refine lv_aload S.1 S.2.1 dX4_seekRide_61 (lv_at hl 0 rfl) ?_
        refine lv_iload S.1 S.2.1 dX4_seekRide_63 (lv_at hl 1 rfl) ?_
        refine lv_aload_n S.1 S.2.1 dX4_seekRide_65 rfl (lv_at hl 3 rfl) ?_
        refine rC_0_4 S hnX4 K hH (mG wd_156) dX4_seekRide_66 ?_
        refine lv_topi (fun v9 e9 => ?_)
        have b9 : 0 ≤ v9.toInt ∧ v9.toInt ≤ 5000 := by rw [e9]; exact hI.1 1 0 0
        refine cW_bpi (cW_V (n := 2) (As := [.int v8, .int v9]) (rest := []) (k := 14) (i := v7.toNatClampNeg) S K hH (cl_lt (n := 12) (by omega) (by omega)) rfl rfl (k_X0_dayOf l D B L A σ_5 τ v7.toNatClampNeg v8 v9 (cl_lt (n := 12) (by omega) (by omega)) (by omega) (by omega) hI) gX4_seekRide_X0_dayOf rfl hdV_X0_dayOf ⟨Nat.le_of_ble_eq_true rfl, Nat.le_of_ble_eq_true rfl⟩ rfl hl.1 (Nat.le_of_ble_eq_true rfl) dX4_seekRide_69) hS (fun v10 H locs q10 hH hS => ?_)
        refine lv_istore (lv' := [(7, .int v10), (6, .ref (L 14 v7.toNatClampNeg)), (5, .int v8), (4, .int v7), (0, .ref (L 0 0)), (1, .ref (L 20 q)), (2, .int v2), (3, .int x3_5)]) S.1 S.2.1 dX4_seekRide_72 hl (by decide) rfl (fun ls hl => ?_)
        have kd := dayW (h := (σ 1 0 0).toInt) (x := v10) hR9 k1 k2 (by omega) (by have z := (q10).2; rw [w1 22 (by decide), w1 28 (by decide), k9, k11, e9, e1] at z; exact z)
        refine lv_aload S.1 S.2.1 dX4_seekRide_74 (lv_at hl 1 rfl) ?_
        refine lv_aload_n S.1 S.2.1 dX4_seekRide_76 rfl (lv_at hl 5 rfl) ?_
        refine rC_20_2 S hnX2 K hH (show q < 60 by omega) (mG wd_226) dX4_seekRide_77 ?_
        refine lv_topi (fun v11 e11 => ?_)
        have b11 : (-1) ≤ v11.toInt ∧ v11.toInt ≤ 11 := by rw [e11]; exact hI.1 34 q 0
        refine lv_iload S.1 S.2.1 dX4_seekRide_80 (lv_at hl 2 rfl) ?_
        refine cW_bpi (cW_V (n := 2) (As := [.int v11, .int v8]) (rest := []) (k := 14) (i := v7.toNatClampNeg) S K hH (cl_lt (n := 12) (by omega) (by omega)) rfl rfl (k_X0_takesFrom l D B L A σ_5 τ v7.toNatClampNeg v11 v8 (cl_lt (n := 12) (by omega) (by omega)) (by omega) hI) gX4_seekRide_X0_takesFrom rfl hdV_X0_takesFrom ⟨Nat.le_of_ble_eq_true rfl, Nat.le_of_ble_eq_true rfl⟩ rfl hl.1 (Nat.le_of_ble_eq_true rfl) dX4_seekRide_82) hS (fun v12 H locs q12 hH hS => ?_)
        have ht9 := q12
        rw [w1 27 (by decide), w1 26 (by decide), k9, k11, ((hR9.2.2 kC k1).2.1 kS k2).1, ((hR9.2.2 kC k1).1).1, e11, w1 34 (by decide), k12] at ht9
        refine lv_if_eq (tgt := 178) S.1 S.2.1 dX4_seekRide_85 (by decide) (fun c13 => ?_) (fun c13 => ?_)
        · have j13 := t_eq c13
          obtain ⟨v14, e14⟩ : ∃ y_9 : Int32, y_9 = x3_5 + 1 := ⟨_, rfl⟩
          have i14 : v14.toInt = x3_5.toInt + 1 := i_addc e14 (by decide) (by omega) (by omega)
          refine lv_iinc (v := v14) (lv' := [(3, .int v14), (7, .int v10), (6, .ref (L 14 v7.toNatClampNeg)), (5, .int v8), (4, .int v7), (0, .ref (L 0 0)), (1, .ref (L 20 q)), (2, .int v2)]) S.1 S.2.1 dX4_seekRide_178 hl (k := 7) rfl (by rw [e14]; rfl) (by decide) rfl (fun ls hl => ?_)
          refine lv_goto (tgt := 24) S.1 S.2.1 dX4_seekRide_181 (by decide) ?_
          exact ih5 v14 σ_5 _ _ ls (by omega) (by omega) (by first | exact w1b | exact w1) (by first | exact w2b | exact w2) (by rw [i14]; refine sk_s hN9 w3 ki wb k1 k2 k3 ?_; first | exact tk_none hRb hpn (by omega) k1 kd hl9 (by omega) | exact tk_day kd (fun d hd hs => absurd hs.2.2.2.2.2 (by show ¬ (σ 33 q 0).toInt ≤ _; rw [hd, ← hr9, ← f106]; omega)) | exact tk_day kd (fun d hd hs => absurd ((gOn_run hR9 k1).mpr ⟨d, hd, hs.2.1⟩) ((hg9.resolve_left (fun y => absurd y.1 (by omega))).2)) | exact tk_day kd (fun d hd hs => absurd ⟨hs.2.2.2.1, by have z1 := hs.2.2.1; omega⟩ ((ht9.resolve_left (fun y => absurd y.1 (by omega))).2))) (by omega) (by omega) hI hP hH hS (lv_sub hl [5, 6, 7, 0] rfl)
        · have j13 := t_neq c13
          refine lv_aload S.1 S.2.1 dX4_seekRide_88 (lv_at hl 1 rfl) ?_
          refine lv_iload S.1 S.2.1 dX4_seekRide_90 (lv_at hl 0 rfl) ?_
          refine cW_bpi (cW_V (n := 1) (As := [.int v10]) (rest := []) (k := 14) (i := v7.toNatClampNeg) S K hH (cl_lt (n := 12) (by omega) (by omega)) rfl rfl (k_X0_goesOn l D B L A σ_5 τ v7.toNatClampNeg v10 (cl_lt (n := 12) (by omega) (by omega))) gX4_seekRide_X0_goesOn rfl hdV_X0_goesOn ⟨Nat.le_of_ble_eq_true rfl, Nat.le_of_ble_eq_true rfl⟩ rfl hl.1 (Nat.le_of_ble_eq_true rfl) dX4_seekRide_92) hS (fun v15 H locs q15 hH hS => ?_)
          have hg9 := q15
          rw [w1 21 (by decide), w1 29 (by decide), k9] at hg9
          refine lv_if_eq (tgt := 178) S.1 S.2.1 dX4_seekRide_95 (by decide) (fun c16 => ?_) (fun c16 => ?_)
          · have j16 := t_eq c16
            obtain ⟨v17, e17⟩ : ∃ y_9 : Int32, y_9 = x3_5 + 1 := ⟨_, rfl⟩
            have i17 : v17.toInt = x3_5.toInt + 1 := i_addc e17 (by decide) (by omega) (by omega)
            refine lv_iinc (v := v17) (lv' := [(3, .int v17), (7, .int v10), (6, .ref (L 14 v7.toNatClampNeg)), (5, .int v8), (4, .int v7), (0, .ref (L 0 0)), (1, .ref (L 20 q)), (2, .int v2)]) S.1 S.2.1 dX4_seekRide_178 hl (k := 7) rfl (by rw [e17]; rfl) (by decide) rfl (fun ls hl => ?_)
            refine lv_goto (tgt := 24) S.1 S.2.1 dX4_seekRide_181 (by decide) ?_
            exact ih5 v17 σ_5 _ _ ls (by omega) (by omega) (by first | exact w1b | exact w1) (by first | exact w2b | exact w2) (by rw [i17]; refine sk_s hN9 w3 ki wb k1 k2 k3 ?_; first | exact tk_none hRb hpn (by omega) k1 kd hl9 (by omega) | exact tk_day kd (fun d hd hs => absurd hs.2.2.2.2.2 (by show ¬ (σ 33 q 0).toInt ≤ _; rw [hd, ← hr9, ← f106]; omega)) | exact tk_day kd (fun d hd hs => absurd ((gOn_run hR9 k1).mpr ⟨d, hd, hs.2.1⟩) ((hg9.resolve_left (fun y => absurd y.1 (by omega))).2)) | exact tk_day kd (fun d hd hs => absurd ⟨hs.2.2.2.1, by have z1 := hs.2.2.1; omega⟩ ((ht9.resolve_left (fun y => absurd y.1 (by omega))).2))) (by omega) (by omega) hI hP hH hS (lv_sub hl [5, 6, 7, 0] rfl)
          · have j16 := t_neq c16
            refine lv_aload S.1 S.2.1 dX4_seekRide_98 (lv_at hl 1 rfl) ?_
            refine lv_iload S.1 S.2.1 dX4_seekRide_100 (lv_at hl 0 rfl) ?_
            refine cW_bpi (cW_V (n := 1) (As := [.int v10]) (rest := []) (k := 14) (i := v7.toNatClampNeg) S K hH (cl_lt (n := 12) (by omega) (by omega)) rfl rfl (k_X0_roomLeft l D B L A σ_5 τ v7.toNatClampNeg v10 (cl_lt (n := 12) (by omega) (by omega)) (by omega)) gX4_seekRide_X0_roomLeft rfl hdV_X0_roomLeft ⟨Nat.le_of_ble_eq_true rfl, Nat.le_of_ble_eq_true rfl⟩ rfl hl.1 (Nat.le_of_ble_eq_true rfl) dX4_seekRide_102) hS (fun v18 H locs q18 hH hS => ?_)
            have hr9 : v18.toInt = capC σ kC - onP (pC σ) kC v10.toInt := by have z := ld_room w2.1 w2.2.1 (c := kC) (by omega) (day := v10) (C := σ_5 23 kC 0) (x := v18) (by omega) (hI.1 23 kC 0) (by have z1 := q18; rw [k9] at z1; exact z1); rw [z, pE, w1 23 (by decide)]; unfold capC; rw [if_pos (by omega)]
            refine lv_aload_n S.1 S.2.1 dX4_seekRide_105 rfl (lv_at hl 5 rfl) ?_
            refine rC_20_1 S hnX2 K hH (show q < 60 by omega) (mG wd_215) dX4_seekRide_106 ?_
            refine lv_topi (fun v19 e19 => ?_)
            have f106 : v19.toInt = (σ 33 q 0).toInt := by rw [e19, w1 33 (by decide)]
            refine lv_icmp_ge (tgt := 115) S.1 S.2.1 dX4_seekRide_109 (by decide) (fun c20 => ?_) (fun c20 => ?_)
            · have j20 := t_le c20
              have hsit : ∀ d : Nat, (d : Int) = v10.toInt → sitK N (σ 1 0 0).toInt (capC σ) (pC σ) q kC d kS := fun d hd => ⟨k1, by have z1 := (gOn_run hR9 k1).mp ((hg9.resolve_right (fun y => absurd y.1 (by omega))).2.2); obtain ⟨d2, z2, z3⟩ := z1; rw [show d = d2 by omega]; exact z3, by have z1 := ht9.resolve_right (fun y => absurd y.1 (by omega)); have z2 := z1.2.2.2; omega, (ht9.resolve_right (fun y => absurd y.1 (by omega))).2.2.1, by unfold htN; omega, by show (σ 33 q 0).toInt ≤ _; rw [hd, ← hr9, ← f106]; omega⟩
              have w0 := w1
              have w20 := w2
              have pE0 := pE
              have s10 := e1
              refine lv_aload_n S.1 S.2.1 dX4_seekRide_115 rfl (lv_at hl 4 rfl) ?_
              refine lv_aload_n S.1 S.2.1 dX4_seekRide_116 rfl (lv_at hl 5 rfl) ?_
              refine cW_bv (cW_V (n := 1) (As := [.ref (L 20 q)]) (rest := []) (k := 0) (i := 0) S K hH (by decide) rfl rfl (k_X4_renewPlan l D B L A σ_5 τ q (N) (show q < 60 by omega) hI (by rw [← e11]; omega) (by omega) (NetC_k hp3 w1 (by decide)) (plQ_of w2 hwt (by have z9 := w2.1.1; omega) (by rw [e1]))) gX4_seekRide_X4_renewPlan rfl hdV_X4_renewPlan ⟨Nat.le_of_ble_eq_true rfl, Nat.le_of_ble_eq_true rfl⟩ rfl hl.1 (Nat.le_of_ble_eq_true rfl) dX4_seekRide_117) hS (fun σ21 τ21 H locs q21 hH hS => ?_)
              obtain ⟨hI, hP21, hτ21, q21⟩ := q21
              rw [hτ21] at hH
              have hP := Keep_t hP hP21 (by decide)
              have w1b : Keep [5, 9, 41, 42, 43] σ σ21 := Keep_t w0 hP21 (by decide)
              have hr2 := q21
              have w2b : PaC σ21 N (σ 1 0 0).toInt ((σ 1 0 0).toInt + 1) nn := by have z1 := PaC_rp (by rw [s10]; exact w20) hwt hr2 hP21 hp7; rw [s10] at z1; exact z1
              have pEb : pC σ21 = pC σ := pC_k w1b (by decide)
              have hRb : RepC σ21 N := RepC_k hR9 w1b (by decide)
              have hpn : plN N (pC σ q 2).toNatClampNeg (σ 1 0 0).toInt (pC σ q 0).toNatClampNeg (σ21 43 q) := by have z1 := hr2.2.2.1; rw [w0 34 (by decide), w0 32 (by decide), s10] at z1; exact z1
              refine lv_aload S.1 S.2.1 dX4_seekRide_120 (lv_at hl 1 rfl) ?_
              refine lv_iload S.1 S.2.1 dX4_seekRide_122 (lv_at hl 2 rfl) ?_
              refine lv_iload S.1 S.2.1 dX4_seekRide_124 (lv_at hl 0 rfl) ?_
              refine lv_aload_n S.1 S.2.1 dX4_seekRide_126 rfl (lv_at hl 5 rfl) ?_
              refine rC_20_11 S hnX2 K hH (show q < 60 by omega) (mG wd_225) dX4_seekRide_127 ?_
              refine cW_bpi (cW_V (n := 3) (As := [.int v8, .int v10, .ref (L 21 q)]) (rest := []) (k := 14) (i := v7.toNatClampNeg) S K hH (cl_lt (n := 12) (by omega) (by omega)) rfl rfl (k_X0_lastInTime l D B L A σ21 τ v7.toNatClampNeg v8 v10 q (cl_lt (n := 12) (by omega) (by omega)) (show q < 60 by omega) (by omega) (by omega) hI) gX4_seekRide_X0_lastInTime rfl hdV_X0_lastInTime ⟨Nat.le_of_ble_eq_true rfl, Nat.le_of_ble_eq_true rfl⟩ rfl hl.1 (Nat.le_of_ble_eq_true rfl) dX4_seekRide_130) hS (fun v22 H locs q22 hH hS => ?_)
              have hl9 := (q22).2
              rw [k9, k12] at hl9
              refine lv_istore (lv' := [(8, .int v22), (7, .int v10), (6, .ref (L 14 v7.toNatClampNeg)), (5, .int v8), (4, .int v7), (0, .ref (L 0 0)), (1, .ref (L 20 q)), (2, .int v2), (3, .int x3_5)]) S.1 S.2.1 dX4_seekRide_133 hl (by decide) rfl (fun ls hl => ?_)
              refine lv_iload S.1 S.2.1 dX4_seekRide_135 (lv_at hl 0 rfl) ?_
              refine lv_iconst (v := (-1)) S.1 S.2.1 dX4_seekRide_137 (by decide) ?_
              refine lv_icmp_eq (tgt := 178) S.1 S.2.1 dX4_seekRide_138 (by decide) (fun c23 => ?_) (fun c23 => ?_)
              · have j23 := t_eq c23
                obtain ⟨v24, e24⟩ : ∃ y_9 : Int32, y_9 = x3_5 + 1 := ⟨_, rfl⟩
                have i24 : v24.toInt = x3_5.toInt + 1 := i_addc e24 (by decide) (by omega) (by omega)
                refine lv_iinc (v := v24) (lv' := [(3, .int v24), (8, .int v22), (7, .int v10), (6, .ref (L 14 v7.toNatClampNeg)), (5, .int v8), (4, .int v7), (0, .ref (L 0 0)), (1, .ref (L 20 q)), (2, .int v2)]) S.1 S.2.1 dX4_seekRide_178 hl (k := 8) rfl (by rw [e24]; rfl) (by decide) rfl (fun ls hl => ?_)
                refine lv_goto (tgt := 24) S.1 S.2.1 dX4_seekRide_181 (by decide) ?_
                exact ih5 v24 σ21 _ _ ls (by omega) (by omega) (by first | exact w1b | exact w1) (by first | exact w2b | exact w2) (by rw [i24]; refine sk_s hN9 w3 ki wb k1 k2 k3 ?_; first | exact tk_none hRb hpn (by omega) k1 kd hl9 (by omega) | exact tk_day kd (fun d hd hs => absurd hs.2.2.2.2.2 (by show ¬ (σ 33 q 0).toInt ≤ _; rw [hd, ← hr9, ← f106]; omega)) | exact tk_day kd (fun d hd hs => absurd ((gOn_run hR9 k1).mpr ⟨d, hd, hs.2.1⟩) ((hg9.resolve_left (fun y => absurd y.1 (by omega))).2)) | exact tk_day kd (fun d hd hs => absurd ⟨hs.2.2.2.1, by have z1 := hs.2.2.1; omega⟩ ((ht9.resolve_left (fun y => absurd y.1 (by omega))).2))) (by omega) (by omega) hI hP hH hS (lv_sub hl [6, 7, 8, 0] rfl)
              · have j23 := t_neq c23
                obtain ⟨kD, kD1⟩ : ∃ kD : Nat, (kD : Int) = v10.toInt := ⟨v10.toNatClampNeg, cl_eq (by omega)⟩
                have hT9 := tk_some hRb hpn (by omega) kD1 (hsit kD kD1) hl9 (by omega)
                have hl8 := cl_eq (j := v22) (by omega)
                refine lv_aload S.1 S.2.1 dX4_seekRide_141 (lv_at hl 2 rfl) ?_
                refine lv_iload S.1 S.2.1 dX4_seekRide_143 (lv_at hl 1 rfl) ?_
                refine lv_aload_n S.1 S.2.1 dX4_seekRide_145 rfl (lv_at hl 6 rfl) ?_
                refine rC_20_1 S hnX2 K hH (show q < 60 by omega) (mG wd_215) dX4_seekRide_146 ?_
                refine lv_topi (fun v25 e25 => ?_)
                have k25 : v25.toInt = v19.toInt := by rw [e25, hP21 33 (by decide)]; rw [← e19]
                refine cW_bv (cW_V (n := 2) (As := [.int v10, .int v25]) (rest := []) (k := 14) (i := v7.toNatClampNeg) S K hH (cl_lt (n := 12) (by omega) (by omega)) rfl rfl (k_X0_load l D B L A σ21 τ v7.toNatClampNeg v10 v25 (cl_lt (n := 12) (by omega) (by omega)) (by omega) hI) gX4_seekRide_X0_load rfl hdV_X0_load ⟨Nat.le_of_ble_eq_true rfl, Nat.le_of_ble_eq_true rfl⟩ rfl hl.1 (Nat.le_of_ble_eq_true rfl) dX4_seekRide_149) hS (fun σ26 τ26 H locs q26 hH hS => ?_)
                obtain ⟨hI, hP26, hτ26, q26⟩ := q26
                rw [hτ26] at hH
                have hP := Keep_t hP hP26 (by decide)
                have uL := q26
                rw [k9] at uL
                refine lv_aload_n S.1 S.2.1 dX4_seekRide_152 rfl (lv_at hl 6 rfl) ?_
                refine lv_iload S.1 S.2.1 dX4_seekRide_153 (lv_at hl 4 rfl) ?_
                refine lv_iload S.1 S.2.1 dX4_seekRide_155 (lv_at hl 1 rfl) ?_
                refine lv_aload S.1 S.2.1 dX4_seekRide_157 (lv_at hl 2 rfl) ?_
                refine lv_iload S.1 S.2.1 dX4_seekRide_159 (lv_at hl 0 rfl) ?_
                refine lv_iload S.1 S.2.1 dX4_seekRide_161 (lv_at hl 1 rfl) ?_
                refine cW_bpi (cW_V (n := 2) (As := [.int v22, .int v10]) (rest := [.int v10, .int v7, .ref (L 20 q)]) (k := 14) (i := v7.toNatClampNeg) S K hH (cl_lt (n := 12) (by omega) (by omega)) rfl rfl (k_X0_hourAt l D B L A σ26 τ v7.toNatClampNeg v22 v10 (cl_lt (n := 12) (by omega) (by omega)) (by omega) (by omega) hI) gX4_seekRide_X0_hourAt rfl hdV_X0_hourAt ⟨Nat.le_of_ble_eq_true rfl, Nat.le_of_ble_eq_true rfl⟩ rfl hl.1 (Nat.le_of_ble_eq_true rfl) dX4_seekRide_163) hS (fun v27 H locs q27 hH hS => ?_)
                refine lv_aload S.1 S.2.1 dX4_seekRide_166 (lv_at hl 2 rfl) ?_
                refine rC_14_6 S hnX0 K hH (cl_lt (n := 12) (by omega) (by omega)) (mG wd_230) dX4_seekRide_168 ?_
                refine lv_iload S.1 S.2.1 dX4_seekRide_171 (lv_at hl 0 rfl) ?_
                refine lC_15 S K hH (cl_lt (n := 12) (by omega) (by omega)) (vin (by omega) (by omega)) dX4_seekRide_173 ?_
                refine lv_topi (fun v28 e28 => ?_)
                have b28 : 0 ≤ v28.toInt ∧ v28.toInt ≤ 11 := by rw [e28]; exact hI.1 27 v7.toNatClampNeg v22.toNatClampNeg
                refine cW_bv (cW_V (n := 4) (As := [.int v7, .int v10, .int v27, .int v28]) (rest := []) (k := 20) (i := q) S K hH (show q < 60 by omega) rfl rfl (k_X2_board l D B L A σ26 τ q v7 v10 v27 v28 (show q < 60 by omega)) gX4_seekRide_X2_board rfl hdV_X2_board ⟨Nat.le_of_ble_eq_true rfl, Nat.le_of_ble_eq_true rfl⟩ rfl hl.1 (Nat.le_of_ble_eq_true rfl) dX4_seekRide_174) hS (fun σ29 τ29 H locs q29 hH hS => ?_)
                obtain ⟨q29, hτ29⟩ := q29
                rw [hτ29] at hH
                have eb9 := q29
                obtain ⟨f9, ef9, eb⟩ := q29
                have hI := InvC_board hI eb (by omega) (by omega) (by omega)
                have lk9 : Keep [34, 35, 36, 37, 38, 40] σ26 σ29 := Keep_w eb (Keep_w rfl (Keep_w rfl (Keep_w rfl (Keep_w rfl (Keep_w rfl Keep_r (by decide)) (by decide)) (by decide)) (by decide)) (by decide)) (by decide)
                have hP := Keep_t hP lk9 (by decide)
                refine cW_vret S hr hk hH hS ?_ dX4_seekRide_177
                exact ⟨rfl, hI, hP, rfl, by have z1 := bd_C (N := N) (σ := σ21) (w := σ 1 0 0) (c := kC) (d := kD) (s := kS) hN9 w2b hp7 (by rw [pEb]; exact hp6) (by rw [pEb]; unfold capC; rw [w1b 23 (by decide)]; exact hT9) hw9 e25 (show v10 = nI kD from by rw [show kD = v10.toNatClampNeg by have z3 := cl_eq (j := v10) (by omega); omega]; exact nI_at (by omega)) (by rw [q27, k9, hP26 22 (by decide), hP26 28 (by decide), ((hRb.2.2 kC k1).1).2.1, ((hRb.2.2 kC k1).2.1 _ hT9.2.1.2).2]; unfold htN; omega) (p := v28) (by rw [e28, hP26 27 (by decide), k9]; exact ((hRb.2.2 kC k1).2.1 _ hT9.2.1.2).1) uL hP26 (by rw [← k7]; exact eb9) lk9; exact ⟨Or.inl ⟨kC, kD, kS, _, sk_best hN9 hH9 hq9 hm9 w3 ki (by rw [← hb8]; omega) k3 hT9, by rw [z1.2, pEb]⟩, z1.1⟩⟩
            · have j20 := t_nle c20
              refine lv_goto (tgt := 178) S.1 S.2.1 dX4_seekRide_112 (by decide) ?_
              obtain ⟨v30, e30⟩ : ∃ y_9 : Int32, y_9 = x3_5 + 1 := ⟨_, rfl⟩
              have i30 : v30.toInt = x3_5.toInt + 1 := i_addc e30 (by decide) (by omega) (by omega)
              refine lv_iinc (v := v30) (lv' := [(3, .int v30), (7, .int v10), (6, .ref (L 14 v7.toNatClampNeg)), (5, .int v8), (4, .int v7), (0, .ref (L 0 0)), (1, .ref (L 20 q)), (2, .int v2)]) S.1 S.2.1 dX4_seekRide_178 hl (k := 7) rfl (by rw [e30]; rfl) (by decide) rfl (fun ls hl => ?_)
              refine lv_goto (tgt := 24) S.1 S.2.1 dX4_seekRide_181 (by decide) ?_
              exact ih5 v30 σ_5 _ _ ls (by omega) (by omega) (by first | exact w1b | exact w1) (by first | exact w2b | exact w2) (by rw [i30]; refine sk_s hN9 w3 ki wb k1 k2 k3 ?_; first | exact tk_none hRb hpn (by omega) k1 kd hl9 (by omega) | exact tk_day kd (fun d hd hs => absurd hs.2.2.2.2.2 (by show ¬ (σ 33 q 0).toInt ≤ _; rw [hd, ← hr9, ← f106]; omega)) | exact tk_day kd (fun d hd hs => absurd ((gOn_run hR9 k1).mpr ⟨d, hd, hs.2.1⟩) ((hg9.resolve_left (fun y => absurd y.1 (by omega))).2)) | exact tk_day kd (fun d hd hs => absurd ⟨hs.2.2.2.1, by have z1 := hs.2.2.1; omega⟩ ((ht9.resolve_left (fun y => absurd y.1 (by omega))).2))) (by omega) (by omega) hI hP hH hS (lv_sub hl [5, 6, 7, 0] rfl)
  exact cut_24_5 _ v4 σ _ _ ls (Nat.lt_succ_self _) (by omega) (by exact Keep_r) (by exact hp4) (by rw [(q4).2, e3]; exact sk_0) (by rw [(q4).2, e3]; exact Int.le_refl _) (by rw [hb8, (q4).2, e3]; exact hal_mono hH9 hq9) hI hP hH hS (lv_sub hl [2, 3, 1, 0] rfl)
set_option maxHeartbeats 4000000 in
set_option maxRecDepth 100000 in
theorem k_X4_loadParcels (l : Launch) (D : va_G) (B : Nat → ClassId) (L : QL) (A : Nat → Prop) (σ : QS) (τ : Int64)  (N : Net) (nn : Nat) (hI : InvC σ) (hp1 : NetC σ N) (hp2 : PaC σ N (σ 1 0 0).toInt ((σ 1 0 0).toInt + 1) nn) (hp3 : (nn : Int) = (σ 0 0 0).toInt) : cW cntC gC l D B L A yX4_loadParcels wsX4_loadParcels 5 129 [.ref (L 0 0)] σ τ (pV (fun σ' τ' => InvC σ' ∧ Keep [5, 9, 41, 42, 43, 30, 31, 34, 35, 36, 37, 38, 40] σ σ' ∧ τ' = τ ∧ (skN N (σ 1 0 0).toInt (capC σ) (pC σ) nn (pC σ') ∧ PaC σ' N (σ 1 0 0).toInt ((σ 1 0 0).toInt + 1) nn))) := by
  refine cW_of (cc := cX4_loadParcels) (nL := 3) (ret := none) (by decide) rfl (Nat.le_of_ble_eq_true rfl) ?_
  intro p e s m below meth c S hr hk K hH hS ls hl
  have hnX0 : ∀ w ∈ wsX00, w ∈ wsX4_loadParcels := fun w h => mG (tX0 w h)
  have hnX2 : ∀ w ∈ wsX20, w ∈ wsX4_loadParcels := fun w h => mG (tX2 w h)
  have hnX3 : ∀ w ∈ wsX30, w ∈ wsX4_loadParcels := fun w h => mG (tX3 w h)
  have hnX4 : ∀ w ∈ wsX40, w ∈ wsX4_loadParcels := fun w h => mG (tX4 w h)
  have lm1 : ((-1) : Int32).toInt = -1 := by decide
  have l0 : (0 : Int32).toInt = 0 := by decide
  have l1 : (1 : Int32).toInt = 1 := by decide
  have hP : Keep [5, 9, 41, 42, 43, 30, 31, 34, 35, 36, 37, 38, 40] σ σ := Keep_r
  have hl : lv_has ls 3 [(0, .ref (L 0 0))] := hl
  refine lv_iconst (v := 0) S.1 S.2.1 dX4_loadParcels_0 (by decide) ?_
  refine lv_istore_n (lv' := [(1, .int 0), (0, .ref (L 0 0))]) S.1 S.2.1 dX4_loadParcels_1 rfl hl (by decide) rfl (fun ls hl => ?_)
  have cut_2_1 : ∀ (n : Nat) (x1_1 : Int32) (σ_1 : QS) (H : Heap) (locs : List Loc) (ls : Array Slot), (60 - x1_1.toInt).toNat < n → 0 ≤ x1_1.toInt ∧ x1_1.toInt ≤ 60 → (skN N (σ 1 0 0).toInt (capC σ) (pC σ) x1_1.toNatClampNeg (pC σ_1)) → (PaC σ_1 N (σ 1 0 0).toInt ((σ 1 0 0).toInt + 1) nn) → (x1_1.toInt ≤ nn) → InvC σ_1 → Keep [5, 9, 41, 42, 43, 30, 31, 34, 35, 36, 37, 38, 40] σ σ_1 → hW cntC gC D B L σ_1 τ H → va_S A s.heap H locs → lv_has ls 3 [(0, .ref (L 0 0)), (1, .int x1_1)] → W p l e { frames := 5, cells := 0, slots := 0, locals := 129 } s m [.ref (L 0 0)].toArray below meth c H locs 0 0 (MQ below (QcW cntC gC D B L A (pV (fun σ' τ' => InvC σ' ∧ Keep [5, 9, 41, 42, 43, 30, 31, 34, 35, 36, 37, 38, 40] σ σ' ∧ τ' = τ ∧ (skN N (σ 1 0 0).toInt (capC σ) (pC σ) nn (pC σ') ∧ PaC σ' N (σ 1 0 0).toInt ((σ 1 0 0).toInt + 1) nn)))) [.ref (L 0 0)].toArray s 0 0 A) (F0 m 2 ls []) := by
    intro n
    induction n with
    | zero => intro x1_1 σ_1 H locs ls hm; exact absurd hm (Nat.not_lt_zero _)
    | succ n ih1 =>
      intro x1_1 σ_1 H locs ls hm1 h1_0 wk wp wl hI hP hH hS hl
      have y1 : σ_1 1 = σ 1 := hP 1 (by decide)
      have yc : capC σ_1 = capC σ := by unfold capC; rw [hP 23 (by decide)]
      have y0 : (nn : Int) = (σ_1 0 0 0).toInt := by rw [hP 0 (by decide)]; exact hp3
      refine lv_iload_n S.1 S.2.1 dX4_loadParcels_2 rfl (lv_at hl 1 rfl) ?_
      refine lv_aload_n S.1 S.2.1 dX4_loadParcels_3 rfl (lv_at hl 0 rfl) ?_
      refine rC_0_3 S hnX4 K hH (mG wd_155) dX4_loadParcels_4 ?_
      refine lv_topi (fun v2 e2 => ?_)
      have b2 : 0 ≤ v2.toInt ∧ v2.toInt ≤ 60 := by rw [e2]; exact hI.1 0 0 0
      have f4 : v2.toInt = (nn : Int) := by rw [e2]; omega
      refine lv_icmp_ge (tgt := 44) S.1 S.2.1 dX4_loadParcels_7 (by decide) (fun c3 => ?_) (fun c3 => ?_)
      · have j3 := t_le c3
        refine cW_vret S hr hk hH hS ?_ dX4_loadParcels_44
        exact ⟨rfl, hI, hP, rfl, by have z1 : x1_1.toNatClampNeg = nn := (by have h9 := cl_eq (j := x1_1) (by omega); omega); rw [z1] at wk; exact ⟨wk, wp⟩⟩
      · have j3 := t_nle c3
        refine lv_aload_n S.1 S.2.1 dX4_loadParcels_10 rfl (lv_at hl 0 rfl) ?_
        refine rC_0_2 S hnX4 K hH (mG wd_154) dX4_loadParcels_11 ?_
        refine lv_iload_n S.1 S.2.1 dX4_loadParcels_14 rfl (lv_at hl 1 rfl) ?_
        refine lC_1 S K hH (vin (by omega) (by omega)) dX4_loadParcels_15 ?_
        refine lv_astore_n (lv' := [(2, .ref (L 20 x1_1.toNatClampNeg)), (0, .ref (L 0 0)), (1, .int x1_1)]) S.1 S.2.1 dX4_loadParcels_16 rfl hl (by decide) rfl (fun ls hl => ?_)
        refine lv_aload_n S.1 S.2.1 dX4_loadParcels_17 rfl (lv_at hl 0 rfl) ?_
        refine rC_20_3 S hnX2 K hH (cl_lt (n := 60) (by omega) (by omega)) (mG wd_212) dX4_loadParcels_18 ?_
        refine lv_topi (fun v4 e4 => ?_)
        have b4 : (-1) ≤ v4.toInt ∧ v4.toInt ≤ 11 := by rw [e4]; exact hI.1 35 x1_1.toNatClampNeg 0
        have f18 : v4 = pC σ_1 x1_1.toNatClampNeg 3 := e4
        refine lv_iconst (v := (-1)) S.1 S.2.1 dX4_loadParcels_21 (by decide) ?_
        refine lv_icmp_ne (tgt := 38) S.1 S.2.1 dX4_loadParcels_22 (by decide) (fun c5 => ?_) (fun c5 => ?_)
        · have j5 := t_neq c5
          obtain ⟨v6, e6⟩ : ∃ y_9 : Int32, y_9 = x1_1 + 1 := ⟨_, rfl⟩
          have i6 : v6.toInt = x1_1.toInt + 1 := i_addc e6 (by decide) (by omega) (by omega)
          refine lv_iinc (v := v6) (lv' := [(1, .int v6), (2, .ref (L 20 x1_1.toNatClampNeg)), (0, .ref (L 0 0))]) S.1 S.2.1 dX4_loadParcels_38 hl (k := 2) rfl (by rw [e6]; rfl) (by decide) rfl (fun ls hl => ?_)
          refine lv_goto (tgt := 2) S.1 S.2.1 dX4_loadParcels_41 (by decide) ?_
          exact ih1 v6 σ_1 _ _ ls (by omega) (by omega) (by rw [cl_n1 i6 (by omega)]; first | exact sk_more wk (Or.inl ⟨hwt, by have z1 := (q9999).1; rw [yc0, y10] at z1; exact z1⟩) | exact sk_more wk (Or.inr ⟨fun z => absurd z.1 (by rw [← f18]; omega), rfl⟩) | exact sk_more wk (Or.inr ⟨fun z => absurd z.2 (by rw [← f26]; omega), rfl⟩)) (by first | (have z1 := (q9999).2; rw [y10] at z1; exact z1) | exact wp) (by omega) hI hP hH hS (lv_sub hl [2, 0] rfl)
        · have j5 := t_eq c5
          refine lv_aload_n S.1 S.2.1 dX4_loadParcels_25 rfl (lv_at hl 0 rfl) ?_
          refine rC_20_7 S hnX2 K hH (cl_lt (n := 60) (by omega) (by omega)) (mG wd_252) dX4_loadParcels_26 ?_
          refine lv_topi (fun v7 e7 => ?_)
          have f26 : v7 = pC σ_1 x1_1.toNatClampNeg 7 := e7
          refine lv_iconst (v := (-1)) S.1 S.2.1 dX4_loadParcels_29 (by decide) ?_
          refine lv_icmp_ne (tgt := 38) S.1 S.2.1 dX4_loadParcels_30 (by decide) (fun c8 => ?_) (fun c8 => ?_)
          · have j8 := t_neq c8
            obtain ⟨v9, e9⟩ : ∃ y_9 : Int32, y_9 = x1_1 + 1 := ⟨_, rfl⟩
            have i9 : v9.toInt = x1_1.toInt + 1 := i_addc e9 (by decide) (by omega) (by omega)
            refine lv_iinc (v := v9) (lv' := [(1, .int v9), (2, .ref (L 20 x1_1.toNatClampNeg)), (0, .ref (L 0 0))]) S.1 S.2.1 dX4_loadParcels_38 hl (k := 2) rfl (by rw [e9]; rfl) (by decide) rfl (fun ls hl => ?_)
            refine lv_goto (tgt := 2) S.1 S.2.1 dX4_loadParcels_41 (by decide) ?_
            exact ih1 v9 σ_1 _ _ ls (by omega) (by omega) (by rw [cl_n1 i9 (by omega)]; first | exact sk_more wk (Or.inl ⟨hwt, by have z1 := (q9999).1; rw [yc0, y10] at z1; exact z1⟩) | exact sk_more wk (Or.inr ⟨fun z => absurd z.1 (by rw [← f18]; omega), rfl⟩) | exact sk_more wk (Or.inr ⟨fun z => absurd z.2 (by rw [← f26]; omega), rfl⟩)) (by first | (have z1 := (q9999).2; rw [y10] at z1; exact z1) | exact wp) (by omega) hI hP hH hS (lv_sub hl [2, 0] rfl)
          · have j8 := t_eq c8
            have hwt : wts (pC σ_1) x1_1.toNatClampNeg := ⟨by rw [← f18]; omega, by rw [← f26]; omega⟩
            have s0 := hP
            have yc0 := yc
            have y10 := y1
            refine lv_aload_n S.1 S.2.1 dX4_loadParcels_33 rfl (lv_at hl 1 rfl) ?_
            refine lv_aload_n S.1 S.2.1 dX4_loadParcels_34 rfl (lv_at hl 0 rfl) ?_
            refine cW_bv (cW_V (n := 1) (As := [.ref (L 20 x1_1.toNatClampNeg)]) (rest := []) (k := 0) (i := 0) S K hH (by decide) rfl rfl (k_X4_seekRide l D B L A σ_1 τ x1_1.toNatClampNeg (N) (nn) (cl_lt (n := 60) (by omega) (by omega)) hI (hI.2.2.2.1 _ (by have h9 := cl_eq (j := x1_1) (by omega); omega)) (NetC_k hp1 hP (by decide)) (by rw [y1]; exact wp) (y0) (hwt) (by have h9 := cl_eq (j := x1_1) (by omega); omega)) gX4_loadParcels_X4_seekRide rfl hdV_X4_seekRide ⟨Nat.le_of_ble_eq_true rfl, Nat.le_of_ble_eq_true rfl⟩ rfl hl.1 (Nat.le_of_ble_eq_true rfl) dX4_loadParcels_35) hS (fun σ10 τ10 H locs q10 hH hS => ?_)
            obtain ⟨hI, hP10, hτ10, q10⟩ := q10
            rw [hτ10] at hH
            have hP := Keep_t hP hP10 (by decide)
            obtain ⟨v11, e11⟩ : ∃ y_9 : Int32, y_9 = x1_1 + 1 := ⟨_, rfl⟩
            have i11 : v11.toInt = x1_1.toInt + 1 := i_addc e11 (by decide) (by omega) (by omega)
            refine lv_iinc (v := v11) (lv' := [(1, .int v11), (2, .ref (L 20 x1_1.toNatClampNeg)), (0, .ref (L 0 0))]) S.1 S.2.1 dX4_loadParcels_38 hl (k := 2) rfl (by rw [e11]; rfl) (by decide) rfl (fun ls hl => ?_)
            refine lv_goto (tgt := 2) S.1 S.2.1 dX4_loadParcels_41 (by decide) ?_
            exact ih1 v11 σ10 _ _ ls (by omega) (by omega) (by rw [cl_n1 i11 (by omega)]; first | exact sk_more wk (Or.inl ⟨hwt, by have z1 := (q10).1; rw [yc0, y10] at z1; exact z1⟩) | exact sk_more wk (Or.inr ⟨fun z => absurd z.1 (by rw [← f18]; omega), rfl⟩) | exact sk_more wk (Or.inr ⟨fun z => absurd z.2 (by rw [← f26]; omega), rfl⟩)) (by first | (have z1 := (q10).2; rw [y10] at z1; exact z1) | exact wp) (by omega) hI hP hH hS (lv_sub hl [2, 0] rfl)
  exact cut_2_1 _ 0 σ _ _ ls (Nat.lt_succ_self _) (by omega) (by rw [show (0 : Int32).toNatClampNeg = 0 by decide]; exact rfl) (by exact hp2) (by omega) hI hP hH hS (lv_sub hl [1, 0] rfl)
set_option maxHeartbeats 4000000 in
set_option maxRecDepth 100000 in
theorem k_X4_unloadParcels (l : Launch) (D : va_G) (B : Nat → ClassId) (L : QL) (A : Nat → Prop) (σ : QS) (τ : Int64)  (N : Net) (nn : Nat) (hI : InvC σ) (hp1 : PaC σ N (σ 1 0 0).toInt (σ 1 0 0).toInt nn) (hp2 : (nn : Int) = (σ 0 0 0).toInt) : cW cntC gC l D B L A yX4_unloadParcels wsX4_unloadParcels 1 22 [.ref (L 0 0)] σ τ (pV (fun σ' τ' => InvC σ' ∧ Keep [30, 25, 34, 39, 35, 36, 37, 38] σ σ' ∧ τ' = τ ∧ ((pC σ', eC σ') = unN (farC σ) (σ 1 0 0) (pC σ, eC σ) nn ∧ PaC σ' N (σ 1 0 0).toInt (σ 1 0 0).toInt nn))) := by
  refine cW_of (cc := cX4_unloadParcels) (nL := 3) (ret := none) (by decide) rfl (Nat.le_of_ble_eq_true rfl) ?_
  intro p e s m below meth c S hr hk K hH hS ls hl
  have hnX0 : ∀ w ∈ wsX00, w ∈ wsX4_unloadParcels := fun w h => mG (tX0 w h)
  have hnX2 : ∀ w ∈ wsX20, w ∈ wsX4_unloadParcels := fun w h => mG (tX2 w h)
  have hnX3 : ∀ w ∈ wsX30, w ∈ wsX4_unloadParcels := fun w h => mG (tX3 w h)
  have hnX4 : ∀ w ∈ wsX40, w ∈ wsX4_unloadParcels := fun w h => mG (tX4 w h)
  have lm1 : ((-1) : Int32).toInt = -1 := by decide
  have l0 : (0 : Int32).toInt = 0 := by decide
  have l1 : (1 : Int32).toInt = 1 := by decide
  have hP : Keep [30, 25, 34, 39, 35, 36, 37, 38] σ σ := Keep_r
  have hl : lv_has ls 3 [(0, .ref (L 0 0))] := hl
  refine lv_iconst (v := 0) S.1 S.2.1 dX4_unloadParcels_0 (by decide) ?_
  refine lv_istore_n (lv' := [(1, .int 0), (0, .ref (L 0 0))]) S.1 S.2.1 dX4_unloadParcels_1 rfl hl (by decide) rfl (fun ls hl => ?_)
  have cut_2_1 : ∀ (n : Nat) (x1_1 : Int32) (σ_1 : QS) (H : Heap) (locs : List Loc) (ls : Array Slot), (60 - x1_1.toInt).toNat < n → 0 ≤ x1_1.toInt ∧ x1_1.toInt ≤ 60 → ((pC σ_1, eC σ_1) = unN (farC σ) (σ 1 0 0) (pC σ, eC σ) x1_1.toNatClampNeg) → (PaC σ_1 N (σ 1 0 0).toInt (σ 1 0 0).toInt nn) → (x1_1.toInt ≤ nn) → InvC σ_1 → Keep [30, 25, 34, 39, 35, 36, 37, 38] σ σ_1 → hW cntC gC D B L σ_1 τ H → va_S A s.heap H locs → lv_has ls 3 [(0, .ref (L 0 0)), (1, .int x1_1)] → W p l e { frames := 1, cells := 0, slots := 0, locals := 22 } s m [.ref (L 0 0)].toArray below meth c H locs 0 0 (MQ below (QcW cntC gC D B L A (pV (fun σ' τ' => InvC σ' ∧ Keep [30, 25, 34, 39, 35, 36, 37, 38] σ σ' ∧ τ' = τ ∧ ((pC σ', eC σ') = unN (farC σ) (σ 1 0 0) (pC σ, eC σ) nn ∧ PaC σ' N (σ 1 0 0).toInt (σ 1 0 0).toInt nn)))) [.ref (L 0 0)].toArray s 0 0 A) (F0 m 2 ls []) := by
    intro n
    induction n with
    | zero => intro x1_1 σ_1 H locs ls hm; exact absurd hm (Nat.not_lt_zero _)
    | succ n ih1 =>
      intro x1_1 σ_1 H locs ls hm1 h1_0 wk wp wl hI hP hH hS hl
      have y1 : σ_1 1 = σ 1 := hP 1 (by decide)
      have yc : farC σ_1 = farC σ := by unfold farC; rw [hP 24 (by decide)]
      have y0 : (nn : Int) = (σ_1 0 0 0).toInt := by rw [hP 0 (by decide)]; exact hp2
      refine lv_iload_n S.1 S.2.1 dX4_unloadParcels_2 rfl (lv_at hl 1 rfl) ?_
      refine lv_aload_n S.1 S.2.1 dX4_unloadParcels_3 rfl (lv_at hl 0 rfl) ?_
      refine rC_0_3 S hnX4 K hH (mG wd_155) dX4_unloadParcels_4 ?_
      refine lv_topi (fun v2 e2 => ?_)
      have b2 : 0 ≤ v2.toInt ∧ v2.toInt ≤ 60 := by rw [e2]; exact hI.1 0 0 0
      have f4 : v2.toInt = (nn : Int) := by rw [e2]; omega
      refine lv_icmp_ge (tgt := 73) S.1 S.2.1 dX4_unloadParcels_7 (by decide) (fun c3 => ?_) (fun c3 => ?_)
      · have j3 := t_le c3
        refine cW_vret S hr hk hH hS ?_ dX4_unloadParcels_73
        exact ⟨rfl, hI, hP, rfl, by have z1 : x1_1.toNatClampNeg = nn := (by have h9 := cl_eq (j := x1_1) (by omega); omega); rw [z1] at wk; exact ⟨wk, wp⟩⟩
      · have j3 := t_nle c3
        refine lv_aload_n S.1 S.2.1 dX4_unloadParcels_10 rfl (lv_at hl 0 rfl) ?_
        refine rC_0_2 S hnX4 K hH (mG wd_154) dX4_unloadParcels_11 ?_
        refine lv_iload_n S.1 S.2.1 dX4_unloadParcels_14 rfl (lv_at hl 1 rfl) ?_
        refine lC_1 S K hH (vin (by omega) (by omega)) dX4_unloadParcels_15 ?_
        refine lv_astore_n (lv' := [(2, .ref (L 20 x1_1.toNatClampNeg)), (0, .ref (L 0 0)), (1, .int x1_1)]) S.1 S.2.1 dX4_unloadParcels_16 rfl hl (by decide) rfl (fun ls hl => ?_)
        refine lv_aload_n S.1 S.2.1 dX4_unloadParcels_17 rfl (lv_at hl 0 rfl) ?_
        refine rC_20_3 S hnX2 K hH (cl_lt (n := 60) (by omega) (by omega)) (mG wd_212) dX4_unloadParcels_18 ?_
        refine lv_topi (fun v4 e4 => ?_)
        have b4 : (-1) ≤ v4.toInt ∧ v4.toInt ≤ 11 := by rw [e4]; exact hI.1 35 x1_1.toNatClampNeg 0
        have f18 : v4 = σ_1 35 x1_1.toNatClampNeg 0 := e4
        refine lv_iconst (v := (-1)) S.1 S.2.1 dX4_unloadParcels_21 (by decide) ?_
        refine lv_icmp_eq (tgt := 67) S.1 S.2.1 dX4_unloadParcels_22 (by decide) (fun c5 => ?_) (fun c5 => ?_)
        · have j5 := t_eq c5
          obtain ⟨v6, e6⟩ : ∃ y_9 : Int32, y_9 = x1_1 + 1 := ⟨_, rfl⟩
          have i6 : v6.toInt = x1_1.toInt + 1 := i_addc e6 (by decide) (by omega) (by omega)
          refine lv_iinc (v := v6) (lv' := [(1, .int v6), (2, .ref (L 20 x1_1.toNatClampNeg)), (0, .ref (L 0 0))]) S.1 S.2.1 dX4_unloadParcels_67 hl (k := 2) rfl (by rw [e6]; rfl) (by decide) rfl (fun ls hl => ?_)
          refine lv_goto (tgt := 2) S.1 S.2.1 dX4_unloadParcels_70 (by decide) ?_
          exact ih1 v6 σ_1 _ _ ls (by omega) (by omega) (by rw [cl_n1 i6 (by omega)]; show _ = un1 _ _ (unN _ _ _ _) _; rw [← wk]; first | (rw [← yc]; exact hS9.2) | exact un_C0 (fun z => absurd z.1 (by rw [← f18]; omega)) | exact un_C0 (fun z => absurd z.2 (by rw [← f26, ← f30]; assumption))) (by first | exact hS9.1 | exact wp) (by omega) hI hP hH hS (lv_sub hl [2, 0] rfl)
        · have j5 := t_neq c5
          refine lv_aload_n S.1 S.2.1 dX4_unloadParcels_25 rfl (lv_at hl 0 rfl) ?_
          refine rC_20_5 S hnX2 K hH (cl_lt (n := 60) (by omega) (by omega)) (mG wd_213) dX4_unloadParcels_26 ?_
          refine lv_topi (fun v7 e7 => ?_)
          have f26 : v7 = σ_1 37 x1_1.toNatClampNeg 0 := e7
          refine lv_aload_n S.1 S.2.1 dX4_unloadParcels_29 rfl (lv_at hl 1 rfl) ?_
          refine rC_0_4 S hnX4 K hH (mG wd_156) dX4_unloadParcels_30 ?_
          refine lv_topi (fun v8 e8 => ?_)
          have b8 : 0 ≤ v8.toInt ∧ v8.toInt ≤ 5000 := by rw [e8]; exact hI.1 1 0 0
          have f30 : v8 = σ 1 0 0 := by rw [e8, y1]
          refine lv_icmp_ne (tgt := 67) S.1 S.2.1 dX4_unloadParcels_33 (by decide) (fun c9 => ?_) (fun c9 => ?_)
          · have j9 := t_neq c9
            obtain ⟨v10, e10⟩ : ∃ y_9 : Int32, y_9 = x1_1 + 1 := ⟨_, rfl⟩
            have i10 : v10.toInt = x1_1.toInt + 1 := i_addc e10 (by decide) (by omega) (by omega)
            refine lv_iinc (v := v10) (lv' := [(1, .int v10), (2, .ref (L 20 x1_1.toNatClampNeg)), (0, .ref (L 0 0))]) S.1 S.2.1 dX4_unloadParcels_67 hl (k := 2) rfl (by rw [e10]; rfl) (by decide) rfl (fun ls hl => ?_)
            refine lv_goto (tgt := 2) S.1 S.2.1 dX4_unloadParcels_70 (by decide) ?_
            exact ih1 v10 σ_1 _ _ ls (by omega) (by omega) (by rw [cl_n1 i10 (by omega)]; show _ = un1 _ _ (unN _ _ _ _) _; rw [← wk]; first | (rw [← yc]; exact hS9.2) | exact un_C0 (fun z => absurd z.1 (by rw [← f18]; omega)) | exact un_C0 (fun z => absurd z.2 (by rw [← f26, ← f30]; assumption))) (by first | exact hS9.1 | exact wp) (by omega) hI hP hH hS (lv_sub hl [2, 0] rfl)
          · have j9 := t_eq c9
            have hu1 : (σ_1 35 x1_1.toNatClampNeg 0).toInt ≠ -1 := by rw [← f18]; omega
            have hu2 : σ_1 37 x1_1.toNatClampNeg 0 = σ 1 0 0 := by rw [← f26, ← f30]; assumption
            refine lv_aload_n S.1 S.2.1 dX4_unloadParcels_36 rfl (lv_at hl 1 rfl) ?_
            refine rC_0_0 S hnX4 K hH (mG wd_149) dX4_unloadParcels_37 ?_
            refine rC_2_0 S hnX3 K hH (mG wd_167) dX4_unloadParcels_40 ?_
            refine lv_aload_n S.1 S.2.1 dX4_unloadParcels_43 rfl (lv_at hl 0 rfl) ?_
            refine rC_20_3 S hnX2 K hH (cl_lt (n := 60) (by omega) (by omega)) (mG wd_212) dX4_unloadParcels_44 ?_
            refine lv_topi (fun v11 e11 => ?_)
            have b11 : (-1) ≤ v11.toInt ∧ v11.toInt ≤ 11 := by rw [e11]; exact hI.1 35 x1_1.toNatClampNeg 0
            have k11 : v11.toInt = v4.toInt := by rw [e11]; rw [← e4]
            refine lC_3 S K hH (vin (by omega) (by omega)) dX4_unloadParcels_47 ?_
            refine lv_aload_n S.1 S.2.1 dX4_unloadParcels_48 rfl (lv_at hl 0 rfl) ?_
            refine rC_20_4 S hnX2 K hH (cl_lt (n := 60) (by omega) (by omega)) (mG wd_214) dX4_unloadParcels_49 ?_
            refine lv_topi (fun v12 e12 => ?_)
            have zv12 : 0 ≤ v12.toInt := by rw [e12]; exact hI.2.2.2.2 _ (by rw [← e11]; omega)
            refine lv_aload_n S.1 S.2.1 dX4_unloadParcels_52 rfl (lv_at hl 0 rfl) ?_
            refine rC_20_1 S hnX2 K hH (cl_lt (n := 60) (by omega) (by omega)) (mG wd_215) dX4_unloadParcels_53 ?_
            refine lv_topi (fun v13 e13 => ?_)
            refine cW_bv (cW_V (n := 2) (As := [.int v12, .int v13]) (rest := []) (k := 14) (i := v11.toNatClampNeg) S K hH (cl_lt (n := 12) (by omega) (by omega)) rfl rfl (k_X0_unload l D B L A σ_1 τ v11.toNatClampNeg v12 v13 (cl_lt (n := 12) (by omega) (by omega)) (by omega) hI) gX4_unloadParcels_X0_unload rfl hdV_X0_unload ⟨Nat.le_of_ble_eq_true rfl, Nat.le_of_ble_eq_true rfl⟩ rfl hl.1 (Nat.le_of_ble_eq_true rfl) dX4_unloadParcels_56) hS (fun σ14 τ14 H locs q14 hH hS => ?_)
            obtain ⟨hI, hP14, hτ14, q14⟩ := q14
            rw [hτ14] at hH
            have hP := Keep_t hP hP14 (by decide)
            refine lv_aload_n S.1 S.2.1 dX4_unloadParcels_59 rfl (lv_at hl 0 rfl) ?_
            refine lv_aload_n S.1 S.2.1 dX4_unloadParcels_60 rfl (lv_at hl 1 rfl) ?_
            refine rC_0_4 S hnX4 K hH (mG wd_156) dX4_unloadParcels_61 ?_
            refine lv_topi (fun v15 e15 => ?_)
            have b15 : 0 ≤ v15.toInt ∧ v15.toInt ≤ 5000 := by rw [e15]; exact hI.1 1 0 0
            have k15 : v15.toInt = v8.toInt := by rw [e15, hP14 1 (by decide)]; rw [← e8]
            have f61 : v15 = σ 1 0 0 := by rw [e15, hP 1 (by decide)]
            refine cW_bv (cW_V (n := 1) (As := [.int v15]) (rest := []) (k := 20) (i := x1_1.toNatClampNeg) S K hH (cl_lt (n := 60) (by omega) (by omega)) rfl rfl (k_X2_leave l D B L A σ14 τ x1_1.toNatClampNeg v15 (cl_lt (n := 60) (by omega) (by omega)) hI) gX4_unloadParcels_X2_leave rfl hdV_X2_leave ⟨Nat.le_of_ble_eq_true rfl, Nat.le_of_ble_eq_true rfl⟩ rfl hl.1 (Nat.le_of_ble_eq_true rfl) dX4_unloadParcels_64) hS (fun σ16 τ16 H locs q16 hH hS => ?_)
            obtain ⟨hI, hP16, hτ16, q16⟩ := q16
            rw [hτ16] at hH
            have hP := Keep_t hP hP16 (by decide)
            have hS9 := un_C (w := σ 1 0 0) (c := v11.toNatClampNeg) wp hu1 hu2 (by rw [e11]) (cl_lt (n := 12) (by omega) (by omega)) e13 e12 (q14).1 (q14).2 hP14 (by have z1 := q16; rw [f61] at z1; exact z1) hP16
            obtain ⟨v17, e17⟩ : ∃ y_9 : Int32, y_9 = x1_1 + 1 := ⟨_, rfl⟩
            have i17 : v17.toInt = x1_1.toInt + 1 := i_addc e17 (by decide) (by omega) (by omega)
            refine lv_iinc (v := v17) (lv' := [(1, .int v17), (2, .ref (L 20 x1_1.toNatClampNeg)), (0, .ref (L 0 0))]) S.1 S.2.1 dX4_unloadParcels_67 hl (k := 2) rfl (by rw [e17]; rfl) (by decide) rfl (fun ls hl => ?_)
            refine lv_goto (tgt := 2) S.1 S.2.1 dX4_unloadParcels_70 (by decide) ?_
            exact ih1 v17 σ16 _ _ ls (by omega) (by omega) (by rw [cl_n1 i17 (by omega)]; show _ = un1 _ _ (unN _ _ _ _) _; rw [← wk]; first | (rw [← yc]; exact hS9.2) | exact un_C0 (fun z => absurd z.1 (by rw [← f18]; omega)) | exact un_C0 (fun z => absurd z.2 (by rw [← f26, ← f30]; assumption))) (by first | exact hS9.1 | exact wp) (by omega) hI hP hH hS (lv_sub hl [2, 0] rfl)
  exact cut_2_1 _ 0 σ _ _ ls (Nat.lt_succ_self _) (by omega) (by rw [show (0 : Int32).toNatClampNeg = 0 by decide]; exact rfl) (by exact hp1) (by omega) hI hP hH hS (lv_sub hl [1, 0] rfl)
set_option maxHeartbeats 4000000 in
set_option maxRecDepth 100000 in
theorem k_X4_tick (l : Launch) (D : va_G) (B : Nat → ClassId) (L : QL) (A : Nat → Prop) (σ : QS) (τ : Int64) (n9 : Int32) (N : Net) (nn : Nat) (hI : InvC σ) (hp1 : NetC σ N) (hp2 : PaC σ N (σ 1 0 0).toInt ((σ 1 0 0).toInt + 1) nn) (hp3 : (nn : Int) = (σ 0 0 0).toInt) : cW cntC gC l D B L A yX4_tick wsX4_tick 6 151 [.ref (L 0 0), .int n9] σ τ (pI (fun x σ' τ' => InvC σ' ∧ Keep [1, 30, 25, 34, 39, 35, 36, 37, 38, 5, 9, 41, 42, 43, 31, 40] σ σ' ∧ τ' = τ ∧ (((x.toInt = -1 ∧ σ' 1 = σ 1 ∧ ¬ (0 ≤ n9.toInt ∧ n9.toInt ≤ 500 ∧ n9.toInt + (σ 1 0 0).toInt ≤ 5000)) ∨ ((0 ≤ n9.toInt ∧ n9.toInt ≤ 500 ∧ n9.toInt + (σ 1 0 0).toInt ≤ 5000) ∧ x.toInt = (σ 1 0 0).toInt + n9.toInt ∧ (σ' 1 0 0).toInt = (σ 1 0 0).toInt + n9.toInt)) ∧ ((x.toInt = -1 ∧ σ' = σ) ∨ (x.toInt ≠ -1 ∧ tkR N (capC σ) (farC σ) nn (σ 1 0 0).toInt (pC σ, eC σ) n9.toNatClampNeg (pC σ', eC σ') ∧ PaC σ' N (σ' 1 0 0).toInt ((σ' 1 0 0).toInt + 1) nn))))) := by
  refine cW_of (cc := cX4_tick) (nL := 3) (ret := (some .int)) (by decide) rfl (Nat.le_of_ble_eq_true rfl) ?_
  intro p e s m below meth c S hr hk K hH hS ls hl
  have hnX0 : ∀ w ∈ wsX00, w ∈ wsX4_tick := fun w h => mG (tX0 w h)
  have hnX2 : ∀ w ∈ wsX20, w ∈ wsX4_tick := fun w h => mG (tX2 w h)
  have hnX3 : ∀ w ∈ wsX30, w ∈ wsX4_tick := fun w h => mG (tX3 w h)
  have hnX4 : ∀ w ∈ wsX40, w ∈ wsX4_tick := fun w h => mG (tX4 w h)
  have lm1 : ((-1) : Int32).toInt = -1 := by decide
  have l0 : (0 : Int32).toInt = 0 := by decide
  have l1 : (1 : Int32).toInt = 1 := by decide
  have l500 : (500 : Int32).toInt = 500 := by decide
  have l5000 : (5000 : Int32).toInt = 5000 := by decide
  have hP : Keep [1, 30, 25, 34, 39, 35, 36, 37, 38, 5, 9, 41, 42, 43, 31, 40] σ σ := Keep_r
  have hl : lv_has ls 3 [(0, .ref (L 0 0)), (1, .int n9)] := hl
  refine lv_iload_n S.1 S.2.1 dX4_tick_0 rfl (lv_at hl 1 rfl) ?_
  refine lv_iconst (v := 0) S.1 S.2.1 dX4_tick_1 (by decide) ?_
  refine lv_sipush (v := 500) S.1 S.2.1 dX4_tick_2 (by decide) ?_
  refine cW_bpi (cW_S (n := 3) (As := [.int n9, .int 0, .int 500]) (rest := []) S K hH (k_X4_isIn l D B L A σ τ n9 0 500 ) gX4_tick_X4_isIn rfl hdS_X4_isIn ⟨Nat.le_of_ble_eq_true rfl, Nat.le_of_ble_eq_true rfl⟩ rfl hl.1 (Nat.le_of_ble_eq_true rfl) dX4_tick_5) hS (fun v1 H locs q1 hH hS => ?_)
  refine lv_if_eq (tgt := 23) S.1 S.2.1 dX4_tick_8 (by decide) (fun c2 => ?_) (fun c2 => ?_)
  · have j2 := t_eq c2
    refine lv_iconst (v := (-1)) S.1 S.2.1 dX4_tick_23 (by decide) ?_
    refine cW_iret S hr hk hH hS ?_ dX4_tick_24
    exact ⟨(-1), rfl, hI, hP, rfl, by exact ⟨Or.inl ⟨by decide, rfl, by omega⟩, Or.inl ⟨by decide, rfl⟩⟩⟩
  · have j2 := t_neq c2
    refine lv_iload_n S.1 S.2.1 dX4_tick_11 rfl (lv_at hl 1 rfl) ?_
    refine lv_sipush (v := 5000) S.1 S.2.1 dX4_tick_12 (by decide) ?_
    refine lv_aload_n S.1 S.2.1 dX4_tick_15 rfl (lv_at hl 0 rfl) ?_
    refine rC_0_4 S hnX4 K hH (mG wd_156) dX4_tick_16 ?_
    refine lv_topi (fun v3 e3 => ?_)
    have b3 : 0 ≤ v3.toInt ∧ v3.toInt ≤ 5000 := by rw [e3]; exact hI.1 1 0 0
    have fv3 : v3.toInt = (σ 1 0 0).toInt := by rw [e3]
    refine lv_isub S.1 S.2.1 dX4_tick_19 ?_
    refine lv_topi (fun v4 e4 => ?_)
    have i4 : v4.toInt = (5000 : Int32).toInt - v3.toInt := i_sub e4 (by omega) (by omega)
    refine lv_icmp_le (tgt := 25) S.1 S.2.1 dX4_tick_20 (by decide) (fun c5 => ?_) (fun c5 => ?_)
    · have j5 := t_le c5
      refine lv_iconst (v := 0) S.1 S.2.1 dX4_tick_25 (by decide) ?_
      refine lv_istore_n (lv' := [(2, .int 0), (0, .ref (L 0 0)), (1, .int n9)]) S.1 S.2.1 dX4_tick_26 rfl hl (by decide) rfl (fun ls hl => ?_)
      have cut_27_6 : ∀ (n : Nat) (x2_6 : Int32) (σ_6 : QS) (H : Heap) (locs : List Loc) (ls : Array Slot), (500 - x2_6.toInt).toNat < n → 0 ≤ x2_6.toInt ∧ x2_6.toInt ≤ 500 → ((σ_6 1 0 0).toInt = (σ 1 0 0).toInt + x2_6.toInt) → (x2_6.toInt ≤ n9.toInt) → (tkR N (capC σ) (farC σ) nn (σ 1 0 0).toInt (pC σ, eC σ) x2_6.toNatClampNeg (pC σ_6, eC σ_6)) → (PaC σ_6 N (σ_6 1 0 0).toInt ((σ_6 1 0 0).toInt + 1) nn) → InvC σ_6 → Keep [1, 30, 25, 34, 39, 35, 36, 37, 38, 5, 9, 41, 42, 43, 31, 40] σ σ_6 → hW cntC gC D B L σ_6 τ H → va_S A s.heap H locs → lv_has ls 3 [(0, .ref (L 0 0)), (1, .int n9), (2, .int x2_6)] → W p l e { frames := 6, cells := 0, slots := 0, locals := 151 } s m [.ref (L 0 0), .int n9].toArray below meth c H locs 0 0 (MQ below (QcW cntC gC D B L A (pI (fun x σ' τ' => InvC σ' ∧ Keep [1, 30, 25, 34, 39, 35, 36, 37, 38, 5, 9, 41, 42, 43, 31, 40] σ σ' ∧ τ' = τ ∧ (((x.toInt = -1 ∧ σ' 1 = σ 1 ∧ ¬ (0 ≤ n9.toInt ∧ n9.toInt ≤ 500 ∧ n9.toInt + (σ 1 0 0).toInt ≤ 5000)) ∨ ((0 ≤ n9.toInt ∧ n9.toInt ≤ 500 ∧ n9.toInt + (σ 1 0 0).toInt ≤ 5000) ∧ x.toInt = (σ 1 0 0).toInt + n9.toInt ∧ (σ' 1 0 0).toInt = (σ 1 0 0).toInt + n9.toInt)) ∧ ((x.toInt = -1 ∧ σ' = σ) ∨ (x.toInt ≠ -1 ∧ tkR N (capC σ) (farC σ) nn (σ 1 0 0).toInt (pC σ, eC σ) n9.toNatClampNeg (pC σ', eC σ') ∧ PaC σ' N (σ' 1 0 0).toInt ((σ' 1 0 0).toInt + 1) nn)))))) [.ref (L 0 0), .int n9].toArray s 0 0 A) (F0 m 27 ls []) := by
        intro n
        induction n with
        | zero => intro x2_6 σ_6 H locs ls hm; exact absurd hm (Nat.not_lt_zero _)
        | succ n ih6 =>
          intro x2_6 σ_6 H locs ls hm6 h6_0 hnow hle wt wp hI hP hH hS hl
          have hN9 := hp1.1.1
          have yC : capC σ_6 = capC σ := by unfold capC; rw [hP 23 (by decide)]
          have yF : farC σ_6 = farC σ := by unfold farC; rw [hP 24 (by decide)]
          refine lv_iload_n S.1 S.2.1 dX4_tick_27 rfl (lv_at hl 2 rfl) ?_
          refine lv_iload_n S.1 S.2.1 dX4_tick_28 rfl (lv_at hl 1 rfl) ?_
          refine lv_icmp_ge (tgt := 70) S.1 S.2.1 dX4_tick_29 (by decide) (fun c7 => ?_) (fun c7 => ?_)
          · have j7 := t_le c7
            refine lv_aload_n S.1 S.2.1 dX4_tick_70 rfl (lv_at hl 0 rfl) ?_
            refine rC_0_4 S hnX4 K hH (mG wd_156) dX4_tick_71 ?_
            refine lv_topi (fun v8 e8 => ?_)
            have b8 : 0 ≤ v8.toInt ∧ v8.toInt ≤ 5000 := by rw [e8]; exact hI.1 1 0 0
            have fv8 : v8.toInt = (σ_6 1 0 0).toInt := by rw [e8]
            refine cW_iret S hr hk hH hS ?_ dX4_tick_74
            exact ⟨v8, rfl, hI, hP, rfl, by refine ⟨Or.inr ⟨by omega, by omega, by omega⟩, Or.inr ⟨by omega, ?_, ?_⟩⟩; rw [cl_same (show n9.toInt = x2_6.toInt by omega)]; exact wt; exact wp⟩
          · have j7 := t_nle c7
            refine lv_aload_n S.1 S.2.1 dX4_tick_32 rfl (lv_at hl 0 rfl) ?_
            refine lv_dup S.1 S.2.1 dX4_tick_33 rfl ?_
            refine rC_0_4 S hnX4 K hH (mG wd_156) dX4_tick_34 ?_
            refine lv_topi (fun v9 e9 => ?_)
            have b9 : 0 ≤ v9.toInt ∧ v9.toInt ≤ 5000 := by rw [e9]; exact hI.1 1 0 0
            have fv9 : v9.toInt = (σ_6 1 0 0).toInt := by rw [e9]
            refine lv_iconst (v := 1) S.1 S.2.1 dX4_tick_37 (by decide) ?_
            refine lv_iadd S.1 S.2.1 dX4_tick_38 ?_
            refine lv_topi (fun v10 e10 => ?_)
            have i10 : v10.toInt = v9.toInt + (1 : Int32).toInt := i_add e10 (by omega) (by omega)
            refine pC_0_4 S hnX4 K hH hS (mG wd_156) dX4_tick_39 (fun H locs hH hS => ?_)
            obtain ⟨σ11, eσ11⟩ : ∃ z_9 : QS, z_9 = rs σ_6 1 0 (fun _ => v10) := ⟨_, rfl⟩
            rw [← eσ11] at hH
            have hI := InvC_f eσ11 hI (by decide) (show (0 : Int) ≤ v10.toInt ∧ v10.toInt ≤ 5000 by omega)
            have hP := Keep_w eσ11 hP (by decide)
            have wp1 : PaC σ11 N v10.toInt v10.toInt nn := by have z1 := PaC_now wp hN9 (σ' := σ11) (fun v' hv' => by rw [eσ11, rs_v (by intro z9; subst z9; revert hv'; decide)]); rw [show (σ_6 1 0 0).toInt + 1 = v10.toInt by omega] at z1; exact z1
            have y1a : σ11 1 0 0 = v10 := by rw [eσ11, rs_self]
            have y0a : (nn : Int) = (σ11 0 0 0).toInt := by rw [hP 0 (by decide)]; exact hp3
            have pAa : (pC σ11, eC σ11) = (pC σ_6, eC σ_6) := by rw [pC_of (fun v' hv' => by rw [eσ11, rs_v (by intro z9; subst z9; revert hv'; decide)]), eC_of (by rw [eσ11, rs_v (by decide)])]
            have yFa : farC σ11 = farC σ := by unfold farC; rw [hP 24 (by decide)]
            refine lv_aload_n S.1 S.2.1 dX4_tick_42 rfl (lv_at hl 0 rfl) ?_
            refine cW_bv (cW_V (n := 0) (As := []) (rest := []) (k := 0) (i := 0) S K hH (by decide) rfl rfl (k_X4_unloadParcels l D B L A σ11 τ  (N) (nn) hI (by rw [y1a]; exact wp1) (y0a)) gX4_tick_X4_unloadParcels rfl hdV_X4_unloadParcels ⟨Nat.le_of_ble_eq_true rfl, Nat.le_of_ble_eq_true rfl⟩ rfl hl.1 (Nat.le_of_ble_eq_true rfl) dX4_tick_43) hS (fun σ12 τ12 H locs q12 hH hS => ?_)
            obtain ⟨hI, hP12, hτ12, q12⟩ := q12
            rw [hτ12] at hH
            have hP := Keep_t hP hP12 (by decide)
            have hu9 := q12
            rw [pAa, yFa, y1a] at hu9
            have wp2 : PaC σ12 N v10.toInt (v10.toInt + 1) nn := PaC_past hu9.2 hu9.1 (by have z1 := wp1.1; rw [show pC σ11 = (pC σ_6, eC σ_6).1 from congrArg Prod.fst pAa] at z1; exact z1)
            have y1b : σ12 1 0 0 = v10 := by rw [hP12 1 (by decide)]; exact y1a
            have yCb : capC σ12 = capC σ := by unfold capC; rw [hP 23 (by decide)]
            have y0b : (nn : Int) = (σ12 0 0 0).toInt := by rw [hP 0 (by decide)]; exact hp3
            have sB := hP
            refine lv_aload_n S.1 S.2.1 dX4_tick_46 rfl (lv_at hl 0 rfl) ?_
            refine rC_0_0 S hnX4 K hH (mG wd_149) dX4_tick_47 ?_
            refine lv_aload_n S.1 S.2.1 dX4_tick_50 rfl (lv_at hl 0 rfl) ?_
            refine rC_0_4 S hnX4 K hH (mG wd_156) dX4_tick_51 ?_
            refine lv_topi (fun v13 e13 => ?_)
            have b13 : 0 ≤ v13.toInt ∧ v13.toInt ≤ 5000 := by rw [e13]; exact hI.1 1 0 0
            have k13 : v13.toInt = v10.toInt := by rw [e13, hP12 1 (by decide), eσ11, rs_self]
            have f51 : v13.toInt = v10.toInt := by rw [e13, y1b]
            refine cW_bpi (cW_V (n := 1) (As := [.int v13]) (rest := []) (k := 2) (i := 0) S K hH (by decide) rfl rfl (k_X3_hasHalts l D B L A σ12 τ v13 (by omega) hI) gX4_tick_X3_hasHalts rfl hdV_X3_hasHalts ⟨Nat.le_of_ble_eq_true rfl, Nat.le_of_ble_eq_true rfl⟩ rfl hl.1 (Nat.le_of_ble_eq_true rfl) dX4_tick_54) hS (fun v14 H locs q14 hH hS => ?_)
            refine lv_if_eq (tgt := 64) S.1 S.2.1 dX4_tick_57 (by decide) (fun c15 => ?_) (fun c15 => ?_)
            · have j15 := t_eq c15
              have hr9 : hrR N (capC σ) (farC σ) nn v10 (pC σ_6, eC σ_6) (pC σ12, eC σ12) := by first | exact hr_of hu9.1 (by have z1 := (q9999).1; rw [y1b, yCb] at z1; exact z1) (eC_of (hP9999 25 (by decide))) rfl | exact hr_of hu9.1 (sk_idle (no_halts (h6 := σ12 6 0) (h7 := σ12 7 0) hN9 (by rw [sB 6 (by decide), sB 7 (by decide)]; exact hp1.2.1) (z := (v10.toInt % 24).toNat) (by omega) (by omega) (by have z1 := q14; rw [f51] at z1; exact (z1.resolve_left (fun y => absurd y.1 (by omega))).2)) nn) rfl rfl
              have wp9 : PaC σ12 N v10.toInt (v10.toInt + 1) nn := by first | (have z1 := (q9999).2; rw [y1b] at z1; exact z1) | exact wp2
              obtain ⟨v16, e16⟩ : ∃ y_9 : Int32, y_9 = x2_6 + 1 := ⟨_, rfl⟩
              have i16 : v16.toInt = x2_6.toInt + 1 := i_addc e16 (by decide) (by omega) (by omega)
              refine lv_iinc (v := v16) (lv' := [(2, .int v16), (0, .ref (L 0 0)), (1, .int n9)]) S.1 S.2.1 dX4_tick_64 hl (k := 2) rfl (by rw [e16]; rfl) (by decide) rfl (fun ls hl => ?_)
              refine lv_goto (tgt := 27) S.1 S.2.1 dX4_tick_67 (by decide) ?_
              exact ih6 v16 σ12 _ _ ls (by omega) (by omega) (by rw [hP12 1 (by decide), eσ11, rs_self]; omega) (by omega) (by rw [cl_n1 i16 (by omega)]; exact hr_next wt hr9 (by have h9 := cl_eq (j := x2_6) (by omega); omega)) (by rw [show (σ12 1 0 0).toInt = v10.toInt by rw [hP12 1 (by decide), eσ11, rs_self]]; exact wp9) hI hP hH hS (lv_sub hl [1, 2, 0] rfl)
            · have j15 := t_neq c15
              refine lv_aload_n S.1 S.2.1 dX4_tick_60 rfl (lv_at hl 0 rfl) ?_
              refine cW_bv (cW_V (n := 0) (As := []) (rest := []) (k := 0) (i := 0) S K hH (by decide) rfl rfl (k_X4_loadParcels l D B L A σ12 τ  (N) (nn) hI (NetC_k hp1 hP (by decide)) (by rw [y1b]; exact wp2) (y0b)) gX4_tick_X4_loadParcels rfl hdV_X4_loadParcels ⟨Nat.le_of_ble_eq_true rfl, Nat.le_of_ble_eq_true rfl⟩ rfl hl.1 (Nat.le_of_ble_eq_true rfl) dX4_tick_61) hS (fun σ17 τ17 H locs q17 hH hS => ?_)
              obtain ⟨hI, hP17, hτ17, q17⟩ := q17
              rw [hτ17] at hH
              have hP := Keep_t hP hP17 (by decide)
              have hr9 : hrR N (capC σ) (farC σ) nn v10 (pC σ_6, eC σ_6) (pC σ17, eC σ17) := by first | exact hr_of hu9.1 (by have z1 := (q17).1; rw [y1b, yCb] at z1; exact z1) (eC_of (hP17 25 (by decide))) rfl | exact hr_of hu9.1 (sk_idle (no_halts (h6 := σ17 6 0) (h7 := σ17 7 0) hN9 (by rw [sB 6 (by decide), sB 7 (by decide)]; exact hp1.2.1) (z := (v10.toInt % 24).toNat) (by omega) (by omega) (by have z1 := q14; rw [f51] at z1; exact (z1.resolve_left (fun y => absurd y.1 (by omega))).2)) nn) rfl rfl
              have wp9 : PaC σ17 N v10.toInt (v10.toInt + 1) nn := by first | (have z1 := (q17).2; rw [y1b] at z1; exact z1) | exact wp2
              obtain ⟨v18, e18⟩ : ∃ y_9 : Int32, y_9 = x2_6 + 1 := ⟨_, rfl⟩
              have i18 : v18.toInt = x2_6.toInt + 1 := i_addc e18 (by decide) (by omega) (by omega)
              refine lv_iinc (v := v18) (lv' := [(2, .int v18), (0, .ref (L 0 0)), (1, .int n9)]) S.1 S.2.1 dX4_tick_64 hl (k := 2) rfl (by rw [e18]; rfl) (by decide) rfl (fun ls hl => ?_)
              refine lv_goto (tgt := 27) S.1 S.2.1 dX4_tick_67 (by decide) ?_
              exact ih6 v18 σ17 _ _ ls (by omega) (by omega) (by rw [hP17 1 (by decide), hP12 1 (by decide), eσ11, rs_self]; omega) (by omega) (by rw [cl_n1 i18 (by omega)]; exact hr_next wt hr9 (by have h9 := cl_eq (j := x2_6) (by omega); omega)) (by rw [show (σ17 1 0 0).toInt = v10.toInt by rw [hP17 1 (by decide), hP12 1 (by decide), eσ11, rs_self]]; exact wp9) hI hP hH hS (lv_sub hl [1, 2, 0] rfl)
      exact cut_27_6 _ 0 σ _ _ ls (Nat.lt_succ_self _) (by omega) (by omega) (by omega) (by rw [show (0 : Int32).toNatClampNeg = 0 by decide]; exact rfl) (by exact hp2) hI hP hH hS (lv_sub hl [1, 2, 0] rfl)
    · have j5 := t_nle c5
      refine lv_iconst (v := (-1)) S.1 S.2.1 dX4_tick_23 (by decide) ?_
      refine cW_iret S hr hk hH hS ?_ dX4_tick_24
      exact ⟨(-1), rfl, hI, hP, rfl, by exact ⟨Or.inl ⟨by decide, rfl, by omega⟩, Or.inl ⟨by decide, rfl⟩⟩⟩
set_option maxHeartbeats 4000000 in
set_option maxRecDepth 100000 in
theorem k_X4_waiting (l : Launch) (D : va_G) (B : Nat → ClassId) (L : QL) (A : Nat → Prop) (σ : QS) (τ : Int64) (a : Int32)  (hI : InvC σ) : cW cntC gC l D B L A yX4_waiting wsX4_waiting 2 42 [.ref (L 0 0), .int a] σ τ (pI (fun x σ' τ' => σ' = σ ∧ τ' = τ ∧ ((x.toInt = -1 ∧ ¬ (0 ≤ a.toInt ∧ a.toInt ≤ 11)) ∨ ((0 ≤ a.toInt ∧ a.toInt ≤ 11) ∧ x = cnB (fun i => decide (pC σ i 2 = a ∧ pC σ i 7 = -1)) (σ 0 0 0).toNatClampNeg)))) := by
  refine cW_of (cc := cX4_waiting) (nL := 4) (ret := (some .int)) (by decide) rfl (Nat.le_of_ble_eq_true rfl) ?_
  intro p e s m below meth c S hr hk K hH hS ls hl
  have hnX2 : ∀ w ∈ wsX20, w ∈ wsX4_waiting := fun w h => mG (tX2 w h)
  have hnX4 : ∀ w ∈ wsX40, w ∈ wsX4_waiting := fun w h => mG (tX4 w h)
  have lm1 : ((-1) : Int32).toInt = -1 := by decide
  have l0 : (0 : Int32).toInt = 0 := by decide
  have l1 : (1 : Int32).toInt = 1 := by decide
  have hl : lv_has ls 4 [(0, .ref (L 0 0)), (1, .int a)] := hl
  refine lv_iload_n S.1 S.2.1 dX4_waiting_0 rfl (lv_at hl 1 rfl) ?_
  refine cW_bpi (cW_S (n := 1) (As := [.int a]) (rest := []) S K hH (k_X4_isPlace l D B L A σ τ a ) gX4_waiting_X4_isPlace rfl hdS_X4_isPlace ⟨Nat.le_of_ble_eq_true rfl, Nat.le_of_ble_eq_true rfl⟩ rfl hl.1 (Nat.le_of_ble_eq_true rfl) dX4_waiting_1) hS (fun v1 H locs q1 hH hS => ?_)
  refine lv_if_ne (tgt := 9) S.1 S.2.1 dX4_waiting_4 (by decide) (fun c2 => ?_) (fun c2 => ?_)
  · have j2 := t_neq c2
    refine lv_iconst (v := 0) S.1 S.2.1 dX4_waiting_9 (by decide) ?_
    refine lv_istore_n (lv' := [(2, .int 0), (0, .ref (L 0 0)), (1, .int a)]) S.1 S.2.1 dX4_waiting_10 rfl hl (by decide) rfl (fun ls hl => ?_)
    refine lv_iconst (v := 0) S.1 S.2.1 dX4_waiting_11 (by decide) ?_
    refine lv_istore_n (lv' := [(3, .int 0), (2, .int 0), (0, .ref (L 0 0)), (1, .int a)]) S.1 S.2.1 dX4_waiting_12 rfl hl (by decide) rfl (fun ls hl => ?_)
    have cut_13_3 : ∀ (n : Nat) (x2_3 : Int32) (x3_3 : Int32)  (H : Heap) (locs : List Loc) (ls : Array Slot), (60 - x3_3.toInt).toNat < n → 0 ≤ x3_3.toInt ∧ x3_3.toInt ≤ 60 → (x2_3 = cnB (fun i => decide (pC σ i 2 = a ∧ pC σ i 7 = -1)) x3_3.toNatClampNeg) → (x3_3.toInt ≤ (σ 0 0 0).toInt) → hW cntC gC D B L σ τ H → va_S A s.heap H locs → lv_has ls 4 [(0, .ref (L 0 0)), (1, .int a), (2, .int x2_3), (3, .int x3_3)] → W p l e { frames := 2, cells := 0, slots := 0, locals := 42 } s m [.ref (L 0 0), .int a].toArray below meth c H locs 0 0 (MQ below (QcW cntC gC D B L A (pI (fun x σ' τ' => σ' = σ ∧ τ' = τ ∧ ((x.toInt = -1 ∧ ¬ (0 ≤ a.toInt ∧ a.toInt ≤ 11)) ∨ ((0 ≤ a.toInt ∧ a.toInt ≤ 11) ∧ x = cnB (fun i => decide (pC σ i 2 = a ∧ pC σ i 7 = -1)) (σ 0 0 0).toNatClampNeg))))) [.ref (L 0 0), .int a].toArray s 0 0 A) (F0 m 13 ls []) := by
      intro n
      induction n with
      | zero => intro x2_3 x3_3 H locs ls hm; exact absurd hm (Nat.not_lt_zero _)
      | succ n ih3 =>
        intro x2_3 x3_3 H locs ls hm3 h3_0 ws wl hH hS hl
        refine lv_iload_n S.1 S.2.1 dX4_waiting_13 rfl (lv_at hl 3 rfl) ?_
        refine lv_aload_n S.1 S.2.1 dX4_waiting_14 rfl (lv_at hl 0 rfl) ?_
        refine rC_0_3 S hnX4 K hH (mG wd_155) dX4_waiting_15 ?_
        refine lv_topi (fun v4 e4 => ?_)
        have b4 : 0 ≤ v4.toInt ∧ v4.toInt ≤ 60 := by rw [e4]; exact hI.1 0 0 0
        have f15 : v4.toInt = (σ 0 0 0).toInt := by rw [e4]
        refine lv_icmp_ge (tgt := 56) S.1 S.2.1 dX4_waiting_18 (by decide) (fun c5 => ?_) (fun c5 => ?_)
        · have j5 := t_le c5
          refine lv_iload_n S.1 S.2.1 dX4_waiting_56 rfl (lv_at hl 2 rfl) ?_
          refine cW_iret S hr hk hH hS ?_ dX4_waiting_57
          exact ⟨x2_3, rfl, rfl, rfl, by refine Or.inr ⟨by omega, ?_⟩; rw [ws, cl_same (show x3_3.toInt = (σ 0 0 0).toInt by omega)]⟩
        · have j5 := t_nle c5
          refine lv_aload_n S.1 S.2.1 dX4_waiting_21 rfl (lv_at hl 0 rfl) ?_
          refine rC_0_2 S hnX4 K hH (mG wd_154) dX4_waiting_22 ?_
          refine lv_iload_n S.1 S.2.1 dX4_waiting_25 rfl (lv_at hl 3 rfl) ?_
          refine lC_1 S K hH (vin (by omega) (by omega)) dX4_waiting_26 ?_
          refine rC_20_2 S hnX2 K hH (cl_lt (n := 60) (by omega) (by omega)) (mG wd_226) dX4_waiting_27 ?_
          refine lv_topi (fun v6 e6 => ?_)
          have b6 : (-1) ≤ v6.toInt ∧ v6.toInt ≤ 11 := by rw [e6]; exact hI.1 34 x3_3.toNatClampNeg 0
          have f27 : v6 = pC σ x3_3.toNatClampNeg 2 := by rw [e6]; rfl
          refine lv_iload_n S.1 S.2.1 dX4_waiting_30 rfl (lv_at hl 1 rfl) ?_
          refine lv_icmp_ne (tgt := 50) S.1 S.2.1 dX4_waiting_31 (by decide) (fun c7 => ?_) (fun c7 => ?_)
          · have j7 := t_neq c7
            obtain ⟨v8, e8⟩ : ∃ y_9 : Int32, y_9 = x3_3 + 1 := ⟨_, rfl⟩
            have i8 : v8.toInt = x3_3.toInt + 1 := i_addc e8 (by decide) (by omega) (by omega)
            refine lv_iinc (v := v8) (lv' := [(3, .int v8), (0, .ref (L 0 0)), (1, .int a), (2, .int x2_3)]) S.1 S.2.1 dX4_waiting_50 hl (k := 3) rfl (by rw [e8]; rfl) (by decide) rfl (fun ls hl => ?_)
            refine lv_goto (tgt := 13) S.1 S.2.1 dX4_waiting_53 (by decide) ?_
            exact ih3 x2_3 v8 _ _ ls (by omega) (by omega) (by rw [cl_n1 i8 (by omega)]; first | (rw [e9999]; exact cnB_y ws (decide_eq_true ⟨f27.symm.trans c7, f40.symm.trans c9999⟩)) | exact cnB_n ws (fun y9 => c9999 (f40.trans (of_decide_eq_true y9).2)) | exact cnB_n ws (fun y9 => c7 (f27.trans (of_decide_eq_true y9).1))) (by omega) hH hS (lv_sub hl [1, 2, 3, 0] rfl)
          · have j7 := t_eq c7
            refine lv_aload_n S.1 S.2.1 dX4_waiting_34 rfl (lv_at hl 0 rfl) ?_
            refine rC_0_2 S hnX4 K hH (mG wd_154) dX4_waiting_35 ?_
            refine lv_iload_n S.1 S.2.1 dX4_waiting_38 rfl (lv_at hl 3 rfl) ?_
            refine lC_1 S K hH (vin (by omega) (by omega)) dX4_waiting_39 ?_
            refine rC_20_7 S hnX2 K hH (cl_lt (n := 60) (by omega) (by omega)) (mG wd_252) dX4_waiting_40 ?_
            refine lv_topi (fun v9 e9 => ?_)
            have f40 : v9 = pC σ x3_3.toNatClampNeg 7 := by rw [e9]; rfl
            refine lv_iconst (v := (-1)) S.1 S.2.1 dX4_waiting_43 (by decide) ?_
            refine lv_icmp_ne (tgt := 50) S.1 S.2.1 dX4_waiting_44 (by decide) (fun c10 => ?_) (fun c10 => ?_)
            · have j10 := t_neq c10
              obtain ⟨v11, e11⟩ : ∃ y_9 : Int32, y_9 = x3_3 + 1 := ⟨_, rfl⟩
              have i11 : v11.toInt = x3_3.toInt + 1 := i_addc e11 (by decide) (by omega) (by omega)
              refine lv_iinc (v := v11) (lv' := [(3, .int v11), (0, .ref (L 0 0)), (1, .int a), (2, .int x2_3)]) S.1 S.2.1 dX4_waiting_50 hl (k := 3) rfl (by rw [e11]; rfl) (by decide) rfl (fun ls hl => ?_)
              refine lv_goto (tgt := 13) S.1 S.2.1 dX4_waiting_53 (by decide) ?_
              exact ih3 x2_3 v11 _ _ ls (by omega) (by omega) (by rw [cl_n1 i11 (by omega)]; first | (rw [e9999]; exact cnB_y ws (decide_eq_true ⟨f27.symm.trans c7, f40.symm.trans c10⟩)) | exact cnB_n ws (fun y9 => c10 (f40.trans (of_decide_eq_true y9).2)) | exact cnB_n ws (fun y9 => c7 (f27.trans (of_decide_eq_true y9).1))) (by omega) hH hS (lv_sub hl [1, 2, 3, 0] rfl)
            · have j10 := t_eq c10
              obtain ⟨v12, e12⟩ : ∃ y_9 : Int32, y_9 = x2_3 + 1 := ⟨_, rfl⟩
              refine lv_iinc (v := v12) (lv' := [(2, .int v12), (0, .ref (L 0 0)), (1, .int a), (3, .int x3_3)]) S.1 S.2.1 dX4_waiting_47 hl (k := 2) rfl (by rw [e12]; rfl) (by decide) rfl (fun ls hl => ?_)
              obtain ⟨v13, e13⟩ : ∃ y_9 : Int32, y_9 = x3_3 + 1 := ⟨_, rfl⟩
              have i13 : v13.toInt = x3_3.toInt + 1 := i_addc e13 (by decide) (by omega) (by omega)
              refine lv_iinc (v := v13) (lv' := [(3, .int v13), (2, .int v12), (0, .ref (L 0 0)), (1, .int a)]) S.1 S.2.1 dX4_waiting_50 hl (k := 3) rfl (by rw [e13]; rfl) (by decide) rfl (fun ls hl => ?_)
              refine lv_goto (tgt := 13) S.1 S.2.1 dX4_waiting_53 (by decide) ?_
              exact ih3 v12 v13 _ _ ls (by omega) (by omega) (by rw [cl_n1 i13 (by omega)]; first | (rw [e12]; exact cnB_y ws (decide_eq_true ⟨f27.symm.trans c7, f40.symm.trans c10⟩)) | exact cnB_n ws (fun y9 => c10 (f40.trans (of_decide_eq_true y9).2)) | exact cnB_n ws (fun y9 => c7 (f27.trans (of_decide_eq_true y9).1))) (by omega) hH hS (lv_sub hl [2, 3, 1, 0] rfl)
    exact cut_13_3 _ 0 0 _ _ ls (Nat.lt_succ_self _) (by omega) (by rfl) (by have z9 : 0 ≤ (σ 0 0 0).toInt ∧ (σ 0 0 0).toInt ≤ 60 := hI.1 0 0 0; omega) hH hS (lv_sub hl [2, 3, 1, 0] rfl)
  · have j2 := t_eq c2
    refine lv_iconst (v := (-1)) S.1 S.2.1 dX4_waiting_7 (by decide) ?_
    refine cW_iret S hr hk hH hS ?_ dX4_waiting_8
    exact ⟨(-1), rfl, rfl, rfl, by exact Or.inl ⟨by decide, by omega⟩⟩
set_option maxHeartbeats 4000000 in
set_option maxRecDepth 100000 in
theorem k_X4_countCome (l : Launch) (D : va_G) (B : Nat → ClassId) (L : QL) (A : Nat → Prop) (σ : QS) (τ : Int64)   (hI : InvC σ) : cW cntC gC l D B L A yX4_countCome wsX4_countCome 0 0 [.ref (L 0 0)] σ τ (pI (fun x σ' τ' => σ' = σ ∧ τ' = τ ∧ x = cnB (fun i => decide (pC σ i 7 ≠ -1)) (σ 0 0 0).toNatClampNeg)) := by
  refine cW_of (cc := cX4_countCome) (nL := 3) (ret := (some .int)) (by decide) rfl (Nat.le_of_ble_eq_true rfl) ?_
  intro p e s m below meth c S hr hk K hH hS ls hl
  have hnX2 : ∀ w ∈ wsX20, w ∈ wsX4_countCome := fun w h => mG (tX2 w h)
  have hnX4 : ∀ w ∈ wsX40, w ∈ wsX4_countCome := fun w h => mG (tX4 w h)
  have lm1 : ((-1) : Int32).toInt = -1 := by decide
  have l0 : (0 : Int32).toInt = 0 := by decide
  have l1 : (1 : Int32).toInt = 1 := by decide
  have hl : lv_has ls 3 [(0, .ref (L 0 0))] := hl
  refine lv_iconst (v := 0) S.1 S.2.1 dX4_countCome_0 (by decide) ?_
  refine lv_istore_n (lv' := [(1, .int 0), (0, .ref (L 0 0))]) S.1 S.2.1 dX4_countCome_1 rfl hl (by decide) rfl (fun ls hl => ?_)
  refine lv_iconst (v := 0) S.1 S.2.1 dX4_countCome_2 (by decide) ?_
  refine lv_istore_n (lv' := [(2, .int 0), (1, .int 0), (0, .ref (L 0 0))]) S.1 S.2.1 dX4_countCome_3 rfl hl (by decide) rfl (fun ls hl => ?_)
  have cut_4_1 : ∀ (n : Nat) (x1_1 : Int32) (x2_1 : Int32)  (H : Heap) (locs : List Loc) (ls : Array Slot), (60 - x2_1.toInt).toNat < n → 0 ≤ x2_1.toInt ∧ x2_1.toInt ≤ 60 → (x1_1 = cnB (fun i => decide (pC σ i 7 ≠ -1)) x2_1.toNatClampNeg) → (x2_1.toInt ≤ (σ 0 0 0).toInt) → hW cntC gC D B L σ τ H → va_S A s.heap H locs → lv_has ls 3 [(0, .ref (L 0 0)), (1, .int x1_1), (2, .int x2_1)] → W p l e { frames := 0, cells := 0, slots := 0, locals := 0 } s m [.ref (L 0 0)].toArray below meth c H locs 0 0 (MQ below (QcW cntC gC D B L A (pI (fun x σ' τ' => σ' = σ ∧ τ' = τ ∧ x = cnB (fun i => decide (pC σ i 7 ≠ -1)) (σ 0 0 0).toNatClampNeg))) [.ref (L 0 0)].toArray s 0 0 A) (F0 m 4 ls []) := by
    intro n
    induction n with
    | zero => intro x1_1 x2_1 H locs ls hm; exact absurd hm (Nat.not_lt_zero _)
    | succ n ih1 =>
      intro x1_1 x2_1 H locs ls hm1 h1_0 ws wl hH hS hl
      refine lv_iload_n S.1 S.2.1 dX4_countCome_4 rfl (lv_at hl 2 rfl) ?_
      refine lv_aload_n S.1 S.2.1 dX4_countCome_5 rfl (lv_at hl 0 rfl) ?_
      refine rC_0_3 S hnX4 K hH (mG wd_155) dX4_countCome_6 ?_
      refine lv_topi (fun v2 e2 => ?_)
      have b2 : 0 ≤ v2.toInt ∧ v2.toInt ≤ 60 := by rw [e2]; exact hI.1 0 0 0
      have f6 : v2.toInt = (σ 0 0 0).toInt := by rw [e2]
      refine lv_icmp_ge (tgt := 34) S.1 S.2.1 dX4_countCome_9 (by decide) (fun c3 => ?_) (fun c3 => ?_)
      · have j3 := t_le c3
        refine lv_iload_n S.1 S.2.1 dX4_countCome_34 rfl (lv_at hl 1 rfl) ?_
        refine cW_iret S hr hk hH hS ?_ dX4_countCome_35
        exact ⟨x1_1, rfl, rfl, rfl, by rw [ws, cl_same (show x2_1.toInt = (σ 0 0 0).toInt by omega)]⟩
      · have j3 := t_nle c3
        refine lv_aload_n S.1 S.2.1 dX4_countCome_12 rfl (lv_at hl 0 rfl) ?_
        refine rC_0_2 S hnX4 K hH (mG wd_154) dX4_countCome_13 ?_
        refine lv_iload_n S.1 S.2.1 dX4_countCome_16 rfl (lv_at hl 2 rfl) ?_
        refine lC_1 S K hH (vin (by omega) (by omega)) dX4_countCome_17 ?_
        refine rC_20_7 S hnX2 K hH (cl_lt (n := 60) (by omega) (by omega)) (mG wd_252) dX4_countCome_18 ?_
        refine lv_topi (fun v4 e4 => ?_)
        have f18 : v4 = pC σ x2_1.toNatClampNeg 7 := by rw [e4]; rfl
        refine lv_iconst (v := (-1)) S.1 S.2.1 dX4_countCome_21 (by decide) ?_
        refine lv_icmp_eq (tgt := 28) S.1 S.2.1 dX4_countCome_22 (by decide) (fun c5 => ?_) (fun c5 => ?_)
        · have j5 := t_eq c5
          obtain ⟨v6, e6⟩ : ∃ y_9 : Int32, y_9 = x2_1 + 1 := ⟨_, rfl⟩
          have i6 : v6.toInt = x2_1.toInt + 1 := i_addc e6 (by decide) (by omega) (by omega)
          refine lv_iinc (v := v6) (lv' := [(2, .int v6), (0, .ref (L 0 0)), (1, .int x1_1)]) S.1 S.2.1 dX4_countCome_28 hl (k := 2) rfl (by rw [e6]; rfl) (by decide) rfl (fun ls hl => ?_)
          refine lv_goto (tgt := 4) S.1 S.2.1 dX4_countCome_31 (by decide) ?_
          exact ih1 x1_1 v6 _ _ ls (by omega) (by omega) (by rw [cl_n1 i6 (by omega)]; first | (rw [e9999]; exact cnB_y ws (decide_eq_true (fun y9 => c5 (f18.trans y9)))) | exact cnB_n ws (fun y9 => of_decide_eq_true y9 (f18.symm.trans c5))) (by omega) hH hS (lv_sub hl [1, 2, 0] rfl)
        · have j5 := t_neq c5
          obtain ⟨v7, e7⟩ : ∃ y_9 : Int32, y_9 = x1_1 + 1 := ⟨_, rfl⟩
          refine lv_iinc (v := v7) (lv' := [(1, .int v7), (0, .ref (L 0 0)), (2, .int x2_1)]) S.1 S.2.1 dX4_countCome_25 hl (k := 1) rfl (by rw [e7]; rfl) (by decide) rfl (fun ls hl => ?_)
          obtain ⟨v8, e8⟩ : ∃ y_9 : Int32, y_9 = x2_1 + 1 := ⟨_, rfl⟩
          have i8 : v8.toInt = x2_1.toInt + 1 := i_addc e8 (by decide) (by omega) (by omega)
          refine lv_iinc (v := v8) (lv' := [(2, .int v8), (1, .int v7), (0, .ref (L 0 0))]) S.1 S.2.1 dX4_countCome_28 hl (k := 2) rfl (by rw [e8]; rfl) (by decide) rfl (fun ls hl => ?_)
          refine lv_goto (tgt := 4) S.1 S.2.1 dX4_countCome_31 (by decide) ?_
          exact ih1 v7 v8 _ _ ls (by omega) (by omega) (by rw [cl_n1 i8 (by omega)]; first | (rw [e7]; exact cnB_y ws (decide_eq_true (fun y9 => c5 (f18.trans y9)))) | exact cnB_n ws (fun y9 => of_decide_eq_true y9 (f18.symm.trans c5))) (by omega) hH hS (lv_sub hl [2, 1, 0] rfl)
  exact cut_4_1 _ 0 0 _ _ ls (Nat.lt_succ_self _) (by omega) (by rfl) (by have z9 : 0 ≤ (σ 0 0 0).toInt ∧ (σ 0 0 0).toInt ≤ 60 := hI.1 0 0 0; omega) hH hS (lv_sub hl [2, 1, 0] rfl)
set_option maxHeartbeats 4000000 in
set_option maxRecDepth 100000 in
theorem k_X4_countRiding (l : Launch) (D : va_G) (B : Nat → ClassId) (L : QL) (A : Nat → Prop) (σ : QS) (τ : Int64)   (hI : InvC σ) : cW cntC gC l D B L A yX4_countRiding wsX4_countRiding 0 0 [.ref (L 0 0)] σ τ (pI (fun x σ' τ' => σ' = σ ∧ τ' = τ ∧ x = cnB (fun i => decide (pC σ i 3 ≠ -1)) (σ 0 0 0).toNatClampNeg)) := by
  refine cW_of (cc := cX4_countRiding) (nL := 3) (ret := (some .int)) (by decide) rfl (Nat.le_of_ble_eq_true rfl) ?_
  intro p e s m below meth c S hr hk K hH hS ls hl
  have hnX2 : ∀ w ∈ wsX20, w ∈ wsX4_countRiding := fun w h => mG (tX2 w h)
  have hnX4 : ∀ w ∈ wsX40, w ∈ wsX4_countRiding := fun w h => mG (tX4 w h)
  have lm1 : ((-1) : Int32).toInt = -1 := by decide
  have l0 : (0 : Int32).toInt = 0 := by decide
  have l1 : (1 : Int32).toInt = 1 := by decide
  have hl : lv_has ls 3 [(0, .ref (L 0 0))] := hl
  refine lv_iconst (v := 0) S.1 S.2.1 dX4_countRiding_0 (by decide) ?_
  refine lv_istore_n (lv' := [(1, .int 0), (0, .ref (L 0 0))]) S.1 S.2.1 dX4_countRiding_1 rfl hl (by decide) rfl (fun ls hl => ?_)
  refine lv_iconst (v := 0) S.1 S.2.1 dX4_countRiding_2 (by decide) ?_
  refine lv_istore_n (lv' := [(2, .int 0), (1, .int 0), (0, .ref (L 0 0))]) S.1 S.2.1 dX4_countRiding_3 rfl hl (by decide) rfl (fun ls hl => ?_)
  have cut_4_1 : ∀ (n : Nat) (x1_1 : Int32) (x2_1 : Int32)  (H : Heap) (locs : List Loc) (ls : Array Slot), (60 - x2_1.toInt).toNat < n → 0 ≤ x2_1.toInt ∧ x2_1.toInt ≤ 60 → (x1_1 = cnB (fun i => decide (pC σ i 3 ≠ -1)) x2_1.toNatClampNeg) → (x2_1.toInt ≤ (σ 0 0 0).toInt) → hW cntC gC D B L σ τ H → va_S A s.heap H locs → lv_has ls 3 [(0, .ref (L 0 0)), (1, .int x1_1), (2, .int x2_1)] → W p l e { frames := 0, cells := 0, slots := 0, locals := 0 } s m [.ref (L 0 0)].toArray below meth c H locs 0 0 (MQ below (QcW cntC gC D B L A (pI (fun x σ' τ' => σ' = σ ∧ τ' = τ ∧ x = cnB (fun i => decide (pC σ i 3 ≠ -1)) (σ 0 0 0).toNatClampNeg))) [.ref (L 0 0)].toArray s 0 0 A) (F0 m 4 ls []) := by
    intro n
    induction n with
    | zero => intro x1_1 x2_1 H locs ls hm; exact absurd hm (Nat.not_lt_zero _)
    | succ n ih1 =>
      intro x1_1 x2_1 H locs ls hm1 h1_0 ws wl hH hS hl
      refine lv_iload_n S.1 S.2.1 dX4_countRiding_4 rfl (lv_at hl 2 rfl) ?_
      refine lv_aload_n S.1 S.2.1 dX4_countRiding_5 rfl (lv_at hl 0 rfl) ?_
      refine rC_0_3 S hnX4 K hH (mG wd_155) dX4_countRiding_6 ?_
      refine lv_topi (fun v2 e2 => ?_)
      have b2 : 0 ≤ v2.toInt ∧ v2.toInt ≤ 60 := by rw [e2]; exact hI.1 0 0 0
      have f6 : v2.toInt = (σ 0 0 0).toInt := by rw [e2]
      refine lv_icmp_ge (tgt := 34) S.1 S.2.1 dX4_countRiding_9 (by decide) (fun c3 => ?_) (fun c3 => ?_)
      · have j3 := t_le c3
        refine lv_iload_n S.1 S.2.1 dX4_countRiding_34 rfl (lv_at hl 1 rfl) ?_
        refine cW_iret S hr hk hH hS ?_ dX4_countRiding_35
        exact ⟨x1_1, rfl, rfl, rfl, by rw [ws, cl_same (show x2_1.toInt = (σ 0 0 0).toInt by omega)]⟩
      · have j3 := t_nle c3
        refine lv_aload_n S.1 S.2.1 dX4_countRiding_12 rfl (lv_at hl 0 rfl) ?_
        refine rC_0_2 S hnX4 K hH (mG wd_154) dX4_countRiding_13 ?_
        refine lv_iload_n S.1 S.2.1 dX4_countRiding_16 rfl (lv_at hl 2 rfl) ?_
        refine lC_1 S K hH (vin (by omega) (by omega)) dX4_countRiding_17 ?_
        refine rC_20_3 S hnX2 K hH (cl_lt (n := 60) (by omega) (by omega)) (mG wd_212) dX4_countRiding_18 ?_
        refine lv_topi (fun v4 e4 => ?_)
        have b4 : (-1) ≤ v4.toInt ∧ v4.toInt ≤ 11 := by rw [e4]; exact hI.1 35 x2_1.toNatClampNeg 0
        have f18 : v4 = pC σ x2_1.toNatClampNeg 3 := by rw [e4]; rfl
        refine lv_iconst (v := (-1)) S.1 S.2.1 dX4_countRiding_21 (by decide) ?_
        refine lv_icmp_eq (tgt := 28) S.1 S.2.1 dX4_countRiding_22 (by decide) (fun c5 => ?_) (fun c5 => ?_)
        · have j5 := t_eq c5
          obtain ⟨v6, e6⟩ : ∃ y_9 : Int32, y_9 = x2_1 + 1 := ⟨_, rfl⟩
          have i6 : v6.toInt = x2_1.toInt + 1 := i_addc e6 (by decide) (by omega) (by omega)
          refine lv_iinc (v := v6) (lv' := [(2, .int v6), (0, .ref (L 0 0)), (1, .int x1_1)]) S.1 S.2.1 dX4_countRiding_28 hl (k := 2) rfl (by rw [e6]; rfl) (by decide) rfl (fun ls hl => ?_)
          refine lv_goto (tgt := 4) S.1 S.2.1 dX4_countRiding_31 (by decide) ?_
          exact ih1 x1_1 v6 _ _ ls (by omega) (by omega) (by rw [cl_n1 i6 (by omega)]; first | (rw [e9999]; exact cnB_y ws (decide_eq_true (fun y9 => c5 (f18.trans y9)))) | exact cnB_n ws (fun y9 => of_decide_eq_true y9 (f18.symm.trans c5))) (by omega) hH hS (lv_sub hl [1, 2, 0] rfl)
        · have j5 := t_neq c5
          obtain ⟨v7, e7⟩ : ∃ y_9 : Int32, y_9 = x1_1 + 1 := ⟨_, rfl⟩
          refine lv_iinc (v := v7) (lv' := [(1, .int v7), (0, .ref (L 0 0)), (2, .int x2_1)]) S.1 S.2.1 dX4_countRiding_25 hl (k := 1) rfl (by rw [e7]; rfl) (by decide) rfl (fun ls hl => ?_)
          obtain ⟨v8, e8⟩ : ∃ y_9 : Int32, y_9 = x2_1 + 1 := ⟨_, rfl⟩
          have i8 : v8.toInt = x2_1.toInt + 1 := i_addc e8 (by decide) (by omega) (by omega)
          refine lv_iinc (v := v8) (lv' := [(2, .int v8), (1, .int v7), (0, .ref (L 0 0))]) S.1 S.2.1 dX4_countRiding_28 hl (k := 2) rfl (by rw [e8]; rfl) (by decide) rfl (fun ls hl => ?_)
          refine lv_goto (tgt := 4) S.1 S.2.1 dX4_countRiding_31 (by decide) ?_
          exact ih1 v7 v8 _ _ ls (by omega) (by omega) (by rw [cl_n1 i8 (by omega)]; first | (rw [e7]; exact cnB_y ws (decide_eq_true (fun y9 => c5 (f18.trans y9)))) | exact cnB_n ws (fun y9 => of_decide_eq_true y9 (f18.symm.trans c5))) (by omega) hH hS (lv_sub hl [2, 1, 0] rfl)
  exact cut_4_1 _ 0 0 _ _ ls (Nat.lt_succ_self _) (by omega) (by rfl) (by have z9 : 0 ≤ (σ 0 0 0).toInt ∧ (σ 0 0 0).toInt ≤ 60 := hI.1 0 0 0; omega) hH hS (lv_sub hl [2, 1, 0] rfl)
