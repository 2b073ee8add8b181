set_option maxHeartbeats 4000000 in
set_option maxRecDepth 100000 in
theorem k_X4_walk (l : Launch) (D : va_G) (B : Nat → ClassId) (L : QL) (A : Nat → Prop) (σ : QS) (τ : Int64) (a : Int32) (b : Int32) (z : Int32)  (hI : InvC σ) : cW cntC gC l D B L A yX4_walk wsX4_walk 2 43 [.ref (L 0 0), .int a, .int b, .int z] σ τ (pI (fun x σ' τ' => InvC σ' ∧ Keep [11, 16, 17] σ σ' ∧ τ' = τ ∧ ((x.toInt = 1 ∧ (0 ≤ a.toInt ∧ a.toInt ≤ 8 ∧ 0 ≤ b.toInt ∧ b.toInt ≤ 8 ∧ a.toInt ≠ b.toInt ∧ 0 ≤ z.toInt ∧ z.toInt ≤ 60) ∧ σ' 11 0 = upd (upd (σ 11 0) (9 * a.toNatClampNeg + b.toNatClampNeg) z) (9 * b.toNatClampNeg + a.toNatClampNeg) z ∧ σ' 16 0 0 = 0 ∧ σ' 17 0 0 = -1) ∨ (x.toInt = 0 ∧ ¬ (0 ≤ a.toInt ∧ a.toInt ≤ 8 ∧ 0 ≤ b.toInt ∧ b.toInt ≤ 8 ∧ a.toInt ≠ b.toInt ∧ 0 ≤ z.toInt ∧ z.toInt ≤ 60) ∧ σ' 11 = σ 11 ∧ σ' 16 = σ 16 ∧ σ' 17 = σ 17)))) := by
  refine cW_of (cc := cX4_walk) (nL := 4) (ret := (some .boolean)) (by decide) rfl (Nat.le_of_ble_eq_true rfl) ?_
  intro p e s m below meth c S hr hk K hH hS ls hl
  have hnX1 : ∀ w ∈ wsX10, w ∈ wsX4_walk := fun w h => mG (tX1 w h)
  have hnX4 : ∀ w ∈ wsX40, w ∈ wsX4_walk := fun w h => mG (tX4 w h)
  have l0 : (0 : Int32).toInt = 0 := by decide
  have l1 : (1 : Int32).toInt = 1 := by decide
  have l8 : (8 : Int32).toInt = 8 := by decide
  have l60 : (60 : Int32).toInt = 60 := by decide
  have hP : Keep [11, 16, 17] σ σ := Keep_r
  have hl : lv_has ls 4 [(0, .ref (L 0 0)), (1, .int a), (2, .int b), (3, .int z)] := hl
  refine lv_iload_n S.1 S.2.1 dX4_walk_0 rfl (lv_at hl 1 rfl) ?_
  refine lv_iconst (v := 0) S.1 S.2.1 dX4_walk_1 (by decide) ?_
  refine lv_bipush (v := 8) S.1 S.2.1 dX4_walk_2 (by decide) ?_
  refine cW_bpi (cW_S (n := 3) (As := [.int a, .int 0, .int 8]) (rest := []) S K hH (k_X4_isIn l D B L A σ τ a 0 8 ) gX4_walk_X4_isIn rfl hdS_X4_isIn ⟨Nat.le_of_ble_eq_true rfl, Nat.le_of_ble_eq_true rfl⟩ rfl hl.1 (Nat.le_of_ble_eq_true rfl) dX4_walk_4) hS (fun v1 H locs q1 hH hS => ?_)
  refine lv_if_eq (tgt := 25) S.1 S.2.1 dX4_walk_7 (by decide) (fun c2 => ?_) (fun c2 => ?_)
  · have j2 := t_eq c2
    refine lv_iconst (v := 0) S.1 S.2.1 dX4_walk_25 (by decide) ?_
    refine cW_zret S hr hk hH hS (by decide) ?_ dX4_walk_26
    exact ⟨0, rfl, hI, hP, rfl, by exact Or.inr ⟨by decide, by omega, rfl, rfl, rfl⟩⟩
  · have j2 := t_neq c2
    refine lv_iload_n S.1 S.2.1 dX4_walk_10 rfl (lv_at hl 2 rfl) ?_
    refine lv_iconst (v := 0) S.1 S.2.1 dX4_walk_11 (by decide) ?_
    refine lv_bipush (v := 8) S.1 S.2.1 dX4_walk_12 (by decide) ?_
    refine cW_bpi (cW_S (n := 3) (As := [.int b, .int 0, .int 8]) (rest := []) S K hH (k_X4_isIn l D B L A σ τ b 0 8 ) gX4_walk_X4_isIn rfl hdS_X4_isIn ⟨Nat.le_of_ble_eq_true rfl, Nat.le_of_ble_eq_true rfl⟩ rfl hl.1 (Nat.le_of_ble_eq_true rfl) dX4_walk_14) hS (fun v3 H locs q3 hH hS => ?_)
    refine lv_if_eq (tgt := 25) S.1 S.2.1 dX4_walk_17 (by decide) (fun c4 => ?_) (fun c4 => ?_)
    · have j4 := t_eq c4
      refine lv_iconst (v := 0) S.1 S.2.1 dX4_walk_25 (by decide) ?_
      refine cW_zret S hr hk hH hS (by decide) ?_ dX4_walk_26
      exact ⟨0, rfl, hI, hP, rfl, by exact Or.inr ⟨by decide, by omega, rfl, rfl, rfl⟩⟩
    · have j4 := t_neq c4
      refine lv_iload_n S.1 S.2.1 dX4_walk_20 rfl (lv_at hl 1 rfl) ?_
      refine lv_iload_n S.1 S.2.1 dX4_walk_21 rfl (lv_at hl 2 rfl) ?_
      refine lv_icmp_ne (tgt := 27) S.1 S.2.1 dX4_walk_22 (by decide) (fun c5 => ?_) (fun c5 => ?_)
      · have j5 := t_neq c5
        refine lv_iload_n S.1 S.2.1 dX4_walk_27 rfl (lv_at hl 3 rfl) ?_
        refine lv_iconst (v := 0) S.1 S.2.1 dX4_walk_28 (by decide) ?_
        refine lv_bipush (v := 60) S.1 S.2.1 dX4_walk_29 (by decide) ?_
        refine cW_bpi (cW_S (n := 3) (As := [.int z, .int 0, .int 60]) (rest := []) S K hH (k_X4_isIn l D B L A σ τ z 0 60 ) gX4_walk_X4_isIn rfl hdS_X4_isIn ⟨Nat.le_of_ble_eq_true rfl, Nat.le_of_ble_eq_true rfl⟩ rfl hl.1 (Nat.le_of_ble_eq_true rfl) dX4_walk_31) hS (fun v6 H locs q6 hH hS => ?_)
        refine lv_if_ne (tgt := 39) S.1 S.2.1 dX4_walk_34 (by decide) (fun c7 => ?_) (fun c7 => ?_)
        · have j7 := t_neq c7
          refine lv_aload_n S.1 S.2.1 dX4_walk_39 rfl (lv_at hl 0 rfl) ?_
          refine rC_0_1 S hnX4 K hH (mG wd_152) dX4_walk_40 ?_
          refine lv_iload_n S.1 S.2.1 dX4_walk_43 rfl (lv_at hl 1 rfl) ?_
          refine lv_iload_n S.1 S.2.1 dX4_walk_44 rfl (lv_at hl 2 rfl) ?_
          refine lv_iload_n S.1 S.2.1 dX4_walk_45 rfl (lv_at hl 3 rfl) ?_
          refine cW_bv (cW_V (n := 3) (As := [.int a, .int b, .int z]) (rest := []) (k := 9) (i := 0) S K hH (by decide) rfl rfl (k_X1_setWalk l D B L A σ τ a b z (by omega) (by omega) (by omega) hI) gX4_walk_X1_setWalk rfl hdV_X1_setWalk ⟨Nat.le_of_ble_eq_true rfl, Nat.le_of_ble_eq_true rfl⟩ rfl hl.1 (Nat.le_of_ble_eq_true rfl) dX4_walk_46) hS (fun σ8 τ8 H locs q8 hH hS => ?_)
          obtain ⟨hI, hP8, hτ8, q8⟩ := q8
          rw [hτ8] at hH
          have hP := Keep_t hP hP8 (by decide)
          refine lv_iconst (v := 1) S.1 S.2.1 dX4_walk_49 (by decide) ?_
          refine cW_zret S hr hk hH hS (by decide) ?_ dX4_walk_50
          exact ⟨1, rfl, hI, hP, rfl, by exact Or.inl ⟨by decide, by omega, q8⟩⟩
        · have j7 := t_eq c7
          refine lv_iconst (v := 0) S.1 S.2.1 dX4_walk_37 (by decide) ?_
          refine cW_zret S hr hk hH hS (by decide) ?_ dX4_walk_38
          exact ⟨0, rfl, hI, hP, rfl, by exact Or.inr ⟨by decide, by omega, rfl, rfl, rfl⟩⟩
      · have j5 := t_eq c5
        refine lv_iconst (v := 0) S.1 S.2.1 dX4_walk_25 (by decide) ?_
        refine cW_zret S hr hk hH hS (by decide) ?_ dX4_walk_26
        exact ⟨0, rfl, hI, hP, rfl, by exact Or.inr ⟨by decide, by omega, rfl, rfl, rfl⟩⟩
set_option maxHeartbeats 4000000 in
set_option maxRecDepth 100000 in
theorem k_X4_errand (l : Launch) (D : va_G) (B : Nat → ClassId) (L : QL) (A : Nat → Prop) (σ : QS) (τ : Int64) (a : Int32) (b : Int32) (z : Int32)  (hI : InvC σ) : cW cntC gC l D B L A yX4_errand wsX4_errand 2 43 [.ref (L 0 0), .int a, .int b, .int z] σ τ (pI (fun x σ' τ' => InvC σ' ∧ Keep [15, 12, 13, 16, 17] σ σ' ∧ τ' = τ ∧ ((x.toInt = 1 ∧ (1 ≤ a.toInt ∧ a.toInt ≤ 8 ∧ 0 ≤ b.toInt ∧ b.toInt ≤ 60 ∧ 0 ≤ z.toInt ∧ z.toInt ≤ 100) ∧ σ' 15 0 0 = (σ 15 0 0 ||| bI a) ∧ σ' 12 0 = upd (σ 12 0) a.toNatClampNeg b ∧ σ' 13 0 = upd (σ 13 0) a.toNatClampNeg z ∧ σ' 16 0 0 = 0 ∧ σ' 17 0 0 = -1) ∨ (x.toInt = 0 ∧ ¬ (1 ≤ a.toInt ∧ a.toInt ≤ 8 ∧ 0 ≤ b.toInt ∧ b.toInt ≤ 60 ∧ 0 ≤ z.toInt ∧ z.toInt ≤ 100) ∧ σ' 15 = σ 15 ∧ σ' 12 = σ 12 ∧ σ' 13 = σ 13 ∧ σ' 16 = σ 16 ∧ σ' 17 = σ 17)))) := by
  refine cW_of (cc := cX4_errand) (nL := 4) (ret := (some .boolean)) (by decide) rfl (Nat.le_of_ble_eq_true rfl) ?_
  intro p e s m below meth c S hr hk K hH hS ls hl
  have hnX1 : ∀ w ∈ wsX10, w ∈ wsX4_errand := fun w h => mG (tX1 w h)
  have hnX4 : ∀ w ∈ wsX40, w ∈ wsX4_errand := fun w h => mG (tX4 w h)
  have l0 : (0 : Int32).toInt = 0 := by decide
  have l1 : (1 : Int32).toInt = 1 := by decide
  have l8 : (8 : Int32).toInt = 8 := by decide
  have l60 : (60 : Int32).toInt = 60 := by decide
  have l100 : (100 : Int32).toInt = 100 := by decide
  have hP : Keep [15, 12, 13, 16, 17] σ σ := Keep_r
  have hl : lv_has ls 4 [(0, .ref (L 0 0)), (1, .int a), (2, .int b), (3, .int z)] := hl
  refine lv_iload_n S.1 S.2.1 dX4_errand_0 rfl (lv_at hl 1 rfl) ?_
  refine lv_iconst (v := 1) S.1 S.2.1 dX4_errand_1 (by decide) ?_
  refine lv_bipush (v := 8) S.1 S.2.1 dX4_errand_2 (by decide) ?_
  refine cW_bpi (cW_S (n := 3) (As := [.int a, .int 1, .int 8]) (rest := []) S K hH (k_X4_isIn l D B L A σ τ a 1 8 ) gX4_errand_X4_isIn rfl hdS_X4_isIn ⟨Nat.le_of_ble_eq_true rfl, Nat.le_of_ble_eq_true rfl⟩ rfl hl.1 (Nat.le_of_ble_eq_true rfl) dX4_errand_4) hS (fun v1 H locs q1 hH hS => ?_)
  refine lv_if_eq (tgt := 20) S.1 S.2.1 dX4_errand_7 (by decide) (fun c2 => ?_) (fun c2 => ?_)
  · have j2 := t_eq c2
    refine lv_iconst (v := 0) S.1 S.2.1 dX4_errand_20 (by decide) ?_
    refine cW_zret S hr hk hH hS (by decide) ?_ dX4_errand_21
    exact ⟨0, rfl, hI, hP, rfl, by exact Or.inr ⟨by decide, by omega, rfl, rfl, rfl, rfl, rfl⟩⟩
  · have j2 := t_neq c2
    refine lv_iload_n S.1 S.2.1 dX4_errand_10 rfl (lv_at hl 2 rfl) ?_
    refine lv_iconst (v := 0) S.1 S.2.1 dX4_errand_11 (by decide) ?_
    refine lv_bipush (v := 60) S.1 S.2.1 dX4_errand_12 (by decide) ?_
    refine cW_bpi (cW_S (n := 3) (As := [.int b, .int 0, .int 60]) (rest := []) S K hH (k_X4_isIn l D B L A σ τ b 0 60 ) gX4_errand_X4_isIn rfl hdS_X4_isIn ⟨Nat.le_of_ble_eq_true rfl, Nat.le_of_ble_eq_true rfl⟩ rfl hl.1 (Nat.le_of_ble_eq_true rfl) dX4_errand_14) hS (fun v3 H locs q3 hH hS => ?_)
    refine lv_if_ne (tgt := 22) S.1 S.2.1 dX4_errand_17 (by decide) (fun c4 => ?_) (fun c4 => ?_)
    · have j4 := t_neq c4
      refine lv_iload_n S.1 S.2.1 dX4_errand_22 rfl (lv_at hl 3 rfl) ?_
      refine lv_iconst (v := 0) S.1 S.2.1 dX4_errand_23 (by decide) ?_
      refine lv_bipush (v := 100) S.1 S.2.1 dX4_errand_24 (by decide) ?_
      refine cW_bpi (cW_S (n := 3) (As := [.int z, .int 0, .int 100]) (rest := []) S K hH (k_X4_isIn l D B L A σ τ z 0 100 ) gX4_errand_X4_isIn rfl hdS_X4_isIn ⟨Nat.le_of_ble_eq_true rfl, Nat.le_of_ble_eq_true rfl⟩ rfl hl.1 (Nat.le_of_ble_eq_true rfl) dX4_errand_26) hS (fun v5 H locs q5 hH hS => ?_)
      refine lv_if_ne (tgt := 34) S.1 S.2.1 dX4_errand_29 (by decide) (fun c6 => ?_) (fun c6 => ?_)
      · have j6 := t_neq c6
        refine lv_aload_n S.1 S.2.1 dX4_errand_34 rfl (lv_at hl 0 rfl) ?_
        refine rC_0_1 S hnX4 K hH (mG wd_152) dX4_errand_35 ?_
        refine lv_iload_n S.1 S.2.1 dX4_errand_38 rfl (lv_at hl 1 rfl) ?_
        refine lv_iload_n S.1 S.2.1 dX4_errand_39 rfl (lv_at hl 2 rfl) ?_
        refine lv_iload_n S.1 S.2.1 dX4_errand_40 rfl (lv_at hl 3 rfl) ?_
        refine cW_bv (cW_V (n := 3) (As := [.int a, .int b, .int z]) (rest := []) (k := 9) (i := 0) S K hH (by decide) rfl rfl (k_X1_put l D B L A σ τ a b z (by omega) (by omega) (by omega) hI) gX4_errand_X1_put rfl hdV_X1_put ⟨Nat.le_of_ble_eq_true rfl, Nat.le_of_ble_eq_true rfl⟩ rfl hl.1 (Nat.le_of_ble_eq_true rfl) dX4_errand_41) hS (fun σ7 τ7 H locs q7 hH hS => ?_)
        obtain ⟨hI, hP7, hτ7, q7⟩ := q7
        rw [hτ7] at hH
        have hP := Keep_t hP hP7 (by decide)
        refine lv_iconst (v := 1) S.1 S.2.1 dX4_errand_44 (by decide) ?_
        refine cW_zret S hr hk hH hS (by decide) ?_ dX4_errand_45
        exact ⟨1, rfl, hI, hP, rfl, by exact Or.inl ⟨by decide, by omega, q7⟩⟩
      · have j6 := t_eq c6
        refine lv_iconst (v := 0) S.1 S.2.1 dX4_errand_32 (by decide) ?_
        refine cW_zret S hr hk hH hS (by decide) ?_ dX4_errand_33
        exact ⟨0, rfl, hI, hP, rfl, by exact Or.inr ⟨by decide, by omega, rfl, rfl, rfl, rfl, rfl⟩⟩
    · have j4 := t_eq c4
      refine lv_iconst (v := 0) S.1 S.2.1 dX4_errand_20 (by decide) ?_
      refine cW_zret S hr hk hH hS (by decide) ?_ dX4_errand_21
      exact ⟨0, rfl, hI, hP, rfl, by exact Or.inr ⟨by decide, by omega, rfl, rfl, rfl, rfl, rfl⟩⟩
set_option maxHeartbeats 4000000 in
set_option maxRecDepth 100000 in
theorem k_X4_clear (l : Launch) (D : va_G) (B : Nat → ClassId) (L : QL) (A : Nat → Prop) (σ : QS) (τ : Int64)   (hI : InvC σ) : cW cntC gC l D B L A yX4_clear wsX4_clear 2 40 [.ref (L 0 0)] σ τ (pV (fun σ' τ' => InvC σ' ∧ Keep [15, 16, 17] σ σ' ∧ τ' = τ ∧ σ' 15 0 0 = 0 ∧ σ' 16 0 0 = 0 ∧ σ' 17 0 0 = -1)) := by
  refine cW_of (cc := cX4_clear) (nL := 1) (ret := none) (by decide) rfl (Nat.le_of_ble_eq_true rfl) ?_
  intro p e s m below meth c S hr hk K hH hS ls hl
  have hnX1 : ∀ w ∈ wsX10, w ∈ wsX4_clear := fun w h => mG (tX1 w h)
  have hnX4 : ∀ w ∈ wsX40, w ∈ wsX4_clear := fun w h => mG (tX4 w h)
  have hP : Keep [15, 16, 17] σ σ := Keep_r
  have hl : lv_has ls 1 [(0, .ref (L 0 0))] := hl
  refine lv_aload_n S.1 S.2.1 dX4_clear_0 rfl (lv_at hl 0 rfl) ?_
  refine rC_0_1 S hnX4 K hH (mG wd_152) dX4_clear_1 ?_
  refine cW_bv (cW_V (n := 0) (As := []) (rest := []) (k := 9) (i := 0) S K hH (by decide) rfl rfl (k_X1_empty l D B L A σ τ  hI) gX4_clear_X1_empty rfl hdV_X1_empty ⟨Nat.le_of_ble_eq_true rfl, Nat.le_of_ble_eq_true rfl⟩ rfl hl.1 (Nat.le_of_ble_eq_true rfl) dX4_clear_4) hS (fun σ1 τ1 H locs q1 hH hS => ?_)
  obtain ⟨hI, hP1, hτ1, q1⟩ := q1
  rw [hτ1] at hH
  have hP := Keep_t hP hP1 (by decide)
  refine cW_vret S hr hk hH hS ?_ dX4_clear_7
  exact ⟨rfl, hI, hP, rfl, by exact q1⟩
set_option maxHeartbeats 4000000 in
set_option maxRecDepth 100000 in
theorem k_J6_bitCount_0f7a4 (l : Launch) (D : va_G) (B : Nat → ClassId) (L : QL) (A : Nat → Prop) (σ : QS) (τ : Int64) (z : Int32)   : cW cntC gC l D B L A yJ6_bitCount_0f7a4 wsJ6_bitCount_0f7a4 0 0 [.int z] σ τ (pI (fun x σ' τ' => σ' = σ ∧ τ' = τ ∧ x = bcF z)) := by
  refine cW_of (cc := cJ6_bitCount_0f7a4) (nL := 1) (ret := (some .int)) (by decide) rfl (Nat.le_of_ble_eq_true rfl) ?_
  intro p e s m below meth c S hr hk K hH hS ls hl
  have l1 : (1 : Int32).toInt = 1 := by decide
  have l2 : (2 : Int32).toInt = 2 := by decide
  have l4 : (4 : Int32).toInt = 4 := by decide
  have l8 : (8 : Int32).toInt = 8 := by decide
  have l16 : (16 : Int32).toInt = 16 := by decide
  have l63 : (63 : Int32).toInt = 63 := by decide
  have l252645135 : (252645135 : Int32).toInt = 252645135 := by decide
  have l858993459 : (858993459 : Int32).toInt = 858993459 := by decide
  have l1431655765 : (1431655765 : Int32).toInt = 1431655765 := by decide
  have hl : lv_has ls 1 [(0, .int z)] := hl
  refine lv_iload_n S.1 S.2.1 dJ6_bitCount_0f7a4_0 rfl (lv_at hl 0 rfl) ?_
  refine lv_iload_n S.1 S.2.1 dJ6_bitCount_0f7a4_1 rfl (lv_at hl 0 rfl) ?_
  refine lv_iconst (v := 1) S.1 S.2.1 dJ6_bitCount_0f7a4_2 (by decide) ?_
  refine lv_iushr S.1 S.2.1 dJ6_bitCount_0f7a4_3 rfl ?_
  refine lv_topi (fun v1 e1 => ?_)
  refine lv_ldcw (v := 1431655765) S.1 S.2.1 S.2.2.2.1 (S.2.2.2.2 (.constant RJ6 265 (1431655765)) (mG wd_277)) dJ6_bitCount_0f7a4_4 ?_
  refine lv_iand S.1 S.2.1 dJ6_bitCount_0f7a4_7 ?_
  refine lv_topi (fun v2 e2 => ?_)
  have i2 : 0 ≤ v2.toInt ∧ v2.toInt ≤ (1431655765 : Int32).toInt := i_andr e2 (by omega)
  refine lv_isub S.1 S.2.1 dJ6_bitCount_0f7a4_8 ?_
  refine lv_topi (fun v3 e3 => ?_)
  refine lv_istore_n (lv' := [(0, .int v3)]) S.1 S.2.1 dJ6_bitCount_0f7a4_9 rfl hl (by decide) rfl (fun ls hl => ?_)
  refine lv_iload_n S.1 S.2.1 dJ6_bitCount_0f7a4_10 rfl (lv_at hl 0 rfl) ?_
  refine lv_ldcw (v := 858993459) S.1 S.2.1 S.2.2.2.1 (S.2.2.2.2 (.constant RJ6 266 (858993459)) (mG wd_278)) dJ6_bitCount_0f7a4_11 ?_
  refine lv_iand S.1 S.2.1 dJ6_bitCount_0f7a4_14 ?_
  refine lv_topi (fun v4 e4 => ?_)
  have i4 : 0 ≤ v4.toInt ∧ v4.toInt ≤ (858993459 : Int32).toInt := i_andr e4 (by omega)
  refine lv_iload_n S.1 S.2.1 dJ6_bitCount_0f7a4_15 rfl (lv_at hl 0 rfl) ?_
  refine lv_iconst (v := 2) S.1 S.2.1 dJ6_bitCount_0f7a4_16 (by decide) ?_
  refine lv_iushr S.1 S.2.1 dJ6_bitCount_0f7a4_17 rfl ?_
  refine lv_topi (fun v5 e5 => ?_)
  refine lv_ldcw (v := 858993459) S.1 S.2.1 S.2.2.2.1 (S.2.2.2.2 (.constant RJ6 266 (858993459)) (mG wd_278)) dJ6_bitCount_0f7a4_18 ?_
  refine lv_iand S.1 S.2.1 dJ6_bitCount_0f7a4_21 ?_
  refine lv_topi (fun v6 e6 => ?_)
  have i6 : 0 ≤ v6.toInt ∧ v6.toInt ≤ (858993459 : Int32).toInt := i_andr e6 (by omega)
  refine lv_iadd S.1 S.2.1 dJ6_bitCount_0f7a4_22 ?_
  refine lv_topi (fun v7 e7 => ?_)
  have i7 : v7.toInt = v4.toInt + v6.toInt := i_add e7 (by omega) (by omega)
  refine lv_istore_n (lv' := [(0, .int v7)]) S.1 S.2.1 dJ6_bitCount_0f7a4_23 rfl hl (by decide) rfl (fun ls hl => ?_)
  refine lv_iload_n S.1 S.2.1 dJ6_bitCount_0f7a4_24 rfl (lv_at hl 0 rfl) ?_
  refine lv_iload_n S.1 S.2.1 dJ6_bitCount_0f7a4_25 rfl (lv_at hl 0 rfl) ?_
  refine lv_iconst (v := 4) S.1 S.2.1 dJ6_bitCount_0f7a4_26 (by decide) ?_
  refine lv_iushr S.1 S.2.1 dJ6_bitCount_0f7a4_27 rfl ?_
  refine lv_topi (fun v8 e8 => ?_)
  refine lv_iadd S.1 S.2.1 dJ6_bitCount_0f7a4_28 ?_
  refine lv_topi (fun v9 e9 => ?_)
  refine lv_ldcw (v := 252645135) S.1 S.2.1 S.2.2.2.1 (S.2.2.2.2 (.constant RJ6 267 (252645135)) (mG wd_279)) dJ6_bitCount_0f7a4_29 ?_
  refine lv_iand S.1 S.2.1 dJ6_bitCount_0f7a4_32 ?_
  refine lv_topi (fun v10 e10 => ?_)
  have i10 : 0 ≤ v10.toInt ∧ v10.toInt ≤ (252645135 : Int32).toInt := i_andr e10 (by omega)
  refine lv_istore_n (lv' := [(0, .int v10)]) S.1 S.2.1 dJ6_bitCount_0f7a4_33 rfl hl (by decide) rfl (fun ls hl => ?_)
  refine lv_iload_n S.1 S.2.1 dJ6_bitCount_0f7a4_34 rfl (lv_at hl 0 rfl) ?_
  refine lv_iload_n S.1 S.2.1 dJ6_bitCount_0f7a4_35 rfl (lv_at hl 0 rfl) ?_
  refine lv_bipush (v := 8) S.1 S.2.1 dJ6_bitCount_0f7a4_36 (by decide) ?_
  refine lv_iushr S.1 S.2.1 dJ6_bitCount_0f7a4_38 rfl ?_
  refine lv_topi (fun v11 e11 => ?_)
  refine lv_iadd S.1 S.2.1 dJ6_bitCount_0f7a4_39 ?_
  refine lv_topi (fun v12 e12 => ?_)
  refine lv_istore_n (lv' := [(0, .int v12)]) S.1 S.2.1 dJ6_bitCount_0f7a4_40 rfl hl (by decide) rfl (fun ls hl => ?_)
  refine lv_iload_n S.1 S.2.1 dJ6_bitCount_0f7a4_41 rfl (lv_at hl 0 rfl) ?_
  refine lv_iload_n S.1 S.2.1 dJ6_bitCount_0f7a4_42 rfl (lv_at hl 0 rfl) ?_
  refine lv_bipush (v := 16) S.1 S.2.1 dJ6_bitCount_0f7a4_43 (by decide) ?_
  refine lv_iushr S.1 S.2.1 dJ6_bitCount_0f7a4_45 rfl ?_
  refine lv_topi (fun v13 e13 => ?_)
  refine lv_iadd S.1 S.2.1 dJ6_bitCount_0f7a4_46 ?_
  refine lv_topi (fun v14 e14 => ?_)
  refine lv_istore_n (lv' := [(0, .int v14)]) S.1 S.2.1 dJ6_bitCount_0f7a4_47 rfl hl (by decide) rfl (fun ls hl => ?_)
  refine lv_iload_n S.1 S.2.1 dJ6_bitCount_0f7a4_48 rfl (lv_at hl 0 rfl) ?_
  refine lv_bipush (v := 63) S.1 S.2.1 dJ6_bitCount_0f7a4_49 (by decide) ?_
  refine lv_iand S.1 S.2.1 dJ6_bitCount_0f7a4_51 ?_
  refine lv_topi (fun v15 e15 => ?_)
  have i15 : 0 ≤ v15.toInt ∧ v15.toInt ≤ (63 : Int32).toInt := i_andr e15 (by omega)
  refine cW_iret S hr hk hH hS ?_ dJ6_bitCount_0f7a4_52
  exact ⟨v15, rfl, rfl, rfl, by rw [e15, e14, e13, e12, e11, e10, e9, e8, e7, e6, e5, e4, e3, e2, e1]; rfl⟩
set_option maxHeartbeats 4000000 in
set_option maxRecDepth 100000 in
theorem k_X4_best (l : Launch) (D : va_G) (B : Nat → ClassId) (L : QL) (A : Nat → Prop) (σ : QS) (τ : Int64) (a : Int32) (b : Int32)  (hI : InvC σ) (hp1 : ((σ 16 0 0 ≠ 0 → waysOk (wkC (σ 11 0)) (mnC (σ 12 0)) (σ 15 0 0) (σ 14 0) 256) ∧ ((σ 17 0 0).toInt = -1 ∨ chRec (wkC (σ 11 0)) (mnC (σ 12 0)) (mnC (σ 13 0)) (σ 15 0 0) (σ 17 0 0).toInt 256 (σ 18 0 0) (σ 19 0 0).toInt (σ 20 0 0).toInt τ.toInt))) : cW cntC gC l D B L A yX4_best wsX4_best 6 141 [.ref (L 0 0), .int a, .int b] σ τ (pI (fun x σ' τ' => InvC σ' ∧ Keep [14, 16, 17, 18, 19, 20] σ σ' ∧ ((¬ (0 ≤ a.toInt ∧ a.toInt ≤ 500) ∧ x.toInt = -1 ∧ σ' = σ ∧ τ' = τ) ∨ ((0 ≤ a.toInt ∧ a.toInt ≤ 500) ∧ (σ' 16 0 0 ≠ 0 ∧ waysOk (wkC (σ 11 0)) (mnC (σ 12 0)) (σ 15 0 0) (σ' 14 0) 256 ∧ σ' 17 0 0 = a ∧ chRec (wkC (σ 11 0)) (mnC (σ 12 0)) (mnC (σ 13 0)) (σ 15 0 0) a.toInt 256 (σ' 18 0 0) (σ' 19 0 0).toInt (σ' 20 0 0).toInt τ'.toInt) ∧ ((b.toInt = 0 ∧ x.toInt = (σ' 19 0 0).toInt) ∨ (b.toInt = 1 ∧ x.toInt = (σ' 20 0 0).toInt) ∨ (b.toInt = 2 ∧ x = bcF (σ' 18 0 0)) ∨ ((b.toInt < 0 ∨ 2 < b.toInt) ∧ x.toInt = -1)))))) := by
  refine cW_of (cc := cX4_best) (nL := 3) (ret := (some .int)) (by decide) rfl (Nat.le_of_ble_eq_true rfl) ?_
  intro p e s m below meth c S hr hk K hH hS ls hl
  have hnX1 : ∀ w ∈ wsX10, w ∈ wsX4_best := fun w h => mG (tX1 w h)
  have hnX4 : ∀ w ∈ wsX40, w ∈ wsX4_best := fun w h => mG (tX4 w h)
  have lm1 : ((-1) : Int32).toInt = -1 := by decide
  have l0 : (0 : Int32).toInt = 0 := by decide
  have l500 : (500 : Int32).toInt = 500 := by decide
  have hP : Keep [14, 16, 17, 18, 19, 20] σ σ := Keep_r
  have hl : lv_has ls 3 [(0, .ref (L 0 0)), (1, .int a), (2, .int b)] := hl
  refine lv_iload_n S.1 S.2.1 dX4_best_0 rfl (lv_at hl 1 rfl) ?_
  refine lv_iconst (v := 0) S.1 S.2.1 dX4_best_1 (by decide) ?_
  refine lv_sipush (v := 500) S.1 S.2.1 dX4_best_2 (by decide) ?_
  refine cW_bpi (cW_S (n := 3) (As := [.int a, .int 0, .int 500]) (rest := []) S K hH (k_X4_isIn l D B L A σ τ a 0 500 ) gX4_best_X4_isIn rfl hdS_X4_isIn ⟨Nat.le_of_ble_eq_true rfl, Nat.le_of_ble_eq_true rfl⟩ rfl hl.1 (Nat.le_of_ble_eq_true rfl) dX4_best_5) hS (fun v1 H locs q1 hH hS => ?_)
  refine lv_if_ne (tgt := 13) S.1 S.2.1 dX4_best_8 (by decide) (fun c2 => ?_) (fun c2 => ?_)
  · have j2 := t_neq c2
    refine lv_aload_n S.1 S.2.1 dX4_best_13 rfl (lv_at hl 0 rfl) ?_
    refine rC_0_1 S hnX4 K hH (mG wd_152) dX4_best_14 ?_
    refine lv_iload_n S.1 S.2.1 dX4_best_17 rfl (lv_at hl 1 rfl) ?_
    refine cW_bv (cW_V (n := 1) (As := [.int a]) (rest := []) (k := 9) (i := 0) S K hH (by decide) rfl rfl (k_X1_choose l D B L A σ τ a (by omega) hI (by omega)) gX4_best_X1_choose rfl hdV_X1_choose ⟨Nat.le_of_ble_eq_true rfl, Nat.le_of_ble_eq_true rfl⟩ rfl hl.1 (Nat.le_of_ble_eq_true rfl) dX4_best_18) hS (fun σ3 τ3 H locs q3 hH hS => ?_)
    obtain ⟨hI, hP3, q3⟩ := q3
    have hP := Keep_t hP hP3 (by decide)
    refine lv_iload_n S.1 S.2.1 dX4_best_21 rfl (lv_at hl 2 rfl) ?_
    rcases sw_in b 0 2 with c4 | ⟨c4, d4⟩
    · refine lv_tableOut (tgt := 75) S.1 S.2.1 dX4_best_22 c4 (by decide) ?_
      refine lv_iconst (v := (-1)) S.1 S.2.1 dX4_best_75 (by decide) ?_
      refine cW_iret S hr hk hH hS ?_ dX4_best_76
      exact ⟨(-1), rfl, hI, hP, by exact Or.inr ⟨by omega, q3, Or.inr (Or.inr (Or.inr ⟨by omega, by decide⟩))⟩⟩
    · rcases (show b.toInt = 0 ∨ b.toInt = 1 ∨ b.toInt = 2 by omega) with f4 | f4 | f4
      · refine lv_tableIn (off := 26) (tgt := 48) S.1 S.2.1 dX4_best_22 (by omega) (by omega) (by rw [f4]; rfl) (by decide) ?_
        refine lv_aload_n S.1 S.2.1 dX4_best_48 rfl (lv_at hl 0 rfl) ?_
        refine rC_0_1 S hnX4 K hH (mG wd_152) dX4_best_49 ?_
        refine rC_9_8 S hnX1 K hH (mG wd_280) dX4_best_52 ?_
        refine lv_topi (fun v5 e5 => ?_)
        refine cW_iret S hr hk hH hS ?_ dX4_best_55
        exact ⟨v5, rfl, hI, hP, by exact Or.inr ⟨by omega, q3, Or.inl ⟨by omega, by rw [e5]⟩⟩⟩
      · refine lv_tableIn (off := 34) (tgt := 56) S.1 S.2.1 dX4_best_22 (by omega) (by omega) (by rw [f4]; rfl) (by decide) ?_
        refine lv_aload_n S.1 S.2.1 dX4_best_56 rfl (lv_at hl 0 rfl) ?_
        refine rC_0_1 S hnX4 K hH (mG wd_152) dX4_best_57 ?_
        refine rC_9_9 S hnX1 K hH (mG wd_281) dX4_best_60 ?_
        refine lv_topi (fun v6 e6 => ?_)
        refine cW_iret S hr hk hH hS ?_ dX4_best_63
        exact ⟨v6, rfl, hI, hP, by exact Or.inr ⟨by omega, q3, Or.inr (Or.inl ⟨by omega, by rw [e6]⟩)⟩⟩
      · refine lv_tableIn (off := 42) (tgt := 64) S.1 S.2.1 dX4_best_22 (by omega) (by omega) (by rw [f4]; rfl) (by decide) ?_
        refine lv_aload_n S.1 S.2.1 dX4_best_64 rfl (lv_at hl 0 rfl) ?_
        refine rC_0_1 S hnX4 K hH (mG wd_152) dX4_best_65 ?_
        refine rC_9_7 S hnX1 K hH (mG wd_282) dX4_best_68 ?_
        refine lv_topi (fun v7 e7 => ?_)
        refine cW_bpi (cW_S (n := 1) (As := [.int v7]) (rest := []) S K hH (k_J6_bitCount_0f7a4 l D B L A σ3 τ3 v7 ) gX4_best_J6_bitCount_0f7a4 rfl hdS_J6_bitCount_0f7a4 ⟨Nat.le_of_ble_eq_true rfl, Nat.le_of_ble_eq_true rfl⟩ rfl hl.1 (Nat.le_of_ble_eq_true rfl) dX4_best_71) hS (fun v8 H locs q8 hH hS => ?_)
        refine cW_iret S hr hk hH hS ?_ dX4_best_74
        exact ⟨v8, rfl, hI, hP, by exact Or.inr ⟨by omega, q3, Or.inr (Or.inr (Or.inl ⟨by omega, by rw [q8, e7]⟩))⟩⟩
  · have j2 := t_eq c2
    refine lv_iconst (v := (-1)) S.1 S.2.1 dX4_best_11 (by decide) ?_
    refine cW_iret S hr hk hH hS ?_ dX4_best_12
    exact ⟨(-1), rfl, hI, hP, by exact Or.inl ⟨by omega, by decide, rfl, rfl⟩⟩
set_option maxHeartbeats 4000000 in
set_option maxRecDepth 100000 in
theorem k_X4_round (l : Launch) (D : va_G) (B : Nat → ClassId) (L : QL) (A : Nat → Prop) (σ : QS) (τ : Int64) (a : Int32) (b : Int32)  (hI : InvC σ) (hp1 : ((σ 16 0 0 ≠ 0 → waysOk (wkC (σ 11 0)) (mnC (σ 12 0)) (σ 15 0 0) (σ 14 0) 256) ∧ ((σ 17 0 0).toInt = -1 ∨ chRec (wkC (σ 11 0)) (mnC (σ 12 0)) (mnC (σ 13 0)) (σ 15 0 0) (σ 17 0 0).toInt 256 (σ 18 0 0) (σ 19 0 0).toInt (σ 20 0 0).toInt τ.toInt))) : cW cntC gC l D B L A yX4_round wsX4_round 6 141 [.ref (L 0 0), .int a, .int b] σ τ (pI (fun x σ' τ' => InvC σ' ∧ Keep [14, 16, 17, 18, 19, 20] σ σ' ∧ ((¬ ((0 ≤ a.toInt ∧ a.toInt ≤ 500) ∧ (0 ≤ b.toInt ∧ b.toInt ≤ 7)) ∧ x.toInt = -1 ∧ σ' = σ ∧ τ' = τ) ∨ ((0 ≤ a.toInt ∧ a.toInt ≤ 500) ∧ (0 ≤ b.toInt ∧ b.toInt ≤ 7) ∧ (σ' 16 0 0 ≠ 0 ∧ waysOk (wkC (σ 11 0)) (mnC (σ 12 0)) (σ 15 0 0) (σ' 14 0) 256 ∧ σ' 17 0 0 = a ∧ chRec (wkC (σ 11 0)) (mnC (σ 12 0)) (mnC (σ 13 0)) (σ 15 0 0) a.toInt 256 (σ' 18 0 0) (σ' 19 0 0).toInt (σ' 20 0 0).toInt τ'.toInt) ∧ (((digS τ' b).toInt = 0 ∧ x.toInt = -1) ∨ ((digS τ' b).toInt ≠ 0 ∧ x = digS τ' b)))))) := by
  refine cW_of (cc := cX4_round) (nL := 3) (ret := (some .int)) (by decide) rfl (Nat.le_of_ble_eq_true rfl) ?_
  intro p e s m below meth c S hr hk K hH hS ls hl
  have hnX1 : ∀ w ∈ wsX10, w ∈ wsX4_round := fun w h => mG (tX1 w h)
  have hnX4 : ∀ w ∈ wsX40, w ∈ wsX4_round := fun w h => mG (tX4 w h)
  have lm1 : ((-1) : Int32).toInt = -1 := by decide
  have l0 : (0 : Int32).toInt = 0 := by decide
  have l7 : (7 : Int32).toInt = 7 := by decide
  have l500 : (500 : Int32).toInt = 500 := by decide
  have hP : Keep [14, 16, 17, 18, 19, 20] σ σ := Keep_r
  have hl : lv_has ls 3 [(0, .ref (L 0 0)), (1, .int a), (2, .int b)] := hl
  refine lv_iload_n S.1 S.2.1 dX4_round_0 rfl (lv_at hl 1 rfl) ?_
  refine lv_iconst (v := 0) S.1 S.2.1 dX4_round_1 (by decide) ?_
  refine lv_sipush (v := 500) S.1 S.2.1 dX4_round_2 (by decide) ?_
  refine cW_bpi (cW_S (n := 3) (As := [.int a, .int 0, .int 500]) (rest := []) S K hH (k_X4_isIn l D B L A σ τ a 0 500 ) gX4_round_X4_isIn rfl hdS_X4_isIn ⟨Nat.le_of_ble_eq_true rfl, Nat.le_of_ble_eq_true rfl⟩ rfl hl.1 (Nat.le_of_ble_eq_true rfl) dX4_round_5) hS (fun v1 H locs q1 hH hS => ?_)
  refine lv_if_eq (tgt := 21) S.1 S.2.1 dX4_round_8 (by decide) (fun c2 => ?_) (fun c2 => ?_)
  · have j2 := t_eq c2
    refine lv_iconst (v := (-1)) S.1 S.2.1 dX4_round_21 (by decide) ?_
    refine cW_iret S hr hk hH hS ?_ dX4_round_22
    exact ⟨(-1), rfl, hI, hP, by exact Or.inl ⟨by omega, by decide, rfl, rfl⟩⟩
  · have j2 := t_neq c2
    refine lv_iload_n S.1 S.2.1 dX4_round_11 rfl (lv_at hl 2 rfl) ?_
    refine lv_iconst (v := 0) S.1 S.2.1 dX4_round_12 (by decide) ?_
    refine lv_bipush (v := 7) S.1 S.2.1 dX4_round_13 (by decide) ?_
    refine cW_bpi (cW_S (n := 3) (As := [.int b, .int 0, .int 7]) (rest := []) S K hH (k_X4_isIn l D B L A σ τ b 0 7 ) gX4_round_X4_isIn rfl hdS_X4_isIn ⟨Nat.le_of_ble_eq_true rfl, Nat.le_of_ble_eq_true rfl⟩ rfl hl.1 (Nat.le_of_ble_eq_true rfl) dX4_round_15) hS (fun v3 H locs q3 hH hS => ?_)
    refine lv_if_ne (tgt := 23) S.1 S.2.1 dX4_round_18 (by decide) (fun c4 => ?_) (fun c4 => ?_)
    · have j4 := t_neq c4
      refine lv_aload_n S.1 S.2.1 dX4_round_23 rfl (lv_at hl 0 rfl) ?_
      refine rC_0_1 S hnX4 K hH (mG wd_152) dX4_round_24 ?_
      refine lv_iload_n S.1 S.2.1 dX4_round_27 rfl (lv_at hl 1 rfl) ?_
      refine cW_bv (cW_V (n := 1) (As := [.int a]) (rest := []) (k := 9) (i := 0) S K hH (by decide) rfl rfl (k_X1_choose l D B L A σ τ a (by omega) hI (by omega)) gX4_round_X1_choose rfl hdV_X1_choose ⟨Nat.le_of_ble_eq_true rfl, Nat.le_of_ble_eq_true rfl⟩ rfl hl.1 (Nat.le_of_ble_eq_true rfl) dX4_round_28) hS (fun σ5 τ5 H locs q5 hH hS => ?_)
      obtain ⟨hI, hP5, q5⟩ := q5
      have hP := Keep_t hP hP5 (by decide)
      refine lv_aload_n S.1 S.2.1 dX4_round_31 rfl (lv_at hl 0 rfl) ?_
      refine rC_0_1 S hnX4 K hH (mG wd_152) dX4_round_32 ?_
      refine lv_iload_n S.1 S.2.1 dX4_round_35 rfl (lv_at hl 2 rfl) ?_
      refine cW_bpi (cW_V (n := 1) (As := [.int b]) (rest := []) (k := 9) (i := 0) S K hH (by decide) rfl rfl (k_X1_chosenShop l D B L A σ5 τ5 b (by omega)) gX4_round_X1_chosenShop rfl hdV_X1_chosenShop ⟨Nat.le_of_ble_eq_true rfl, Nat.le_of_ble_eq_true rfl⟩ rfl hl.1 (Nat.le_of_ble_eq_true rfl) dX4_round_36) hS (fun v6 H locs q6 hH hS => ?_)
      refine cW_iret S hr hk hH hS ?_ dX4_round_39
      exact ⟨v6, rfl, hI, hP, by exact Or.inr ⟨by omega, by omega, q5, q6⟩⟩
    · have j4 := t_eq c4
      refine lv_iconst (v := (-1)) S.1 S.2.1 dX4_round_21 (by decide) ?_
      refine cW_iret S hr hk hH hS ?_ dX4_round_22
      exact ⟨(-1), rfl, hI, hP, by exact Or.inl ⟨by omega, by decide, rfl, rfl⟩⟩
set_option maxHeartbeats 4000000 in
set_option maxRecDepth 100000 in
theorem k_X4_count (l : Launch) (D : va_G) (B : Nat → ClassId) (L : QL) (A : Nat → Prop) (σ : QS) (τ : Int64) (a : Int32)  (hI : InvC σ) : cW cntC gC l D B L A yX4_count wsX4_count 1 22 [.ref (L 0 0), .int a] σ τ (pI (fun x σ' τ' => σ' = σ ∧ τ' = τ ∧ ((a.toInt = 0 → x = σ 1 0 0) ∧ (a.toInt = 1 → x = σ 3 0 0) ∧ (a.toInt = 2 → x = σ 0 0 0) ∧ (a.toInt = 3 → x = cnB (fun i => decide (pC σ i 7 ≠ -1)) (σ 0 0 0).toNatClampNeg) ∧ (a.toInt = 4 → x = cnB (fun i => decide (pC σ i 3 ≠ -1)) (σ 0 0 0).toNatClampNeg) ∧ (a.toInt = 5 → x = σ 2 0 0) ∧ (a.toInt = 6 → x = smI (eC σ) (σ 3 0 0).toNatClampNeg) ∧ (a.toInt = 7 → x = bcF (σ 15 0 0)) ∧ ((a.toInt < 0 ∨ 7 < a.toInt) → x.toInt = -1)))) := by
  refine cW_of (cc := cX4_count) (nL := 2) (ret := (some .int)) (by decide) rfl (Nat.le_of_ble_eq_true rfl) ?_
  intro p e s m below meth c S hr hk K hH hS ls hl
  have hnX0 : ∀ w ∈ wsX00, w ∈ wsX4_count := fun w h => mG (tX0 w h)
  have hnX1 : ∀ w ∈ wsX10, w ∈ wsX4_count := fun w h => mG (tX1 w h)
  have hnX2 : ∀ w ∈ wsX20, w ∈ wsX4_count := fun w h => mG (tX2 w h)
  have hnX3 : ∀ w ∈ wsX30, w ∈ wsX4_count := fun w h => mG (tX3 w h)
  have hnX4 : ∀ w ∈ wsX40, w ∈ wsX4_count := fun w h => mG (tX4 w h)
  have lm1 : ((-1) : Int32).toInt = -1 := by decide
  have hl : lv_has ls 2 [(0, .ref (L 0 0)), (1, .int a)] := hl
  refine lv_iload_n S.1 S.2.1 dX4_count_0 rfl (lv_at hl 1 rfl) ?_
  rcases sw_in a 0 7 with c1 | ⟨c1, d1⟩
  · refine lv_tableOut (tgt := 100) S.1 S.2.1 dX4_count_1 c1 (by decide) ?_
    refine lv_iconst (v := (-1)) S.1 S.2.1 dX4_count_100 (by decide) ?_
    refine cW_iret S hr hk hH hS ?_ dX4_count_101
    exact ⟨(-1), rfl, rfl, rfl, by refine ⟨fun _ => ?_, fun _ => ?_, fun _ => ?_, fun _ => ?_, fun _ => ?_, fun _ => ?_, fun _ => ?_, fun _ => ?_, fun _ => ?_⟩ <;> first | (exfalso; omega) | exact e9999 | exact e9999 | exact e9999 | exact q9999 | exact q9999 | exact e9999 | exact q9999 | (rw [q9999, e9999]) | decide⟩
  · rcases (show a.toInt = 0 ∨ a.toInt = 1 ∨ a.toInt = 2 ∨ a.toInt = 3 ∨ a.toInt = 4 ∨ a.toInt = 5 ∨ a.toInt = 6 ∨ a.toInt = 7 by omega) with f1 | f1 | f1 | f1 | f1 | f1 | f1 | f1
    · refine lv_tableIn (off := 47) (tgt := 48) S.1 S.2.1 dX4_count_1 (by omega) (by omega) (by rw [f1]; rfl) (by decide) ?_
      refine lv_aload_n S.1 S.2.1 dX4_count_48 rfl (lv_at hl 0 rfl) ?_
      refine rC_0_4 S hnX4 K hH (mG wd_156) dX4_count_49 ?_
      refine lv_topi (fun v2 e2 => ?_)
      have b2 : 0 ≤ v2.toInt ∧ v2.toInt ≤ 5000 := by rw [e2]; exact hI.1 1 0 0
      refine cW_iret S hr hk hH hS ?_ dX4_count_52
      exact ⟨v2, rfl, rfl, rfl, by refine ⟨fun _ => ?_, fun _ => ?_, fun _ => ?_, fun _ => ?_, fun _ => ?_, fun _ => ?_, fun _ => ?_, fun _ => ?_, fun _ => ?_⟩ <;> first | (exfalso; omega) | exact e2 | exact e9999 | exact e9999 | exact q9999 | exact q9999 | exact e9999 | exact q9999 | (rw [q9999, e9999]) | decide⟩
    · refine lv_tableIn (off := 52) (tgt := 53) S.1 S.2.1 dX4_count_1 (by omega) (by omega) (by rw [f1]; rfl) (by decide) ?_
      refine lv_aload_n S.1 S.2.1 dX4_count_53 rfl (lv_at hl 0 rfl) ?_
      refine rC_0_0 S hnX4 K hH (mG wd_149) dX4_count_54 ?_
      refine rC_2_1 S hnX3 K hH (mG wd_166) dX4_count_57 ?_
      refine lv_topi (fun v3 e3 => ?_)
      have b3 : 0 ≤ v3.toInt ∧ v3.toInt ≤ 12 := by rw [e3]; exact hI.1 3 0 0
      refine cW_iret S hr hk hH hS ?_ dX4_count_60
      exact ⟨v3, rfl, rfl, rfl, by refine ⟨fun _ => ?_, fun _ => ?_, fun _ => ?_, fun _ => ?_, fun _ => ?_, fun _ => ?_, fun _ => ?_, fun _ => ?_, fun _ => ?_⟩ <;> first | (exfalso; omega) | exact e2 | exact e3 | exact e9999 | exact q9999 | exact q9999 | exact e9999 | exact q9999 | (rw [q9999, e9999]) | decide⟩
    · refine lv_tableIn (off := 60) (tgt := 61) S.1 S.2.1 dX4_count_1 (by omega) (by omega) (by rw [f1]; rfl) (by decide) ?_
      refine lv_aload_n S.1 S.2.1 dX4_count_61 rfl (lv_at hl 0 rfl) ?_
      refine rC_0_3 S hnX4 K hH (mG wd_155) dX4_count_62 ?_
      refine lv_topi (fun v4 e4 => ?_)
      have b4 : 0 ≤ v4.toInt ∧ v4.toInt ≤ 60 := by rw [e4]; exact hI.1 0 0 0
      refine cW_iret S hr hk hH hS ?_ dX4_count_65
      exact ⟨v4, rfl, rfl, rfl, by refine ⟨fun _ => ?_, fun _ => ?_, fun _ => ?_, fun _ => ?_, fun _ => ?_, fun _ => ?_, fun _ => ?_, fun _ => ?_, fun _ => ?_⟩ <;> first | (exfalso; omega) | exact e2 | exact e3 | exact e4 | exact q9999 | exact q9999 | exact e9999 | exact q9999 | (rw [q9999, e9999]) | decide⟩
    · refine lv_tableIn (off := 65) (tgt := 66) S.1 S.2.1 dX4_count_1 (by omega) (by omega) (by rw [f1]; rfl) (by decide) ?_
      refine lv_aload_n S.1 S.2.1 dX4_count_66 rfl (lv_at hl 0 rfl) ?_
      refine cW_bpi (cW_V (n := 0) (As := []) (rest := []) (k := 0) (i := 0) S K hH (by decide) rfl rfl (k_X4_countCome l D B L A σ τ  hI) gX4_count_X4_countCome rfl hdV_X4_countCome ⟨Nat.le_of_ble_eq_true rfl, Nat.le_of_ble_eq_true rfl⟩ rfl hl.1 (Nat.le_of_ble_eq_true rfl) dX4_count_67) hS (fun v5 H locs q5 hH hS => ?_)
      refine cW_iret S hr hk hH hS ?_ dX4_count_70
      exact ⟨v5, rfl, rfl, rfl, by refine ⟨fun _ => ?_, fun _ => ?_, fun _ => ?_, fun _ => ?_, fun _ => ?_, fun _ => ?_, fun _ => ?_, fun _ => ?_, fun _ => ?_⟩ <;> first | (exfalso; omega) | exact e2 | exact e3 | exact e4 | exact q5 | exact q9999 | exact e9999 | exact q9999 | (rw [q9999, e9999]) | decide⟩
    · refine lv_tableIn (off := 70) (tgt := 71) S.1 S.2.1 dX4_count_1 (by omega) (by omega) (by rw [f1]; rfl) (by decide) ?_
      refine lv_aload_n S.1 S.2.1 dX4_count_71 rfl (lv_at hl 0 rfl) ?_
      refine cW_bpi (cW_V (n := 0) (As := []) (rest := []) (k := 0) (i := 0) S K hH (by decide) rfl rfl (k_X4_countRiding l D B L A σ τ  hI) gX4_count_X4_countRiding rfl hdV_X4_countRiding ⟨Nat.le_of_ble_eq_true rfl, Nat.le_of_ble_eq_true rfl⟩ rfl hl.1 (Nat.le_of_ble_eq_true rfl) dX4_count_72) hS (fun v6 H locs q6 hH hS => ?_)
      refine cW_iret S hr hk hH hS ?_ dX4_count_75
      exact ⟨v6, rfl, rfl, rfl, by refine ⟨fun _ => ?_, fun _ => ?_, fun _ => ?_, fun _ => ?_, fun _ => ?_, fun _ => ?_, fun _ => ?_, fun _ => ?_, fun _ => ?_⟩ <;> first | (exfalso; omega) | exact e2 | exact e3 | exact e4 | exact q5 | exact q6 | exact e9999 | exact q9999 | (rw [q9999, e9999]) | decide⟩
    · refine lv_tableIn (off := 75) (tgt := 76) S.1 S.2.1 dX4_count_1 (by omega) (by omega) (by rw [f1]; rfl) (by decide) ?_
      refine lv_aload_n S.1 S.2.1 dX4_count_76 rfl (lv_at hl 0 rfl) ?_
      refine rC_0_5 S hnX4 K hH (mG wd_157) dX4_count_77 ?_
      refine lv_topi (fun v7 e7 => ?_)
      have b7 : 0 ≤ v7.toInt ∧ v7.toInt ≤ 100 := by rw [e7]; exact hI.1 2 0 0
      refine cW_iret S hr hk hH hS ?_ dX4_count_80
      exact ⟨v7, rfl, rfl, rfl, by refine ⟨fun _ => ?_, fun _ => ?_, fun _ => ?_, fun _ => ?_, fun _ => ?_, fun _ => ?_, fun _ => ?_, fun _ => ?_, fun _ => ?_⟩ <;> first | (exfalso; omega) | exact e2 | exact e3 | exact e4 | exact q5 | exact q6 | exact e7 | exact q9999 | (rw [q9999, e9999]) | decide⟩
    · refine lv_tableIn (off := 80) (tgt := 81) S.1 S.2.1 dX4_count_1 (by omega) (by omega) (by rw [f1]; rfl) (by decide) ?_
      refine lv_aload_n S.1 S.2.1 dX4_count_81 rfl (lv_at hl 0 rfl) ?_
      refine rC_0_0 S hnX4 K hH (mG wd_149) dX4_count_82 ?_
      refine cW_bpi (cW_V (n := 0) (As := []) (rest := []) (k := 2) (i := 0) S K hH (by decide) rfl rfl (k_X3_earnedInAll l D B L A σ τ  hI) gX4_count_X3_earnedInAll rfl hdV_X3_earnedInAll ⟨Nat.le_of_ble_eq_true rfl, Nat.le_of_ble_eq_true rfl⟩ rfl hl.1 (Nat.le_of_ble_eq_true rfl) dX4_count_85) hS (fun v8 H locs q8 hH hS => ?_)
      refine cW_iret S hr hk hH hS ?_ dX4_count_88
      exact ⟨v8, rfl, rfl, rfl, by refine ⟨fun _ => ?_, fun _ => ?_, fun _ => ?_, fun _ => ?_, fun _ => ?_, fun _ => ?_, fun _ => ?_, fun _ => ?_, fun _ => ?_⟩ <;> first | (exfalso; omega) | exact e2 | exact e3 | exact e4 | exact q5 | exact q6 | exact e7 | exact q8 | (rw [q9999, e9999]) | decide⟩
    · refine lv_tableIn (off := 88) (tgt := 89) S.1 S.2.1 dX4_count_1 (by omega) (by omega) (by rw [f1]; rfl) (by decide) ?_
      refine lv_aload_n S.1 S.2.1 dX4_count_89 rfl (lv_at hl 0 rfl) ?_
      refine rC_0_1 S hnX4 K hH (mG wd_152) dX4_count_90 ?_
      refine rC_9_4 S hnX1 K hH (mG wd_292) dX4_count_93 ?_
      refine lv_topi (fun v9 e9 => ?_)
      have b9 : 0 ≤ v9.toInt ∧ v9.toInt ≤ 255 := by rw [e9]; exact hI.1 15 0 0
      refine cW_bpi (cW_S (n := 1) (As := [.int v9]) (rest := []) S K hH (k_J6_bitCount_0f7a4 l D B L A σ τ v9 ) gX4_count_J6_bitCount_0f7a4 rfl hdS_J6_bitCount_0f7a4 ⟨Nat.le_of_ble_eq_true rfl, Nat.le_of_ble_eq_true rfl⟩ rfl hl.1 (Nat.le_of_ble_eq_true rfl) dX4_count_96) hS (fun v10 H locs q10 hH hS => ?_)
      refine cW_iret S hr hk hH hS ?_ dX4_count_99
      exact ⟨v10, rfl, rfl, rfl, by refine ⟨fun _ => ?_, fun _ => ?_, fun _ => ?_, fun _ => ?_, fun _ => ?_, fun _ => ?_, fun _ => ?_, fun _ => ?_, fun _ => ?_⟩ <;> first | (exfalso; omega) | exact e2 | exact e3 | exact e4 | exact q5 | exact q6 | exact e7 | exact q8 | (rw [q10, e9]) | decide⟩
