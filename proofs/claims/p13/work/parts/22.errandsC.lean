set_option maxHeartbeats 4000000 in
set_option maxRecDepth 100000 in
theorem k_X1_bitOf (l : Launch) (D : va_G) (B : Nat → ClassId) (L : QL) (A : Nat → Prop) (σ : QS) (τ : Int64) (shop : Int32)   : cW cntC gC l D B L A yX1_bitOf wsX1_bitOf 0 0 [.int shop] σ τ (pI (fun x σ' τ' => σ' = σ ∧ τ' = τ ∧ x = bI shop)) := by
  refine cW_of (cc := cX1_bitOf) (nL := 1) (ret := (some .int)) (by decide) rfl (Nat.le_of_ble_eq_true rfl) ?_
  intro p e s m below meth c S hr hk K hH hS ls hl
  have l1 : (1 : Int32).toInt = 1 := by decide
  have hl : lv_has ls 1 [(0, .int shop)] := hl
  refine lv_iconst (v := 1) S.1 S.2.1 dX1_bitOf_0 (by decide) ?_
  refine lv_iload_n S.1 S.2.1 dX1_bitOf_1 rfl (lv_at hl 0 rfl) ?_
  refine lv_iconst (v := 1) S.1 S.2.1 dX1_bitOf_2 (by decide) ?_
  refine lv_isub S.1 S.2.1 dX1_bitOf_3 ?_
  refine lv_topi (fun v1 e1 => ?_)
  refine lv_ishl S.1 S.2.1 dX1_bitOf_4 ?_
  refine lv_topi (fun v2 e2 => ?_)
  refine cW_iret S hr hk hH hS ?_ dX1_bitOf_5
  exact ⟨v2, rfl, rfl, rfl, by rw [e2, e1]; rfl⟩
set_option maxHeartbeats 4000000 in
set_option maxRecDepth 100000 in
theorem k_X1_forget (l : Launch) (D : va_G) (B : Nat → ClassId) (L : QL) (A : Nat → Prop) (σ : QS) (τ : Int64)   (hI : InvC σ) : cW cntC gC l D B L A yX1_forget wsX1_forget 0 0 [.ref (L 9 0)] σ τ (pV (fun σ' τ' => InvC σ' ∧ Keep [16, 17] σ σ' ∧ τ' = τ ∧ σ' 16 0 0 = 0 ∧ σ' 17 0 0 = -1)) := by
  refine cW_of (cc := cX1_forget) (nL := 1) (ret := none) (by decide) rfl (Nat.le_of_ble_eq_true rfl) ?_
  intro p e s m below meth c S hr hk K hH hS ls hl
  have hnX1 : ∀ w ∈ wsX10, w ∈ wsX1_forget := fun w h => mG (tX1 w h)
  have lm1 : ((-1) : Int32).toInt = -1 := by decide
  have l0 : (0 : Int32).toInt = 0 := by decide
  have hP : Keep [16, 17] σ σ := Keep_r
  have hl : lv_has ls 1 [(0, .ref (L 9 0))] := hl
  refine lv_aload_n S.1 S.2.1 dX1_forget_0 rfl (lv_at hl 0 rfl) ?_
  refine lv_iconst (v := 0) S.1 S.2.1 dX1_forget_1 (by decide) ?_
  refine pC_9_5 S hnX1 K hH hS (mG wd_26) (by decide) (by decide) dX1_forget_2 (fun H locs hH hS => ?_)
  obtain ⟨σ1, eσ1⟩ : ∃ z_9 : QS, z_9 = rs σ 16 0 (fun _ => 0) := ⟨_, rfl⟩
  rw [← eσ1] at hH
  have hI := InvC_f eσ1 hI (by decide) (any32 _)
  have hP := Keep_w eσ1 hP (by decide)
  refine lv_aload_n S.1 S.2.1 dX1_forget_5 rfl (lv_at hl 0 rfl) ?_
  refine lv_iconst (v := (-1)) S.1 S.2.1 dX1_forget_6 (by decide) ?_
  refine pC_9_6 S hnX1 K hH hS (mG wd_27) dX1_forget_7 (fun H locs hH hS => ?_)
  obtain ⟨σ2, eσ2⟩ : ∃ z_9 : QS, z_9 = rs σ1 17 0 (fun _ => (-1)) := ⟨_, rfl⟩
  rw [← eσ2] at hH
  have hI := InvC_f eσ2 hI (by decide) (any32 _)
  have hP := Keep_w eσ2 hP (by decide)
  refine cW_vret S hr hk hH hS ?_ dX1_forget_10
  exact ⟨rfl, hI, hP, rfl, by exact ⟨by rw [eσ2, rs_v (by decide), eσ1, rs_self], by rw [eσ2, rs_self]⟩⟩
set_option maxHeartbeats 4000000 in
set_option maxRecDepth 100000 in
theorem k_X1_setWalk (l : Launch) (D : va_G) (B : Nat → ClassId) (L : QL) (A : Nat → Prop) (σ : QS) (τ : Int64) (one : Int32) (other : Int32) (z : Int32)  (hp0 : 0 ≤ one.toInt ∧ one.toInt ≤ 8) (hp1 : 0 ≤ other.toInt ∧ other.toInt ≤ 8) (hp2 : 0 ≤ z.toInt ∧ z.toInt ≤ 60) (hI : InvC σ) : cW cntC gC l D B L A yX1_setWalk wsX1_setWalk 1 20 [.ref (L 9 0), .int one, .int other, .int z] σ τ (pV (fun σ' τ' => InvC σ' ∧ Keep [11, 16, 17] σ σ' ∧ τ' = τ ∧ σ' 11 0 = upd (upd (σ 11 0) (9 * one.toNatClampNeg + other.toNatClampNeg) z) (9 * other.toNatClampNeg + one.toNatClampNeg) z ∧ σ' 16 0 0 = 0 ∧ σ' 17 0 0 = -1)) := by
  refine cW_of (cc := cX1_setWalk) (nL := 4) (ret := none) (by decide) rfl (Nat.le_of_ble_eq_true rfl) ?_
  intro p e s m below meth c S hr hk K hH hS ls hl
  have hnX1 : ∀ w ∈ wsX10, w ∈ wsX1_setWalk := fun w h => mG (tX1 w h)
  have l9 : (9 : Int32).toInt = 9 := by decide
  have hP : Keep [11, 16, 17] σ σ := Keep_r
  have hl : lv_has ls 4 [(0, .ref (L 9 0)), (1, .int one), (2, .int other), (3, .int z)] := hl
  refine lv_aload_n S.1 S.2.1 dX1_setWalk_0 rfl (lv_at hl 0 rfl) ?_
  refine rC_9_0 S hnX1 K hH (mG wd_21) dX1_setWalk_1 ?_
  refine lv_iload_n S.1 S.2.1 dX1_setWalk_4 rfl (lv_at hl 1 rfl) ?_
  refine lv_bipush (v := 9) S.1 S.2.1 dX1_setWalk_5 (by decide) ?_
  refine lv_imul S.1 S.2.1 dX1_setWalk_7 ?_
  refine lv_topi (fun v1 e1 => ?_)
  have i1 : v1.toInt = 9 * one.toInt := i_mulcr e1 (by decide) (by omega) (by omega)
  refine lv_iload_n S.1 S.2.1 dX1_setWalk_8 rfl (lv_at hl 2 rfl) ?_
  refine lv_iadd S.1 S.2.1 dX1_setWalk_9 ?_
  refine lv_topi (fun v2 e2 => ?_)
  have i2 : v2.toInt = v1.toInt + other.toInt := i_add e2 (by omega) (by omega)
  refine lv_iload_n S.1 S.2.1 dX1_setWalk_10 rfl (lv_at hl 3 rfl) ?_
  refine sC_10 S K hH hS (vin (by omega) (by omega)) dX1_setWalk_11 (fun H locs hH hS => ?_)
  obtain ⟨σ3, eσ3⟩ : ∃ z_9 : QS, z_9 = rs σ 11 0 (upd (σ 11 0) v2.toNatClampNeg z) := ⟨_, rfl⟩
  rw [← eσ3] at hH
  have hI := InvC_a eσ3 hI (by decide) (show (0 : Int) ≤ z.toInt ∧ z.toInt ≤ 60 by omega)
  have hP := Keep_w eσ3 hP (by decide)
  refine lv_aload_n S.1 S.2.1 dX1_setWalk_12 rfl (lv_at hl 0 rfl) ?_
  refine rC_9_0 S hnX1 K hH (mG wd_21) dX1_setWalk_13 ?_
  refine lv_iload_n S.1 S.2.1 dX1_setWalk_16 rfl (lv_at hl 2 rfl) ?_
  refine lv_bipush (v := 9) S.1 S.2.1 dX1_setWalk_17 (by decide) ?_
  refine lv_imul S.1 S.2.1 dX1_setWalk_19 ?_
  refine lv_topi (fun v4 e4 => ?_)
  have i4 : v4.toInt = 9 * other.toInt := i_mulcr e4 (by decide) (by omega) (by omega)
  refine lv_iload_n S.1 S.2.1 dX1_setWalk_20 rfl (lv_at hl 1 rfl) ?_
  refine lv_iadd S.1 S.2.1 dX1_setWalk_21 ?_
  refine lv_topi (fun v5 e5 => ?_)
  have i5 : v5.toInt = v4.toInt + one.toInt := i_add e5 (by omega) (by omega)
  refine lv_iload_n S.1 S.2.1 dX1_setWalk_22 rfl (lv_at hl 3 rfl) ?_
  refine sC_10 S K hH hS (vin (by omega) (by omega)) dX1_setWalk_23 (fun H locs hH hS => ?_)
  obtain ⟨σ6, eσ6⟩ : ∃ z_9 : QS, z_9 = rs σ3 11 0 (upd (σ3 11 0) v5.toNatClampNeg z) := ⟨_, rfl⟩
  rw [← eσ6] at hH
  have hI := InvC_a eσ6 hI (by decide) (show (0 : Int) ≤ z.toInt ∧ z.toInt ≤ 60 by omega)
  have hP := Keep_w eσ6 hP (by decide)
  refine lv_aload_n S.1 S.2.1 dX1_setWalk_24 rfl (lv_at hl 0 rfl) ?_
  refine cW_bv (cW_V (n := 0) (As := []) (rest := []) (k := 9) (i := 0) S K hH (by decide) rfl rfl (k_X1_forget l D B L A σ6 τ  hI) gX1_setWalk_X1_forget rfl hdV_X1_forget ⟨Nat.le_of_ble_eq_true rfl, Nat.le_of_ble_eq_true rfl⟩ rfl hl.1 (Nat.le_of_ble_eq_true rfl) dX1_setWalk_25) hS (fun σ7 τ7 H locs q7 hH hS => ?_)
  obtain ⟨hI, hP7, hτ7, q7⟩ := q7
  rw [hτ7] at hH
  have hP := Keep_t hP hP7 (by decide)
  refine cW_vret S hr hk hH hS ?_ dX1_setWalk_28
  exact ⟨rfl, hI, hP, rfl, by refine ⟨?_, q7⟩; rw [hP7 11 (by decide), eσ6, rs_self, eσ3, rs_self, ix9 i1 i2 (by omega) (by omega), ix9 i4 i5 (by omega) (by omega)]⟩
set_option maxHeartbeats 4000000 in
set_option maxRecDepth 100000 in
theorem k_X1_put (l : Launch) (D : va_G) (B : Nat → ClassId) (L : QL) (A : Nat → Prop) (σ : QS) (τ : Int64) (shop : Int32) (a : Int32) (b : Int32)  (hp0 : 1 ≤ shop.toInt ∧ shop.toInt ≤ 8) (hp1 : 0 ≤ a.toInt ∧ a.toInt ≤ 60) (hp2 : 0 ≤ b.toInt ∧ b.toInt ≤ 100) (hI : InvC σ) : cW cntC gC l D B L A yX1_put wsX1_put 1 20 [.ref (L 9 0), .int shop, .int a, .int b] σ τ (pV (fun σ' τ' => InvC σ' ∧ Keep [15, 12, 13, 16, 17] σ σ' ∧ τ' = τ ∧ σ' 15 0 0 = (σ 15 0 0 ||| bI shop) ∧ σ' 12 0 = upd (σ 12 0) shop.toNatClampNeg a ∧ σ' 13 0 = upd (σ 13 0) shop.toNatClampNeg b ∧ σ' 16 0 0 = 0 ∧ σ' 17 0 0 = -1)) := by
  refine cW_of (cc := cX1_put) (nL := 4) (ret := none) (by decide) rfl (Nat.le_of_ble_eq_true rfl) ?_
  intro p e s m below meth c S hr hk K hH hS ls hl
  have hnX1 : ∀ w ∈ wsX10, w ∈ wsX1_put := fun w h => mG (tX1 w h)
  have hP : Keep [15, 12, 13, 16, 17] σ σ := Keep_r
  have hl : lv_has ls 4 [(0, .ref (L 9 0)), (1, .int shop), (2, .int a), (3, .int b)] := hl
  refine lv_aload_n S.1 S.2.1 dX1_put_0 rfl (lv_at hl 0 rfl) ?_
  refine lv_dup S.1 S.2.1 dX1_put_1 rfl ?_
  refine rC_9_4 S hnX1 K hH (mG wd_25) dX1_put_2 ?_
  refine lv_topi (fun v1 e1 => ?_)
  have b1 : 0 ≤ v1.toInt ∧ v1.toInt ≤ 255 := by rw [e1]; exact hI.1 15 0 0
  refine lv_iload_n S.1 S.2.1 dX1_put_5 rfl (lv_at hl 1 rfl) ?_
  refine cW_bpi (cW_S (n := 1) (As := [.int shop]) (rest := [.int v1, .ref (L 9 0)]) S K hH (k_X1_bitOf l D B L A σ τ shop ) gX1_put_X1_bitOf rfl hdS_X1_bitOf ⟨Nat.le_of_ble_eq_true rfl, Nat.le_of_ble_eq_true rfl⟩ rfl hl.1 (Nat.le_of_ble_eq_true rfl) dX1_put_6) hS (fun v2 H locs q2 hH hS => ?_)
  refine lv_ior S.1 S.2.1 dX1_put_9 ?_
  refine lv_topi (fun v3 e3 => ?_)
  refine pC_9_4 S hnX1 K hH hS (mG wd_25) dX1_put_10 (fun H locs hH hS => ?_)
  obtain ⟨σ4, eσ4⟩ : ∃ z_9 : QS, z_9 = rs σ 15 0 (fun _ => v3) := ⟨_, rfl⟩
  rw [← eσ4] at hH
  have hI : InvC σ4 := InvC_f eσ4 hI (by decide) (by rw [e3, q2]; exact or_255 (by omega) (by omega) (by omega) (by omega))
  have hP := Keep_w eσ4 hP (by decide)
  refine lv_aload_n S.1 S.2.1 dX1_put_13 rfl (lv_at hl 0 rfl) ?_
  refine rC_9_1 S hnX1 K hH (mG wd_22) dX1_put_14 ?_
  refine lv_iload_n S.1 S.2.1 dX1_put_17 rfl (lv_at hl 1 rfl) ?_
  refine lv_iload_n S.1 S.2.1 dX1_put_18 rfl (lv_at hl 2 rfl) ?_
  refine sC_11 S K hH hS (vin (by omega) (by omega)) dX1_put_19 (fun H locs hH hS => ?_)
  obtain ⟨σ5, eσ5⟩ : ∃ z_9 : QS, z_9 = rs σ4 12 0 (upd (σ4 12 0) shop.toNatClampNeg a) := ⟨_, rfl⟩
  rw [← eσ5] at hH
  have hI := InvC_a eσ5 hI (by decide) (show (0 : Int) ≤ a.toInt ∧ a.toInt ≤ 60 by omega)
  have hP := Keep_w eσ5 hP (by decide)
  refine lv_aload_n S.1 S.2.1 dX1_put_20 rfl (lv_at hl 0 rfl) ?_
  refine rC_9_2 S hnX1 K hH (mG wd_23) dX1_put_21 ?_
  refine lv_iload_n S.1 S.2.1 dX1_put_24 rfl (lv_at hl 1 rfl) ?_
  refine lv_iload_n S.1 S.2.1 dX1_put_25 rfl (lv_at hl 3 rfl) ?_
  refine sC_12 S K hH hS (vin (by omega) (by omega)) dX1_put_26 (fun H locs hH hS => ?_)
  obtain ⟨σ6, eσ6⟩ : ∃ z_9 : QS, z_9 = rs σ5 13 0 (upd (σ5 13 0) shop.toNatClampNeg b) := ⟨_, rfl⟩
  rw [← eσ6] at hH
  have hI := InvC_a eσ6 hI (by decide) (show (0 : Int) ≤ b.toInt ∧ b.toInt ≤ 100 by omega)
  have hP := Keep_w eσ6 hP (by decide)
  refine lv_aload_n S.1 S.2.1 dX1_put_27 rfl (lv_at hl 0 rfl) ?_
  refine cW_bv (cW_V (n := 0) (As := []) (rest := []) (k := 9) (i := 0) S K hH (by decide) rfl rfl (k_X1_forget l D B L A σ6 τ  hI) gX1_put_X1_forget rfl hdV_X1_forget ⟨Nat.le_of_ble_eq_true rfl, Nat.le_of_ble_eq_true rfl⟩ rfl hl.1 (Nat.le_of_ble_eq_true rfl) dX1_put_28) hS (fun σ7 τ7 H locs q7 hH hS => ?_)
  obtain ⟨hI, hP7, hτ7, q7⟩ := q7
  rw [hτ7] at hH
  have hP := Keep_t hP hP7 (by decide)
  refine cW_vret S hr hk hH hS ?_ dX1_put_31
  exact ⟨rfl, hI, hP, rfl, by refine ⟨?_, ?_, ?_, q7⟩; rw [hP7 15 (by decide), eσ6, rs_v (by decide), eσ5, rs_v (by decide), eσ4, rs_self, e3, q2, e1]; rw [hP7 12 (by decide), eσ6, rs_v (by decide), eσ5, rs_self, eσ4, rs_v (by decide)]; rw [hP7 13 (by decide), eσ6, rs_self, eσ5, rs_v (by decide), eσ4, rs_v (by decide)]⟩
set_option maxHeartbeats 4000000 in
set_option maxRecDepth 100000 in
theorem k_X1_empty (l : Launch) (D : va_G) (B : Nat → ClassId) (L : QL) (A : Nat → Prop) (σ : QS) (τ : Int64)   (hI : InvC σ) : cW cntC gC l D B L A yX1_empty wsX1_empty 1 20 [.ref (L 9 0)] σ τ (pV (fun σ' τ' => InvC σ' ∧ Keep [15, 16, 17] σ σ' ∧ τ' = τ ∧ σ' 15 0 0 = 0 ∧ σ' 16 0 0 = 0 ∧ σ' 17 0 0 = -1)) := by
  refine cW_of (cc := cX1_empty) (nL := 1) (ret := none) (by decide) rfl (Nat.le_of_ble_eq_true rfl) ?_
  intro p e s m below meth c S hr hk K hH hS ls hl
  have hnX1 : ∀ w ∈ wsX10, w ∈ wsX1_empty := fun w h => mG (tX1 w h)
  have l0 : (0 : Int32).toInt = 0 := by decide
  have hP : Keep [15, 16, 17] σ σ := Keep_r
  have hl : lv_has ls 1 [(0, .ref (L 9 0))] := hl
  refine lv_aload_n S.1 S.2.1 dX1_empty_0 rfl (lv_at hl 0 rfl) ?_
  refine lv_iconst (v := 0) S.1 S.2.1 dX1_empty_1 (by decide) ?_
  refine pC_9_4 S hnX1 K hH hS (mG wd_25) dX1_empty_2 (fun H locs hH hS => ?_)
  obtain ⟨σ1, eσ1⟩ : ∃ z_9 : QS, z_9 = rs σ 15 0 (fun _ => 0) := ⟨_, rfl⟩
  rw [← eσ1] at hH
  have hI := InvC_f eσ1 hI (by decide) (show (0 : Int) ≤ (0 : Int32).toInt ∧ (0 : Int32).toInt ≤ 255 by omega)
  have hP := Keep_w eσ1 hP (by decide)
  refine lv_aload_n S.1 S.2.1 dX1_empty_5 rfl (lv_at hl 0 rfl) ?_
  refine cW_bv (cW_V (n := 0) (As := []) (rest := []) (k := 9) (i := 0) S K hH (by decide) rfl rfl (k_X1_forget l D B L A σ1 τ  hI) gX1_empty_X1_forget rfl hdV_X1_forget ⟨Nat.le_of_ble_eq_true rfl, Nat.le_of_ble_eq_true rfl⟩ rfl hl.1 (Nat.le_of_ble_eq_true rfl) dX1_empty_6) hS (fun σ2 τ2 H locs q2 hH hS => ?_)
  obtain ⟨hI, hP2, hτ2, q2⟩ := q2
  rw [hτ2] at hH
  have hP := Keep_t hP hP2 (by decide)
  refine cW_vret S hr hk hH hS ?_ dX1_empty_9
  exact ⟨rfl, hI, hP, rfl, by exact ⟨by rw [hP2 15 (by decide), eσ1, rs_self], q2⟩⟩
set_option maxHeartbeats 4000000 in
set_option maxRecDepth 100000 in
theorem k_X1_wayBy (l : Launch) (D : va_G) (B : Nat → ClassId) (L : QL) (A : Nat → Prop) (σ : QS) (τ : Int64) (stand : Int32) (shop : Int32) (set : Int32)  (hp0 : 0 ≤ stand.toInt ∧ stand.toInt ≤ 8) (hp1 : 1 ≤ shop.toInt ∧ shop.toInt ≤ 8) (hp2 : 0 ≤ set.toInt ∧ set.toInt ≤ 255) (hI : InvC σ) : cW cntC gC l D B L A yX1_wayBy wsX1_wayBy 1 20 [.ref (L 9 0), .int stand, .int shop, .int set] σ τ (pI (fun x σ' τ' => σ' = σ ∧ τ' = τ ∧ x.toInt = wBy (σ 11 0) (σ 12 0) (σ 14 0) stand.toNatClampNeg shop.toNatClampNeg set ∧ 0 ≤ x.toInt ∧ x.toInt ≤ 1000120)) := by
  refine cW_of (cc := cX1_wayBy) (nL := 5) (ret := (some .int)) (by decide) rfl (Nat.le_of_ble_eq_true rfl) ?_
  intro p e s m below meth c S hr hk K hH hS ls hl
  have hnX1 : ∀ w ∈ wsX10, w ∈ wsX1_wayBy := fun w h => mG (tX1 w h)
  have lm1 : ((-1) : Int32).toInt = -1 := by decide
  have l9 : (9 : Int32).toInt = 9 := by decide
  have hl : lv_has ls 5 [(0, .ref (L 9 0)), (1, .int stand), (2, .int shop), (3, .int set)] := hl
  refine lv_iload_n S.1 S.2.1 dX1_wayBy_0 rfl (lv_at hl 3 rfl) ?_
  refine lv_iload_n S.1 S.2.1 dX1_wayBy_1 rfl (lv_at hl 2 rfl) ?_
  refine cW_bpi (cW_S (n := 1) (As := [.int shop]) (rest := [.int set]) S K hH (k_X1_bitOf l D B L A σ τ shop ) gX1_wayBy_X1_bitOf rfl hdS_X1_bitOf ⟨Nat.le_of_ble_eq_true rfl, Nat.le_of_ble_eq_true rfl⟩ rfl hl.1 (Nat.le_of_ble_eq_true rfl) dX1_wayBy_2) hS (fun v1 H locs q1 hH hS => ?_)
  refine lv_iconst (v := (-1)) S.1 S.2.1 dX1_wayBy_5 (by decide) ?_
  refine lv_ixor S.1 S.2.1 dX1_wayBy_6 ?_
  refine lv_topi (fun v2 e2 => ?_)
  refine lv_iand S.1 S.2.1 dX1_wayBy_7 ?_
  refine lv_topi (fun v3 e3 => ?_)
  have i3 : 0 ≤ v3.toInt ∧ v3.toInt ≤ set.toInt := i_andl e3 (by omega)
  refine lv_istore (lv' := [(4, .int v3), (0, .ref (L 9 0)), (1, .int stand), (2, .int shop), (3, .int set)]) S.1 S.2.1 dX1_wayBy_8 hl (by decide) rfl (fun ls hl => ?_)
  have hr9 : v3 = rmS set (nI shop.toNatClampNeg) := by rw [← rm_nI (by omega), e3, e2, q1]; rfl
  refine lv_aload_n S.1 S.2.1 dX1_wayBy_10 rfl (lv_at hl 1 rfl) ?_
  refine rC_9_0 S hnX1 K hH (mG wd_21) dX1_wayBy_11 ?_
  refine lv_iload_n S.1 S.2.1 dX1_wayBy_14 rfl (lv_at hl 2 rfl) ?_
  refine lv_bipush (v := 9) S.1 S.2.1 dX1_wayBy_15 (by decide) ?_
  refine lv_imul S.1 S.2.1 dX1_wayBy_17 ?_
  refine lv_topi (fun v4 e4 => ?_)
  have i4 : v4.toInt = 9 * stand.toInt := i_mulcr e4 (by decide) (by omega) (by omega)
  refine lv_iload_n S.1 S.2.1 dX1_wayBy_18 rfl (lv_at hl 3 rfl) ?_
  refine lv_iadd S.1 S.2.1 dX1_wayBy_19 ?_
  refine lv_topi (fun v5 e5 => ?_)
  have i5 : v5.toInt = v4.toInt + shop.toInt := i_add e5 (by omega) (by omega)
  refine lC_10 S K hH (vin (by omega) (by omega)) dX1_wayBy_20 ?_
  refine lv_topi (fun v6 e6 => ?_)
  have b6 : 0 ≤ v6.toInt ∧ v6.toInt ≤ 60 := by rw [e6]; exact hI.1 11 0 v5.toNatClampNeg
  refine lv_aload_n S.1 S.2.1 dX1_wayBy_21 rfl (lv_at hl 1 rfl) ?_
  refine rC_9_1 S hnX1 K hH (mG wd_22) dX1_wayBy_22 ?_
  refine lv_iload_n S.1 S.2.1 dX1_wayBy_25 rfl (lv_at hl 3 rfl) ?_
  refine lC_11 S K hH (vin (by omega) (by omega)) dX1_wayBy_26 ?_
  refine lv_topi (fun v7 e7 => ?_)
  have b7 : 0 ≤ v7.toInt ∧ v7.toInt ≤ 60 := by rw [e7]; exact hI.1 12 0 shop.toNatClampNeg
  refine lv_iadd S.1 S.2.1 dX1_wayBy_27 ?_
  refine lv_topi (fun v8 e8 => ?_)
  have i8 : v8.toInt = v6.toInt + v7.toInt := i_add e8 (by omega) (by omega)
  refine lv_aload_n S.1 S.2.1 dX1_wayBy_28 rfl (lv_at hl 1 rfl) ?_
  refine rC_9_3 S hnX1 K hH (mG wd_24) dX1_wayBy_29 ?_
  refine lv_iload S.1 S.2.1 dX1_wayBy_32 (lv_at hl 0 rfl) ?_
  refine lv_bipush (v := 9) S.1 S.2.1 dX1_wayBy_34 (by decide) ?_
  refine lv_imul S.1 S.2.1 dX1_wayBy_36 ?_
  refine lv_topi (fun v9 e9 => ?_)
  have i9 : v9.toInt = 9 * v3.toInt := i_mulcr e9 (by decide) (by omega) (by omega)
  refine lv_iload_n S.1 S.2.1 dX1_wayBy_37 rfl (lv_at hl 3 rfl) ?_
  refine lv_iadd S.1 S.2.1 dX1_wayBy_38 ?_
  refine lv_topi (fun v10 e10 => ?_)
  have i10 : v10.toInt = v9.toInt + shop.toInt := i_add e10 (by omega) (by omega)
  refine lC_13 S K hH (vin (by omega) (by omega)) dX1_wayBy_39 ?_
  refine lv_topi (fun v11 e11 => ?_)
  have b11 : 0 ≤ v11.toInt ∧ v11.toInt ≤ 1000000 := by rw [e11]; exact hI.1 14 0 v10.toNatClampNeg
  refine lv_iadd S.1 S.2.1 dX1_wayBy_40 ?_
  refine lv_topi (fun v12 e12 => ?_)
  have i12 : v12.toInt = v8.toInt + v11.toInt := i_add e12 (by omega) (by omega)
  refine cW_iret S hr hk hH hS ?_ dX1_wayBy_41
  exact ⟨v12, rfl, rfl, rfl, by refine ⟨?_, by omega⟩; rw [i12, i8, e6, e7, e11, ix9 i4 i5 (by omega) (by omega), ix9 i9 i10 (by omega) (by omega), hr9]; rfl⟩
set_option maxHeartbeats 4000000 in
set_option maxRecDepth 100000 in
theorem k_X1_wayFrom (l : Launch) (D : va_G) (B : Nat → ClassId) (L : QL) (A : Nat → Prop) (σ : QS) (τ : Int64) (stand : Int32) (set : Int32)  (hp0 : 0 ≤ stand.toInt ∧ stand.toInt ≤ 8) (hp1 : 0 ≤ set.toInt ∧ set.toInt ≤ 255) (hI : InvC σ) : cW cntC gC l D B L A yX1_wayFrom wsX1_wayFrom 2 44 [.ref (L 9 0), .int stand, .int set] σ τ (pI (fun x σ' τ' => σ' = σ ∧ τ' = τ ∧ isFr (σ 11 0) (σ 12 0) (σ 14 0) stand.toNatClampNeg set x.toInt ∧ 0 ≤ x.toInt ∧ x.toInt ≤ 1000000)) := by
  refine cW_of (cc := cX1_wayFrom) (nL := 5) (ret := (some .int)) (by decide) rfl (Nat.le_of_ble_eq_true rfl) ?_
  intro p e s m below meth c S hr hk K hH hS ls hl
  have hnX1 : ∀ w ∈ wsX10, w ∈ wsX1_wayFrom := fun w h => mG (tX1 w h)
  have l0 : (0 : Int32).toInt = 0 := by decide
  have l1 : (1 : Int32).toInt = 1 := by decide
  have l8 : (8 : Int32).toInt = 8 := by decide
  have l9 : (9 : Int32).toInt = 9 := by decide
  have l1000000 : (1000000 : Int32).toInt = 1000000 := by decide
  have hl : lv_has ls 5 [(0, .ref (L 9 0)), (1, .int stand), (2, .int set)] := hl
  refine lv_iload_n S.1 S.2.1 dX1_wayFrom_0 rfl (lv_at hl 2 rfl) ?_
  refine lv_if_ne (tgt := 14) S.1 S.2.1 dX1_wayFrom_1 (by decide) (fun c1 => ?_) (fun c1 => ?_)
  · have j1 := t_neq c1
    refine lv_ldc (v := 1000000) S.1 S.2.1 S.2.2.2.1 (S.2.2.2.2 (.constant RX1 59 (1000000)) (mG wd_38)) dX1_wayFrom_14 ?_
    refine lv_istore_n (lv' := [(3, .int 1000000), (0, .ref (L 9 0)), (1, .int stand), (2, .int set)]) S.1 S.2.1 dX1_wayFrom_16 rfl hl (by decide) rfl (fun ls hl => ?_)
    refine lv_iconst (v := 1) S.1 S.2.1 dX1_wayFrom_17 (by decide) ?_
    refine lv_istore (lv' := [(4, .int 1), (3, .int 1000000), (0, .ref (L 9 0)), (1, .int stand), (2, .int set)]) S.1 S.2.1 dX1_wayFrom_18 hl (by decide) rfl (fun ls hl => ?_)
    have cut_20_2 : ∀ (n : Nat) (x3_2 : Int32) (x4_2 : Int32)  (H : Heap) (locs : List Loc) (ls : Array Slot), (9 - x4_2.toInt).toNat < n → 0 ≤ x3_2.toInt ∧ x3_2.toInt ≤ 1000000 → 1 ≤ x4_2.toInt ∧ x4_2.toInt ≤ 9 → (∀ s : Nat, 1 ≤ s → (s : Int) < x4_2.toInt → hasS set s → x3_2.toInt ≤ wBy (σ 11 0) (σ 12 0) (σ 14 0) stand.toNatClampNeg s set) → (wfE set x4_2.toInt x3_2.toInt 1000000 (fun s => wBy (σ 11 0) (σ 12 0) (σ 14 0) stand.toNatClampNeg s set)) → hW cntC gC D B L σ τ H → va_S A s.heap H locs → lv_has ls 5 [(0, .ref (L 9 0)), (1, .int stand), (2, .int set), (3, .int x3_2), (4, .int x4_2)] → W p l e { frames := 2, cells := 0, slots := 0, locals := 44 } s m [.ref (L 9 0), .int stand, .int set].toArray below meth c H locs 0 0 (MQ below (QcW cntC gC D B L A (pI (fun x σ' τ' => σ' = σ ∧ τ' = τ ∧ isFr (σ 11 0) (σ 12 0) (σ 14 0) stand.toNatClampNeg set x.toInt ∧ 0 ≤ x.toInt ∧ x.toInt ≤ 1000000))) [.ref (L 9 0), .int stand, .int set].toArray s 0 0 A) (F0 m 20 ls []) := by
      intro n
      induction n with
      | zero => intro x3_2 x4_2 H locs ls hm; exact absurd hm (Nat.not_lt_zero _)
      | succ n ih2 =>
        intro x3_2 x4_2 H locs ls hm2 h2_0 h2_1 wa wb hH hS hl
        refine lv_iload S.1 S.2.1 dX1_wayFrom_20 (lv_at hl 4 rfl) ?_
        refine lv_bipush (v := 8) S.1 S.2.1 dX1_wayFrom_22 (by decide) ?_
        refine lv_icmp_gt (tgt := 56) S.1 S.2.1 dX1_wayFrom_24 (by decide) (fun c3 => ?_) (fun c3 => ?_)
        · have j3 := t_lt c3
          refine lv_iload_n S.1 S.2.1 dX1_wayFrom_56 rfl (lv_at hl 3 rfl) ?_
          refine cW_iret S hr hk hH hS ?_ dX1_wayFrom_57
          exact ⟨x3_2, rfl, rfl, rfl, by refine ⟨⟨fun z => absurd z (by assumption), fun _ => ⟨fun s g1 g2 g3 => wa s g1 (by omega) g3, ?_⟩⟩, by omega⟩; exact wfE_end wb (by omega)⟩
        · have j3 := t_nlt c3
          refine lv_iload_n S.1 S.2.1 dX1_wayFrom_27 rfl (lv_at hl 2 rfl) ?_
          refine lv_iload S.1 S.2.1 dX1_wayFrom_28 (lv_at hl 4 rfl) ?_
          refine cW_bpi (cW_S (n := 1) (As := [.int x4_2]) (rest := [.int set]) S K hH (k_X1_bitOf l D B L A σ τ x4_2 ) gX1_wayFrom_X1_bitOf rfl hdS_X1_bitOf ⟨Nat.le_of_ble_eq_true rfl, Nat.le_of_ble_eq_true rfl⟩ rfl hl.1 (Nat.le_of_ble_eq_true rfl) dX1_wayFrom_30) hS (fun v4 H locs q4 hH hS => ?_)
          refine lv_iand S.1 S.2.1 dX1_wayFrom_33 ?_
          refine lv_topi (fun v5 e5 => ?_)
          have i5 : 0 ≤ v5.toInt ∧ v5.toInt ≤ set.toInt := i_andl e5 (by omega)
          refine lv_if_eq (tgt := 50) S.1 S.2.1 dX1_wayFrom_34 (by decide) (fun c6 => ?_) (fun c6 => ?_)
          · have j6 := t_eq c6
            obtain ⟨v7, e7⟩ : ∃ y_9 : Int32, y_9 = x4_2 + 1 := ⟨_, rfl⟩
            have i7 : v7.toInt = x4_2.toInt + 1 := i_addc e7 (by decide) (by omega) (by omega)
            refine lv_iinc (v := v7) (lv' := [(4, .int v7), (0, .ref (L 9 0)), (1, .int stand), (2, .int set), (3, .int x3_2)]) S.1 S.2.1 dX1_wayFrom_50 hl (k := 4) rfl (by rw [e7]; rfl) (by decide) rfl (fun ls hl => ?_)
            refine lv_goto (tgt := 20) S.1 S.2.1 dX1_wayFrom_53 (by decide) ?_
            exact ih2 x3_2 v7 _ _ ls (by omega) (by omega) (by omega) (by first | exact wf0_min wa (by omega) (by rw [← (q9999).1]; omega) i7 (by omega) | exact wf0_skip wa (fun z => (has_bI (by omega) (by omega)).mpr z (by rw [← q4, ← e5]; assumption)) i7 (by omega)) (by first | exact wf1_min wb hb9 (by show _ ∨ _ = wBy _ _ _ _ _ _; rw [← (q9999).1]; omega) i7 (by omega) | exact wf1_skip wb i7) hH hS (lv_sub hl [1, 2, 3, 4, 0] rfl)
          · have j6 := t_neq c6
            have hb9 : hasS set x4_2.toNatClampNeg := (has_bI (by omega) (by omega)).mp (by rw [← q4, ← e5]; assumption)
            refine lv_iload_n S.1 S.2.1 dX1_wayFrom_37 rfl (lv_at hl 3 rfl) ?_
            refine lv_aload_n S.1 S.2.1 dX1_wayFrom_38 rfl (lv_at hl 0 rfl) ?_
            refine lv_iload_n S.1 S.2.1 dX1_wayFrom_39 rfl (lv_at hl 1 rfl) ?_
            refine lv_iload S.1 S.2.1 dX1_wayFrom_40 (lv_at hl 4 rfl) ?_
            refine lv_iload_n S.1 S.2.1 dX1_wayFrom_42 rfl (lv_at hl 2 rfl) ?_
            refine cW_bpi (cW_V (n := 3) (As := [.int stand, .int x4_2, .int set]) (rest := [.int x3_2]) (k := 9) (i := 0) S K hH (by decide) rfl rfl (k_X1_wayBy l D B L A σ τ stand x4_2 set (by omega) (by omega) (by omega) hI) gX1_wayFrom_X1_wayBy rfl hdV_X1_wayBy ⟨Nat.le_of_ble_eq_true rfl, Nat.le_of_ble_eq_true rfl⟩ rfl hl.1 (Nat.le_of_ble_eq_true rfl) dX1_wayFrom_43) hS (fun v8 H locs q8 hH hS => ?_)
            refine va_mmin S.1 S.2.1 (by rw [S.2.2.1]; exact hl.1.symm) S.2.2.2.1 (S.2.2.2.2 (.methodLink RX1 64 Lib.Math.min.name) (mG wd_39)) (S.2.2.2.2 (.static Lib.Math.min.name) (mG wd_40)) (S.2.2.2.2 (.initialized "java/lang/Math") (mG wd_41)) (S.2.2.2.2 (.code Lib.Math.min.name Lib.Math.min.code 2 (some .int)) (mG wd_644)) (Nat.le_of_ble_eq_true rfl) (Nat.le_of_ble_eq_true rfl) (Nat.zero_le _) (Nat.zero_le _) dX1_wayFrom_46 ?_
            refine lv_topi (fun v9 e9 => ?_)
            have i9 : (v9.toInt = x3_2.toInt ∨ v9.toInt = v8.toInt) ∧ x3_2.toInt ≥ v9.toInt ∧ v8.toInt ≥ v9.toInt := i_mmin e9
            refine lv_istore_n (lv' := [(3, .int v9), (0, .ref (L 9 0)), (1, .int stand), (2, .int set), (4, .int x4_2)]) S.1 S.2.1 dX1_wayFrom_49 rfl hl (by decide) rfl (fun ls hl => ?_)
            obtain ⟨v10, e10⟩ : ∃ y_9 : Int32, y_9 = x4_2 + 1 := ⟨_, rfl⟩
            have i10 : v10.toInt = x4_2.toInt + 1 := i_addc e10 (by decide) (by omega) (by omega)
            refine lv_iinc (v := v10) (lv' := [(4, .int v10), (3, .int v9), (0, .ref (L 9 0)), (1, .int stand), (2, .int set)]) S.1 S.2.1 dX1_wayFrom_50 hl (k := 4) rfl (by rw [e10]; rfl) (by decide) rfl (fun ls hl => ?_)
            refine lv_goto (tgt := 20) S.1 S.2.1 dX1_wayFrom_53 (by decide) ?_
            exact ih2 v9 v10 _ _ ls (by omega) (by omega) (by omega) (by first | exact wf0_min wa (by omega) (by rw [← (q8).1]; omega) i10 (by omega) | exact wf0_skip wa (fun z => (has_bI (by omega) (by omega)).mpr z (by rw [← q4, ← e5]; assumption)) i10 (by omega)) (by first | exact wf1_min wb hb9 (by show _ ∨ _ = wBy _ _ _ _ _ _; rw [← (q8).1]; omega) i10 (by omega) | exact wf1_skip wb i10) hH hS (lv_sub hl [2, 3, 4, 1, 0] rfl)
    exact cut_20_2 _ 1000000 1 _ _ ls (Nat.lt_succ_self _) (by omega) (by omega) (by intro s g1 g2; omega) (by exact Or.inl l1000000) hH hS (lv_sub hl [2, 3, 4, 1, 0] rfl)
  · have j1 := t_eq c1
    refine lv_aload_n S.1 S.2.1 dX1_wayFrom_4 rfl (lv_at hl 0 rfl) ?_
    refine rC_9_0 S hnX1 K hH (mG wd_21) dX1_wayFrom_5 ?_
    refine lv_iload_n S.1 S.2.1 dX1_wayFrom_8 rfl (lv_at hl 1 rfl) ?_
    refine lv_bipush (v := 9) S.1 S.2.1 dX1_wayFrom_9 (by decide) ?_
    refine lv_imul S.1 S.2.1 dX1_wayFrom_11 ?_
    refine lv_topi (fun v11 e11 => ?_)
    have i11 : v11.toInt = 9 * stand.toInt := i_mulcr e11 (by decide) (by omega) (by omega)
    refine lC_10 S K hH (vin (by omega) (by omega)) dX1_wayFrom_12 ?_
    refine lv_topi (fun v12 e12 => ?_)
    have b12 : 0 ≤ v12.toInt ∧ v12.toInt ≤ 60 := by rw [e12]; exact hI.1 11 0 v11.toNatClampNeg
    refine cW_iret S hr hk hH hS ?_ dX1_wayFrom_13
    exact ⟨v12, rfl, rfl, rfl, by refine ⟨⟨fun _ => ?_, fun z => absurd (by assumption) z⟩, by omega⟩; rw [e12, ix9z i11 (by omega)]; rfl⟩
set_option maxHeartbeats 4000000 in
set_option maxRecDepth 100000 in
theorem k_X1_measure (l : Launch) (D : va_G) (B : Nat → ClassId) (L : QL) (A : Nat → Prop) (σ : QS) (τ : Int64)   (hI : InvC σ) : cW cntC gC l D B L A yX1_measure wsX1_measure 3 68 [.ref (L 9 0)] σ τ (pV (fun σ' τ' => InvC σ' ∧ Keep [14, 16] σ σ' ∧ τ' = τ ∧ waysOk (wkC (σ 11 0)) (mnC (σ 12 0)) (σ 15 0 0) (σ' 14 0) 256 ∧ σ' 16 0 0 = 1)) := by
  refine cW_of (cc := cX1_measure) (nL := 3) (ret := none) (by decide) rfl (Nat.le_of_ble_eq_true rfl) ?_
  intro p e s m below meth c S hr hk K hH hS ls hl
  have hnX1 : ∀ w ∈ wsX10, w ∈ wsX1_measure := fun w h => mG (tX1 w h)
  have lm1 : ((-1) : Int32).toInt = -1 := by decide
  have l0 : (0 : Int32).toInt = 0 := by decide
  have l1 : (1 : Int32).toInt = 1 := by decide
  have l8 : (8 : Int32).toInt = 8 := by decide
  have l9 : (9 : Int32).toInt = 9 := by decide
  have l256 : (256 : Int32).toInt = 256 := by decide
  have hP : Keep [14, 16] σ σ := Keep_r
  have hI0 := hI
  have hl : lv_has ls 3 [(0, .ref (L 9 0))] := hl
  refine lv_iconst (v := 0) S.1 S.2.1 dX1_measure_0 (by decide) ?_
  refine lv_istore_n (lv' := [(1, .int 0), (0, .ref (L 9 0))]) S.1 S.2.1 dX1_measure_1 rfl hl (by decide) rfl (fun ls hl => ?_)
  have cut_2_1 : ∀ (n : Nat) (x1_1 : Int32) (σ_1 : QS) (H : Heap) (locs : List Loc) (ls : Array Slot), (256 - x1_1.toInt).toNat < n → 0 ≤ x1_1.toInt ∧ x1_1.toInt ≤ 256 → (waysOk (wkC (σ 11 0)) (mnC (σ 12 0)) (σ 15 0 0) (σ_1 14 0) x1_1.toInt) → InvC σ_1 → Keep [14, 16] σ σ_1 → hW cntC gC D B L σ_1 τ H → va_S A s.heap H locs → lv_has ls 3 [(0, .ref (L 9 0)), (1, .int x1_1)] → W p l e { frames := 3, cells := 0, slots := 0, locals := 68 } s m [.ref (L 9 0)].toArray below meth c H locs 0 0 (MQ below (QcW cntC gC D B L A (pV (fun σ' τ' => InvC σ' ∧ Keep [14, 16] σ σ' ∧ τ' = τ ∧ waysOk (wkC (σ 11 0)) (mnC (σ 12 0)) (σ 15 0 0) (σ' 14 0) 256 ∧ σ' 16 0 0 = 1))) [.ref (L 9 0)].toArray s 0 0 A) (F0 m 2 ls []) := by
    intro n
    induction n with
    | zero => intro x1_1 σ_1 H locs ls hm; exact absurd hm (Nat.not_lt_zero _)
    | succ n ih1 =>
      intro x1_1 σ_1 H locs ls hm1 h1_0 ww hI hP hH hS hl
      refine lv_iload_n S.1 S.2.1 dX1_measure_2 rfl (lv_at hl 1 rfl) ?_
      refine lv_sipush (v := 256) S.1 S.2.1 dX1_measure_3 (by decide) ?_
      refine lv_icmp_ge (tgt := 91) S.1 S.2.1 dX1_measure_6 (by decide) (fun c2 => ?_) (fun c2 => ?_)
      · have j2 := t_le c2
        refine lv_aload_n S.1 S.2.1 dX1_measure_91 rfl (lv_at hl 0 rfl) ?_
        refine lv_iconst (v := 1) S.1 S.2.1 dX1_measure_92 (by decide) ?_
        refine pC_9_5 S hnX1 K hH hS (mG wd_26) (by decide) (by decide) dX1_measure_93 (fun H locs hH hS => ?_)
        obtain ⟨σ3, eσ3⟩ : ∃ z_9 : QS, z_9 = rs σ_1 16 0 (fun _ => 1) := ⟨_, rfl⟩
        rw [← eσ3] at hH
        have hI := InvC_f eσ3 hI (by decide) (any32 _)
        have hP := Keep_w eσ3 hP (by decide)
        refine cW_vret S hr hk hH hS ?_ dX1_measure_96
        exact ⟨rfl, hI, hP, rfl, by refine ⟨?_, by rw [eσ3, rs_self]⟩; rw [eσ3, rs_v (by decide)]; have h9 : x1_1.toInt = 256 := (by omega); rw [← h9]; exact ww⟩
      · have j2 := t_nle c2
        refine lv_iload_n S.1 S.2.1 dX1_measure_9 rfl (lv_at hl 1 rfl) ?_
        refine lv_aload_n S.1 S.2.1 dX1_measure_10 rfl (lv_at hl 0 rfl) ?_
        refine rC_9_4 S hnX1 K hH (mG wd_25) dX1_measure_11 ?_
        refine lv_topi (fun v4 e4 => ?_)
        have b4 : 0 ≤ v4.toInt ∧ v4.toInt ≤ 255 := by rw [e4]; exact hI.1 15 0 0
        have fv4 : v4 = σ 15 0 0 := by rw [e4, hP 15 (by decide)]
        refine lv_iconst (v := (-1)) S.1 S.2.1 dX1_measure_14 (by decide) ?_
        refine lv_ixor S.1 S.2.1 dX1_measure_15 ?_
        refine lv_topi (fun v5 e5 => ?_)
        refine lv_iand S.1 S.2.1 dX1_measure_16 ?_
        refine lv_topi (fun v6 e6 => ?_)
        have i6 : 0 ≤ v6.toInt ∧ v6.toInt ≤ x1_1.toInt := i_andl e6 (by omega)
        refine lv_if_eq (tgt := 23) S.1 S.2.1 dX1_measure_17 (by decide) (fun c7 => ?_) (fun c7 => ?_)
        · have j7 := t_eq c7
          have hsub : subS x1_1 (σ 15 0 0) := (has_sub (by omega) (by omega)).mp (by rw [← fv4, ← e5, ← e6]; assumption)
          refine lv_aload_n S.1 S.2.1 dX1_measure_23 rfl (lv_at hl 0 rfl) ?_
          refine rC_9_3 S hnX1 K hH (mG wd_24) dX1_measure_24 ?_
          refine lv_iload_n S.1 S.2.1 dX1_measure_27 rfl (lv_at hl 1 rfl) ?_
          refine lv_bipush (v := 9) S.1 S.2.1 dX1_measure_28 (by decide) ?_
          refine lv_imul S.1 S.2.1 dX1_measure_30 ?_
          refine lv_topi (fun v8 e8 => ?_)
          have i8 : v8.toInt = 9 * x1_1.toInt := i_mulcr e8 (by decide) (by omega) (by omega)
          refine lv_aload_n S.1 S.2.1 dX1_measure_31 rfl (lv_at hl 0 rfl) ?_
          refine lv_iconst (v := 0) S.1 S.2.1 dX1_measure_32 (by decide) ?_
          refine lv_iload_n S.1 S.2.1 dX1_measure_33 rfl (lv_at hl 1 rfl) ?_
          refine cW_bpi (cW_V (n := 2) (As := [.int 0, .int x1_1]) (rest := [.int v8, .ref (L 13 0)]) (k := 9) (i := 0) S K hH (by decide) rfl rfl (k_X1_wayFrom l D B L A σ_1 τ 0 x1_1 (by omega) (by omega) hI) gX1_measure_X1_wayFrom rfl hdV_X1_wayFrom ⟨Nat.le_of_ble_eq_true rfl, Nat.le_of_ble_eq_true rfl⟩ rfl hl.1 (Nat.le_of_ble_eq_true rfl) dX1_measure_34) hS (fun v9 H locs q9 hH hS => ?_)
          have hw37 : isFr (σ 11 0) (σ 12 0) (σ_1 14 0) 0 x1_1 v9.toInt := by have h9 := (q9).1; rw [hP 11 (by decide), hP 12 (by decide), show (0 : Int32).toNatClampNeg = 0 by decide] at h9; exact h9
          refine sC_13 S K hH hS (vin (by omega) (by omega)) dX1_measure_37 (fun H locs hH hS => ?_)
          obtain ⟨σ10, eσ10⟩ : ∃ z_9 : QS, z_9 = rs σ_1 14 0 (upd (σ_1 14 0) v8.toNatClampNeg v9) := ⟨_, rfl⟩
          rw [← eσ10] at hH
          have hI := InvC_a eσ10 hI (by decide) (show (0 : Int) ≤ v9.toInt ∧ v9.toInt ≤ 1000000 by omega)
          have hP := Keep_w eσ10 hP (by decide)
          have hm9 := ms_0 (g := σ_1 14 0) (g' := σ10 14 0) (x := v9) (fun j => (hI0.1 11 0 j).2) (fun j => (hI0.1 12 0 j).2) (by omega) hsub ww hw37 (by rw [eσ10, rs_self, ix9z i8 (by omega)])
          refine lv_iconst (v := 1) S.1 S.2.1 dX1_measure_38 (by decide) ?_
          refine lv_istore_n (lv' := [(2, .int 1), (0, .ref (L 9 0)), (1, .int x1_1)]) S.1 S.2.1 dX1_measure_39 rfl hl (by decide) rfl (fun ls hl => ?_)
          have cut_40_11 : ∀ (n : Nat) (x2_11 : Int32) (σ_11 : QS) (H : Heap) (locs : List Loc) (ls : Array Slot), (9 - x2_11.toInt).toNat < n → 1 ≤ x2_11.toInt ∧ x2_11.toInt ≤ 9 → (waysOk (wkC (σ 11 0)) (mnC (σ 12 0)) (σ 15 0 0) (σ_11 14 0) x1_1.toInt) → (mIn (wkC (σ 11 0)) (mnC (σ 12 0)) (σ 15 0 0) (σ_11 14 0) x1_1 x2_11.toInt) → InvC σ_11 → Keep [14, 16] σ σ_11 → hW cntC gC D B L σ_11 τ H → va_S A s.heap H locs → lv_has ls 3 [(0, .ref (L 9 0)), (1, .int x1_1), (2, .int x2_11)] → W p l e { frames := 3, cells := 0, slots := 0, locals := 68 } s m [.ref (L 9 0)].toArray below meth c H locs 0 0 (MQ below (QcW cntC gC D B L A (pV (fun σ' τ' => InvC σ' ∧ Keep [14, 16] σ σ' ∧ τ' = τ ∧ waysOk (wkC (σ 11 0)) (mnC (σ 12 0)) (σ 15 0 0) (σ' 14 0) 256 ∧ σ' 16 0 0 = 1))) [.ref (L 9 0)].toArray s 0 0 A) (F0 m 40 ls []) := by
            intro n
            induction n with
            | zero => intro x2_11 σ_11 H locs ls hm; exact absurd hm (Nat.not_lt_zero _)
            | succ n ih11 =>
              intro x2_11 σ_11 H locs ls hm11 h11_0 wi wm hI hP hH hS hl
              refine lv_iload_n S.1 S.2.1 dX1_measure_40 rfl (lv_at hl 2 rfl) ?_
              refine lv_bipush (v := 8) S.1 S.2.1 dX1_measure_41 (by decide) ?_
              refine lv_icmp_gt (tgt := 85) S.1 S.2.1 dX1_measure_43 (by decide) (fun c12 => ?_) (fun c12 => ?_)
              · have j12 := t_lt c12
                obtain ⟨v13, e13⟩ : ∃ y_9 : Int32, y_9 = x1_1 + 1 := ⟨_, rfl⟩
                have i13 : v13.toInt = x1_1.toInt + 1 := i_addc e13 (by decide) (by omega) (by omega)
                refine lv_iinc (v := v13) (lv' := [(1, .int v13), (0, .ref (L 9 0)), (2, .int x2_11)]) S.1 S.2.1 dX1_measure_85 hl (k := 1) rfl (by rw [e13]; rfl) (by decide) rfl (fun ls hl => ?_)
                refine lv_goto (tgt := 2) S.1 S.2.1 dX1_measure_88 (by decide) ?_
                exact ih1 v13 σ_11 _ _ ls (by omega) (by omega) (by rw [i13]; first | exact ms_n ww (fun z => absurd ((has_sub (by omega) (by omega)).mpr z) (by rw [← fv4, ← e5, ← e6]; assumption)) | exact ms_e wi (by have h9 : x2_11.toInt = 9 := (by omega); rw [← h9]; exact wm)) hI hP hH hS (lv_sub hl [1, 0] rfl)
              · have j12 := t_nlt c12
                refine lv_aload_n S.1 S.2.1 dX1_measure_46 rfl (lv_at hl 0 rfl) ?_
                refine rC_9_4 S hnX1 K hH (mG wd_25) dX1_measure_47 ?_
                refine lv_topi (fun v14 e14 => ?_)
                have b14 : 0 ≤ v14.toInt ∧ v14.toInt ≤ 255 := by rw [e14]; exact hI.1 15 0 0
                have fv14 : v14 = σ 15 0 0 := by rw [e14, hP 15 (by decide)]
                refine lv_iload_n S.1 S.2.1 dX1_measure_50 rfl (lv_at hl 1 rfl) ?_
                refine lv_iconst (v := (-1)) S.1 S.2.1 dX1_measure_51 (by decide) ?_
                refine lv_ixor S.1 S.2.1 dX1_measure_52 ?_
                refine lv_topi (fun v15 e15 => ?_)
                refine lv_iand S.1 S.2.1 dX1_measure_53 ?_
                refine lv_topi (fun v16 e16 => ?_)
                have i16 : 0 ≤ v16.toInt ∧ v16.toInt ≤ v14.toInt := i_andl e16 (by omega)
                refine lv_iload_n S.1 S.2.1 dX1_measure_54 rfl (lv_at hl 2 rfl) ?_
                refine cW_bpi (cW_S (n := 1) (As := [.int x2_11]) (rest := [.int v16]) S K hH (k_X1_bitOf l D B L A σ_11 τ x2_11 ) gX1_measure_X1_bitOf rfl hdS_X1_bitOf ⟨Nat.le_of_ble_eq_true rfl, Nat.le_of_ble_eq_true rfl⟩ rfl hl.1 (Nat.le_of_ble_eq_true rfl) dX1_measure_55) hS (fun v17 H locs q17 hH hS => ?_)
                refine lv_iand S.1 S.2.1 dX1_measure_58 ?_
                refine lv_topi (fun v18 e18 => ?_)
                have i18 : 0 ≤ v18.toInt ∧ v18.toInt ≤ v16.toInt := i_andl e18 (by omega)
                refine lv_if_eq (tgt := 79) S.1 S.2.1 dX1_measure_59 (by decide) (fun c19 => ?_) (fun c19 => ?_)
                · have j19 := t_eq c19
                  obtain ⟨v20, e20⟩ : ∃ y_9 : Int32, y_9 = x2_11 + 1 := ⟨_, rfl⟩
                  have i20 : v20.toInt = x2_11.toInt + 1 := i_addc e20 (by decide) (by omega) (by omega)
                  refine lv_iinc (v := v20) (lv' := [(2, .int v20), (0, .ref (L 9 0)), (1, .int x1_1)]) S.1 S.2.1 dX1_measure_79 hl (k := 2) rfl (by rw [e20]; rfl) (by decide) rfl (fun ls hl => ?_)
                  refine lv_goto (tgt := 40) S.1 S.2.1 dX1_measure_82 (by decide) ?_
                  exact ih11 v20 σ_11 _ _ ls (by omega) (by omega) (by first | exact hm9.1 | exact wi) (by first | (rw [i20]; exact hm9.2) | (rw [i20]; refine ms_k wm (by omega) (fun z => (has_diff (by omega) (by omega)).mpr z (by rw [← fv14, ← q17, ← e15, ← e16, ← e18]; assumption)))) hI hP hH hS (lv_sub hl [1, 2, 0] rfl)
                · have j19 := t_neq c19
                  have hd9 := (has_diff (n := x1_1) (m := σ 15 0 0) (s := x2_11) (by omega) (by omega)).mp (by rw [← fv14, ← q17, ← e15, ← e16, ← e18]; assumption)
                  refine lv_aload_n S.1 S.2.1 dX1_measure_62 rfl (lv_at hl 0 rfl) ?_
                  refine rC_9_3 S hnX1 K hH (mG wd_24) dX1_measure_63 ?_
                  refine lv_iload_n S.1 S.2.1 dX1_measure_66 rfl (lv_at hl 1 rfl) ?_
                  refine lv_bipush (v := 9) S.1 S.2.1 dX1_measure_67 (by decide) ?_
                  refine lv_imul S.1 S.2.1 dX1_measure_69 ?_
                  refine lv_topi (fun v21 e21 => ?_)
                  have i21 : v21.toInt = 9 * x1_1.toInt := i_mulcr e21 (by decide) (by omega) (by omega)
                  refine lv_iload_n S.1 S.2.1 dX1_measure_70 rfl (lv_at hl 2 rfl) ?_
                  refine lv_iadd S.1 S.2.1 dX1_measure_71 ?_
                  refine lv_topi (fun v22 e22 => ?_)
                  have i22 : v22.toInt = v21.toInt + x2_11.toInt := i_add e22 (by omega) (by omega)
                  refine lv_aload_n S.1 S.2.1 dX1_measure_72 rfl (lv_at hl 0 rfl) ?_
                  refine lv_iload_n S.1 S.2.1 dX1_measure_73 rfl (lv_at hl 2 rfl) ?_
                  refine lv_iload_n S.1 S.2.1 dX1_measure_74 rfl (lv_at hl 1 rfl) ?_
                  refine cW_bpi (cW_V (n := 2) (As := [.int x2_11, .int x1_1]) (rest := [.int v22, .ref (L 13 0)]) (k := 9) (i := 0) S K hH (by decide) rfl rfl (k_X1_wayFrom l D B L A σ_11 τ x2_11 x1_1 (by omega) (by omega) hI) gX1_measure_X1_wayFrom rfl hdV_X1_wayFrom ⟨Nat.le_of_ble_eq_true rfl, Nat.le_of_ble_eq_true rfl⟩ rfl hl.1 (Nat.le_of_ble_eq_true rfl) dX1_measure_75) hS (fun v23 H locs q23 hH hS => ?_)
                  have hw78 : isFr (σ 11 0) (σ 12 0) (σ_11 14 0) x2_11.toNatClampNeg x1_1 v23.toInt := by have h9 := (q23).1; rw [hP 11 (by decide), hP 12 (by decide)] at h9; exact h9
                  refine sC_13 S K hH hS (vin (by omega) (by omega)) dX1_measure_78 (fun H locs hH hS => ?_)
                  obtain ⟨σ24, eσ24⟩ : ∃ z_9 : QS, z_9 = rs σ_11 14 0 (upd (σ_11 14 0) v22.toNatClampNeg v23) := ⟨_, rfl⟩
                  rw [← eσ24] at hH
                  have hI := InvC_a eσ24 hI (by decide) (show (0 : Int) ≤ v23.toInt ∧ v23.toInt ≤ 1000000 by omega)
                  have hP := Keep_w eσ24 hP (by decide)
                  have hm9 := ms_s (g := σ_11 14 0) (g' := σ24 14 0) (x := v23) (s := x2_11) (fun j => (hI0.1 11 0 j).2) (fun j => (hI0.1 12 0 j).2) (by omega) hsub wi wm (by omega) (by omega) hw78 (by rw [eσ24, rs_self, ix9 i21 i22 (by omega) (by omega)])
                  obtain ⟨v25, e25⟩ : ∃ y_9 : Int32, y_9 = x2_11 + 1 := ⟨_, rfl⟩
                  have i25 : v25.toInt = x2_11.toInt + 1 := i_addc e25 (by decide) (by omega) (by omega)
                  refine lv_iinc (v := v25) (lv' := [(2, .int v25), (0, .ref (L 9 0)), (1, .int x1_1)]) S.1 S.2.1 dX1_measure_79 hl (k := 2) rfl (by rw [e25]; rfl) (by decide) rfl (fun ls hl => ?_)
                  refine lv_goto (tgt := 40) S.1 S.2.1 dX1_measure_82 (by decide) ?_
                  exact ih11 v25 σ24 _ _ ls (by omega) (by omega) (by first | exact hm9.1 | exact wi) (by first | (rw [i25]; exact hm9.2) | (rw [i25]; refine ms_k wm (by omega) (fun z => (has_diff (by omega) (by omega)).mpr z (by rw [← fv14, ← q17, ← e15, ← e16, ← e18]; assumption)))) hI hP hH hS (lv_sub hl [1, 2, 0] rfl)
          exact cut_40_11 _ 1 σ10 _ _ ls (Nat.lt_succ_self _) (by omega) (by exact hm9.1) (by rw [l1]; exact hm9.2) hI hP hH hS (lv_sub hl [1, 2, 0] rfl)
        · have j7 := t_neq c7
          refine lv_goto (tgt := 85) S.1 S.2.1 dX1_measure_20 (by decide) ?_
          obtain ⟨v26, e26⟩ : ∃ y_9 : Int32, y_9 = x1_1 + 1 := ⟨_, rfl⟩
          have i26 : v26.toInt = x1_1.toInt + 1 := i_addc e26 (by decide) (by omega) (by omega)
          refine lv_iinc (v := v26) (lv' := [(1, .int v26), (0, .ref (L 9 0))]) S.1 S.2.1 dX1_measure_85 hl (k := 1) rfl (by rw [e26]; rfl) (by decide) rfl (fun ls hl => ?_)
          refine lv_goto (tgt := 2) S.1 S.2.1 dX1_measure_88 (by decide) ?_
          exact ih1 v26 σ_1 _ _ ls (by omega) (by omega) (by rw [i26]; first | exact ms_n ww (fun z => absurd ((has_sub (by omega) (by omega)).mpr z) (by rw [← fv4, ← e5, ← e6]; assumption)) | exact ms_e wi (by have h9 : zz.toInt = 9 := (by omega); rw [← h9]; exact wm)) hI hP hH hS (lv_sub hl [1, 0] rfl)
  exact cut_2_1 _ 0 σ _ _ ls (Nat.lt_succ_self _) (by omega) (by exact ways_0) hI hP hH hS (lv_sub hl [1, 0] rfl)
set_option maxHeartbeats 4000000 in
set_option maxRecDepth 100000 in
theorem k_X1_take (l : Launch) (D : va_G) (B : Nat → ClassId) (L : QL) (A : Nat → Prop) (σ : QS) (τ : Int64) (a : Int32) (b : Int32) (c9 : Int32) (o : Int64)  (hI : InvC σ) : cW cntC gC l D B L A yX1_take wsX1_take 0 0 [.ref (L 9 0), .int a, .int b, .int c9, .long o] σ τ (pV (fun σ' τ' => InvC σ' ∧ Keep [18, 19, 20] σ σ' ∧ σ' 18 0 0 = a ∧ σ' 19 0 0 = b ∧ σ' 20 0 0 = c9 ∧ τ' = o)) := by
  refine cW_of (cc := cX1_take) (nL := 6) (ret := none) (by decide) rfl (Nat.le_of_ble_eq_true rfl) ?_
  intro p e s m below meth c S hr hk K hH hS ls hl
  have hnX1 : ∀ w ∈ wsX10, w ∈ wsX1_take := fun w h => mG (tX1 w h)
  have hP : Keep [18, 19, 20] σ σ := Keep_r
  have hl : lv_has ls 6 [(0, .ref (L 9 0)), (1, .int a), (2, .int b), (3, .int c9), (4, .long o)] := hl
  refine lv_aload_n S.1 S.2.1 dX1_take_0 rfl (lv_at hl 0 rfl) ?_
  refine lv_iload_n S.1 S.2.1 dX1_take_1 rfl (lv_at hl 1 rfl) ?_
  refine pC_9_7 S hnX1 K hH hS (mG wd_28) dX1_take_2 (fun H locs hH hS => ?_)
  obtain ⟨σ1, eσ1⟩ : ∃ z_9 : QS, z_9 = rs σ 18 0 (fun _ => a) := ⟨_, rfl⟩
  rw [← eσ1] at hH
  have hI := InvC_f eσ1 hI (by decide) (any32 _)
  have hP := Keep_w eσ1 hP (by decide)
  refine lv_aload_n S.1 S.2.1 dX1_take_5 rfl (lv_at hl 0 rfl) ?_
  refine lv_iload_n S.1 S.2.1 dX1_take_6 rfl (lv_at hl 2 rfl) ?_
  refine pC_9_8 S hnX1 K hH hS (mG wd_29) dX1_take_7 (fun H locs hH hS => ?_)
  obtain ⟨σ2, eσ2⟩ : ∃ z_9 : QS, z_9 = rs σ1 19 0 (fun _ => b) := ⟨_, rfl⟩
  rw [← eσ2] at hH
  have hI := InvC_f eσ2 hI (by decide) (any32 _)
  have hP := Keep_w eσ2 hP (by decide)
  refine lv_aload_n S.1 S.2.1 dX1_take_10 rfl (lv_at hl 0 rfl) ?_
  refine lv_iload_n S.1 S.2.1 dX1_take_11 rfl (lv_at hl 3 rfl) ?_
  refine pC_9_9 S hnX1 K hH hS (mG wd_30) dX1_take_12 (fun H locs hH hS => ?_)
  obtain ⟨σ3, eσ3⟩ : ∃ z_9 : QS, z_9 = rs σ2 20 0 (fun _ => c9) := ⟨_, rfl⟩
  rw [← eσ3] at hH
  have hI := InvC_f eσ3 hI (by decide) (any32 _)
  have hP := Keep_w eσ3 hP (by decide)
  refine lv_aload_n S.1 S.2.1 dX1_take_15 rfl (lv_at hl 0 rfl) ?_
  refine lv_lload S.1 S.2.1 dX1_take_16 (lv_at hl 4 rfl) ?_
  refine pC_9_10 S hnX1 K hH hS (mG wd_31) dX1_take_18 (fun H locs hH hS => ?_)
  refine cW_vret S hr hk hH hS ?_ dX1_take_21
  exact ⟨rfl, hI, hP, by exact ⟨by rw [eσ3, rs_v (by decide), eσ2, rs_v (by decide), eσ1, rs_self], by rw [eσ3, rs_v (by decide), eσ2, rs_self], by rw [eσ3, rs_self], rfl⟩⟩
set_option maxHeartbeats 4000000 in
set_option maxRecDepth 100000 in
theorem k_X1_worthOf (l : Launch) (D : va_G) (B : Nat → ClassId) (L : QL) (A : Nat → Prop) (σ : QS) (τ : Int64) (set : Int32)  (hp0 : 0 ≤ set.toInt ∧ set.toInt ≤ 255) (hI : InvC σ) : cW cntC gC l D B L A yX1_worthOf wsX1_worthOf 1 20 [.ref (L 9 0), .int set] σ τ (pI (fun x σ' τ' => σ' = σ ∧ τ' = τ ∧ x.toInt = wsK (mnC (σ 13 0)) set 8 ∧ 0 ≤ x.toInt ∧ x.toInt ≤ 800)) := by
  refine cW_of (cc := cX1_worthOf) (nL := 4) (ret := (some .int)) (by decide) rfl (Nat.le_of_ble_eq_true rfl) ?_
  intro p e s m below meth c S hr hk K hH hS ls hl
  have hnX1 : ∀ w ∈ wsX10, w ∈ wsX1_worthOf := fun w h => mG (tX1 w h)
  have l0 : (0 : Int32).toInt = 0 := by decide
  have l1 : (1 : Int32).toInt = 1 := by decide
  have l8 : (8 : Int32).toInt = 8 := by decide
  have hl : lv_has ls 4 [(0, .ref (L 9 0)), (1, .int set)] := hl
  refine lv_iconst (v := 0) S.1 S.2.1 dX1_worthOf_0 (by decide) ?_
  refine lv_istore_n (lv' := [(2, .int 0), (0, .ref (L 9 0)), (1, .int set)]) S.1 S.2.1 dX1_worthOf_1 rfl hl (by decide) rfl (fun ls hl => ?_)
  refine lv_iconst (v := 1) S.1 S.2.1 dX1_worthOf_2 (by decide) ?_
  refine lv_istore_n (lv' := [(3, .int 1), (2, .int 0), (0, .ref (L 9 0)), (1, .int set)]) S.1 S.2.1 dX1_worthOf_3 rfl hl (by decide) rfl (fun ls hl => ?_)
  have cut_4_1 : ∀ (n : Nat) (x2_1 : Int32) (x3_1 : Int32)  (H : Heap) (locs : List Loc) (ls : Array Slot), (9 - x3_1.toInt).toNat < n → 0 ≤ x2_1.toInt ∧ x2_1.toInt ≤ 800 → 1 ≤ x3_1.toInt ∧ x3_1.toInt ≤ 9 → (x2_1.toInt = wsK (mnC (σ 13 0)) set (x3_1.toNatClampNeg - 1)) → (x2_1.toInt ≤ 100 * (x3_1.toInt - 1)) → hW cntC gC D B L σ τ H → va_S A s.heap H locs → lv_has ls 4 [(0, .ref (L 9 0)), (1, .int set), (2, .int x2_1), (3, .int x3_1)] → W p l e { frames := 1, cells := 0, slots := 0, locals := 20 } s m [.ref (L 9 0), .int set].toArray below meth c H locs 0 0 (MQ below (QcW cntC gC D B L A (pI (fun x σ' τ' => σ' = σ ∧ τ' = τ ∧ x.toInt = wsK (mnC (σ 13 0)) set 8 ∧ 0 ≤ x.toInt ∧ x.toInt ≤ 800))) [.ref (L 9 0), .int set].toArray s 0 0 A) (F0 m 4 ls []) := by
    intro n
    induction n with
    | zero => intro x2_1 x3_1 H locs ls hm; exact absurd hm (Nat.not_lt_zero _)
    | succ n ih1 =>
      intro x2_1 x3_1 H locs ls hm1 h1_0 h1_1 wq wl hH hS hl
      refine lv_iload_n S.1 S.2.1 dX1_worthOf_4 rfl (lv_at hl 3 rfl) ?_
      refine lv_bipush (v := 8) S.1 S.2.1 dX1_worthOf_5 (by decide) ?_
      refine lv_icmp_gt (tgt := 34) S.1 S.2.1 dX1_worthOf_7 (by decide) (fun c2 => ?_) (fun c2 => ?_)
      · have j2 := t_lt c2
        refine lv_iload_n S.1 S.2.1 dX1_worthOf_34 rfl (lv_at hl 2 rfl) ?_
        refine cW_iret S hr hk hH hS ?_ dX1_worthOf_35
        exact ⟨x2_1, rfl, rfl, rfl, by refine ⟨?_, by omega⟩; have h9 : x3_1.toNatClampNeg = 9 := (by have h8 := cl_eq (j := x3_1) (by omega); omega); rw [wq, h9]⟩
      · have j2 := t_nlt c2
        refine lv_iload_n S.1 S.2.1 dX1_worthOf_10 rfl (lv_at hl 1 rfl) ?_
        refine lv_iload_n S.1 S.2.1 dX1_worthOf_11 rfl (lv_at hl 3 rfl) ?_
        refine cW_bpi (cW_S (n := 1) (As := [.int x3_1]) (rest := [.int set]) S K hH (k_X1_bitOf l D B L A σ τ x3_1 ) gX1_worthOf_X1_bitOf rfl hdS_X1_bitOf ⟨Nat.le_of_ble_eq_true rfl, Nat.le_of_ble_eq_true rfl⟩ rfl hl.1 (Nat.le_of_ble_eq_true rfl) dX1_worthOf_12) hS (fun v3 H locs q3 hH hS => ?_)
        refine lv_iand S.1 S.2.1 dX1_worthOf_15 ?_
        refine lv_topi (fun v4 e4 => ?_)
        have i4 : 0 ≤ v4.toInt ∧ v4.toInt ≤ set.toInt := i_andl e4 (by omega)
        refine lv_if_eq (tgt := 28) S.1 S.2.1 dX1_worthOf_16 (by decide) (fun c5 => ?_) (fun c5 => ?_)
        · have j5 := t_eq c5
          obtain ⟨v6, e6⟩ : ∃ y_9 : Int32, y_9 = x3_1 + 1 := ⟨_, rfl⟩
          have i6 : v6.toInt = x3_1.toInt + 1 := i_addc e6 (by decide) (by omega) (by omega)
          refine lv_iinc (v := v6) (lv' := [(3, .int v6), (0, .ref (L 9 0)), (1, .int set), (2, .int x2_1)]) S.1 S.2.1 dX1_worthOf_28 hl (k := 3) rfl (by rw [e6]; rfl) (by decide) rfl (fun ls hl => ?_)
          refine lv_goto (tgt := 4) S.1 S.2.1 dX1_worthOf_31 (by decide) ?_
          exact ih1 x2_1 v6 _ _ ls (by omega) (by omega) (by omega) (by rw [ws_next i6 (by omega) (by omega)]; first | (rw [if_pos (show set.toBitVec.getLsbD ((x3_1).toNatClampNeg - 1) = true from hb9), i9999, wq, e9999]) | (rw [if_neg (show ¬ set.toBitVec.getLsbD ((x3_1).toNatClampNeg - 1) = true from fun z => (has_bI (by omega) (by omega)).mpr z (by rw [← q3, ← e4]; assumption))]; omega)) (by omega) hH hS (lv_sub hl [1, 2, 3, 0] rfl)
        · have j5 := t_neq c5
          have hb9 : hasS set x3_1.toNatClampNeg := (has_bI (by omega) (by omega)).mp (by rw [← q3, ← e4]; assumption)
          refine lv_iload_n S.1 S.2.1 dX1_worthOf_19 rfl (lv_at hl 2 rfl) ?_
          refine lv_aload_n S.1 S.2.1 dX1_worthOf_20 rfl (lv_at hl 0 rfl) ?_
          refine rC_9_2 S hnX1 K hH (mG wd_23) dX1_worthOf_21 ?_
          refine lv_iload_n S.1 S.2.1 dX1_worthOf_24 rfl (lv_at hl 3 rfl) ?_
          refine lC_12 S K hH (vin (by omega) (by omega)) dX1_worthOf_25 ?_
          refine lv_topi (fun v7 e7 => ?_)
          have b7 : 0 ≤ v7.toInt ∧ v7.toInt ≤ 100 := by rw [e7]; exact hI.1 13 0 x3_1.toNatClampNeg
          refine lv_iadd S.1 S.2.1 dX1_worthOf_26 ?_
          refine lv_topi (fun v8 e8 => ?_)
          have i8 : v8.toInt = x2_1.toInt + v7.toInt := i_add e8 (by omega) (by omega)
          refine lv_istore_n (lv' := [(2, .int v8), (0, .ref (L 9 0)), (1, .int set), (3, .int x3_1)]) S.1 S.2.1 dX1_worthOf_27 rfl hl (by decide) rfl (fun ls hl => ?_)
          obtain ⟨v9, e9⟩ : ∃ y_9 : Int32, y_9 = x3_1 + 1 := ⟨_, rfl⟩
          have i9 : v9.toInt = x3_1.toInt + 1 := i_addc e9 (by decide) (by omega) (by omega)
          refine lv_iinc (v := v9) (lv' := [(3, .int v9), (2, .int v8), (0, .ref (L 9 0)), (1, .int set)]) S.1 S.2.1 dX1_worthOf_28 hl (k := 3) rfl (by rw [e9]; rfl) (by decide) rfl (fun ls hl => ?_)
          refine lv_goto (tgt := 4) S.1 S.2.1 dX1_worthOf_31 (by decide) ?_
          exact ih1 v8 v9 _ _ ls (by omega) (by omega) (by omega) (by rw [ws_next i9 (by omega) (by omega)]; first | (rw [if_pos (show set.toBitVec.getLsbD ((x3_1).toNatClampNeg - 1) = true from hb9), i8, wq, e7]) | (rw [if_neg (show ¬ set.toBitVec.getLsbD ((x3_1).toNatClampNeg - 1) = true from fun z => (has_bI (by omega) (by omega)).mpr z (by rw [← q3, ← e4]; assumption))]; omega)) (by omega) hH hS (lv_sub hl [2, 3, 1, 0] rfl)
  exact cut_4_1 _ 0 1 _ _ ls (Nat.lt_succ_self _) (by omega) (by omega) (by rw [show (1 : Int32).toNatClampNeg = 1 by decide]; exact l0) (by omega) hH hS (lv_sub hl [2, 3, 1, 0] rfl)
set_option maxHeartbeats 4000000 in
set_option maxRecDepth 100000 in
theorem k_X1_nextShop (l : Launch) (D : va_G) (B : Nat → ClassId) (L : QL) (A : Nat → Prop) (σ : QS) (τ : Int64) (stand : Int32) (set : Int32)  (hp0 : 0 ≤ stand.toInt ∧ stand.toInt ≤ 8) (hp1 : 0 ≤ set.toInt ∧ set.toInt ≤ 255) (hI : InvC σ) : cW cntC gC l D B L A yX1_nextShop wsX1_nextShop 2 44 [.ref (L 9 0), .int stand, .int set] σ τ (pI (fun x σ' τ' => σ' = σ ∧ τ' = τ ∧ ((x.toInt = 0 ∧ ∀ s : Nat, 1 ≤ s → s ≤ 8 → hasS set s → ¬ wBy (σ 11 0) (σ 12 0) (σ 14 0) stand.toNatClampNeg s set = wyG (σ 14 0) stand.toNatClampNeg set) ∨ ((1 ≤ x.toInt ∧ x.toInt ≤ 8) ∧ hasS set x.toNatClampNeg ∧ wBy (σ 11 0) (σ 12 0) (σ 14 0) stand.toNatClampNeg x.toNatClampNeg set = wyG (σ 14 0) stand.toNatClampNeg set ∧ ∀ s : Nat, 1 ≤ s → (s : Int) < x.toInt → hasS set s → ¬ wBy (σ 11 0) (σ 12 0) (σ 14 0) stand.toNatClampNeg s set = wyG (σ 14 0) stand.toNatClampNeg set)))) := by
  refine cW_of (cc := cX1_nextShop) (nL := 4) (ret := (some .int)) (by decide) rfl (Nat.le_of_ble_eq_true rfl) ?_
  intro p e s m below meth c S hr hk K hH hS ls hl
  have hnX1 : ∀ w ∈ wsX10, w ∈ wsX1_nextShop := fun w h => mG (tX1 w h)
  have l0 : (0 : Int32).toInt = 0 := by decide
  have l1 : (1 : Int32).toInt = 1 := by decide
  have l8 : (8 : Int32).toInt = 8 := by decide
  have l9 : (9 : Int32).toInt = 9 := by decide
  have hl : lv_has ls 4 [(0, .ref (L 9 0)), (1, .int stand), (2, .int set)] := hl
  refine lv_iconst (v := 1) S.1 S.2.1 dX1_nextShop_0 (by decide) ?_
  refine lv_istore_n (lv' := [(3, .int 1), (0, .ref (L 9 0)), (1, .int stand), (2, .int set)]) S.1 S.2.1 dX1_nextShop_1 rfl hl (by decide) rfl (fun ls hl => ?_)
  have cut_2_1 : ∀ (n : Nat) (x3_1 : Int32)  (H : Heap) (locs : List Loc) (ls : Array Slot), (9 - x3_1.toInt).toNat < n → 1 ≤ x3_1.toInt ∧ x3_1.toInt ≤ 9 → (∀ s : Nat, 1 ≤ s → (s : Int) < x3_1.toInt → hasS set s → ¬ wBy (σ 11 0) (σ 12 0) (σ 14 0) stand.toNatClampNeg s set = wyG (σ 14 0) stand.toNatClampNeg set) → hW cntC gC D B L σ τ H → va_S A s.heap H locs → lv_has ls 4 [(0, .ref (L 9 0)), (1, .int stand), (2, .int set), (3, .int x3_1)] → W p l e { frames := 2, cells := 0, slots := 0, locals := 44 } s m [.ref (L 9 0), .int stand, .int set].toArray below meth c H locs 0 0 (MQ below (QcW cntC gC D B L A (pI (fun x σ' τ' => σ' = σ ∧ τ' = τ ∧ ((x.toInt = 0 ∧ ∀ s : Nat, 1 ≤ s → s ≤ 8 → hasS set s → ¬ wBy (σ 11 0) (σ 12 0) (σ 14 0) stand.toNatClampNeg s set = wyG (σ 14 0) stand.toNatClampNeg set) ∨ ((1 ≤ x.toInt ∧ x.toInt ≤ 8) ∧ hasS set x.toNatClampNeg ∧ wBy (σ 11 0) (σ 12 0) (σ 14 0) stand.toNatClampNeg x.toNatClampNeg set = wyG (σ 14 0) stand.toNatClampNeg set ∧ ∀ s : Nat, 1 ≤ s → (s : Int) < x.toInt → hasS set s → ¬ wBy (σ 11 0) (σ 12 0) (σ 14 0) stand.toNatClampNeg s set = wyG (σ 14 0) stand.toNatClampNeg set))))) [.ref (L 9 0), .int stand, .int set].toArray s 0 0 A) (F0 m 2 ls []) := by
    intro n
    induction n with
    | zero => intro x3_1 H locs ls hm; exact absurd hm (Nat.not_lt_zero _)
    | succ n ih1 =>
      intro x3_1 H locs ls hm1 h1_0 wn hH hS hl
      refine lv_iload_n S.1 S.2.1 dX1_nextShop_2 rfl (lv_at hl 3 rfl) ?_
      refine lv_bipush (v := 8) S.1 S.2.1 dX1_nextShop_3 (by decide) ?_
      refine lv_icmp_gt (tgt := 46) S.1 S.2.1 dX1_nextShop_5 (by decide) (fun c2 => ?_) (fun c2 => ?_)
      · have j2 := t_lt c2
        refine lv_iconst (v := 0) S.1 S.2.1 dX1_nextShop_46 (by decide) ?_
        refine cW_iret S hr hk hH hS ?_ dX1_nextShop_47
        exact ⟨0, rfl, rfl, rfl, by exact Or.inl ⟨by decide, fun s g1 g2 g3 => wn s g1 (by omega) g3⟩⟩
      · have j2 := t_nlt c2
        refine lv_iload_n S.1 S.2.1 dX1_nextShop_8 rfl (lv_at hl 2 rfl) ?_
        refine lv_iload_n S.1 S.2.1 dX1_nextShop_9 rfl (lv_at hl 3 rfl) ?_
        refine cW_bpi (cW_S (n := 1) (As := [.int x3_1]) (rest := [.int set]) S K hH (k_X1_bitOf l D B L A σ τ x3_1 ) gX1_nextShop_X1_bitOf rfl hdS_X1_bitOf ⟨Nat.le_of_ble_eq_true rfl, Nat.le_of_ble_eq_true rfl⟩ rfl hl.1 (Nat.le_of_ble_eq_true rfl) dX1_nextShop_10) hS (fun v3 H locs q3 hH hS => ?_)
        refine lv_iand S.1 S.2.1 dX1_nextShop_13 ?_
        refine lv_topi (fun v4 e4 => ?_)
        have i4 : 0 ≤ v4.toInt ∧ v4.toInt ≤ set.toInt := i_andl e4 (by omega)
        refine lv_if_eq (tgt := 40) S.1 S.2.1 dX1_nextShop_14 (by decide) (fun c5 => ?_) (fun c5 => ?_)
        · have j5 := t_eq c5
          obtain ⟨v6, e6⟩ : ∃ y_9 : Int32, y_9 = x3_1 + 1 := ⟨_, rfl⟩
          have i6 : v6.toInt = x3_1.toInt + 1 := i_addc e6 (by decide) (by omega) (by omega)
          refine lv_iinc (v := v6) (lv' := [(3, .int v6), (0, .ref (L 9 0)), (1, .int stand), (2, .int set)]) S.1 S.2.1 dX1_nextShop_40 hl (k := 3) rfl (by rw [e6]; rfl) (by decide) rfl (fun ls hl => ?_)
          refine lv_goto (tgt := 2) S.1 S.2.1 dX1_nextShop_43 (by decide) ?_
          exact ih1 v6 _ _ ls (by omega) (by omega) (by first | exact wfn_skip wn (fun _ z => (by assumption : ¬ v9999 = v9999) (Int32.toInt_inj.mp (by rw [(q9999).1, hy9]; exact z))) i6 (by omega) | exact wfn_skip wn (fun z => ((has_bI (by omega) (by omega)).mpr z (by rw [← q3, ← e4]; assumption)).elim) i6 (by omega)) hH hS (lv_sub hl [1, 2, 3, 0] rfl)
        · have j5 := t_neq c5
          have hb9 : hasS set x3_1.toNatClampNeg := (has_bI (by omega) (by omega)).mp (by rw [← q3, ← e4]; assumption)
          refine lv_aload_n S.1 S.2.1 dX1_nextShop_17 rfl (lv_at hl 0 rfl) ?_
          refine lv_iload_n S.1 S.2.1 dX1_nextShop_18 rfl (lv_at hl 1 rfl) ?_
          refine lv_iload_n S.1 S.2.1 dX1_nextShop_19 rfl (lv_at hl 3 rfl) ?_
          refine lv_iload_n S.1 S.2.1 dX1_nextShop_20 rfl (lv_at hl 2 rfl) ?_
          refine cW_bpi (cW_V (n := 3) (As := [.int stand, .int x3_1, .int set]) (rest := []) (k := 9) (i := 0) S K hH (by decide) rfl rfl (k_X1_wayBy l D B L A σ τ stand x3_1 set (by omega) (by omega) (by omega) hI) gX1_nextShop_X1_wayBy rfl hdV_X1_wayBy ⟨Nat.le_of_ble_eq_true rfl, Nat.le_of_ble_eq_true rfl⟩ rfl hl.1 (Nat.le_of_ble_eq_true rfl) dX1_nextShop_21) hS (fun v7 H locs q7 hH hS => ?_)
          refine lv_aload_n S.1 S.2.1 dX1_nextShop_24 rfl (lv_at hl 0 rfl) ?_
          refine rC_9_3 S hnX1 K hH (mG wd_24) dX1_nextShop_25 ?_
          refine lv_iload_n S.1 S.2.1 dX1_nextShop_28 rfl (lv_at hl 2 rfl) ?_
          refine lv_bipush (v := 9) S.1 S.2.1 dX1_nextShop_29 (by decide) ?_
          refine lv_imul S.1 S.2.1 dX1_nextShop_31 ?_
          refine lv_topi (fun v8 e8 => ?_)
          have i8 : v8.toInt = 9 * set.toInt := i_mulcr e8 (by decide) (by omega) (by omega)
          refine lv_iload_n S.1 S.2.1 dX1_nextShop_32 rfl (lv_at hl 1 rfl) ?_
          refine lv_iadd S.1 S.2.1 dX1_nextShop_33 ?_
          refine lv_topi (fun v9 e9 => ?_)
          have i9 : v9.toInt = v8.toInt + stand.toInt := i_add e9 (by omega) (by omega)
          refine lC_13 S K hH (vin (by omega) (by omega)) dX1_nextShop_34 ?_
          refine lv_topi (fun v10 e10 => ?_)
          have b10 : 0 ≤ v10.toInt ∧ v10.toInt ≤ 1000000 := by rw [e10]; exact hI.1 14 0 v9.toNatClampNeg
          have hy9 : v10.toInt = wyG (σ 14 0) stand.toNatClampNeg set := by rw [e10, ix9 i8 i9 (by omega) (by omega)]; rfl
          refine lv_icmp_ne (tgt := 40) S.1 S.2.1 dX1_nextShop_35 (by decide) (fun c11 => ?_) (fun c11 => ?_)
          · have j11 := t_neq c11
            obtain ⟨v12, e12⟩ : ∃ y_9 : Int32, y_9 = x3_1 + 1 := ⟨_, rfl⟩
            have i12 : v12.toInt = x3_1.toInt + 1 := i_addc e12 (by decide) (by omega) (by omega)
            refine lv_iinc (v := v12) (lv' := [(3, .int v12), (0, .ref (L 9 0)), (1, .int stand), (2, .int set)]) S.1 S.2.1 dX1_nextShop_40 hl (k := 3) rfl (by rw [e12]; rfl) (by decide) rfl (fun ls hl => ?_)
            refine lv_goto (tgt := 2) S.1 S.2.1 dX1_nextShop_43 (by decide) ?_
            exact ih1 v12 _ _ ls (by omega) (by omega) (by first | exact wfn_skip wn (fun _ z => (by assumption : ¬ v7 = v10) (Int32.toInt_inj.mp (by rw [(q7).1, hy9]; exact z))) i12 (by omega) | exact wfn_skip wn (fun z => ((has_bI (by omega) (by omega)).mpr z (by rw [← q3, ← e4]; assumption)).elim) i12 (by omega)) hH hS (lv_sub hl [1, 2, 3, 0] rfl)
          · have j11 := t_eq c11
            refine lv_iload_n S.1 S.2.1 dX1_nextShop_38 rfl (lv_at hl 3 rfl) ?_
            refine cW_iret S hr hk hH hS ?_ dX1_nextShop_39
            exact ⟨x3_1, rfl, rfl, rfl, by exact Or.inr ⟨by omega, hb9, by rw [← (q7).1, ← hy9]; omega, wn⟩⟩
  exact cut_2_1 _ 1 _ _ ls (Nat.lt_succ_self _) (by omega) (by intro s g1 g2; omega) hH hS (lv_sub hl [1, 2, 3, 0] rfl)
set_option maxHeartbeats 4000000 in
set_option maxRecDepth 100000 in
theorem k_X1_orderOf (l : Launch) (D : va_G) (B : Nat → ClassId) (L : QL) (A : Nat → Prop) (σ : QS) (τ : Int64) (set : Int32)  (hp0 : 0 ≤ set.toInt ∧ set.toInt ≤ 255) (hI : InvC σ) (hp2 : waysOk (wkC (σ 11 0)) (mnC (σ 12 0)) (σ 15 0 0) (σ 14 0) 256) (hp3 : subS set (σ 15 0 0)) : cW cntC gC l D B L A yX1_orderOf wsX1_orderOf 3 67 [.ref (L 9 0), .int set] σ τ (pL (fun x σ' τ' => σ' = σ ∧ τ' = τ ∧ isOrd (wkC (σ 11 0)) (mnC (σ 12 0)) (σ 14 0) set x.toInt)) := by
  refine cW_of (cc := cX1_orderOf) (nL := 8) (ret := (some .long)) (by decide) rfl (Nat.le_of_ble_eq_true rfl) ?_
  intro p e s m below meth c S hr hk K hH hS ls hl
  have hnX1 : ∀ w ∈ wsX10, w ∈ wsX1_orderOf := fun w h => mG (tX1 w h)
  have lm1 : ((-1) : Int32).toInt = -1 := by decide
  have l0 : (0 : Int32).toInt = 0 := by decide
  have l1 : (1 : Int32).toInt = 1 := by decide
  have l4 : (4 : Int32).toInt = 4 := by decide
  have l8 : (8 : Int32).toInt = 8 := by decide
  have hl : lv_has ls 8 [(0, .ref (L 9 0)), (1, .int set)] := hl
  refine lv_lconst (v := 0) S.1 S.2.1 dX1_orderOf_0 (by decide) ?_
  refine lv_lstore_n (lv' := [(2, .long 0), (0, .ref (L 9 0)), (1, .int set)]) S.1 S.2.1 dX1_orderOf_1 rfl hl (by decide) rfl (fun ls hl => ?_)
  refine lv_iload_n S.1 S.2.1 dX1_orderOf_2 rfl (lv_at hl 2 rfl) ?_
  refine lv_istore (lv' := [(4, .int set), (2, .long 0), (0, .ref (L 9 0)), (1, .int set)]) S.1 S.2.1 dX1_orderOf_3 hl (by decide) rfl (fun ls hl => ?_)
  refine lv_iconst (v := 0) S.1 S.2.1 dX1_orderOf_5 (by decide) ?_
  refine lv_istore (lv' := [(5, .int 0), (4, .int set), (2, .long 0), (0, .ref (L 9 0)), (1, .int set)]) S.1 S.2.1 dX1_orderOf_6 hl (by decide) rfl (fun ls hl => ?_)
  refine lv_iconst (v := 0) S.1 S.2.1 dX1_orderOf_8 (by decide) ?_
  refine lv_istore (lv' := [(6, .int 0), (5, .int 0), (4, .int set), (2, .long 0), (0, .ref (L 9 0)), (1, .int set)]) S.1 S.2.1 dX1_orderOf_9 hl (by decide) rfl (fun ls hl => ?_)
  have cut_11_1 : ∀ (n : Nat) (x2_1 : Int64) (x4_1 : Int32) (x5_1 : Int32) (x6_1 : Int32)  (H : Heap) (locs : List Loc) (ls : Array Slot), (8 - x6_1.toInt).toNat < n → 0 ≤ x4_1.toInt ∧ x4_1.toInt ≤ 255 → 0 ≤ x5_1.toInt ∧ x5_1.toInt ≤ 8 → 0 ≤ x6_1.toInt ∧ x6_1.toInt ≤ 8 → (ordI (wkC (σ 11 0)) (mnC (σ 12 0)) (σ 15 0 0) (σ 14 0) set x6_1.toNatClampNeg x2_1.toInt x4_1 x5_1.toNatClampNeg) → hW cntC gC D B L σ τ H → va_S A s.heap H locs → lv_has ls 8 [(0, .ref (L 9 0)), (2, .long x2_1), (4, .int x4_1), (5, .int x5_1), (6, .int x6_1)] → W p l e { frames := 3, cells := 0, slots := 0, locals := 67 } s m [.ref (L 9 0), .int set].toArray below meth c H locs 0 0 (MQ below (QcW cntC gC D B L A (pL (fun x σ' τ' => σ' = σ ∧ τ' = τ ∧ isOrd (wkC (σ 11 0)) (mnC (σ 12 0)) (σ 14 0) set x.toInt))) [.ref (L 9 0), .int set].toArray s 0 0 A) (F0 m 11 ls []) := by
    intro n
    induction n with
    | zero => intro x2_1 x4_1 x5_1 x6_1 H locs ls hm; exact absurd hm (Nat.not_lt_zero _)
    | succ n ih1 =>
      intro x2_1 x4_1 x5_1 x6_1 H locs ls hm1 h1_0 h1_1 h1_2 wo hH hS hl
      refine lv_iload S.1 S.2.1 dX1_orderOf_11 (lv_at hl 4 rfl) ?_
      refine lv_bipush (v := 8) S.1 S.2.1 dX1_orderOf_13 (by decide) ?_
      refine lv_icmp_ge (tgt := 63) S.1 S.2.1 dX1_orderOf_15 (by decide) (fun c2 => ?_) (fun c2 => ?_)
      · have j2 := t_le c2
        refine lv_lload_n S.1 S.2.1 dX1_orderOf_63 rfl (lv_at hl 1 rfl) ?_
        refine cW_lret S hr hk hH hS ?_ dX1_orderOf_64
        exact ⟨x2_1, rfl, rfl, rfl, by have h9 : x6_1.toNatClampNeg = 8 := (by have h8 := cl_eq (j := x6_1) (by omega); omega); rw [h9] at wo; exact ordI_8 hp2 wo⟩
      · have j2 := t_nle c2
        refine lv_aload_n S.1 S.2.1 dX1_orderOf_18 rfl (lv_at hl 0 rfl) ?_
        refine lv_iload S.1 S.2.1 dX1_orderOf_19 (lv_at hl 3 rfl) ?_
        refine lv_iload S.1 S.2.1 dX1_orderOf_21 (lv_at hl 2 rfl) ?_
        refine cW_bpi (cW_V (n := 2) (As := [.int x5_1, .int x4_1]) (rest := []) (k := 9) (i := 0) S K hH (by decide) rfl rfl (k_X1_nextShop l D B L A σ τ x5_1 x4_1 (by omega) (by omega) hI) gX1_orderOf_X1_nextShop rfl hdV_X1_nextShop ⟨Nat.le_of_ble_eq_true rfl, Nat.le_of_ble_eq_true rfl⟩ rfl hl.1 (Nat.le_of_ble_eq_true rfl) dX1_orderOf_23) hS (fun v3 H locs q3 hH hS => ?_)
        refine lv_istore (lv' := [(7, .int v3), (0, .ref (L 9 0)), (2, .long x2_1), (4, .int x4_1), (5, .int x5_1), (6, .int x6_1)]) S.1 S.2.1 dX1_orderOf_26 hl (by decide) rfl (fun ls hl => ?_)
        refine lv_lload_n S.1 S.2.1 dX1_orderOf_28 rfl (lv_at hl 2 rfl) ?_
        refine lv_iconst (v := 4) S.1 S.2.1 dX1_orderOf_29 (by decide) ?_
        refine lv_lshl S.1 S.2.1 dX1_orderOf_30 rfl ?_
        refine lv_topl (fun v4 e4 => ?_)
        refine lv_iload S.1 S.2.1 dX1_orderOf_31 (lv_at hl 0 rfl) ?_
        refine lv_i2l S.1 S.2.1 dX1_orderOf_33 rfl ?_
        refine lv_topl (fun v5 e5 => ?_)
        refine lv_lor S.1 S.2.1 dX1_orderOf_34 ?_
        refine lv_topl (fun v6 e6 => ?_)
        refine lv_lstore_n (lv' := [(2, .long v6), (7, .int v3), (0, .ref (L 9 0)), (4, .int x4_1), (5, .int x5_1), (6, .int x6_1)]) S.1 S.2.1 dX1_orderOf_35 rfl hl (by decide) rfl (fun ls hl => ?_)
        have hz9 := od_bound wo (by have h8 := cl_eq (j := x6_1) (by omega); omega)
        have ho9 := od_next e4 e5 e6 hz9.1 hz9.2 (by omega) (by omega)
        refine lv_iload S.1 S.2.1 dX1_orderOf_36 (lv_at hl 1 rfl) ?_
        refine lv_if_eq (tgt := 57) S.1 S.2.1 dX1_orderOf_38 (by decide) (fun c7 => ?_) (fun c7 => ?_)
        · have j7 := t_eq c7
          obtain ⟨v8, e8⟩ : ∃ y_9 : Int32, y_9 = x6_1 + 1 := ⟨_, rfl⟩
          have i8 : v8.toInt = x6_1.toInt + 1 := i_addc e8 (by decide) (by omega) (by omega)
          refine lv_iinc (v := v8) (lv' := [(6, .int v8), (2, .long v6), (7, .int v3), (0, .ref (L 9 0)), (4, .int x4_1), (5, .int x5_1)]) S.1 S.2.1 dX1_orderOf_57 hl (k := 5) rfl (by rw [e8]; rfl) (by decide) rfl (fun ls hl => ?_)
          refine lv_goto (tgt := 11) S.1 S.2.1 dX1_orderOf_60 (by decide) ?_
          exact ih1 v6 x4_1 x5_1 v8 _ _ ls (by omega) (by omega) (by omega) (by omega) (by rw [cl_1 i8 (by omega), ho9]; first | (rw [show x4_1 = rmS x4_1 (nI v3.toNatClampNeg) by rw [← rm_nI (by omega), e9999, e9999, q9999]; rfl]; have h7 := cl_eq (j := v3) (by omega); have h6 := ordI_s hp2 wo (s := v3.toNatClampNeg) (by omega) (by omega) hq9.2.1 hq9.2.2.1 (fun t g1 g2 g3 => hq9.2.2.2 t g1 (by omega) g3); rw [h7] at h6; exact h6) | (have h5 := (q3).resolve_right (fun z => absurd z.1 (by omega)); rw [h5.1]; have h6 := ordI_z hp2 wo h5.2; rw [Int.add_zero]; exact h6)) hH hS (lv_sub hl [3, 1, 4, 5, 0] rfl)
        · have j7 := t_neq c7
          have hq9 := (q3).resolve_left (fun z => absurd z.1 (by omega))
          refine lv_iload S.1 S.2.1 dX1_orderOf_41 (lv_at hl 3 rfl) ?_
          refine lv_iload S.1 S.2.1 dX1_orderOf_43 (lv_at hl 1 rfl) ?_
          refine cW_bpi (cW_S (n := 1) (As := [.int v3]) (rest := [.int x4_1]) S K hH (k_X1_bitOf l D B L A σ τ v3 ) gX1_orderOf_X1_bitOf rfl hdS_X1_bitOf ⟨Nat.le_of_ble_eq_true rfl, Nat.le_of_ble_eq_true rfl⟩ rfl hl.1 (Nat.le_of_ble_eq_true rfl) dX1_orderOf_45) hS (fun v9 H locs q9 hH hS => ?_)
          refine lv_iconst (v := (-1)) S.1 S.2.1 dX1_orderOf_48 (by decide) ?_
          refine lv_ixor S.1 S.2.1 dX1_orderOf_49 ?_
          refine lv_topi (fun v10 e10 => ?_)
          refine lv_iand S.1 S.2.1 dX1_orderOf_50 ?_
          refine lv_topi (fun v11 e11 => ?_)
          have i11 : 0 ≤ v11.toInt ∧ v11.toInt ≤ x4_1.toInt := i_andl e11 (by omega)
          refine lv_istore (lv' := [(4, .int v11), (2, .long v6), (7, .int v3), (0, .ref (L 9 0)), (5, .int x5_1), (6, .int x6_1)]) S.1 S.2.1 dX1_orderOf_51 hl (by decide) rfl (fun ls hl => ?_)
          refine lv_iload S.1 S.2.1 dX1_orderOf_53 (lv_at hl 2 rfl) ?_
          refine lv_istore (lv' := [(5, .int v3), (4, .int v11), (2, .long v6), (7, .int v3), (0, .ref (L 9 0)), (6, .int x6_1)]) S.1 S.2.1 dX1_orderOf_55 hl (by decide) rfl (fun ls hl => ?_)
          obtain ⟨v12, e12⟩ : ∃ y_9 : Int32, y_9 = x6_1 + 1 := ⟨_, rfl⟩
          have i12 : v12.toInt = x6_1.toInt + 1 := i_addc e12 (by decide) (by omega) (by omega)
          refine lv_iinc (v := v12) (lv' := [(6, .int v12), (5, .int v3), (4, .int v11), (2, .long v6), (7, .int v3), (0, .ref (L 9 0))]) S.1 S.2.1 dX1_orderOf_57 hl (k := 5) rfl (by rw [e12]; rfl) (by decide) rfl (fun ls hl => ?_)
          refine lv_goto (tgt := 11) S.1 S.2.1 dX1_orderOf_60 (by decide) ?_
          exact ih1 v6 v11 v3 v12 _ _ ls (by omega) (by omega) (by omega) (by omega) (by rw [cl_1 i12 (by omega), ho9]; first | (rw [show v11 = rmS x4_1 (nI v3.toNatClampNeg) by rw [← rm_nI (by omega), e11, e10, q9]; rfl]; have h7 := cl_eq (j := v3) (by omega); have h6 := ordI_s hp2 wo (s := v3.toNatClampNeg) (by omega) (by omega) hq9.2.1 hq9.2.2.1 (fun t g1 g2 g3 => hq9.2.2.2 t g1 (by omega) g3); rw [h7] at h6; exact h6) | (have h5 := (q3).resolve_right (fun z => absurd z.1 (by omega)); rw [h5.1]; have h6 := ordI_z hp2 wo h5.2; rw [Int.add_zero]; exact h6)) hH hS (lv_sub hl [5, 3, 2, 1, 0] rfl)
  exact cut_11_1 _ 0 set 0 0 _ _ ls (Nat.lt_succ_self _) (by omega) (by omega) (by omega) (by exact ordI_0 (by omega) hp3) hH hS (lv_sub hl [4, 3, 2, 1, 0] rfl)
set_option maxHeartbeats 4000000 in
set_option maxRecDepth 100000 in
theorem k_X1_weigh (l : Launch) (D : va_G) (B : Nat → ClassId) (L : QL) (A : Nat → Prop) (σ : QS) (τ : Int64) (set : Int32)  (hp0 : 0 ≤ set.toInt ∧ set.toInt ≤ 255) (hI : InvC σ) (hp2 : waysOk (wkC (σ 11 0)) (mnC (σ 12 0)) (σ 15 0 0) (σ 14 0) 256) (hp3 : subS set (σ 15 0 0)) : cW cntC gC l D B L A yX1_weigh wsX1_weigh 4 94 [.ref (L 9 0), .int set] σ τ (pV (fun σ' τ' => InvC σ' ∧ Keep [18, 19, 20] σ σ' ∧ wgP (σ 11 0) (σ 12 0) (σ 13 0) (σ 14 0) set (σ 18) (σ 19) (σ 20) (σ' 18) (σ' 19) (σ' 20) τ τ')) := by
  refine cW_of (cc := cX1_weigh) (nL := 6) (ret := none) (by decide) rfl (Nat.le_of_ble_eq_true rfl) ?_
  intro p e s m below meth c S hr hk K hH hS ls hl
  have hnX1 : ∀ w ∈ wsX10, w ∈ wsX1_weigh := fun w h => mG (tX1 w h)
  have l0 : (0 : Int32).toInt = 0 := by decide
  have l9 : (9 : Int32).toInt = 9 := by decide
  have hP : Keep [18, 19, 20] σ σ := Keep_r
  have hl : lv_has ls 6 [(0, .ref (L 9 0)), (1, .int set)] := hl
  refine lv_aload_n S.1 S.2.1 dX1_weigh_0 rfl (lv_at hl 0 rfl) ?_
  refine lv_iload_n S.1 S.2.1 dX1_weigh_1 rfl (lv_at hl 1 rfl) ?_
  refine cW_bpi (cW_V (n := 1) (As := [.int set]) (rest := []) (k := 9) (i := 0) S K hH (by decide) rfl rfl (k_X1_worthOf l D B L A σ τ set (by omega) hI) gX1_weigh_X1_worthOf rfl hdV_X1_worthOf ⟨Nat.le_of_ble_eq_true rfl, Nat.le_of_ble_eq_true rfl⟩ rfl hl.1 (Nat.le_of_ble_eq_true rfl) dX1_weigh_2) hS (fun v1 H locs q1 hH hS => ?_)
  refine lv_istore_n (lv' := [(2, .int v1), (0, .ref (L 9 0)), (1, .int set)]) S.1 S.2.1 dX1_weigh_5 rfl hl (by decide) rfl (fun ls hl => ?_)
  refine lv_aload_n S.1 S.2.1 dX1_weigh_6 rfl (lv_at hl 1 rfl) ?_
  refine rC_9_3 S hnX1 K hH (mG wd_24) dX1_weigh_7 ?_
  refine lv_iload_n S.1 S.2.1 dX1_weigh_10 rfl (lv_at hl 2 rfl) ?_
  refine lv_bipush (v := 9) S.1 S.2.1 dX1_weigh_11 (by decide) ?_
  refine lv_imul S.1 S.2.1 dX1_weigh_13 ?_
  refine lv_topi (fun v2 e2 => ?_)
  have i2 : v2.toInt = 9 * set.toInt := i_mulcr e2 (by decide) (by omega) (by omega)
  refine lC_13 S K hH (vin (by omega) (by omega)) dX1_weigh_14 ?_
  refine lv_topi (fun v3 e3 => ?_)
  have b3 : 0 ≤ v3.toInt ∧ v3.toInt ≤ 1000000 := by rw [e3]; exact hI.1 14 0 v2.toNatClampNeg
  have fy9 : v3.toInt = wyG (σ 14 0) 0 set := by rw [e3, ix9z i2 (by omega)]; rfl
  refine lv_istore_n (lv' := [(3, .int v3), (2, .int v1), (0, .ref (L 9 0)), (1, .int set)]) S.1 S.2.1 dX1_weigh_15 rfl hl (by decide) rfl (fun ls hl => ?_)
  have hw9 := (q1).1
  refine lv_iload_n S.1 S.2.1 dX1_weigh_16 rfl (lv_at hl 1 rfl) ?_
  refine lv_aload_n S.1 S.2.1 dX1_weigh_17 rfl (lv_at hl 2 rfl) ?_
  refine rC_9_8 S hnX1 K hH (mG wd_29) dX1_weigh_18 ?_
  refine lv_topi (fun v4 e4 => ?_)
  have f18 : v4.toInt = (σ 19 0 0).toInt := by rw [e4]
  refine lv_icmp_lt (tgt := 40) S.1 S.2.1 dX1_weigh_21 (by decide) (fun c5 => ?_) (fun c5 => ?_)
  · have j5 := t_lt c5
    refine cW_vret S hr hk hH hS ?_ dX1_weigh_40
    exact ⟨rfl, hI, hP, by unfold wgP; exact Or.inl ⟨rfl, rfl, rfl, rfl, Or.inl (by omega)⟩⟩
  · have j5 := t_nlt c5
    refine lv_iload_n S.1 S.2.1 dX1_weigh_24 rfl (lv_at hl 1 rfl) ?_
    refine lv_aload_n S.1 S.2.1 dX1_weigh_25 rfl (lv_at hl 2 rfl) ?_
    refine rC_9_8 S hnX1 K hH (mG wd_29) dX1_weigh_26 ?_
    refine lv_topi (fun v6 e6 => ?_)
    have k6 : v6.toInt = v4.toInt := by rw [e6]; rw [← e4]
    have f26 : v6.toInt = (σ 19 0 0).toInt := by rw [e6]
    refine lv_icmp_ne (tgt := 41) S.1 S.2.1 dX1_weigh_29 (by decide) (fun c7 => ?_) (fun c7 => ?_)
    · have j7 := t_neq c7
      refine lv_aload_n S.1 S.2.1 dX1_weigh_41 rfl (lv_at hl 2 rfl) ?_
      refine lv_iload_n S.1 S.2.1 dX1_weigh_42 rfl (lv_at hl 3 rfl) ?_
      refine cW_bpl (cW_V (n := 1) (As := [.int set]) (rest := []) (k := 9) (i := 0) S K hH (by decide) rfl rfl (k_X1_orderOf l D B L A σ τ set (by omega) hI (by omega) (by omega)) gX1_weigh_X1_orderOf rfl hdV_X1_orderOf ⟨Nat.le_of_ble_eq_true rfl, Nat.le_of_ble_eq_true rfl⟩ rfl hl.1 (Nat.le_of_ble_eq_true rfl) dX1_weigh_43) hS (fun v8 H locs q8 hH hS => ?_)
      refine lv_lstore (lv' := [(4, .long v8), (3, .int v3), (2, .int v1), (0, .ref (L 9 0)), (1, .int set)]) S.1 S.2.1 dX1_weigh_46 hl (by decide) rfl (fun ls hl => ?_)
      refine lv_iload_n S.1 S.2.1 dX1_weigh_48 rfl (lv_at hl 2 rfl) ?_
      refine lv_aload_n S.1 S.2.1 dX1_weigh_49 rfl (lv_at hl 3 rfl) ?_
      refine rC_9_8 S hnX1 K hH (mG wd_29) dX1_weigh_50 ?_
      refine lv_topi (fun v9 e9 => ?_)
      have k9 : v9.toInt = v4.toInt := by rw [e9]; rw [← e4]
      have f50 : v9.toInt = (σ 19 0 0).toInt := by rw [e9]
      refine lv_icmp_gt (tgt := 74) S.1 S.2.1 dX1_weigh_53 (by decide) (fun c10 => ?_) (fun c10 => ?_)
      · have j10 := t_lt c10
        refine lv_aload_n S.1 S.2.1 dX1_weigh_74 rfl (lv_at hl 3 rfl) ?_
        refine lv_iload_n S.1 S.2.1 dX1_weigh_75 rfl (lv_at hl 4 rfl) ?_
        refine lv_iload_n S.1 S.2.1 dX1_weigh_76 rfl (lv_at hl 2 rfl) ?_
        refine lv_iload_n S.1 S.2.1 dX1_weigh_77 rfl (lv_at hl 1 rfl) ?_
        refine lv_lload S.1 S.2.1 dX1_weigh_78 (lv_at hl 0 rfl) ?_
        refine cW_bv (cW_V (n := 4) (As := [.int set, .int v1, .int v3, .long v8]) (rest := []) (k := 9) (i := 0) S K hH (by decide) rfl rfl (k_X1_take l D B L A σ τ set v1 v3 v8 hI) gX1_weigh_X1_take rfl hdV_X1_take ⟨Nat.le_of_ble_eq_true rfl, Nat.le_of_ble_eq_true rfl⟩ rfl hl.1 (Nat.le_of_ble_eq_true rfl) dX1_weigh_80) hS (fun σ11 τ11 H locs q11 hH hS => ?_)
        obtain ⟨hI, hP11, q11⟩ := q11
        have hP := Keep_t hP hP11 (by decide)
        refine cW_vret S hr hk hH hS ?_ dX1_weigh_83
        exact ⟨rfl, hI, hP, by unfold wgP; first | exact Or.inl ⟨rfl, rfl, rfl, rfl, Or.inr ⟨_, q8, by omega, by omega, by omega⟩⟩ | exact Or.inr ⟨_, q8, ⟨by omega, by omega⟩, by omega, (q11).1, by rw [(q11).2.1]; omega, by rw [(q11).2.2.1]; omega, by rw [(q11).2.2.2]⟩⟩
      · have j10 := t_nlt c10
        refine lv_iload_n S.1 S.2.1 dX1_weigh_56 rfl (lv_at hl 1 rfl) ?_
        refine lv_aload_n S.1 S.2.1 dX1_weigh_57 rfl (lv_at hl 3 rfl) ?_
        refine rC_9_9 S hnX1 K hH (mG wd_30) dX1_weigh_58 ?_
        refine lv_topi (fun v12 e12 => ?_)
        have f58 : v12.toInt = (σ 20 0 0).toInt := by rw [e12]
        refine lv_icmp_lt (tgt := 74) S.1 S.2.1 dX1_weigh_61 (by decide) (fun c13 => ?_) (fun c13 => ?_)
        · have j13 := t_lt c13
          refine lv_aload_n S.1 S.2.1 dX1_weigh_74 rfl (lv_at hl 3 rfl) ?_
          refine lv_iload_n S.1 S.2.1 dX1_weigh_75 rfl (lv_at hl 4 rfl) ?_
          refine lv_iload_n S.1 S.2.1 dX1_weigh_76 rfl (lv_at hl 2 rfl) ?_
          refine lv_iload_n S.1 S.2.1 dX1_weigh_77 rfl (lv_at hl 1 rfl) ?_
          refine lv_lload S.1 S.2.1 dX1_weigh_78 (lv_at hl 0 rfl) ?_
          refine cW_bv (cW_V (n := 4) (As := [.int set, .int v1, .int v3, .long v8]) (rest := []) (k := 9) (i := 0) S K hH (by decide) rfl rfl (k_X1_take l D B L A σ τ set v1 v3 v8 hI) gX1_weigh_X1_take rfl hdV_X1_take ⟨Nat.le_of_ble_eq_true rfl, Nat.le_of_ble_eq_true rfl⟩ rfl hl.1 (Nat.le_of_ble_eq_true rfl) dX1_weigh_80) hS (fun σ14 τ14 H locs q14 hH hS => ?_)
          obtain ⟨hI, hP14, q14⟩ := q14
          have hP := Keep_t hP hP14 (by decide)
          refine cW_vret S hr hk hH hS ?_ dX1_weigh_83
          exact ⟨rfl, hI, hP, by unfold wgP; first | exact Or.inl ⟨rfl, rfl, rfl, rfl, Or.inr ⟨_, q8, by omega, by omega, by omega⟩⟩ | exact Or.inr ⟨_, q8, ⟨by omega, by omega⟩, by omega, (q14).1, by rw [(q14).2.1]; omega, by rw [(q14).2.2.1]; omega, by rw [(q14).2.2.2]⟩⟩
        · have j13 := t_nlt c13
          refine lv_lload S.1 S.2.1 dX1_weigh_64 (lv_at hl 0 rfl) ?_
          refine lv_aload_n S.1 S.2.1 dX1_weigh_66 rfl (lv_at hl 3 rfl) ?_
          refine rC_9_10 S hnX1 K hH (mG wd_31) dX1_weigh_67 ?_
          refine lv_topl (fun v15 e15 => ?_)
          refine W.lcmp S.1 S.2.1 dX1_weigh_70 ?_
          refine lv_topi (fun v16 e16 => ?_)
          have hl9 : (v16.toInt < 0) ↔ v8.toInt < τ.toInt := by rw [e16, e15]; exact lcmp_lt
          refine lv_if_ge (tgt := 83) S.1 S.2.1 dX1_weigh_71 (by decide) (fun c17 => ?_) (fun c17 => ?_)
          · have j17 := t_le c17
            refine cW_vret S hr hk hH hS ?_ dX1_weigh_83
            exact ⟨rfl, hI, hP, by unfold wgP; first | exact Or.inl ⟨rfl, rfl, rfl, rfl, Or.inr ⟨_, q8, by omega, by omega, by omega⟩⟩ | exact Or.inr ⟨_, q8, ⟨by omega, by omega⟩, by omega, (q14).1, by rw [(q14).2.1]; omega, by rw [(q14).2.2.1]; omega, by rw [(q14).2.2.2]⟩⟩
          · have j17 := t_nle c17
            refine lv_aload_n S.1 S.2.1 dX1_weigh_74 rfl (lv_at hl 3 rfl) ?_
            refine lv_iload_n S.1 S.2.1 dX1_weigh_75 rfl (lv_at hl 4 rfl) ?_
            refine lv_iload_n S.1 S.2.1 dX1_weigh_76 rfl (lv_at hl 2 rfl) ?_
            refine lv_iload_n S.1 S.2.1 dX1_weigh_77 rfl (lv_at hl 1 rfl) ?_
            refine lv_lload S.1 S.2.1 dX1_weigh_78 (lv_at hl 0 rfl) ?_
            refine cW_bv (cW_V (n := 4) (As := [.int set, .int v1, .int v3, .long v8]) (rest := []) (k := 9) (i := 0) S K hH (by decide) rfl rfl (k_X1_take l D B L A σ τ set v1 v3 v8 hI) gX1_weigh_X1_take rfl hdV_X1_take ⟨Nat.le_of_ble_eq_true rfl, Nat.le_of_ble_eq_true rfl⟩ rfl hl.1 (Nat.le_of_ble_eq_true rfl) dX1_weigh_80) hS (fun σ18 τ18 H locs q18 hH hS => ?_)
            obtain ⟨hI, hP18, q18⟩ := q18
            have hP := Keep_t hP hP18 (by decide)
            refine cW_vret S hr hk hH hS ?_ dX1_weigh_83
            exact ⟨rfl, hI, hP, by unfold wgP; first | exact Or.inl ⟨rfl, rfl, rfl, rfl, Or.inr ⟨_, q8, by omega, by omega, by omega⟩⟩ | exact Or.inr ⟨_, q8, ⟨by omega, by omega⟩, by omega, (q18).1, by rw [(q18).2.1]; omega, by rw [(q18).2.2.1]; omega, by rw [(q18).2.2.2]⟩⟩
    · have j7 := t_eq c7
      refine lv_iload_n S.1 S.2.1 dX1_weigh_32 rfl (lv_at hl 0 rfl) ?_
      refine lv_aload_n S.1 S.2.1 dX1_weigh_33 rfl (lv_at hl 2 rfl) ?_
      refine rC_9_9 S hnX1 K hH (mG wd_30) dX1_weigh_34 ?_
      refine lv_topi (fun v19 e19 => ?_)
      have f34 : v19.toInt = (σ 20 0 0).toInt := by rw [e19]
      refine lv_icmp_le (tgt := 41) S.1 S.2.1 dX1_weigh_37 (by decide) (fun c20 => ?_) (fun c20 => ?_)
      · have j20 := t_le c20
        refine lv_aload_n S.1 S.2.1 dX1_weigh_41 rfl (lv_at hl 2 rfl) ?_
        refine lv_iload_n S.1 S.2.1 dX1_weigh_42 rfl (lv_at hl 3 rfl) ?_
        refine cW_bpl (cW_V (n := 1) (As := [.int set]) (rest := []) (k := 9) (i := 0) S K hH (by decide) rfl rfl (k_X1_orderOf l D B L A σ τ set (by omega) hI (by omega) (by omega)) gX1_weigh_X1_orderOf rfl hdV_X1_orderOf ⟨Nat.le_of_ble_eq_true rfl, Nat.le_of_ble_eq_true rfl⟩ rfl hl.1 (Nat.le_of_ble_eq_true rfl) dX1_weigh_43) hS (fun v21 H locs q21 hH hS => ?_)
        refine lv_lstore (lv' := [(4, .long v21), (3, .int v3), (2, .int v1), (0, .ref (L 9 0)), (1, .int set)]) S.1 S.2.1 dX1_weigh_46 hl (by decide) rfl (fun ls hl => ?_)
        refine lv_iload_n S.1 S.2.1 dX1_weigh_48 rfl (lv_at hl 2 rfl) ?_
        refine lv_aload_n S.1 S.2.1 dX1_weigh_49 rfl (lv_at hl 3 rfl) ?_
        refine rC_9_8 S hnX1 K hH (mG wd_29) dX1_weigh_50 ?_
        refine lv_topi (fun v22 e22 => ?_)
        have k22 : v22.toInt = v4.toInt := by rw [e22]; rw [← e4]
        have f50 : v22.toInt = (σ 19 0 0).toInt := by rw [e22]
        refine lv_icmp_gt (tgt := 74) S.1 S.2.1 dX1_weigh_53 (by decide) (fun c23 => ?_) (fun c23 => ?_)
        · have j23 := t_lt c23
          refine lv_aload_n S.1 S.2.1 dX1_weigh_74 rfl (lv_at hl 3 rfl) ?_
          refine lv_iload_n S.1 S.2.1 dX1_weigh_75 rfl (lv_at hl 4 rfl) ?_
          refine lv_iload_n S.1 S.2.1 dX1_weigh_76 rfl (lv_at hl 2 rfl) ?_
          refine lv_iload_n S.1 S.2.1 dX1_weigh_77 rfl (lv_at hl 1 rfl) ?_
          refine lv_lload S.1 S.2.1 dX1_weigh_78 (lv_at hl 0 rfl) ?_
          refine cW_bv (cW_V (n := 4) (As := [.int set, .int v1, .int v3, .long v21]) (rest := []) (k := 9) (i := 0) S K hH (by decide) rfl rfl (k_X1_take l D B L A σ τ set v1 v3 v21 hI) gX1_weigh_X1_take rfl hdV_X1_take ⟨Nat.le_of_ble_eq_true rfl, Nat.le_of_ble_eq_true rfl⟩ rfl hl.1 (Nat.le_of_ble_eq_true rfl) dX1_weigh_80) hS (fun σ24 τ24 H locs q24 hH hS => ?_)
          obtain ⟨hI, hP24, q24⟩ := q24
          have hP := Keep_t hP hP24 (by decide)
          refine cW_vret S hr hk hH hS ?_ dX1_weigh_83
          exact ⟨rfl, hI, hP, by unfold wgP; first | exact Or.inl ⟨rfl, rfl, rfl, rfl, Or.inr ⟨_, q21, by omega, by omega, by omega⟩⟩ | exact Or.inr ⟨_, q21, ⟨by omega, by omega⟩, by omega, (q24).1, by rw [(q24).2.1]; omega, by rw [(q24).2.2.1]; omega, by rw [(q24).2.2.2]⟩⟩
        · have j23 := t_nlt c23
          refine lv_iload_n S.1 S.2.1 dX1_weigh_56 rfl (lv_at hl 1 rfl) ?_
          refine lv_aload_n S.1 S.2.1 dX1_weigh_57 rfl (lv_at hl 3 rfl) ?_
          refine rC_9_9 S hnX1 K hH (mG wd_30) dX1_weigh_58 ?_
          refine lv_topi (fun v25 e25 => ?_)
          have k25 : v25.toInt = v19.toInt := by rw [e25]; rw [← e19]
          have f58 : v25.toInt = (σ 20 0 0).toInt := by rw [e25]
          refine lv_icmp_lt (tgt := 74) S.1 S.2.1 dX1_weigh_61 (by decide) (fun c26 => ?_) (fun c26 => ?_)
          · have j26 := t_lt c26
            refine lv_aload_n S.1 S.2.1 dX1_weigh_74 rfl (lv_at hl 3 rfl) ?_
            refine lv_iload_n S.1 S.2.1 dX1_weigh_75 rfl (lv_at hl 4 rfl) ?_
            refine lv_iload_n S.1 S.2.1 dX1_weigh_76 rfl (lv_at hl 2 rfl) ?_
            refine lv_iload_n S.1 S.2.1 dX1_weigh_77 rfl (lv_at hl 1 rfl) ?_
            refine lv_lload S.1 S.2.1 dX1_weigh_78 (lv_at hl 0 rfl) ?_
            refine cW_bv (cW_V (n := 4) (As := [.int set, .int v1, .int v3, .long v21]) (rest := []) (k := 9) (i := 0) S K hH (by decide) rfl rfl (k_X1_take l D B L A σ τ set v1 v3 v21 hI) gX1_weigh_X1_take rfl hdV_X1_take ⟨Nat.le_of_ble_eq_true rfl, Nat.le_of_ble_eq_true rfl⟩ rfl hl.1 (Nat.le_of_ble_eq_true rfl) dX1_weigh_80) hS (fun σ27 τ27 H locs q27 hH hS => ?_)
            obtain ⟨hI, hP27, q27⟩ := q27
            have hP := Keep_t hP hP27 (by decide)
            refine cW_vret S hr hk hH hS ?_ dX1_weigh_83
            exact ⟨rfl, hI, hP, by unfold wgP; first | exact Or.inl ⟨rfl, rfl, rfl, rfl, Or.inr ⟨_, q21, by omega, by omega, by omega⟩⟩ | exact Or.inr ⟨_, q21, ⟨by omega, by omega⟩, by omega, (q27).1, by rw [(q27).2.1]; omega, by rw [(q27).2.2.1]; omega, by rw [(q27).2.2.2]⟩⟩
          · have j26 := t_nlt c26
            refine lv_lload S.1 S.2.1 dX1_weigh_64 (lv_at hl 0 rfl) ?_
            refine lv_aload_n S.1 S.2.1 dX1_weigh_66 rfl (lv_at hl 3 rfl) ?_
            refine rC_9_10 S hnX1 K hH (mG wd_31) dX1_weigh_67 ?_
            refine lv_topl (fun v28 e28 => ?_)
            refine W.lcmp S.1 S.2.1 dX1_weigh_70 ?_
            refine lv_topi (fun v29 e29 => ?_)
            have hl9 : (v29.toInt < 0) ↔ v21.toInt < τ.toInt := by rw [e29, e28]; exact lcmp_lt
            refine lv_if_ge (tgt := 83) S.1 S.2.1 dX1_weigh_71 (by decide) (fun c30 => ?_) (fun c30 => ?_)
            · have j30 := t_le c30
              refine cW_vret S hr hk hH hS ?_ dX1_weigh_83
              exact ⟨rfl, hI, hP, by unfold wgP; first | exact Or.inl ⟨rfl, rfl, rfl, rfl, Or.inr ⟨_, q21, by omega, by omega, by omega⟩⟩ | exact Or.inr ⟨_, q21, ⟨by omega, by omega⟩, by omega, (q27).1, by rw [(q27).2.1]; omega, by rw [(q27).2.2.1]; omega, by rw [(q27).2.2.2]⟩⟩
            · have j30 := t_nle c30
              refine lv_aload_n S.1 S.2.1 dX1_weigh_74 rfl (lv_at hl 3 rfl) ?_
              refine lv_iload_n S.1 S.2.1 dX1_weigh_75 rfl (lv_at hl 4 rfl) ?_
              refine lv_iload_n S.1 S.2.1 dX1_weigh_76 rfl (lv_at hl 2 rfl) ?_
              refine lv_iload_n S.1 S.2.1 dX1_weigh_77 rfl (lv_at hl 1 rfl) ?_
              refine lv_lload S.1 S.2.1 dX1_weigh_78 (lv_at hl 0 rfl) ?_
              refine cW_bv (cW_V (n := 4) (As := [.int set, .int v1, .int v3, .long v21]) (rest := []) (k := 9) (i := 0) S K hH (by decide) rfl rfl (k_X1_take l D B L A σ τ set v1 v3 v21 hI) gX1_weigh_X1_take rfl hdV_X1_take ⟨Nat.le_of_ble_eq_true rfl, Nat.le_of_ble_eq_true rfl⟩ rfl hl.1 (Nat.le_of_ble_eq_true rfl) dX1_weigh_80) hS (fun σ31 τ31 H locs q31 hH hS => ?_)
              obtain ⟨hI, hP31, q31⟩ := q31
              have hP := Keep_t hP hP31 (by decide)
              refine cW_vret S hr hk hH hS ?_ dX1_weigh_83
              exact ⟨rfl, hI, hP, by unfold wgP; first | exact Or.inl ⟨rfl, rfl, rfl, rfl, Or.inr ⟨_, q21, by omega, by omega, by omega⟩⟩ | exact Or.inr ⟨_, q21, ⟨by omega, by omega⟩, by omega, (q31).1, by rw [(q31).2.1]; omega, by rw [(q31).2.2.1]; omega, by rw [(q31).2.2.2]⟩⟩
      · have j20 := t_nle c20
        refine cW_vret S hr hk hH hS ?_ dX1_weigh_40
        exact ⟨rfl, hI, hP, by unfold wgP; exact Or.inl ⟨rfl, rfl, rfl, rfl, Or.inl (by omega)⟩⟩
set_option maxHeartbeats 4000000 in
set_option maxRecDepth 100000 in
theorem k_X1_choose (l : Launch) (D : va_G) (B : Nat → ClassId) (L : QL) (A : Nat → Prop) (σ : QS) (τ : Int64) (within : Int32)  (hp0 : 0 ≤ within.toInt ∧ within.toInt ≤ 500) (hI : InvC σ) (hp2 : ((σ 16 0 0 ≠ 0 → waysOk (wkC (σ 11 0)) (mnC (σ 12 0)) (σ 15 0 0) (σ 14 0) 256) ∧ ((σ 17 0 0).toInt = -1 ∨ chRec (wkC (σ 11 0)) (mnC (σ 12 0)) (mnC (σ 13 0)) (σ 15 0 0) (σ 17 0 0).toInt 256 (σ 18 0 0) (σ 19 0 0).toInt (σ 20 0 0).toInt τ.toInt))) : cW cntC gC l D B L A yX1_choose wsX1_choose 5 119 [.ref (L 9 0), .int within] σ τ (pV (fun σ' τ' => InvC σ' ∧ Keep [14, 16, 17, 18, 19, 20] σ σ' ∧ (σ' 16 0 0 ≠ 0 ∧ waysOk (wkC (σ 11 0)) (mnC (σ 12 0)) (σ 15 0 0) (σ' 14 0) 256 ∧ σ' 17 0 0 = within ∧ chRec (wkC (σ 11 0)) (mnC (σ 12 0)) (mnC (σ 13 0)) (σ 15 0 0) within.toInt 256 (σ' 18 0 0) (σ' 19 0 0).toInt (σ' 20 0 0).toInt τ'.toInt))) := by
  refine cW_of (cc := cX1_choose) (nL := 3) (ret := none) (by decide) rfl (Nat.le_of_ble_eq_true rfl) ?_
  intro p e s m below meth c S hr hk K hH hS ls hl
  have hnX1 : ∀ w ∈ wsX10, w ∈ wsX1_choose := fun w h => mG (tX1 w h)
  have lm1 : ((-1) : Int32).toInt = -1 := by decide
  have l0 : (0 : Int32).toInt = 0 := by decide
  have l1 : (1 : Int32).toInt = 1 := by decide
  have l9 : (9 : Int32).toInt = 9 := by decide
  have l256 : (256 : Int32).toInt = 256 := by decide
  have hP : Keep [14, 16, 17, 18, 19, 20] σ σ := Keep_r
  have hl : lv_has ls 3 [(0, .ref (L 9 0)), (1, .int within)] := hl
  refine lv_aload_n S.1 S.2.1 dX1_choose_0 rfl (lv_at hl 0 rfl) ?_
  refine rC_9_5 S hnX1 K hH (mG wd_26) dX1_choose_1 ?_
  refine lv_topi (fun v1 e1 => ?_)
  have f1 : v1 = σ 16 0 0 := e1
  refine lv_if_ne (tgt := 11) S.1 S.2.1 dX1_choose_4 (by decide) (fun c2 => ?_) (fun c2 => ?_)
  · have j2 := t_neq c2
    have hw9 : waysOk (wkC (σ 11 0)) (mnC (σ 12 0)) (σ 15 0 0) (σ 14 0) 256 ∧ σ 16 0 0 ≠ 0 := by first | exact ⟨hp2.1 (by rw [← f1]; assumption), by rw [← f1]; assumption⟩ | exact ⟨(q9999).1, by rw [(q9999).2]; decide⟩
    refine lv_aload_n S.1 S.2.1 dX1_choose_11 rfl (lv_at hl 0 rfl) ?_
    refine rC_9_6 S hnX1 K hH (mG wd_27) dX1_choose_12 ?_
    refine lv_topi (fun v3 e3 => ?_)
    have f12 : v3 = σ 17 0 0 := by first | exact e3 | rw [e3, hP9999 17 (by decide)]
    refine lv_iload_n S.1 S.2.1 dX1_choose_15 rfl (lv_at hl 1 rfl) ?_
    refine lv_icmp_ne (tgt := 20) S.1 S.2.1 dX1_choose_16 (by decide) (fun c4 => ?_) (fun c4 => ?_)
    · have j4 := t_neq c4
      refine lv_aload_n S.1 S.2.1 dX1_choose_20 rfl (lv_at hl 0 rfl) ?_
      refine lv_iconst (v := 0) S.1 S.2.1 dX1_choose_21 (by decide) ?_
      refine lv_iconst (v := 0) S.1 S.2.1 dX1_choose_22 (by decide) ?_
      refine lv_iconst (v := 0) S.1 S.2.1 dX1_choose_23 (by decide) ?_
      refine lv_lconst (v := 0) S.1 S.2.1 dX1_choose_24 (by decide) ?_
      refine cW_bv (cW_V (n := 4) (As := [.int 0, .int 0, .int 0, .long 0]) (rest := []) (k := 9) (i := 0) S K hH (by decide) rfl rfl (k_X1_take l D B L A σ τ 0 0 0 0 hI) gX1_choose_X1_take rfl hdV_X1_take ⟨Nat.le_of_ble_eq_true rfl, Nat.le_of_ble_eq_true rfl⟩ rfl hl.1 (Nat.le_of_ble_eq_true rfl) dX1_choose_25) hS (fun σ5 τ5 H locs q5 hH hS => ?_)
      obtain ⟨hI, hP5, q5⟩ := q5
      have hP := Keep_t hP hP5 (by decide)
      refine lv_iconst (v := 1) S.1 S.2.1 dX1_choose_28 (by decide) ?_
      refine lv_istore_n (lv' := [(2, .int 1), (0, .ref (L 9 0)), (1, .int within)]) S.1 S.2.1 dX1_choose_29 rfl hl (by decide) rfl (fun ls hl => ?_)
      have cut_30_6 : ∀ (n : Nat) (x2_6 : Int32) (σ_6 : QS) (τ_6 : Int64) (H : Heap) (locs : List Loc) (ls : Array Slot), (256 - x2_6.toInt).toNat < n → 1 ≤ x2_6.toInt ∧ x2_6.toInt ≤ 256 → (chRec (wkC (σ 11 0)) (mnC (σ 12 0)) (mnC (σ 13 0)) (σ 15 0 0) within.toInt x2_6.toInt (σ_6 18 0 0) (σ_6 19 0 0).toInt (σ_6 20 0 0).toInt τ_6.toInt) → (waysOk (wkC (σ 11 0)) (mnC (σ 12 0)) (σ 15 0 0) (σ_6 14 0) 256 ∧ σ_6 16 0 0 ≠ 0) → InvC σ_6 → Keep [14, 16, 17, 18, 19, 20] σ σ_6 → hW cntC gC D B L σ_6 τ_6 H → va_S A s.heap H locs → lv_has ls 3 [(0, .ref (L 9 0)), (1, .int within), (2, .int x2_6)] → W p l e { frames := 5, cells := 0, slots := 0, locals := 119 } s m [.ref (L 9 0), .int within].toArray below meth c H locs 0 0 (MQ below (QcW cntC gC D B L A (pV (fun σ' τ' => InvC σ' ∧ Keep [14, 16, 17, 18, 19, 20] σ σ' ∧ (σ' 16 0 0 ≠ 0 ∧ waysOk (wkC (σ 11 0)) (mnC (σ 12 0)) (σ 15 0 0) (σ' 14 0) 256 ∧ σ' 17 0 0 = within ∧ chRec (wkC (σ 11 0)) (mnC (σ 12 0)) (mnC (σ 13 0)) (σ 15 0 0) within.toInt 256 (σ' 18 0 0) (σ' 19 0 0).toInt (σ' 20 0 0).toInt τ'.toInt)))) [.ref (L 9 0), .int within].toArray s 0 0 A) (F0 m 30 ls []) := by
        intro n
        induction n with
        | zero => intro x2_6 σ_6 τ_6 H locs ls hm; exact absurd hm (Nat.not_lt_zero _)
        | succ n ih6 =>
          intro x2_6 σ_6 τ_6 H locs ls hm6 h6_0 wh wg hI hP hH hS hl
          refine lv_iload_n S.1 S.2.1 dX1_choose_30 rfl (lv_at hl 2 rfl) ?_
          refine lv_sipush (v := 256) S.1 S.2.1 dX1_choose_31 (by decide) ?_
          refine lv_icmp_ge (tgt := 72) S.1 S.2.1 dX1_choose_34 (by decide) (fun c7 => ?_) (fun c7 => ?_)
          · have j7 := t_le c7
            refine lv_aload_n S.1 S.2.1 dX1_choose_72 rfl (lv_at hl 0 rfl) ?_
            refine lv_iload_n S.1 S.2.1 dX1_choose_73 rfl (lv_at hl 1 rfl) ?_
            refine pC_9_6 S hnX1 K hH hS (mG wd_27) dX1_choose_74 (fun H locs hH hS => ?_)
            obtain ⟨σ8, eσ8⟩ : ∃ z_9 : QS, z_9 = rs σ_6 17 0 (fun _ => within) := ⟨_, rfl⟩
            rw [← eσ8] at hH
            have hI := InvC_f eσ8 hI (by decide) (any32 _)
            have hP := Keep_w eσ8 hP (by decide)
            refine cW_vret S hr hk hH hS ?_ dX1_choose_77
            exact ⟨rfl, hI, hP, by have h9 : x2_6.toInt = 256 := (by omega); rw [h9] at wh; exact ⟨by rw [eσ8, rs_v (by decide)]; exact wg.2, by rw [eσ8, rs_v (by decide)]; exact wg.1, by rw [eσ8, rs_self], by rw [eσ8, rs_v (by decide), rs_v (by decide), rs_v (by decide)]; exact wh⟩⟩
          · have j7 := t_nle c7
            refine lv_iload_n S.1 S.2.1 dX1_choose_37 rfl (lv_at hl 2 rfl) ?_
            refine lv_aload_n S.1 S.2.1 dX1_choose_38 rfl (lv_at hl 0 rfl) ?_
            refine rC_9_4 S hnX1 K hH (mG wd_25) dX1_choose_39 ?_
            refine lv_topi (fun v9 e9 => ?_)
            have b9 : 0 ≤ v9.toInt ∧ v9.toInt ≤ 255 := by rw [e9]; exact hI.1 15 0 0
            have f39 : v9 = σ 15 0 0 := by rw [e9, hP 15 (by decide)]
            refine lv_iconst (v := (-1)) S.1 S.2.1 dX1_choose_42 (by decide) ?_
            refine lv_ixor S.1 S.2.1 dX1_choose_43 ?_
            refine lv_topi (fun v10 e10 => ?_)
            refine lv_iand S.1 S.2.1 dX1_choose_44 ?_
            refine lv_topi (fun v11 e11 => ?_)
            have i11 : 0 ≤ v11.toInt ∧ v11.toInt ≤ x2_6.toInt := i_andl e11 (by omega)
            refine lv_if_ne (tgt := 66) S.1 S.2.1 dX1_choose_45 (by decide) (fun c12 => ?_) (fun c12 => ?_)
            · have j12 := t_neq c12
              obtain ⟨v13, e13⟩ : ∃ y_9 : Int32, y_9 = x2_6 + 1 := ⟨_, rfl⟩
              have i13 : v13.toInt = x2_6.toInt + 1 := i_addc e13 (by decide) (by omega) (by omega)
              refine lv_iinc (v := v13) (lv' := [(2, .int v13), (0, .ref (L 9 0)), (1, .int within)]) S.1 S.2.1 dX1_choose_66 hl (k := 2) rfl (by rw [e13]; rfl) (by decide) rfl (fun ls hl => ?_)
              refine lv_goto (tgt := 30) S.1 S.2.1 dX1_choose_69 (by decide) ?_
              exact ih6 v13 σ_6 τ_6 _ _ ls (by omega) (by omega) (by rw [i13]; first | exact chW wg.1 (by omega) (by omega) hsub wh (by rw [← f56]; omega) hw63 | exact chRec_skip wg.1 (by omega) (by omega) wh (Or.inr (by rw [← f56]; omega)) | exact chRec_skip wg.1 (by omega) (by omega) wh (Or.inl (fun z => absurd ((has_sub (by omega) (by omega)).mpr z) (by rw [← f39, ← e10, ← e11]; assumption)))) (by first | exact ⟨by rw [hP9999 14 (by decide)]; exact wg.1, by rw [hP9999 16 (by decide)]; exact wg.2⟩ | exact wg) hI hP hH hS (lv_sub hl [1, 2, 0] rfl)
            · have j12 := t_eq c12
              have hsub : subS x2_6 (σ 15 0 0) := (has_sub (by omega) (by omega)).mp (by rw [← f39, ← e10, ← e11]; assumption)
              refine lv_aload_n S.1 S.2.1 dX1_choose_48 rfl (lv_at hl 0 rfl) ?_
              refine rC_9_3 S hnX1 K hH (mG wd_24) dX1_choose_49 ?_
              refine lv_iload_n S.1 S.2.1 dX1_choose_52 rfl (lv_at hl 2 rfl) ?_
              refine lv_bipush (v := 9) S.1 S.2.1 dX1_choose_53 (by decide) ?_
              refine lv_imul S.1 S.2.1 dX1_choose_55 ?_
              refine lv_topi (fun v14 e14 => ?_)
              have i14 : v14.toInt = 9 * x2_6.toInt := i_mulcr e14 (by decide) (by omega) (by omega)
              refine lC_13 S K hH (vin (by omega) (by omega)) dX1_choose_56 ?_
              refine lv_topi (fun v15 e15 => ?_)
              have b15 : 0 ≤ v15.toInt ∧ v15.toInt ≤ 1000000 := by rw [e15]; exact hI.1 14 0 v14.toNatClampNeg
              have f56 : v15.toInt = wyG (σ_6 14 0) 0 x2_6 := by rw [e15, ix9z i14 (by omega)]; rfl
              refine lv_iload_n S.1 S.2.1 dX1_choose_57 rfl (lv_at hl 1 rfl) ?_
              refine lv_icmp_gt (tgt := 66) S.1 S.2.1 dX1_choose_58 (by decide) (fun c16 => ?_) (fun c16 => ?_)
              · have j16 := t_lt c16
                obtain ⟨v17, e17⟩ : ∃ y_9 : Int32, y_9 = x2_6 + 1 := ⟨_, rfl⟩
                have i17 : v17.toInt = x2_6.toInt + 1 := i_addc e17 (by decide) (by omega) (by omega)
                refine lv_iinc (v := v17) (lv' := [(2, .int v17), (0, .ref (L 9 0)), (1, .int within)]) S.1 S.2.1 dX1_choose_66 hl (k := 2) rfl (by rw [e17]; rfl) (by decide) rfl (fun ls hl => ?_)
                refine lv_goto (tgt := 30) S.1 S.2.1 dX1_choose_69 (by decide) ?_
                exact ih6 v17 σ_6 τ_6 _ _ ls (by omega) (by omega) (by rw [i17]; first | exact chW wg.1 (by omega) (by omega) hsub wh (by rw [← f56]; omega) hw63 | exact chRec_skip wg.1 (by omega) (by omega) wh (Or.inr (by rw [← f56]; omega)) | exact chRec_skip wg.1 (by omega) (by omega) wh (Or.inl (fun z => absurd ((has_sub (by omega) (by omega)).mpr z) (by rw [← f39, ← e10, ← e11]; assumption)))) (by first | exact ⟨by rw [hP9999 14 (by decide)]; exact wg.1, by rw [hP9999 16 (by decide)]; exact wg.2⟩ | exact wg) hI hP hH hS (lv_sub hl [1, 2, 0] rfl)
              · have j16 := t_nlt c16
                have hPx := hP
                refine lv_aload_n S.1 S.2.1 dX1_choose_61 rfl (lv_at hl 0 rfl) ?_
                refine lv_iload_n S.1 S.2.1 dX1_choose_62 rfl (lv_at hl 2 rfl) ?_
                refine cW_bv (cW_V (n := 1) (As := [.int x2_6]) (rest := []) (k := 9) (i := 0) S K hH (by decide) rfl rfl (k_X1_weigh l D B L A σ_6 τ_6 x2_6 (by omega) hI (by rw [hP 11 (by decide), hP 12 (by decide), hP 15 (by decide)]; exact wg.1) (by rw [hP 15 (by decide)]; exact hsub)) gX1_choose_X1_weigh rfl hdV_X1_weigh ⟨Nat.le_of_ble_eq_true rfl, Nat.le_of_ble_eq_true rfl⟩ rfl hl.1 (Nat.le_of_ble_eq_true rfl) dX1_choose_63) hS (fun σ18 τ18 H locs q18 hH hS => ?_)
                obtain ⟨hI, hP18, q18⟩ := q18
                have hP := Keep_t hP hP18 (by decide)
                have hw63 : wgP (σ 11 0) (σ 12 0) (σ 13 0) (σ_6 14 0) x2_6 (σ_6 18) (σ_6 19) (σ_6 20) (σ18 18) (σ18 19) (σ18 20) τ_6 τ18 := by rw [← hPx 11 (by decide), ← hPx 12 (by decide), ← hPx 13 (by decide)]; exact q18
                obtain ⟨v19, e19⟩ : ∃ y_9 : Int32, y_9 = x2_6 + 1 := ⟨_, rfl⟩
                have i19 : v19.toInt = x2_6.toInt + 1 := i_addc e19 (by decide) (by omega) (by omega)
                refine lv_iinc (v := v19) (lv' := [(2, .int v19), (0, .ref (L 9 0)), (1, .int within)]) S.1 S.2.1 dX1_choose_66 hl (k := 2) rfl (by rw [e19]; rfl) (by decide) rfl (fun ls hl => ?_)
                refine lv_goto (tgt := 30) S.1 S.2.1 dX1_choose_69 (by decide) ?_
                exact ih6 v19 σ18 τ18 _ _ ls (by omega) (by omega) (by rw [i19]; first | exact chW wg.1 (by omega) (by omega) hsub wh (by rw [← f56]; omega) hw63 | exact chRec_skip wg.1 (by omega) (by omega) wh (Or.inr (by rw [← f56]; omega)) | exact chRec_skip wg.1 (by omega) (by omega) wh (Or.inl (fun z => absurd ((has_sub (by omega) (by omega)).mpr z) (by rw [← f39, ← e10, ← e11]; assumption)))) (by first | exact ⟨by rw [hP18 14 (by decide)]; exact wg.1, by rw [hP18 16 (by decide)]; exact wg.2⟩ | exact wg) hI hP hH hS (lv_sub hl [1, 2, 0] rfl)
      exact cut_30_6 _ 1 σ5 τ5 _ _ ls (Nat.lt_succ_self _) (by omega) (by rw [(q5).1, (q5).2.1, (q5).2.2.1, (q5).2.2.2, l0, l1]; exact chRec_0 (by omega)) (by exact ⟨by rw [hP5 14 (by decide)]; exact hw9.1, by rw [hP5 16 (by decide)]; exact hw9.2⟩) hI hP hH hS (lv_sub hl [1, 2, 0] rfl)
    · have j4 := t_eq c4
      refine cW_vret S hr hk hH hS ?_ dX1_choose_19
      exact ⟨rfl, hI, hP, by have hc9 := hp2.2.resolve_left (by rw [← f12]; omega); rw [← f12] at hc9; refine ⟨hw9.2, hw9.1, by first | exact f12.symm.trans (Int32.toInt_inj.mp (by omega)) | (rw [hP9999 17 (by decide)]; exact f12.symm.trans (Int32.toInt_inj.mp (by omega))), ?_⟩; have h8 : v3.toInt = within.toInt := (by omega); rw [h8] at hc9; first | exact hc9 | (rw [hP9999 18 (by decide), hP9999 19 (by decide), hP9999 20 (by decide)]; exact hc9)⟩
  · have j2 := t_eq c2
    refine lv_aload_n S.1 S.2.1 dX1_choose_7 rfl (lv_at hl 0 rfl) ?_
    refine cW_bv (cW_V (n := 0) (As := []) (rest := []) (k := 9) (i := 0) S K hH (by decide) rfl rfl (k_X1_measure l D B L A σ τ  hI) gX1_choose_X1_measure rfl hdV_X1_measure ⟨Nat.le_of_ble_eq_true rfl, Nat.le_of_ble_eq_true rfl⟩ rfl hl.1 (Nat.le_of_ble_eq_true rfl) dX1_choose_8) hS (fun σ20 τ20 H locs q20 hH hS => ?_)
    obtain ⟨hI, hP20, hτ20, q20⟩ := q20
    rw [hτ20] at hH
    have hP := Keep_t hP hP20 (by decide)
    have hw9 : waysOk (wkC (σ 11 0)) (mnC (σ 12 0)) (σ 15 0 0) (σ20 14 0) 256 ∧ σ20 16 0 0 ≠ 0 := by first | exact ⟨hp2.1 (by rw [← f1]; assumption), by rw [← f1]; assumption⟩ | exact ⟨(q20).1, by rw [(q20).2]; decide⟩
    refine lv_aload_n S.1 S.2.1 dX1_choose_11 rfl (lv_at hl 0 rfl) ?_
    refine rC_9_6 S hnX1 K hH (mG wd_27) dX1_choose_12 ?_
    refine lv_topi (fun v21 e21 => ?_)
    have f12 : v21 = σ 17 0 0 := by first | exact e21 | rw [e21, hP20 17 (by decide)]
    refine lv_iload_n S.1 S.2.1 dX1_choose_15 rfl (lv_at hl 1 rfl) ?_
    refine lv_icmp_ne (tgt := 20) S.1 S.2.1 dX1_choose_16 (by decide) (fun c22 => ?_) (fun c22 => ?_)
    · have j22 := t_neq c22
      refine lv_aload_n S.1 S.2.1 dX1_choose_20 rfl (lv_at hl 0 rfl) ?_
      refine lv_iconst (v := 0) S.1 S.2.1 dX1_choose_21 (by decide) ?_
      refine lv_iconst (v := 0) S.1 S.2.1 dX1_choose_22 (by decide) ?_
      refine lv_iconst (v := 0) S.1 S.2.1 dX1_choose_23 (by decide) ?_
      refine lv_lconst (v := 0) S.1 S.2.1 dX1_choose_24 (by decide) ?_
      refine cW_bv (cW_V (n := 4) (As := [.int 0, .int 0, .int 0, .long 0]) (rest := []) (k := 9) (i := 0) S K hH (by decide) rfl rfl (k_X1_take l D B L A σ20 τ 0 0 0 0 hI) gX1_choose_X1_take rfl hdV_X1_take ⟨Nat.le_of_ble_eq_true rfl, Nat.le_of_ble_eq_true rfl⟩ rfl hl.1 (Nat.le_of_ble_eq_true rfl) dX1_choose_25) hS (fun σ23 τ23 H locs q23 hH hS => ?_)
      obtain ⟨hI, hP23, q23⟩ := q23
      have hP := Keep_t hP hP23 (by decide)
      refine lv_iconst (v := 1) S.1 S.2.1 dX1_choose_28 (by decide) ?_
      refine lv_istore_n (lv' := [(2, .int 1), (0, .ref (L 9 0)), (1, .int within)]) S.1 S.2.1 dX1_choose_29 rfl hl (by decide) rfl (fun ls hl => ?_)
      have cut_30_24 : ∀ (n : Nat) (x2_24 : Int32) (σ_24 : QS) (τ_24 : Int64) (H : Heap) (locs : List Loc) (ls : Array Slot), (256 - x2_24.toInt).toNat < n → 1 ≤ x2_24.toInt ∧ x2_24.toInt ≤ 256 → (chRec (wkC (σ 11 0)) (mnC (σ 12 0)) (mnC (σ 13 0)) (σ 15 0 0) within.toInt x2_24.toInt (σ_24 18 0 0) (σ_24 19 0 0).toInt (σ_24 20 0 0).toInt τ_24.toInt) → (waysOk (wkC (σ 11 0)) (mnC (σ 12 0)) (σ 15 0 0) (σ_24 14 0) 256 ∧ σ_24 16 0 0 ≠ 0) → InvC σ_24 → Keep [14, 16, 17, 18, 19, 20] σ σ_24 → hW cntC gC D B L σ_24 τ_24 H → va_S A s.heap H locs → lv_has ls 3 [(0, .ref (L 9 0)), (1, .int within), (2, .int x2_24)] → W p l e { frames := 5, cells := 0, slots := 0, locals := 119 } s m [.ref (L 9 0), .int within].toArray below meth c H locs 0 0 (MQ below (QcW cntC gC D B L A (pV (fun σ' τ' => InvC σ' ∧ Keep [14, 16, 17, 18, 19, 20] σ σ' ∧ (σ' 16 0 0 ≠ 0 ∧ waysOk (wkC (σ 11 0)) (mnC (σ 12 0)) (σ 15 0 0) (σ' 14 0) 256 ∧ σ' 17 0 0 = within ∧ chRec (wkC (σ 11 0)) (mnC (σ 12 0)) (mnC (σ 13 0)) (σ 15 0 0) within.toInt 256 (σ' 18 0 0) (σ' 19 0 0).toInt (σ' 20 0 0).toInt τ'.toInt)))) [.ref (L 9 0), .int within].toArray s 0 0 A) (F0 m 30 ls []) := by
        intro n
        induction n with
        | zero => intro x2_24 σ_24 τ_24 H locs ls hm; exact absurd hm (Nat.not_lt_zero _)
        | succ n ih24 =>
          intro x2_24 σ_24 τ_24 H locs ls hm24 h24_0 wh wg hI hP hH hS hl
          refine lv_iload_n S.1 S.2.1 dX1_choose_30 rfl (lv_at hl 2 rfl) ?_
          refine lv_sipush (v := 256) S.1 S.2.1 dX1_choose_31 (by decide) ?_
          refine lv_icmp_ge (tgt := 72) S.1 S.2.1 dX1_choose_34 (by decide) (fun c25 => ?_) (fun c25 => ?_)
          · have j25 := t_le c25
            refine lv_aload_n S.1 S.2.1 dX1_choose_72 rfl (lv_at hl 0 rfl) ?_
            refine lv_iload_n S.1 S.2.1 dX1_choose_73 rfl (lv_at hl 1 rfl) ?_
            refine pC_9_6 S hnX1 K hH hS (mG wd_27) dX1_choose_74 (fun H locs hH hS => ?_)
            obtain ⟨σ26, eσ26⟩ : ∃ z_9 : QS, z_9 = rs σ_24 17 0 (fun _ => within) := ⟨_, rfl⟩
            rw [← eσ26] at hH
            have hI := InvC_f eσ26 hI (by decide) (any32 _)
            have hP := Keep_w eσ26 hP (by decide)
            refine cW_vret S hr hk hH hS ?_ dX1_choose_77
            exact ⟨rfl, hI, hP, by have h9 : x2_24.toInt = 256 := (by omega); rw [h9] at wh; exact ⟨by rw [eσ26, rs_v (by decide)]; exact wg.2, by rw [eσ26, rs_v (by decide)]; exact wg.1, by rw [eσ26, rs_self], by rw [eσ26, rs_v (by decide), rs_v (by decide), rs_v (by decide)]; exact wh⟩⟩
          · have j25 := t_nle c25
            refine lv_iload_n S.1 S.2.1 dX1_choose_37 rfl (lv_at hl 2 rfl) ?_
            refine lv_aload_n S.1 S.2.1 dX1_choose_38 rfl (lv_at hl 0 rfl) ?_
            refine rC_9_4 S hnX1 K hH (mG wd_25) dX1_choose_39 ?_
            refine lv_topi (fun v27 e27 => ?_)
            have b27 : 0 ≤ v27.toInt ∧ v27.toInt ≤ 255 := by rw [e27]; exact hI.1 15 0 0
            have f39 : v27 = σ 15 0 0 := by rw [e27, hP 15 (by decide)]
            refine lv_iconst (v := (-1)) S.1 S.2.1 dX1_choose_42 (by decide) ?_
            refine lv_ixor S.1 S.2.1 dX1_choose_43 ?_
            refine lv_topi (fun v28 e28 => ?_)
            refine lv_iand S.1 S.2.1 dX1_choose_44 ?_
            refine lv_topi (fun v29 e29 => ?_)
            have i29 : 0 ≤ v29.toInt ∧ v29.toInt ≤ x2_24.toInt := i_andl e29 (by omega)
            refine lv_if_ne (tgt := 66) S.1 S.2.1 dX1_choose_45 (by decide) (fun c30 => ?_) (fun c30 => ?_)
            · have j30 := t_neq c30
              obtain ⟨v31, e31⟩ : ∃ y_9 : Int32, y_9 = x2_24 + 1 := ⟨_, rfl⟩
              have i31 : v31.toInt = x2_24.toInt + 1 := i_addc e31 (by decide) (by omega) (by omega)
              refine lv_iinc (v := v31) (lv' := [(2, .int v31), (0, .ref (L 9 0)), (1, .int within)]) S.1 S.2.1 dX1_choose_66 hl (k := 2) rfl (by rw [e31]; rfl) (by decide) rfl (fun ls hl => ?_)
              refine lv_goto (tgt := 30) S.1 S.2.1 dX1_choose_69 (by decide) ?_
              exact ih24 v31 σ_24 τ_24 _ _ ls (by omega) (by omega) (by rw [i31]; first | exact chW wg.1 (by omega) (by omega) hsub wh (by rw [← f56]; omega) hw63 | exact chRec_skip wg.1 (by omega) (by omega) wh (Or.inr (by rw [← f56]; omega)) | exact chRec_skip wg.1 (by omega) (by omega) wh (Or.inl (fun z => absurd ((has_sub (by omega) (by omega)).mpr z) (by rw [← f39, ← e28, ← e29]; assumption)))) (by first | exact ⟨by rw [hP18 14 (by decide)]; exact wg.1, by rw [hP18 16 (by decide)]; exact wg.2⟩ | exact wg) hI hP hH hS (lv_sub hl [1, 2, 0] rfl)
            · have j30 := t_eq c30
              have hsub : subS x2_24 (σ 15 0 0) := (has_sub (by omega) (by omega)).mp (by rw [← f39, ← e28, ← e29]; assumption)
              refine lv_aload_n S.1 S.2.1 dX1_choose_48 rfl (lv_at hl 0 rfl) ?_
              refine rC_9_3 S hnX1 K hH (mG wd_24) dX1_choose_49 ?_
              refine lv_iload_n S.1 S.2.1 dX1_choose_52 rfl (lv_at hl 2 rfl) ?_
              refine lv_bipush (v := 9) S.1 S.2.1 dX1_choose_53 (by decide) ?_
              refine lv_imul S.1 S.2.1 dX1_choose_55 ?_
              refine lv_topi (fun v32 e32 => ?_)
              have i32 : v32.toInt = 9 * x2_24.toInt := i_mulcr e32 (by decide) (by omega) (by omega)
              refine lC_13 S K hH (vin (by omega) (by omega)) dX1_choose_56 ?_
              refine lv_topi (fun v33 e33 => ?_)
              have b33 : 0 ≤ v33.toInt ∧ v33.toInt ≤ 1000000 := by rw [e33]; exact hI.1 14 0 v32.toNatClampNeg
              have f56 : v33.toInt = wyG (σ_24 14 0) 0 x2_24 := by rw [e33, ix9z i32 (by omega)]; rfl
              refine lv_iload_n S.1 S.2.1 dX1_choose_57 rfl (lv_at hl 1 rfl) ?_
              refine lv_icmp_gt (tgt := 66) S.1 S.2.1 dX1_choose_58 (by decide) (fun c34 => ?_) (fun c34 => ?_)
              · have j34 := t_lt c34
                obtain ⟨v35, e35⟩ : ∃ y_9 : Int32, y_9 = x2_24 + 1 := ⟨_, rfl⟩
                have i35 : v35.toInt = x2_24.toInt + 1 := i_addc e35 (by decide) (by omega) (by omega)
                refine lv_iinc (v := v35) (lv' := [(2, .int v35), (0, .ref (L 9 0)), (1, .int within)]) S.1 S.2.1 dX1_choose_66 hl (k := 2) rfl (by rw [e35]; rfl) (by decide) rfl (fun ls hl => ?_)
                refine lv_goto (tgt := 30) S.1 S.2.1 dX1_choose_69 (by decide) ?_
                exact ih24 v35 σ_24 τ_24 _ _ ls (by omega) (by omega) (by rw [i35]; first | exact chW wg.1 (by omega) (by omega) hsub wh (by rw [← f56]; omega) hw63 | exact chRec_skip wg.1 (by omega) (by omega) wh (Or.inr (by rw [← f56]; omega)) | exact chRec_skip wg.1 (by omega) (by omega) wh (Or.inl (fun z => absurd ((has_sub (by omega) (by omega)).mpr z) (by rw [← f39, ← e28, ← e29]; assumption)))) (by first | exact ⟨by rw [hP18 14 (by decide)]; exact wg.1, by rw [hP18 16 (by decide)]; exact wg.2⟩ | exact wg) hI hP hH hS (lv_sub hl [1, 2, 0] rfl)
              · have j34 := t_nlt c34
                have hPx := hP
                refine lv_aload_n S.1 S.2.1 dX1_choose_61 rfl (lv_at hl 0 rfl) ?_
                refine lv_iload_n S.1 S.2.1 dX1_choose_62 rfl (lv_at hl 2 rfl) ?_
                refine cW_bv (cW_V (n := 1) (As := [.int x2_24]) (rest := []) (k := 9) (i := 0) S K hH (by decide) rfl rfl (k_X1_weigh l D B L A σ_24 τ_24 x2_24 (by omega) hI (by rw [hP 11 (by decide), hP 12 (by decide), hP 15 (by decide)]; exact wg.1) (by rw [hP 15 (by decide)]; exact hsub)) gX1_choose_X1_weigh rfl hdV_X1_weigh ⟨Nat.le_of_ble_eq_true rfl, Nat.le_of_ble_eq_true rfl⟩ rfl hl.1 (Nat.le_of_ble_eq_true rfl) dX1_choose_63) hS (fun σ36 τ36 H locs q36 hH hS => ?_)
                obtain ⟨hI, hP36, q36⟩ := q36
                have hP := Keep_t hP hP36 (by decide)
                have hw63 : wgP (σ 11 0) (σ 12 0) (σ 13 0) (σ_24 14 0) x2_24 (σ_24 18) (σ_24 19) (σ_24 20) (σ36 18) (σ36 19) (σ36 20) τ_24 τ36 := by rw [← hPx 11 (by decide), ← hPx 12 (by decide), ← hPx 13 (by decide)]; exact q36
                obtain ⟨v37, e37⟩ : ∃ y_9 : Int32, y_9 = x2_24 + 1 := ⟨_, rfl⟩
                have i37 : v37.toInt = x2_24.toInt + 1 := i_addc e37 (by decide) (by omega) (by omega)
                refine lv_iinc (v := v37) (lv' := [(2, .int v37), (0, .ref (L 9 0)), (1, .int within)]) S.1 S.2.1 dX1_choose_66 hl (k := 2) rfl (by rw [e37]; rfl) (by decide) rfl (fun ls hl => ?_)
                refine lv_goto (tgt := 30) S.1 S.2.1 dX1_choose_69 (by decide) ?_
                exact ih24 v37 σ36 τ36 _ _ ls (by omega) (by omega) (by rw [i37]; first | exact chW wg.1 (by omega) (by omega) hsub wh (by rw [← f56]; omega) hw63 | exact chRec_skip wg.1 (by omega) (by omega) wh (Or.inr (by rw [← f56]; omega)) | exact chRec_skip wg.1 (by omega) (by omega) wh (Or.inl (fun z => absurd ((has_sub (by omega) (by omega)).mpr z) (by rw [← f39, ← e28, ← e29]; assumption)))) (by first | exact ⟨by rw [hP36 14 (by decide)]; exact wg.1, by rw [hP36 16 (by decide)]; exact wg.2⟩ | exact wg) hI hP hH hS (lv_sub hl [1, 2, 0] rfl)
      exact cut_30_24 _ 1 σ23 τ23 _ _ ls (Nat.lt_succ_self _) (by omega) (by rw [(q23).1, (q23).2.1, (q23).2.2.1, (q23).2.2.2, l0, l1]; exact chRec_0 (by omega)) (by exact ⟨by rw [hP23 14 (by decide)]; exact hw9.1, by rw [hP23 16 (by decide)]; exact hw9.2⟩) hI hP hH hS (lv_sub hl [1, 2, 0] rfl)
    · have j22 := t_eq c22
      refine cW_vret S hr hk hH hS ?_ dX1_choose_19
      exact ⟨rfl, hI, hP, by have hc9 := hp2.2.resolve_left (by rw [← f12]; omega); rw [← f12] at hc9; refine ⟨hw9.2, hw9.1, by first | exact f12.symm.trans (Int32.toInt_inj.mp (by omega)) | (rw [hP20 17 (by decide)]; exact f12.symm.trans (Int32.toInt_inj.mp (by omega))), ?_⟩; have h8 : v21.toInt = within.toInt := (by omega); rw [h8] at hc9; first | exact hc9 | (rw [hP20 18 (by decide), hP20 19 (by decide), hP20 20 (by decide)]; exact hc9)⟩
set_option maxHeartbeats 4000000 in
set_option maxRecDepth 100000 in
theorem k_X1_chosenShop (l : Launch) (D : va_G) (B : Nat → ClassId) (L : QL) (A : Nat → Prop) (σ : QS) (τ : Int64) (k : Int32)  (hp0 : 0 ≤ k.toInt ∧ k.toInt ≤ 7) : cW cntC gC l D B L A yX1_chosenShop wsX1_chosenShop 0 0 [.ref (L 9 0), .int k] σ τ (pI (fun x σ' τ' => σ' = σ ∧ τ' = τ ∧ (((digS τ k).toInt = 0 ∧ x.toInt = -1) ∨ ((digS τ k).toInt ≠ 0 ∧ x = digS τ k)))) := by
  refine cW_of (cc := cX1_chosenShop) (nL := 3) (ret := (some .int)) (by decide) rfl (Nat.le_of_ble_eq_true rfl) ?_
  intro p e s m below meth c S hr hk K hH hS ls hl
  have hnX1 : ∀ w ∈ wsX10, w ∈ wsX1_chosenShop := fun w h => mG (tX1 w h)
  have lm1 : ((-1) : Int32).toInt = -1 := by decide
  have l0 : (0 : Int32).toInt = 0 := by decide
  have l4 : (4 : Int32).toInt = 4 := by decide
  have l7 : (7 : Int32).toInt = 7 := by decide
  have l15 : (15 : Int32).toInt = 15 := by decide
  have hl : lv_has ls 3 [(0, .ref (L 9 0)), (1, .int k)] := hl
  refine lv_aload_n S.1 S.2.1 dX1_chosenShop_0 rfl (lv_at hl 0 rfl) ?_
  refine rC_9_10 S hnX1 K hH (mG wd_31) dX1_chosenShop_1 ?_
  refine lv_topl (fun v1 e1 => ?_)
  refine lv_iconst (v := 4) S.1 S.2.1 dX1_chosenShop_4 (by decide) ?_
  refine lv_bipush (v := 7) S.1 S.2.1 dX1_chosenShop_5 (by decide) ?_
  refine lv_iload_n S.1 S.2.1 dX1_chosenShop_7 rfl (lv_at hl 1 rfl) ?_
  refine lv_isub S.1 S.2.1 dX1_chosenShop_8 ?_
  refine lv_topi (fun v2 e2 => ?_)
  have i2 : v2.toInt = (7 : Int32).toInt - k.toInt := i_sub e2 (by omega) (by omega)
  refine lv_imul S.1 S.2.1 dX1_chosenShop_9 ?_
  refine lv_topi (fun v3 e3 => ?_)
  have i3 : v3.toInt = 4 * v2.toInt := i_mulcl e3 (by decide) (by omega) (by omega)
  refine lv_lshr S.1 S.2.1 dX1_chosenShop_10 rfl ?_
  refine lv_topl (fun v4 e4 => ?_)
  refine lv_l2i S.1 S.2.1 dX1_chosenShop_11 rfl ?_
  refine lv_topi (fun v5 e5 => ?_)
  refine lv_bipush (v := 15) S.1 S.2.1 dX1_chosenShop_12 (by decide) ?_
  refine lv_iand S.1 S.2.1 dX1_chosenShop_14 ?_
  refine lv_topi (fun v6 e6 => ?_)
  have i6 : 0 ≤ v6.toInt ∧ v6.toInt ≤ (15 : Int32).toInt := i_andr e6 (by omega)
  have hd9 : v6 = digS τ k := by rw [e6, e5, e4, e3, e2, e1]; rfl
  refine lv_istore_n (lv' := [(2, .int v6), (0, .ref (L 9 0)), (1, .int k)]) S.1 S.2.1 dX1_chosenShop_15 rfl hl (by decide) rfl (fun ls hl => ?_)
  refine lv_iload_n S.1 S.2.1 dX1_chosenShop_16 rfl (lv_at hl 0 rfl) ?_
  refine lv_if_ne (tgt := 24) S.1 S.2.1 dX1_chosenShop_17 (by decide) (fun c7 => ?_) (fun c7 => ?_)
  · have j7 := t_neq c7
    refine lv_iload_n S.1 S.2.1 dX1_chosenShop_24 rfl (lv_at hl 0 rfl) ?_
    refine cW_iret S hr hk hH hS ?_ dX1_chosenShop_25
    exact ⟨v6, rfl, rfl, rfl, by first | exact Or.inl ⟨by rw [← hd9]; omega, by omega⟩ | exact Or.inr ⟨by rw [← hd9]; omega, hd9⟩⟩
  · have j7 := t_eq c7
    refine lv_iconst (v := (-1)) S.1 S.2.1 dX1_chosenShop_20 (by decide) ?_
    refine lv_goto (tgt := 25) S.1 S.2.1 dX1_chosenShop_21 (by decide) ?_
    refine cW_iret S hr hk hH hS ?_ dX1_chosenShop_25
    exact ⟨(-1), rfl, rfl, rfl, by first | exact Or.inl ⟨by rw [← hd9]; omega, by omega⟩ | exact Or.inr ⟨by rw [← hd9]; omega, hd9⟩⟩
