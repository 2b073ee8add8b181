set_option maxHeartbeats 4000000 in
set_option maxRecDepth 100000 in
theorem k_X4_isPlace (l : Launch) (D : va_G) (B : Nat → ClassId) (L : QL) (A : Nat → Prop) (σ : QS) (τ : Int64) (w : Int32)   : cW cntC gC l D B L A yX4_isPlace wsX4_isPlace 1 22 [.int w] σ τ (pI (fun x σ' τ' => σ' = σ ∧ τ' = τ ∧ ((x.toInt = 1 ∧ 0 ≤ w.toInt ∧ w.toInt ≤ 11) ∨ (x.toInt = 0 ∧ (w.toInt < 0 ∨ 11 < w.toInt))))) := by
  refine cW_of (cc := cX4_isPlace) (nL := 1) (ret := (some .boolean)) (by decide) rfl (Nat.le_of_ble_eq_true rfl) ?_
  intro p e s m below meth c S hr hk K hH hS ls hl
  have l0 : (0 : Int32).toInt = 0 := by decide
  have l11 : (11 : Int32).toInt = 11 := by decide
  have hl : lv_has ls 1 [(0, .int w)] := hl
  refine lv_iload_n S.1 S.2.1 dX4_isPlace_0 rfl (lv_at hl 0 rfl) ?_
  refine lv_iconst (v := 0) S.1 S.2.1 dX4_isPlace_1 (by decide) ?_
  refine lv_bipush (v := 11) S.1 S.2.1 dX4_isPlace_2 (by decide) ?_
  refine cW_bpi (cW_S (n := 3) (As := [.int w, .int 0, .int 11]) (rest := []) S K hH (k_X4_isIn l D B L A σ τ w 0 11 ) gX4_isPlace_X4_isIn rfl hdS_X4_isIn ⟨Nat.le_of_ble_eq_true rfl, Nat.le_of_ble_eq_true rfl⟩ rfl hl.1 (Nat.le_of_ble_eq_true rfl) dX4_isPlace_4) hS (fun v1 H locs q1 hH hS => ?_)
  refine cW_zret S hr hk hH hS (nz (by omega)) ?_ dX4_isPlace_7
  exact ⟨v1, rfl, rfl, rfl, by omega⟩
set_option maxHeartbeats 4000000 in
set_option maxRecDepth 100000 in
theorem k_X4_isCart (l : Launch) (D : va_G) (B : Nat → ClassId) (L : QL) (A : Nat → Prop) (σ : QS) (τ : Int64) (n9 : Int32)  (hI : InvC σ) : cW cntC gC l D B L A yX4_isCart wsX4_isCart 1 22 [.ref (L 0 0), .int n9] σ τ (pI (fun x σ' τ' => σ' = σ ∧ τ' = τ ∧ ((x.toInt = 1 ∧ 0 ≤ n9.toInt ∧ n9.toInt ≤ 11 ∧ n9.toInt < (σ 3 0 0).toInt) ∨ (x.toInt = 0 ∧ (n9.toInt < 0 ∨ (σ 3 0 0).toInt ≤ n9.toInt))))) := by
  refine cW_of (cc := cX4_isCart) (nL := 2) (ret := (some .boolean)) (by decide) rfl (Nat.le_of_ble_eq_true rfl) ?_
  intro p e s m below meth c S hr hk K hH hS ls hl
  have hnX3 : ∀ w ∈ wsX30, w ∈ wsX4_isCart := fun w h => mG (tX3 w h)
  have hnX4 : ∀ w ∈ wsX40, w ∈ wsX4_isCart := fun w h => mG (tX4 w h)
  have l0 : (0 : Int32).toInt = 0 := by decide
  have l1 : (1 : Int32).toInt = 1 := by decide
  have hl : lv_has ls 2 [(0, .ref (L 0 0)), (1, .int n9)] := hl
  refine lv_iload_n S.1 S.2.1 dX4_isCart_0 rfl (lv_at hl 1 rfl) ?_
  refine lv_iconst (v := 0) S.1 S.2.1 dX4_isCart_1 (by decide) ?_
  refine lv_aload_n S.1 S.2.1 dX4_isCart_2 rfl (lv_at hl 0 rfl) ?_
  refine rC_0_0 S hnX4 K hH (mG wd_149) dX4_isCart_3 ?_
  refine rC_2_1 S hnX3 K hH (mG wd_166) dX4_isCart_6 ?_
  refine lv_topi (fun v1 e1 => ?_)
  have b1 : 0 ≤ v1.toInt ∧ v1.toInt ≤ 12 := by rw [e1]; exact hI.1 3 0 0
  refine lv_iconst (v := 1) S.1 S.2.1 dX4_isCart_9 (by decide) ?_
  refine lv_isub S.1 S.2.1 dX4_isCart_10 ?_
  refine lv_topi (fun v2 e2 => ?_)
  have i2 : v2.toInt = v1.toInt - (1 : Int32).toInt := i_sub e2 (by omega) (by omega)
  refine cW_bpi (cW_S (n := 3) (As := [.int n9, .int 0, .int v2]) (rest := []) S K hH (k_X4_isIn l D B L A σ τ n9 0 v2 ) gX4_isCart_X4_isIn rfl hdS_X4_isIn ⟨Nat.le_of_ble_eq_true rfl, Nat.le_of_ble_eq_true rfl⟩ rfl hl.1 (Nat.le_of_ble_eq_true rfl) dX4_isCart_11) hS (fun v3 H locs q3 hH hS => ?_)
  refine cW_zret S hr hk hH hS (nz (by omega)) ?_ dX4_isCart_14
  exact ⟨v3, rfl, rfl, rfl, by rw [← e1]; omega⟩
set_option maxHeartbeats 4000000 in
set_option maxRecDepth 100000 in
theorem k_X4_areTerms (l : Launch) (D : va_G) (B : Nat → ClassId) (L : QL) (A : Nat → Prop) (σ : QS) (τ : Int64) (a : Int32) (r : Int32) (f : Int32)   : cW cntC gC l D B L A yX4_areTerms wsX4_areTerms 1 22 [.int a, .int r, .int f] σ τ (pI (fun x σ' τ' => σ' = σ ∧ τ' = τ ∧ ((x.toInt = 1 ∧ (0 ≤ a.toInt ∧ a.toInt ≤ 127 ∧ 0 ≤ r.toInt ∧ r.toInt ≤ 50 ∧ 0 ≤ f.toInt ∧ f.toInt ≤ 20)) ∨ (x.toInt = 0 ∧ ¬ (0 ≤ a.toInt ∧ a.toInt ≤ 127 ∧ 0 ≤ r.toInt ∧ r.toInt ≤ 50 ∧ 0 ≤ f.toInt ∧ f.toInt ≤ 20))))) := by
  refine cW_of (cc := cX4_areTerms) (nL := 3) (ret := (some .boolean)) (by decide) rfl (Nat.le_of_ble_eq_true rfl) ?_
  intro p e s m below meth c S hr hk K hH hS ls hl
  have l0 : (0 : Int32).toInt = 0 := by decide
  have l1 : (1 : Int32).toInt = 1 := by decide
  have l20 : (20 : Int32).toInt = 20 := by decide
  have l50 : (50 : Int32).toInt = 50 := by decide
  have l127 : (127 : Int32).toInt = 127 := by decide
  have hl : lv_has ls 3 [(0, .int a), (1, .int r), (2, .int f)] := hl
  refine lv_iload_n S.1 S.2.1 dX4_areTerms_0 rfl (lv_at hl 0 rfl) ?_
  refine lv_iconst (v := 0) S.1 S.2.1 dX4_areTerms_1 (by decide) ?_
  refine lv_bipush (v := 127) S.1 S.2.1 dX4_areTerms_2 (by decide) ?_
  refine cW_bpi (cW_S (n := 3) (As := [.int a, .int 0, .int 127]) (rest := []) S K hH (k_X4_isIn l D B L A σ τ a 0 127 ) gX4_areTerms_X4_isIn rfl hdS_X4_isIn ⟨Nat.le_of_ble_eq_true rfl, Nat.le_of_ble_eq_true rfl⟩ rfl hl.1 (Nat.le_of_ble_eq_true rfl) dX4_areTerms_4) hS (fun v1 H locs q1 hH hS => ?_)
  refine lv_if_eq (tgt := 34) S.1 S.2.1 dX4_areTerms_7 (by decide) (fun c2 => ?_) (fun c2 => ?_)
  · have j2 := t_eq c2
    refine lv_iconst (v := 0) S.1 S.2.1 dX4_areTerms_34 (by decide) ?_
    refine cW_zret S hr hk hH hS (by decide) ?_ dX4_areTerms_35
    exact ⟨0, rfl, rfl, rfl, by omega⟩
  · have j2 := t_neq c2
    refine lv_iload_n S.1 S.2.1 dX4_areTerms_10 rfl (lv_at hl 1 rfl) ?_
    refine lv_iconst (v := 0) S.1 S.2.1 dX4_areTerms_11 (by decide) ?_
    refine lv_bipush (v := 50) S.1 S.2.1 dX4_areTerms_12 (by decide) ?_
    refine cW_bpi (cW_S (n := 3) (As := [.int r, .int 0, .int 50]) (rest := []) S K hH (k_X4_isIn l D B L A σ τ r 0 50 ) gX4_areTerms_X4_isIn rfl hdS_X4_isIn ⟨Nat.le_of_ble_eq_true rfl, Nat.le_of_ble_eq_true rfl⟩ rfl hl.1 (Nat.le_of_ble_eq_true rfl) dX4_areTerms_14) hS (fun v3 H locs q3 hH hS => ?_)
    refine lv_if_eq (tgt := 34) S.1 S.2.1 dX4_areTerms_17 (by decide) (fun c4 => ?_) (fun c4 => ?_)
    · have j4 := t_eq c4
      refine lv_iconst (v := 0) S.1 S.2.1 dX4_areTerms_34 (by decide) ?_
      refine cW_zret S hr hk hH hS (by decide) ?_ dX4_areTerms_35
      exact ⟨0, rfl, rfl, rfl, by omega⟩
    · have j4 := t_neq c4
      refine lv_iload_n S.1 S.2.1 dX4_areTerms_20 rfl (lv_at hl 2 rfl) ?_
      refine lv_iconst (v := 0) S.1 S.2.1 dX4_areTerms_21 (by decide) ?_
      refine lv_bipush (v := 20) S.1 S.2.1 dX4_areTerms_22 (by decide) ?_
      refine cW_bpi (cW_S (n := 3) (As := [.int f, .int 0, .int 20]) (rest := []) S K hH (k_X4_isIn l D B L A σ τ f 0 20 ) gX4_areTerms_X4_isIn rfl hdS_X4_isIn ⟨Nat.le_of_ble_eq_true rfl, Nat.le_of_ble_eq_true rfl⟩ rfl hl.1 (Nat.le_of_ble_eq_true rfl) dX4_areTerms_24) hS (fun v5 H locs q5 hH hS => ?_)
      refine lv_if_eq (tgt := 34) S.1 S.2.1 dX4_areTerms_27 (by decide) (fun c6 => ?_) (fun c6 => ?_)
      · have j6 := t_eq c6
        refine lv_iconst (v := 0) S.1 S.2.1 dX4_areTerms_34 (by decide) ?_
        refine cW_zret S hr hk hH hS (by decide) ?_ dX4_areTerms_35
        exact ⟨0, rfl, rfl, rfl, by omega⟩
      · have j6 := t_neq c6
        refine lv_iconst (v := 1) S.1 S.2.1 dX4_areTerms_30 (by decide) ?_
        refine lv_goto (tgt := 35) S.1 S.2.1 dX4_areTerms_31 (by decide) ?_
        refine cW_zret S hr hk hH hS (by decide) ?_ dX4_areTerms_35
        exact ⟨1, rfl, rfl, rfl, by omega⟩
set_option maxHeartbeats 4000000 in
set_option maxRecDepth 100000 in
theorem k_X4_cart (l : Launch) (D : va_G) (B : Nat → ClassId) (L : QL) (A : Nat → Prop) (σ : QS) (τ : Int64) (a : Int32) (h : Int32) (r : Int32) (f : Int32) (z : Int32)  (hI : InvC σ) : cW cntC gC l D B L A yX4_cart wsX4_cart 3 72 [.ref (L 0 0), .int a, .int h, .int r, .int f, .int z] σ τ (pI (fun x σ' τ' => InvC σ' ∧ Keep [3, 22, 21, 23, 24, 27, 28, 26, 6, 7, 4, 8] σ σ' ∧ τ' = τ ∧ ((x.toInt = -1 ∧ σ' 3 = σ 3 ∧ ¬ (0 ≤ a.toInt ∧ a.toInt ≤ 127 ∧ 0 ≤ h.toInt ∧ h.toInt ≤ 23 ∧ 0 ≤ r.toInt ∧ r.toInt ≤ 50 ∧ 0 ≤ f.toInt ∧ f.toInt ≤ 20 ∧ 0 ≤ z.toInt ∧ z.toInt ≤ 11 ∧ (σ 3 0 0).toInt < 12)) ∨ ((0 ≤ a.toInt ∧ a.toInt ≤ 127 ∧ 0 ≤ h.toInt ∧ h.toInt ≤ 23 ∧ 0 ≤ r.toInt ∧ r.toInt ≤ 50 ∧ 0 ≤ f.toInt ∧ f.toInt ≤ 20 ∧ 0 ≤ z.toInt ∧ z.toInt ≤ 11 ∧ (σ 3 0 0).toInt < 12) ∧ x.toInt = (σ 3 0 0).toInt ∧ (σ' 3 0 0).toInt = (σ 3 0 0).toInt + 1)))) := by
  refine cW_of (cc := cX4_cart) (nL := 8) (ret := (some .int)) (by decide) rfl (Nat.le_of_ble_eq_true rfl) ?_
  intro p e s m below meth c S hr hk K hH hS ls hl
  have hnX0 : ∀ w ∈ wsX00, w ∈ wsX4_cart := fun w h => mG (tX0 w h)
  have hnX3 : ∀ w ∈ wsX30, w ∈ wsX4_cart := fun w h => mG (tX3 w h)
  have hnX4 : ∀ w ∈ wsX40, w ∈ wsX4_cart := fun w h => mG (tX4 w h)
  have lm1 : ((-1) : Int32).toInt = -1 := by decide
  have l0 : (0 : Int32).toInt = 0 := by decide
  have l1 : (1 : Int32).toInt = 1 := by decide
  have l12 : (12 : Int32).toInt = 12 := by decide
  have l23 : (23 : Int32).toInt = 23 := by decide
  have hP : Keep [3, 22, 21, 23, 24, 27, 28, 26, 6, 7, 4, 8] σ σ := Keep_r
  have hl : lv_has ls 8 [(0, .ref (L 0 0)), (1, .int a), (2, .int h), (3, .int r), (4, .int f), (5, .int z)] := hl
  refine lv_iload_n S.1 S.2.1 dX4_cart_0 rfl (lv_at hl 1 rfl) ?_
  refine lv_iload_n S.1 S.2.1 dX4_cart_1 rfl (lv_at hl 3 rfl) ?_
  refine lv_iload S.1 S.2.1 dX4_cart_2 (lv_at hl 4 rfl) ?_
  refine cW_bpi (cW_S (n := 3) (As := [.int a, .int r, .int f]) (rest := []) S K hH (k_X4_areTerms l D B L A σ τ a r f ) gX4_cart_X4_areTerms rfl hdS_X4_areTerms ⟨Nat.le_of_ble_eq_true rfl, Nat.le_of_ble_eq_true rfl⟩ rfl hl.1 (Nat.le_of_ble_eq_true rfl) dX4_cart_4) hS (fun v1 H locs q1 hH hS => ?_)
  refine lv_if_eq (tgt := 28) S.1 S.2.1 dX4_cart_7 (by decide) (fun c2 => ?_) (fun c2 => ?_)
  · have j2 := t_eq c2
    refine lv_iconst (v := (-1)) S.1 S.2.1 dX4_cart_28 (by decide) ?_
    refine cW_iret S hr hk hH hS ?_ dX4_cart_29
    exact ⟨(-1), rfl, hI, hP, rfl, by exact Or.inl ⟨by decide, rfl, by omega⟩⟩
  · have j2 := t_neq c2
    refine lv_iload_n S.1 S.2.1 dX4_cart_10 rfl (lv_at hl 2 rfl) ?_
    refine lv_iconst (v := 0) S.1 S.2.1 dX4_cart_11 (by decide) ?_
    refine lv_bipush (v := 23) S.1 S.2.1 dX4_cart_12 (by decide) ?_
    refine cW_bpi (cW_S (n := 3) (As := [.int h, .int 0, .int 23]) (rest := []) S K hH (k_X4_isIn l D B L A σ τ h 0 23 ) gX4_cart_X4_isIn rfl hdS_X4_isIn ⟨Nat.le_of_ble_eq_true rfl, Nat.le_of_ble_eq_true rfl⟩ rfl hl.1 (Nat.le_of_ble_eq_true rfl) dX4_cart_14) hS (fun v3 H locs q3 hH hS => ?_)
    refine lv_if_eq (tgt := 28) S.1 S.2.1 dX4_cart_17 (by decide) (fun c4 => ?_) (fun c4 => ?_)
    · have j4 := t_eq c4
      refine lv_iconst (v := (-1)) S.1 S.2.1 dX4_cart_28 (by decide) ?_
      refine cW_iret S hr hk hH hS ?_ dX4_cart_29
      exact ⟨(-1), rfl, hI, hP, rfl, by exact Or.inl ⟨by decide, rfl, by omega⟩⟩
    · have j4 := t_neq c4
      refine lv_iload S.1 S.2.1 dX4_cart_20 (lv_at hl 5 rfl) ?_
      refine cW_bpi (cW_S (n := 1) (As := [.int z]) (rest := []) S K hH (k_X4_isPlace l D B L A σ τ z ) gX4_cart_X4_isPlace rfl hdS_X4_isPlace ⟨Nat.le_of_ble_eq_true rfl, Nat.le_of_ble_eq_true rfl⟩ rfl hl.1 (Nat.le_of_ble_eq_true rfl) dX4_cart_22) hS (fun v5 H locs q5 hH hS => ?_)
      refine lv_if_ne (tgt := 30) S.1 S.2.1 dX4_cart_25 (by decide) (fun c6 => ?_) (fun c6 => ?_)
      · have j6 := t_neq c6
        refine lv_aload_n S.1 S.2.1 dX4_cart_30 rfl (lv_at hl 0 rfl) ?_
        refine rC_0_0 S hnX4 K hH (mG wd_149) dX4_cart_31 ?_
        refine rC_2_1 S hnX3 K hH (mG wd_166) dX4_cart_34 ?_
        refine lv_topi (fun v7 e7 => ?_)
        have b7 : 0 ≤ v7.toInt ∧ v7.toInt ≤ 12 := by rw [e7]; exact hI.1 3 0 0
        refine lv_bipush (v := 12) S.1 S.2.1 dX4_cart_37 (by decide) ?_
        refine lv_icmp_lt (tgt := 44) S.1 S.2.1 dX4_cart_39 (by decide) (fun c8 => ?_) (fun c8 => ?_)
        · have j8 := t_lt c8
          refine lv_aload_n S.1 S.2.1 dX4_cart_44 rfl (lv_at hl 0 rfl) ?_
          refine rC_0_0 S hnX4 K hH (mG wd_149) dX4_cart_45 ?_
          refine rC_2_1 S hnX3 K hH (mG wd_166) dX4_cart_48 ?_
          refine lv_topi (fun v9 e9 => ?_)
          have b9 : 0 ≤ v9.toInt ∧ v9.toInt ≤ 12 := by rw [e9]; exact hI.1 3 0 0
          have k9 : v9.toInt = v7.toInt := by rw [e9]; rw [← e7]
          refine lv_istore (lv' := [(6, .int v9), (0, .ref (L 0 0)), (1, .int a), (2, .int h), (3, .int r), (4, .int f), (5, .int z)]) S.1 S.2.1 dX4_cart_51 hl (by decide) rfl (fun ls hl => ?_)
          refine lv_aload_n S.1 S.2.1 dX4_cart_53 rfl (lv_at hl 1 rfl) ?_
          refine rC_0_0 S hnX4 K hH (mG wd_149) dX4_cart_54 ?_
          refine lv_iload S.1 S.2.1 dX4_cart_57 (lv_at hl 0 rfl) ?_
          refine lv_iconst (v := 1) S.1 S.2.1 dX4_cart_59 (by decide) ?_
          refine lv_iadd S.1 S.2.1 dX4_cart_60 ?_
          refine lv_topi (fun v10 e10 => ?_)
          have i10 : v10.toInt = v9.toInt + (1 : Int32).toInt := i_add e10 (by omega) (by omega)
          refine pC_2_1 S hnX3 K hH hS (mG wd_166) dX4_cart_61 (fun H locs hH hS => ?_)
          obtain ⟨σ11, eσ11⟩ : ∃ z_9 : QS, z_9 = rs σ 3 0 (fun _ => v10) := ⟨_, rfl⟩
          rw [← eσ11] at hH
          have hI := InvC_f eσ11 hI (by decide) (show (0 : Int) ≤ v10.toInt ∧ v10.toInt ≤ 12 by omega)
          have hP := Keep_w eσ11 hP (by decide)
          refine lv_aload_n S.1 S.2.1 dX4_cart_64 rfl (lv_at hl 1 rfl) ?_
          refine rC_0_0 S hnX4 K hH (mG wd_149) dX4_cart_65 ?_
          refine rC_2_0 S hnX3 K hH (mG wd_167) dX4_cart_68 ?_
          refine lv_iload S.1 S.2.1 dX4_cart_71 (lv_at hl 0 rfl) ?_
          refine lC_3 S K hH (vin (by omega) (by omega)) dX4_cart_73 ?_
          refine lv_astore (lv' := [(7, .ref (L 14 v9.toNatClampNeg)), (6, .int v9), (0, .ref (L 0 0)), (1, .int a), (2, .int h), (3, .int r), (4, .int f), (5, .int z)]) S.1 S.2.1 dX4_cart_74 hl (by decide) rfl (fun ls hl => ?_)
          refine lv_aload S.1 S.2.1 dX4_cart_76 (lv_at hl 0 rfl) ?_
          refine lv_iload_n S.1 S.2.1 dX4_cart_78 rfl (lv_at hl 4 rfl) ?_
          refine pC_14_1 S hnX0 K hH hS (cl_lt (n := 12) (by omega) (by omega)) (mG wd_168) dX4_cart_79 (fun H locs hH hS => ?_)
          obtain ⟨σ12, eσ12⟩ : ∃ z_9 : QS, z_9 = rs σ11 22 v9.toNatClampNeg (fun _ => h) := ⟨_, rfl⟩
          rw [← eσ12] at hH
          have hI := InvC_f eσ12 hI (by decide) (show (0 : Int) ≤ h.toInt ∧ h.toInt ≤ 23 by omega)
          have hP := Keep_w eσ12 hP (by decide)
          refine lv_aload S.1 S.2.1 dX4_cart_82 (lv_at hl 0 rfl) ?_
          refine lv_iload_n S.1 S.2.1 dX4_cart_84 rfl (lv_at hl 3 rfl) ?_
          refine lv_iload_n S.1 S.2.1 dX4_cart_85 rfl (lv_at hl 5 rfl) ?_
          refine lv_iload S.1 S.2.1 dX4_cart_86 (lv_at hl 6 rfl) ?_
          refine cW_bv (cW_V (n := 3) (As := [.int a, .int r, .int f]) (rest := []) (k := 14) (i := v9.toNatClampNeg) S K hH (cl_lt (n := 12) (by omega) (by omega)) rfl rfl (k_X0_setTerms l D B L A σ12 τ v9.toNatClampNeg a r f (cl_lt (n := 12) (by omega) (by omega)) hI) gX4_cart_X0_setTerms rfl hdV_X0_setTerms ⟨Nat.le_of_ble_eq_true rfl, Nat.le_of_ble_eq_true rfl⟩ rfl hl.1 (Nat.le_of_ble_eq_true rfl) dX4_cart_88) hS (fun σ13 τ13 H locs q13 hH hS => ?_)
          obtain ⟨hI, hP13, hτ13, q13⟩ := q13
          rw [hτ13] at hH
          have hP := Keep_t hP hP13 (by decide)
          refine lv_aload_n S.1 S.2.1 dX4_cart_91 rfl (lv_at hl 2 rfl) ?_
          refine rC_0_0 S hnX4 K hH (mG wd_149) dX4_cart_92 ?_
          refine lv_iload S.1 S.2.1 dX4_cart_95 (lv_at hl 1 rfl) ?_
          refine lv_iload S.1 S.2.1 dX4_cart_97 (lv_at hl 7 rfl) ?_
          refine lv_iconst (v := 0) S.1 S.2.1 dX4_cart_99 (by decide) ?_
          refine cW_bv (cW_V (n := 3) (As := [.int v9, .int z, .int 0]) (rest := []) (k := 2) (i := 0) S K hH (by decide) rfl rfl (k_X3_addStop l D B L A σ13 τ v9 z 0 (by omega) (by omega) (by omega) hI) gX4_cart_X3_addStop rfl hdV_X3_addStop ⟨Nat.le_of_ble_eq_true rfl, Nat.le_of_ble_eq_true rfl⟩ rfl hl.1 (Nat.le_of_ble_eq_true rfl) dX4_cart_100) hS (fun σ14 τ14 H locs q14 hH hS => ?_)
          obtain ⟨hI, hP14, hτ14, q14⟩ := q14
          rw [hτ14] at hH
          have hP := Keep_t hP hP14 (by decide)
          refine lv_iload S.1 S.2.1 dX4_cart_103 (lv_at hl 1 rfl) ?_
          refine cW_iret S hr hk hH hS ?_ dX4_cart_105
          exact ⟨v9, rfl, hI, hP, rfl, by refine Or.inr ?_; rw [hP14 3 (by decide), hP13 3 (by decide), eσ12, rs_v (by decide), eσ11, rs_self, ← e7]; omega⟩
        · have j8 := t_nlt c8
          refine lv_iconst (v := (-1)) S.1 S.2.1 dX4_cart_42 (by decide) ?_
          refine cW_iret S hr hk hH hS ?_ dX4_cart_43
          exact ⟨(-1), rfl, hI, hP, rfl, by exact Or.inl ⟨by decide, rfl, by rw [← e7]; omega⟩⟩
      · have j6 := t_eq c6
        refine lv_iconst (v := (-1)) S.1 S.2.1 dX4_cart_28 (by decide) ?_
        refine cW_iret S hr hk hH hS ?_ dX4_cart_29
        exact ⟨(-1), rfl, hI, hP, rfl, by exact Or.inl ⟨by decide, rfl, by omega⟩⟩
set_option maxHeartbeats 4000000 in
set_option maxRecDepth 100000 in
theorem k_X4_stop (l : Launch) (D : va_G) (B : Nat → ClassId) (L : QL) (A : Nat → Prop) (σ : QS) (τ : Int64) (a : Int32) (b : Int32) (z : Int32)  (hI : InvC σ) : cW cntC gC l D B L A yX4_stop wsX4_stop 3 72 [.ref (L 0 0), .int a, .int b, .int z] σ τ (pI (fun x σ' τ' => InvC σ' ∧ Keep [27, 28, 26, 6, 7, 4, 8] σ σ' ∧ τ' = τ ∧ True)) := by
  refine cW_of (cc := cX4_stop) (nL := 5) (ret := (some .int)) (by decide) rfl (Nat.le_of_ble_eq_true rfl) ?_
  intro p e s m below meth c S hr hk K hH hS ls hl
  have hnX0 : ∀ w ∈ wsX00, w ∈ wsX4_stop := fun w h => mG (tX0 w h)
  have hnX3 : ∀ w ∈ wsX30, w ∈ wsX4_stop := fun w h => mG (tX3 w h)
  have hnX4 : ∀ w ∈ wsX40, w ∈ wsX4_stop := fun w h => mG (tX4 w h)
  have lm1 : ((-1) : Int32).toInt = -1 := by decide
  have l0 : (0 : Int32).toInt = 0 := by decide
  have l6 : (6 : Int32).toInt = 6 := by decide
  have l60 : (60 : Int32).toInt = 60 := by decide
  have hP : Keep [27, 28, 26, 6, 7, 4, 8] σ σ := Keep_r
  have hl : lv_has ls 5 [(0, .ref (L 0 0)), (1, .int a), (2, .int b), (3, .int z)] := hl
  refine lv_aload_n S.1 S.2.1 dX4_stop_0 rfl (lv_at hl 0 rfl) ?_
  refine lv_iload_n S.1 S.2.1 dX4_stop_1 rfl (lv_at hl 1 rfl) ?_
  refine cW_bpi (cW_V (n := 1) (As := [.int a]) (rest := []) (k := 0) (i := 0) S K hH (by decide) rfl rfl (k_X4_isCart l D B L A σ τ a hI) gX4_stop_X4_isCart rfl hdV_X4_isCart ⟨Nat.le_of_ble_eq_true rfl, Nat.le_of_ble_eq_true rfl⟩ rfl hl.1 (Nat.le_of_ble_eq_true rfl) dX4_stop_2) hS (fun v1 H locs q1 hH hS => ?_)
  refine lv_if_eq (tgt := 21) S.1 S.2.1 dX4_stop_5 (by decide) (fun c2 => ?_) (fun c2 => ?_)
  · have j2 := t_eq c2
    refine lv_iconst (v := (-1)) S.1 S.2.1 dX4_stop_21 (by decide) ?_
    refine cW_iret S hr hk hH hS ?_ dX4_stop_22
    exact ⟨(-1), rfl, hI, hP, rfl, by trivial⟩
  · have j2 := t_neq c2
    refine lv_iload_n S.1 S.2.1 dX4_stop_8 rfl (lv_at hl 2 rfl) ?_
    refine cW_bpi (cW_S (n := 1) (As := [.int b]) (rest := []) S K hH (k_X4_isPlace l D B L A σ τ b ) gX4_stop_X4_isPlace rfl hdS_X4_isPlace ⟨Nat.le_of_ble_eq_true rfl, Nat.le_of_ble_eq_true rfl⟩ rfl hl.1 (Nat.le_of_ble_eq_true rfl) dX4_stop_9) hS (fun v3 H locs q3 hH hS => ?_)
    refine lv_if_eq (tgt := 21) S.1 S.2.1 dX4_stop_12 (by decide) (fun c4 => ?_) (fun c4 => ?_)
    · have j4 := t_eq c4
      refine lv_iconst (v := (-1)) S.1 S.2.1 dX4_stop_21 (by decide) ?_
      refine cW_iret S hr hk hH hS ?_ dX4_stop_22
      exact ⟨(-1), rfl, hI, hP, rfl, by trivial⟩
    · have j4 := t_neq c4
      refine lv_iload_n S.1 S.2.1 dX4_stop_15 rfl (lv_at hl 3 rfl) ?_
      refine lv_bipush (v := 60) S.1 S.2.1 dX4_stop_16 (by decide) ?_
      refine lv_icmp_le (tgt := 23) S.1 S.2.1 dX4_stop_18 (by decide) (fun c5 => ?_) (fun c5 => ?_)
      · have j5 := t_le c5
        refine lv_aload_n S.1 S.2.1 dX4_stop_23 rfl (lv_at hl 0 rfl) ?_
        refine rC_0_0 S hnX4 K hH (mG wd_149) dX4_stop_24 ?_
        refine rC_2_0 S hnX3 K hH (mG wd_167) dX4_stop_27 ?_
        refine lv_iload_n S.1 S.2.1 dX4_stop_30 rfl (lv_at hl 1 rfl) ?_
        refine lC_3 S K hH (vin (by omega) (by omega)) dX4_stop_31 ?_
        refine lv_astore (lv' := [(4, .ref (L 14 a.toNatClampNeg)), (0, .ref (L 0 0)), (1, .int a), (2, .int b), (3, .int z)]) S.1 S.2.1 dX4_stop_32 hl (by decide) rfl (fun ls hl => ?_)
        refine lv_aload S.1 S.2.1 dX4_stop_34 (lv_at hl 0 rfl) ?_
        refine rC_14_5 S hnX0 K hH (cl_lt (n := 12) (by omega) (by omega)) (mG wd_179) dX4_stop_36 ?_
        refine lv_topi (fun v6 e6 => ?_)
        have b6 : 0 ≤ v6.toInt ∧ v6.toInt ≤ 6 := by rw [e6]; exact hI.1 26 a.toNatClampNeg 0
        refine lv_bipush (v := 6) S.1 S.2.1 dX4_stop_39 (by decide) ?_
        refine lv_icmp_ge (tgt := 61) S.1 S.2.1 dX4_stop_41 (by decide) (fun c7 => ?_) (fun c7 => ?_)
        · have j7 := t_le c7
          refine lv_iconst (v := (-1)) S.1 S.2.1 dX4_stop_61 (by decide) ?_
          refine cW_iret S hr hk hH hS ?_ dX4_stop_62
          exact ⟨(-1), rfl, hI, hP, rfl, by trivial⟩
        · have j7 := t_nle c7
          refine lv_iload_n S.1 S.2.1 dX4_stop_44 rfl (lv_at hl 4 rfl) ?_
          refine lv_aload S.1 S.2.1 dX4_stop_45 (lv_at hl 0 rfl) ?_
          refine cW_bpi (cW_V (n := 0) (As := []) (rest := [.int z]) (k := 14) (i := a.toNatClampNeg) S K hH (cl_lt (n := 12) (by omega) (by omega)) rfl rfl (k_X0_lastOffset l D B L A σ τ a.toNatClampNeg (cl_lt (n := 12) (by omega) (by omega)) hI) gX4_stop_X0_lastOffset rfl hdV_X0_lastOffset ⟨Nat.le_of_ble_eq_true rfl, Nat.le_of_ble_eq_true rfl⟩ rfl hl.1 (Nat.le_of_ble_eq_true rfl) dX4_stop_47) hS (fun v8 H locs q8 hH hS => ?_)
          refine lv_icmp_le (tgt := 61) S.1 S.2.1 dX4_stop_50 (by decide) (fun c9 => ?_) (fun c9 => ?_)
          · have j9 := t_le c9
            refine lv_iconst (v := (-1)) S.1 S.2.1 dX4_stop_61 (by decide) ?_
            refine cW_iret S hr hk hH hS ?_ dX4_stop_62
            exact ⟨(-1), rfl, hI, hP, rfl, by trivial⟩
          · have j9 := t_nle c9
            refine lv_aload S.1 S.2.1 dX4_stop_53 (lv_at hl 0 rfl) ?_
            refine cW_bpi (cW_V (n := 0) (As := []) (rest := []) (k := 14) (i := a.toNatClampNeg) S K hH (cl_lt (n := 12) (by omega) (by omega)) rfl rfl (k_X0_isLaden l D B L A σ τ a.toNatClampNeg (cl_lt (n := 12) (by omega) (by omega))) gX4_stop_X0_isLaden rfl hdV_X0_isLaden ⟨Nat.le_of_ble_eq_true rfl, Nat.le_of_ble_eq_true rfl⟩ rfl hl.1 (Nat.le_of_ble_eq_true rfl) dX4_stop_55) hS (fun v10 H locs q10 hH hS => ?_)
            refine lv_if_eq (tgt := 63) S.1 S.2.1 dX4_stop_58 (by decide) (fun c11 => ?_) (fun c11 => ?_)
            · have j11 := t_eq c11
              refine lv_aload_n S.1 S.2.1 dX4_stop_63 rfl (lv_at hl 1 rfl) ?_
              refine rC_0_0 S hnX4 K hH (mG wd_149) dX4_stop_64 ?_
              refine lv_iload_n S.1 S.2.1 dX4_stop_67 rfl (lv_at hl 2 rfl) ?_
              refine lv_iload_n S.1 S.2.1 dX4_stop_68 rfl (lv_at hl 3 rfl) ?_
              refine lv_iload_n S.1 S.2.1 dX4_stop_69 rfl (lv_at hl 4 rfl) ?_
              refine cW_bv (cW_V (n := 3) (As := [.int a, .int b, .int z]) (rest := []) (k := 2) (i := 0) S K hH (by decide) rfl rfl (k_X3_addStop l D B L A σ τ a b z (by omega) (by omega) (by omega) hI) gX4_stop_X3_addStop rfl hdV_X3_addStop ⟨Nat.le_of_ble_eq_true rfl, Nat.le_of_ble_eq_true rfl⟩ rfl hl.1 (Nat.le_of_ble_eq_true rfl) dX4_stop_70) hS (fun σ12 τ12 H locs q12 hH hS => ?_)
              obtain ⟨hI, hP12, hτ12, q12⟩ := q12
              rw [hτ12] at hH
              have hP := Keep_t hP hP12 (by decide)
              refine lv_aload S.1 S.2.1 dX4_stop_73 (lv_at hl 0 rfl) ?_
              refine rC_14_5 S hnX0 K hH (cl_lt (n := 12) (by omega) (by omega)) (mG wd_179) dX4_stop_75 ?_
              refine lv_topi (fun v13 e13 => ?_)
              have b13 : 0 ≤ v13.toInt ∧ v13.toInt ≤ 6 := by rw [e13]; exact hI.1 26 a.toNatClampNeg 0
              refine cW_iret S hr hk hH hS ?_ dX4_stop_78
              exact ⟨v13, rfl, hI, hP, rfl, by trivial⟩
            · have j11 := t_neq c11
              refine lv_iconst (v := (-1)) S.1 S.2.1 dX4_stop_61 (by decide) ?_
              refine cW_iret S hr hk hH hS ?_ dX4_stop_62
              exact ⟨(-1), rfl, hI, hP, rfl, by trivial⟩
      · have j5 := t_nle c5
        refine lv_iconst (v := (-1)) S.1 S.2.1 dX4_stop_21 (by decide) ?_
        refine cW_iret S hr hk hH hS ?_ dX4_stop_22
        exact ⟨(-1), rfl, hI, hP, rfl, by trivial⟩
set_option maxHeartbeats 4000000 in
set_option maxRecDepth 100000 in
theorem k_X4_change (l : Launch) (D : va_G) (B : Nat → ClassId) (L : QL) (A : Nat → Prop) (σ : QS) (τ : Int64) (a : Int32) (b : Int32) (r : Int32) (f : Int32)  (hI : InvC σ) : cW cntC gC l D B L A yX4_change wsX4_change 2 47 [.ref (L 0 0), .int a, .int b, .int r, .int f] σ τ (pI (fun x σ' τ' => InvC σ' ∧ Keep [21, 23, 24, 4, 8] σ σ' ∧ τ' = τ ∧ True)) := by
  refine cW_of (cc := cX4_change) (nL := 6) (ret := (some .boolean)) (by decide) rfl (Nat.le_of_ble_eq_true rfl) ?_
  intro p e s m below meth c S hr hk K hH hS ls hl
  have hnX0 : ∀ w ∈ wsX00, w ∈ wsX4_change := fun w h => mG (tX0 w h)
  have hnX3 : ∀ w ∈ wsX30, w ∈ wsX4_change := fun w h => mG (tX3 w h)
  have hnX4 : ∀ w ∈ wsX40, w ∈ wsX4_change := fun w h => mG (tX4 w h)
  have l0 : (0 : Int32).toInt = 0 := by decide
  have l1 : (1 : Int32).toInt = 1 := by decide
  have hP : Keep [21, 23, 24, 4, 8] σ σ := Keep_r
  have hl : lv_has ls 6 [(0, .ref (L 0 0)), (1, .int a), (2, .int b), (3, .int r), (4, .int f)] := hl
  refine lv_aload_n S.1 S.2.1 dX4_change_0 rfl (lv_at hl 0 rfl) ?_
  refine lv_iload_n S.1 S.2.1 dX4_change_1 rfl (lv_at hl 1 rfl) ?_
  refine cW_bpi (cW_V (n := 1) (As := [.int a]) (rest := []) (k := 0) (i := 0) S K hH (by decide) rfl rfl (k_X4_isCart l D B L A σ τ a hI) gX4_change_X4_isCart rfl hdV_X4_isCart ⟨Nat.le_of_ble_eq_true rfl, Nat.le_of_ble_eq_true rfl⟩ rfl hl.1 (Nat.le_of_ble_eq_true rfl) dX4_change_2) hS (fun v1 H locs q1 hH hS => ?_)
  refine lv_if_eq (tgt := 18) S.1 S.2.1 dX4_change_5 (by decide) (fun c2 => ?_) (fun c2 => ?_)
  · have j2 := t_eq c2
    refine lv_iconst (v := 0) S.1 S.2.1 dX4_change_18 (by decide) ?_
    refine cW_zret S hr hk hH hS (by decide) ?_ dX4_change_19
    exact ⟨0, rfl, hI, hP, rfl, by trivial⟩
  · have j2 := t_neq c2
    refine lv_iload_n S.1 S.2.1 dX4_change_8 rfl (lv_at hl 2 rfl) ?_
    refine lv_iload_n S.1 S.2.1 dX4_change_9 rfl (lv_at hl 3 rfl) ?_
    refine lv_iload S.1 S.2.1 dX4_change_10 (lv_at hl 4 rfl) ?_
    refine cW_bpi (cW_S (n := 3) (As := [.int b, .int r, .int f]) (rest := []) S K hH (k_X4_areTerms l D B L A σ τ b r f ) gX4_change_X4_areTerms rfl hdS_X4_areTerms ⟨Nat.le_of_ble_eq_true rfl, Nat.le_of_ble_eq_true rfl⟩ rfl hl.1 (Nat.le_of_ble_eq_true rfl) dX4_change_12) hS (fun v3 H locs q3 hH hS => ?_)
    refine lv_if_ne (tgt := 20) S.1 S.2.1 dX4_change_15 (by decide) (fun c4 => ?_) (fun c4 => ?_)
    · have j4 := t_neq c4
      refine lv_aload_n S.1 S.2.1 dX4_change_20 rfl (lv_at hl 0 rfl) ?_
      refine rC_0_0 S hnX4 K hH (mG wd_149) dX4_change_21 ?_
      refine rC_2_0 S hnX3 K hH (mG wd_167) dX4_change_24 ?_
      refine lv_iload_n S.1 S.2.1 dX4_change_27 rfl (lv_at hl 1 rfl) ?_
      refine lC_3 S K hH (vin (by omega) (by omega)) dX4_change_28 ?_
      refine lv_astore (lv' := [(5, .ref (L 14 a.toNatClampNeg)), (0, .ref (L 0 0)), (1, .int a), (2, .int b), (3, .int r), (4, .int f)]) S.1 S.2.1 dX4_change_29 hl (by decide) rfl (fun ls hl => ?_)
      refine lv_aload S.1 S.2.1 dX4_change_31 (lv_at hl 0 rfl) ?_
      refine cW_bpi (cW_V (n := 0) (As := []) (rest := []) (k := 14) (i := a.toNatClampNeg) S K hH (cl_lt (n := 12) (by omega) (by omega)) rfl rfl (k_X0_isLaden l D B L A σ τ a.toNatClampNeg (cl_lt (n := 12) (by omega) (by omega))) gX4_change_X0_isLaden rfl hdV_X0_isLaden ⟨Nat.le_of_ble_eq_true rfl, Nat.le_of_ble_eq_true rfl⟩ rfl hl.1 (Nat.le_of_ble_eq_true rfl) dX4_change_33) hS (fun v5 H locs q5 hH hS => ?_)
      refine lv_if_eq (tgt := 41) S.1 S.2.1 dX4_change_36 (by decide) (fun c6 => ?_) (fun c6 => ?_)
      · have j6 := t_eq c6
        refine lv_aload S.1 S.2.1 dX4_change_41 (lv_at hl 0 rfl) ?_
        refine lv_iload_n S.1 S.2.1 dX4_change_43 rfl (lv_at hl 3 rfl) ?_
        refine lv_iload_n S.1 S.2.1 dX4_change_44 rfl (lv_at hl 4 rfl) ?_
        refine lv_iload S.1 S.2.1 dX4_change_45 (lv_at hl 5 rfl) ?_
        refine cW_bv (cW_V (n := 3) (As := [.int b, .int r, .int f]) (rest := []) (k := 14) (i := a.toNatClampNeg) S K hH (cl_lt (n := 12) (by omega) (by omega)) rfl rfl (k_X0_setTerms l D B L A σ τ a.toNatClampNeg b r f (cl_lt (n := 12) (by omega) (by omega)) hI) gX4_change_X0_setTerms rfl hdV_X0_setTerms ⟨Nat.le_of_ble_eq_true rfl, Nat.le_of_ble_eq_true rfl⟩ rfl hl.1 (Nat.le_of_ble_eq_true rfl) dX4_change_47) hS (fun σ7 τ7 H locs q7 hH hS => ?_)
        obtain ⟨hI, hP7, hτ7, q7⟩ := q7
        rw [hτ7] at hH
        have hP := Keep_t hP hP7 (by decide)
        refine lv_aload_n S.1 S.2.1 dX4_change_50 rfl (lv_at hl 1 rfl) ?_
        refine rC_0_0 S hnX4 K hH (mG wd_149) dX4_change_51 ?_
        refine cW_bv (cW_V (n := 0) (As := []) (rest := []) (k := 2) (i := 0) S K hH (by decide) rfl rfl (k_X3_renew l D B L A σ7 τ  hI) gX4_change_X3_renew rfl hdV_X3_renew ⟨Nat.le_of_ble_eq_true rfl, Nat.le_of_ble_eq_true rfl⟩ rfl hl.1 (Nat.le_of_ble_eq_true rfl) dX4_change_54) hS (fun σ8 τ8 H locs q8 hH hS => ?_)
        obtain ⟨hI, hP8, hτ8, q8⟩ := q8
        rw [hτ8] at hH
        have hP := Keep_t hP hP8 (by decide)
        refine lv_iconst (v := 1) S.1 S.2.1 dX4_change_57 (by decide) ?_
        refine cW_zret S hr hk hH hS (by decide) ?_ dX4_change_58
        exact ⟨1, rfl, hI, hP, rfl, by trivial⟩
      · have j6 := t_neq c6
        refine lv_iconst (v := 0) S.1 S.2.1 dX4_change_39 (by decide) ?_
        refine cW_zret S hr hk hH hS (by decide) ?_ dX4_change_40
        exact ⟨0, rfl, hI, hP, rfl, by trivial⟩
    · have j4 := t_eq c4
      refine lv_iconst (v := 0) S.1 S.2.1 dX4_change_18 (by decide) ?_
      refine cW_zret S hr hk hH hS (by decide) ?_ dX4_change_19
      exact ⟨0, rfl, hI, hP, rfl, by trivial⟩
set_option maxHeartbeats 4000000 in
set_option maxRecDepth 100000 in
theorem k_X4_snow (l : Launch) (D : va_G) (B : Nat → ClassId) (L : QL) (A : Nat → Prop) (σ : QS) (τ : Int64) (a : Int32) (b : Int32)  (hI : InvC σ) : cW cntC gC l D B L A yX4_snow wsX4_snow 2 47 [.ref (L 0 0), .int a, .int b] σ τ (pI (fun x σ' τ' => InvC σ' ∧ Keep [29, 2, 4, 8] σ σ' ∧ τ' = τ ∧ ((x.toInt = 0 ∧ σ' 29 = σ 29 ∧ σ' 2 = σ 2 ∧ ¬ (0 ≤ a.toInt ∧ a.toInt < (σ 3 0 0).toInt ∧ (σ 1 0 0).toInt / 24 + 1 ≤ b.toInt ∧ b.toInt ≤ 300 ∧ (σ 2 0 0).toInt < 100 ∧ snB (σ 29 a.toNatClampNeg) b = 0)) ∨ (x.toInt = 1 ∧ (0 ≤ a.toInt ∧ a.toInt < (σ 3 0 0).toInt ∧ (σ 1 0 0).toInt / 24 + 1 ≤ b.toInt ∧ b.toInt ≤ 300 ∧ (σ 2 0 0).toInt < 100 ∧ snB (σ 29 a.toNatClampNeg) b = 0) ∧ (σ' 2 0 0).toInt = (σ 2 0 0).toInt + 1 ∧ σ' 29 = rs σ 29 a.toNatClampNeg (snA (σ 29 a.toNatClampNeg) b) 29)))) := by
  refine cW_of (cc := cX4_snow) (nL := 4) (ret := (some .boolean)) (by decide) rfl (Nat.le_of_ble_eq_true rfl) ?_
  intro p e s m below meth c S hr hk K hH hS ls hl
  have hnX0 : ∀ w ∈ wsX00, w ∈ wsX4_snow := fun w h => mG (tX0 w h)
  have hnX3 : ∀ w ∈ wsX30, w ∈ wsX4_snow := fun w h => mG (tX3 w h)
  have hnX4 : ∀ w ∈ wsX40, w ∈ wsX4_snow := fun w h => mG (tX4 w h)
  have l0 : (0 : Int32).toInt = 0 := by decide
  have l1 : (1 : Int32).toInt = 1 := by decide
  have l24 : (24 : Int32).toInt = 24 := by decide
  have l100 : (100 : Int32).toInt = 100 := by decide
  have l300 : (300 : Int32).toInt = 300 := by decide
  have hP : Keep [29, 2, 4, 8] σ σ := Keep_r
  have hl : lv_has ls 4 [(0, .ref (L 0 0)), (1, .int a), (2, .int b)] := hl
  refine lv_aload_n S.1 S.2.1 dX4_snow_0 rfl (lv_at hl 0 rfl) ?_
  refine lv_iload_n S.1 S.2.1 dX4_snow_1 rfl (lv_at hl 1 rfl) ?_
  refine cW_bpi (cW_V (n := 1) (As := [.int a]) (rest := []) (k := 0) (i := 0) S K hH (by decide) rfl rfl (k_X4_isCart l D B L A σ τ a hI) gX4_snow_X4_isCart rfl hdV_X4_isCart ⟨Nat.le_of_ble_eq_true rfl, Nat.le_of_ble_eq_true rfl⟩ rfl hl.1 (Nat.le_of_ble_eq_true rfl) dX4_snow_2) hS (fun v1 H locs q1 hH hS => ?_)
  refine lv_if_eq (tgt := 36) S.1 S.2.1 dX4_snow_5 (by decide) (fun c2 => ?_) (fun c2 => ?_)
  · have j2 := t_eq c2
    refine lv_iconst (v := 0) S.1 S.2.1 dX4_snow_36 (by decide) ?_
    refine cW_zret S hr hk hH hS (by decide) ?_ dX4_snow_37
    exact ⟨0, rfl, hI, hP, rfl, by exact Or.inl ⟨by decide, rfl, rfl, fun h9 => by obtain ⟨g1, g2, g3, g4, g5, -⟩ := h9; omega⟩⟩
  · have j2 := t_neq c2
    refine lv_iload_n S.1 S.2.1 dX4_snow_8 rfl (lv_at hl 2 rfl) ?_
    refine lv_aload_n S.1 S.2.1 dX4_snow_9 rfl (lv_at hl 0 rfl) ?_
    refine rC_0_4 S hnX4 K hH (mG wd_156) dX4_snow_10 ?_
    refine lv_topi (fun v3 e3 => ?_)
    have b3 : 0 ≤ v3.toInt ∧ v3.toInt ≤ 5000 := by rw [e3]; exact hI.1 1 0 0
    have fv3 : v3.toInt = (σ 1 0 0).toInt := by rw [e3]
    refine lv_bipush (v := 24) S.1 S.2.1 dX4_snow_13 (by decide) ?_
    refine lv_idiv S.1 S.2.1 dX4_snow_15 (by decide) ?_
    refine lv_topi (fun v4 e4 => ?_)
    have i4 : v4.toInt = v3.toInt / 24 := i_div e4 (by decide) (by decide) (by omega)
    refine lv_iconst (v := 1) S.1 S.2.1 dX4_snow_16 (by decide) ?_
    refine lv_iadd S.1 S.2.1 dX4_snow_17 ?_
    refine lv_topi (fun v5 e5 => ?_)
    have i5 : v5.toInt = v4.toInt + (1 : Int32).toInt := i_add e5 (by omega) (by omega)
    refine lv_sipush (v := 300) S.1 S.2.1 dX4_snow_18 (by decide) ?_
    refine cW_bpi (cW_S (n := 3) (As := [.int b, .int v5, .int 300]) (rest := []) S K hH (k_X4_isIn l D B L A σ τ b v5 300 ) gX4_snow_X4_isIn rfl hdS_X4_isIn ⟨Nat.le_of_ble_eq_true rfl, Nat.le_of_ble_eq_true rfl⟩ rfl hl.1 (Nat.le_of_ble_eq_true rfl) dX4_snow_21) hS (fun v6 H locs q6 hH hS => ?_)
    refine lv_if_eq (tgt := 36) S.1 S.2.1 dX4_snow_24 (by decide) (fun c7 => ?_) (fun c7 => ?_)
    · have j7 := t_eq c7
      refine lv_iconst (v := 0) S.1 S.2.1 dX4_snow_36 (by decide) ?_
      refine cW_zret S hr hk hH hS (by decide) ?_ dX4_snow_37
      exact ⟨0, rfl, hI, hP, rfl, by exact Or.inl ⟨by decide, rfl, rfl, fun h9 => by obtain ⟨g1, g2, g3, g4, g5, -⟩ := h9; omega⟩⟩
    · have j7 := t_neq c7
      refine lv_aload_n S.1 S.2.1 dX4_snow_27 rfl (lv_at hl 0 rfl) ?_
      refine rC_0_5 S hnX4 K hH (mG wd_157) dX4_snow_28 ?_
      refine lv_topi (fun v8 e8 => ?_)
      have b8 : 0 ≤ v8.toInt ∧ v8.toInt ≤ 100 := by rw [e8]; exact hI.1 2 0 0
      have fv8 : v8.toInt = (σ 2 0 0).toInt := by rw [e8]
      refine lv_bipush (v := 100) S.1 S.2.1 dX4_snow_31 (by decide) ?_
      refine lv_icmp_lt (tgt := 38) S.1 S.2.1 dX4_snow_33 (by decide) (fun c9 => ?_) (fun c9 => ?_)
      · have j9 := t_lt c9
        refine lv_aload_n S.1 S.2.1 dX4_snow_38 rfl (lv_at hl 0 rfl) ?_
        refine rC_0_0 S hnX4 K hH (mG wd_149) dX4_snow_39 ?_
        refine rC_2_0 S hnX3 K hH (mG wd_167) dX4_snow_42 ?_
        refine lv_iload_n S.1 S.2.1 dX4_snow_45 rfl (lv_at hl 1 rfl) ?_
        refine lC_3 S K hH (vin (by omega) (by omega)) dX4_snow_46 ?_
        refine lv_astore_n (lv' := [(3, .ref (L 14 a.toNatClampNeg)), (0, .ref (L 0 0)), (1, .int a), (2, .int b)]) S.1 S.2.1 dX4_snow_47 rfl hl (by decide) rfl (fun ls hl => ?_)
        refine lv_aload_n S.1 S.2.1 dX4_snow_48 rfl (lv_at hl 0 rfl) ?_
        refine lv_iload_n S.1 S.2.1 dX4_snow_49 rfl (lv_at hl 3 rfl) ?_
        refine cW_bpi (cW_V (n := 1) (As := [.int b]) (rest := []) (k := 14) (i := a.toNatClampNeg) S K hH (cl_lt (n := 12) (by omega) (by omega)) rfl rfl (k_X0_isSnowedIn l D B L A σ τ a.toNatClampNeg b (cl_lt (n := 12) (by omega) (by omega))) gX4_snow_X0_isSnowedIn rfl hdV_X0_isSnowedIn ⟨Nat.le_of_ble_eq_true rfl, Nat.le_of_ble_eq_true rfl⟩ rfl hl.1 (Nat.le_of_ble_eq_true rfl) dX4_snow_50) hS (fun v10 H locs q10 hH hS => ?_)
        refine lv_if_eq (tgt := 58) S.1 S.2.1 dX4_snow_53 (by decide) (fun c11 => ?_) (fun c11 => ?_)
        · have j11 := t_eq c11
          refine lv_aload_n S.1 S.2.1 dX4_snow_58 rfl (lv_at hl 0 rfl) ?_
          refine lv_iload_n S.1 S.2.1 dX4_snow_59 rfl (lv_at hl 3 rfl) ?_
          refine cW_bv (cW_V (n := 1) (As := [.int b]) (rest := []) (k := 14) (i := a.toNatClampNeg) S K hH (cl_lt (n := 12) (by omega) (by omega)) rfl rfl (k_X0_addSnow l D B L A σ τ a.toNatClampNeg b (cl_lt (n := 12) (by omega) (by omega)) (by omega) hI) gX4_snow_X0_addSnow rfl hdV_X0_addSnow ⟨Nat.le_of_ble_eq_true rfl, Nat.le_of_ble_eq_true rfl⟩ rfl hl.1 (Nat.le_of_ble_eq_true rfl) dX4_snow_60) hS (fun σ12 τ12 H locs q12 hH hS => ?_)
          obtain ⟨hI, hP12, hτ12, q12⟩ := q12
          rw [hτ12] at hH
          have hP := Keep_t hP hP12 (by decide)
          refine lv_aload_n S.1 S.2.1 dX4_snow_63 rfl (lv_at hl 1 rfl) ?_
          refine lv_dup S.1 S.2.1 dX4_snow_64 rfl ?_
          refine rC_0_5 S hnX4 K hH (mG wd_157) dX4_snow_65 ?_
          refine lv_topi (fun v13 e13 => ?_)
          have b13 : 0 ≤ v13.toInt ∧ v13.toInt ≤ 100 := by rw [e13]; exact hI.1 2 0 0
          have k13 : v13.toInt = v8.toInt := by rw [e13, hP12 2 (by decide)]; rw [← e8]
          refine lv_iconst (v := 1) S.1 S.2.1 dX4_snow_68 (by decide) ?_
          refine lv_iadd S.1 S.2.1 dX4_snow_69 ?_
          refine lv_topi (fun v14 e14 => ?_)
          have i14 : v14.toInt = v13.toInt + (1 : Int32).toInt := i_add e14 (by omega) (by omega)
          refine pC_0_5 S hnX4 K hH hS (mG wd_157) dX4_snow_70 (fun H locs hH hS => ?_)
          obtain ⟨σ15, eσ15⟩ : ∃ z_9 : QS, z_9 = rs σ12 2 0 (fun _ => v14) := ⟨_, rfl⟩
          rw [← eσ15] at hH
          have hI := InvC_f eσ15 hI (by decide) (show (0 : Int) ≤ v14.toInt ∧ v14.toInt ≤ 100 by omega)
          have hP := Keep_w eσ15 hP (by decide)
          refine lv_aload_n S.1 S.2.1 dX4_snow_73 rfl (lv_at hl 1 rfl) ?_
          refine rC_0_0 S hnX4 K hH (mG wd_149) dX4_snow_74 ?_
          refine cW_bv (cW_V (n := 0) (As := []) (rest := []) (k := 2) (i := 0) S K hH (by decide) rfl rfl (k_X3_renew l D B L A σ15 τ  hI) gX4_snow_X3_renew rfl hdV_X3_renew ⟨Nat.le_of_ble_eq_true rfl, Nat.le_of_ble_eq_true rfl⟩ rfl hl.1 (Nat.le_of_ble_eq_true rfl) dX4_snow_77) hS (fun σ16 τ16 H locs q16 hH hS => ?_)
          obtain ⟨hI, hP16, hτ16, q16⟩ := q16
          rw [hτ16] at hH
          have hP := Keep_t hP hP16 (by decide)
          refine lv_iconst (v := 1) S.1 S.2.1 dX4_snow_80 (by decide) ?_
          refine cW_zret S hr hk hH hS (by decide) ?_ dX4_snow_81
          exact ⟨1, rfl, hI, hP, rfl, by refine Or.inr ⟨by decide, ⟨by omega, by omega, by omega, by omega, by omega, ?_⟩, by rw [hP16 2 (by decide), eσ15, rs_self]; omega, by rw [hP16 29 (by decide), eσ15, rs_v (by decide)]; exact q12⟩; rcases q10 with q | q; exact absurd q.1 (by omega); exact q.2 (by omega) (by omega)⟩
        · have j11 := t_neq c11
          refine lv_iconst (v := 0) S.1 S.2.1 dX4_snow_56 (by decide) ?_
          refine cW_zret S hr hk hH hS (by decide) ?_ dX4_snow_57
          exact ⟨0, rfl, hI, hP, rfl, by exact Or.inl ⟨by decide, rfl, rfl, fun h9 => by rcases q10 with q | q; exact q.2.2.2 h9.2.2.2.2.2; exact absurd q.1 (by omega)⟩⟩
      · have j9 := t_nlt c9
        refine lv_iconst (v := 0) S.1 S.2.1 dX4_snow_36 (by decide) ?_
        refine cW_zret S hr hk hH hS (by decide) ?_ dX4_snow_37
        exact ⟨0, rfl, hI, hP, rfl, by exact Or.inl ⟨by decide, rfl, rfl, fun h9 => by obtain ⟨g1, g2, g3, g4, g5, -⟩ := h9; omega⟩⟩
set_option maxHeartbeats 4000000 in
set_option maxRecDepth 100000 in
theorem k_X4_runs (l : Launch) (D : va_G) (B : Nat → ClassId) (L : QL) (A : Nat → Prop) (σ : QS) (τ : Int64) (a : Int32) (b : Int32)  (hI : InvC σ) : cW cntC gC l D B L A yX4_runs wsX4_runs 2 43 [.ref (L 0 0), .int a, .int b] σ τ (pI (fun x σ' τ' => σ' = σ ∧ τ' = τ ∧ True)) := by
  refine cW_of (cc := cX4_runs) (nL := 3) (ret := (some .int)) (by decide) rfl (Nat.le_of_ble_eq_true rfl) ?_
  intro p e s m below meth c S hr hk K hH hS ls hl
  have hnX0 : ∀ w ∈ wsX00, w ∈ wsX4_runs := fun w h => mG (tX0 w h)
  have hnX3 : ∀ w ∈ wsX30, w ∈ wsX4_runs := fun w h => mG (tX3 w h)
  have hnX4 : ∀ w ∈ wsX40, w ∈ wsX4_runs := fun w h => mG (tX4 w h)
  have lm1 : ((-1) : Int32).toInt = -1 := by decide
  have l0 : (0 : Int32).toInt = 0 := by decide
  have l1 : (1 : Int32).toInt = 1 := by decide
  have l300 : (300 : Int32).toInt = 300 := by decide
  have hl : lv_has ls 3 [(0, .ref (L 0 0)), (1, .int a), (2, .int b)] := hl
  refine lv_aload_n S.1 S.2.1 dX4_runs_0 rfl (lv_at hl 0 rfl) ?_
  refine lv_iload_n S.1 S.2.1 dX4_runs_1 rfl (lv_at hl 1 rfl) ?_
  refine cW_bpi (cW_V (n := 1) (As := [.int a]) (rest := []) (k := 0) (i := 0) S K hH (by decide) rfl rfl (k_X4_isCart l D B L A σ τ a hI) gX4_runs_X4_isCart rfl hdV_X4_isCart ⟨Nat.le_of_ble_eq_true rfl, Nat.le_of_ble_eq_true rfl⟩ rfl hl.1 (Nat.le_of_ble_eq_true rfl) dX4_runs_2) hS (fun v1 H locs q1 hH hS => ?_)
  refine lv_if_eq (tgt := 19) S.1 S.2.1 dX4_runs_5 (by decide) (fun c2 => ?_) (fun c2 => ?_)
  · have j2 := t_eq c2
    refine lv_iconst (v := (-1)) S.1 S.2.1 dX4_runs_19 (by decide) ?_
    refine cW_iret S hr hk hH hS ?_ dX4_runs_20
    exact ⟨(-1), rfl, rfl, rfl, by trivial⟩
  · have j2 := t_neq c2
    refine lv_iload_n S.1 S.2.1 dX4_runs_8 rfl (lv_at hl 2 rfl) ?_
    refine lv_iconst (v := 0) S.1 S.2.1 dX4_runs_9 (by decide) ?_
    refine lv_sipush (v := 300) S.1 S.2.1 dX4_runs_10 (by decide) ?_
    refine cW_bpi (cW_S (n := 3) (As := [.int b, .int 0, .int 300]) (rest := []) S K hH (k_X4_isIn l D B L A σ τ b 0 300 ) gX4_runs_X4_isIn rfl hdS_X4_isIn ⟨Nat.le_of_ble_eq_true rfl, Nat.le_of_ble_eq_true rfl⟩ rfl hl.1 (Nat.le_of_ble_eq_true rfl) dX4_runs_13) hS (fun v3 H locs q3 hH hS => ?_)
    refine lv_if_ne (tgt := 21) S.1 S.2.1 dX4_runs_16 (by decide) (fun c4 => ?_) (fun c4 => ?_)
    · have j4 := t_neq c4
      refine lv_aload_n S.1 S.2.1 dX4_runs_21 rfl (lv_at hl 0 rfl) ?_
      refine rC_0_0 S hnX4 K hH (mG wd_149) dX4_runs_22 ?_
      refine rC_2_0 S hnX3 K hH (mG wd_167) dX4_runs_25 ?_
      refine lv_iload_n S.1 S.2.1 dX4_runs_28 rfl (lv_at hl 1 rfl) ?_
      refine lC_3 S K hH (vin (by omega) (by omega)) dX4_runs_29 ?_
      refine lv_iload_n S.1 S.2.1 dX4_runs_30 rfl (lv_at hl 2 rfl) ?_
      refine cW_bpi (cW_V (n := 1) (As := [.int b]) (rest := []) (k := 14) (i := a.toNatClampNeg) S K hH (cl_lt (n := 12) (by omega) (by omega)) rfl rfl (k_X0_goesOn l D B L A σ τ a.toNatClampNeg b (cl_lt (n := 12) (by omega) (by omega))) gX4_runs_X0_goesOn rfl hdV_X0_goesOn ⟨Nat.le_of_ble_eq_true rfl, Nat.le_of_ble_eq_true rfl⟩ rfl hl.1 (Nat.le_of_ble_eq_true rfl) dX4_runs_31) hS (fun v5 H locs q5 hH hS => ?_)
      refine lv_if_eq (tgt := 41) S.1 S.2.1 dX4_runs_34 (by decide) (fun c6 => ?_) (fun c6 => ?_)
      · have j6 := t_eq c6
        refine lv_iconst (v := 0) S.1 S.2.1 dX4_runs_41 (by decide) ?_
        refine cW_iret S hr hk hH hS ?_ dX4_runs_42
        exact ⟨0, rfl, rfl, rfl, by trivial⟩
      · have j6 := t_neq c6
        refine lv_iconst (v := 1) S.1 S.2.1 dX4_runs_37 (by decide) ?_
        refine lv_goto (tgt := 42) S.1 S.2.1 dX4_runs_38 (by decide) ?_
        refine cW_iret S hr hk hH hS ?_ dX4_runs_42
        exact ⟨1, rfl, rfl, rfl, by trivial⟩
    · have j4 := t_eq c4
      refine lv_iconst (v := (-1)) S.1 S.2.1 dX4_runs_19 (by decide) ?_
      refine cW_iret S hr hk hH hS ?_ dX4_runs_20
      exact ⟨(-1), rfl, rfl, rfl, by trivial⟩
set_option maxHeartbeats 4000000 in
set_option maxRecDepth 100000 in
theorem k_X4_fares (l : Launch) (D : va_G) (B : Nat → ClassId) (L : QL) (A : Nat → Prop) (σ : QS) (τ : Int64) (a : Int32)  (hI : InvC σ) : cW cntC gC l D B L A yX4_fares wsX4_fares 2 43 [.ref (L 0 0), .int a] σ τ (pI (fun x σ' τ' => σ' = σ ∧ τ' = τ ∧ True)) := by
  refine cW_of (cc := cX4_fares) (nL := 2) (ret := (some .int)) (by decide) rfl (Nat.le_of_ble_eq_true rfl) ?_
  intro p e s m below meth c S hr hk K hH hS ls hl
  have hnX0 : ∀ w ∈ wsX00, w ∈ wsX4_fares := fun w h => mG (tX0 w h)
  have hnX3 : ∀ w ∈ wsX30, w ∈ wsX4_fares := fun w h => mG (tX3 w h)
  have hnX4 : ∀ w ∈ wsX40, w ∈ wsX4_fares := fun w h => mG (tX4 w h)
  have lm1 : ((-1) : Int32).toInt = -1 := by decide
  have l0 : (0 : Int32).toInt = 0 := by decide
  have hl : lv_has ls 2 [(0, .ref (L 0 0)), (1, .int a)] := hl
  refine lv_aload_n S.1 S.2.1 dX4_fares_0 rfl (lv_at hl 0 rfl) ?_
  refine lv_iload_n S.1 S.2.1 dX4_fares_1 rfl (lv_at hl 1 rfl) ?_
  refine cW_bpi (cW_V (n := 1) (As := [.int a]) (rest := []) (k := 0) (i := 0) S K hH (by decide) rfl rfl (k_X4_isCart l D B L A σ τ a hI) gX4_fares_X4_isCart rfl hdV_X4_isCart ⟨Nat.le_of_ble_eq_true rfl, Nat.le_of_ble_eq_true rfl⟩ rfl hl.1 (Nat.le_of_ble_eq_true rfl) dX4_fares_2) hS (fun v1 H locs q1 hH hS => ?_)
  refine lv_if_eq (tgt := 23) S.1 S.2.1 dX4_fares_5 (by decide) (fun c2 => ?_) (fun c2 => ?_)
  · have j2 := t_eq c2
    refine lv_iconst (v := (-1)) S.1 S.2.1 dX4_fares_23 (by decide) ?_
    refine cW_iret S hr hk hH hS ?_ dX4_fares_24
    exact ⟨(-1), rfl, rfl, rfl, by trivial⟩
  · have j2 := t_neq c2
    refine lv_aload_n S.1 S.2.1 dX4_fares_8 rfl (lv_at hl 0 rfl) ?_
    refine rC_0_0 S hnX4 K hH (mG wd_149) dX4_fares_9 ?_
    refine rC_2_0 S hnX3 K hH (mG wd_167) dX4_fares_12 ?_
    refine lv_iload_n S.1 S.2.1 dX4_fares_15 rfl (lv_at hl 1 rfl) ?_
    refine lC_3 S K hH (vin (by omega) (by omega)) dX4_fares_16 ?_
    refine rC_14_4 S hnX0 K hH (cl_lt (n := 12) (by omega) (by omega)) (mG wd_197) dX4_fares_17 ?_
    refine lv_topi (fun v3 e3 => ?_)
    refine lv_goto (tgt := 24) S.1 S.2.1 dX4_fares_20 (by decide) ?_
    refine cW_iret S hr hk hH hS ?_ dX4_fares_24
    exact ⟨v3, rfl, rfl, rfl, by trivial⟩
set_option maxHeartbeats 4000000 in
set_option maxRecDepth 100000 in
theorem k_X4_room (l : Launch) (D : va_G) (B : Nat → ClassId) (L : QL) (A : Nat → Prop) (σ : QS) (τ : Int64) (a : Int32) (b : Int32)  (hI : InvC σ) : cW cntC gC l D B L A yX4_room wsX4_room 2 43 [.ref (L 0 0), .int a, .int b] σ τ (pI (fun x σ' τ' => σ' = σ ∧ τ' = τ ∧ True)) := by
  refine cW_of (cc := cX4_room) (nL := 3) (ret := (some .int)) (by decide) rfl (Nat.le_of_ble_eq_true rfl) ?_
  intro p e s m below meth c S hr hk K hH hS ls hl
  have hnX0 : ∀ w ∈ wsX00, w ∈ wsX4_room := fun w h => mG (tX0 w h)
  have hnX3 : ∀ w ∈ wsX30, w ∈ wsX4_room := fun w h => mG (tX3 w h)
  have hnX4 : ∀ w ∈ wsX40, w ∈ wsX4_room := fun w h => mG (tX4 w h)
  have lm1 : ((-1) : Int32).toInt = -1 := by decide
  have l0 : (0 : Int32).toInt = 0 := by decide
  have hl : lv_has ls 3 [(0, .ref (L 0 0)), (1, .int a), (2, .int b)] := hl
  refine lv_aload_n S.1 S.2.1 dX4_room_0 rfl (lv_at hl 0 rfl) ?_
  refine lv_iload_n S.1 S.2.1 dX4_room_1 rfl (lv_at hl 1 rfl) ?_
  refine cW_bpi (cW_V (n := 1) (As := [.int a]) (rest := []) (k := 0) (i := 0) S K hH (by decide) rfl rfl (k_X4_isCart l D B L A σ τ a hI) gX4_room_X4_isCart rfl hdV_X4_isCart ⟨Nat.le_of_ble_eq_true rfl, Nat.le_of_ble_eq_true rfl⟩ rfl hl.1 (Nat.le_of_ble_eq_true rfl) dX4_room_2) hS (fun v1 H locs q1 hH hS => ?_)
  refine lv_if_eq (tgt := 24) S.1 S.2.1 dX4_room_5 (by decide) (fun c2 => ?_) (fun c2 => ?_)
  · have j2 := t_eq c2
    refine lv_iconst (v := (-1)) S.1 S.2.1 dX4_room_24 (by decide) ?_
    refine cW_iret S hr hk hH hS ?_ dX4_room_25
    exact ⟨(-1), rfl, rfl, rfl, by trivial⟩
  · have j2 := t_neq c2
    refine lv_aload_n S.1 S.2.1 dX4_room_8 rfl (lv_at hl 0 rfl) ?_
    refine rC_0_0 S hnX4 K hH (mG wd_149) dX4_room_9 ?_
    refine rC_2_0 S hnX3 K hH (mG wd_167) dX4_room_12 ?_
    refine lv_iload_n S.1 S.2.1 dX4_room_15 rfl (lv_at hl 1 rfl) ?_
    refine lC_3 S K hH (vin (by omega) (by omega)) dX4_room_16 ?_
    refine lv_iload_n S.1 S.2.1 dX4_room_17 rfl (lv_at hl 2 rfl) ?_
    refine cW_bpi (cW_V (n := 1) (As := [.int b]) (rest := []) (k := 14) (i := a.toNatClampNeg) S K hH (cl_lt (n := 12) (by omega) (by omega)) rfl rfl (k_X0_goesOn l D B L A σ τ a.toNatClampNeg b (cl_lt (n := 12) (by omega) (by omega))) gX4_room_X0_goesOn rfl hdV_X0_goesOn ⟨Nat.le_of_ble_eq_true rfl, Nat.le_of_ble_eq_true rfl⟩ rfl hl.1 (Nat.le_of_ble_eq_true rfl) dX4_room_18) hS (fun v3 H locs q3 hH hS => ?_)
    refine lv_if_ne (tgt := 26) S.1 S.2.1 dX4_room_21 (by decide) (fun c4 => ?_) (fun c4 => ?_)
    · have j4 := t_neq c4
      refine lv_aload_n S.1 S.2.1 dX4_room_26 rfl (lv_at hl 0 rfl) ?_
      refine rC_0_0 S hnX4 K hH (mG wd_149) dX4_room_27 ?_
      refine rC_2_0 S hnX3 K hH (mG wd_167) dX4_room_30 ?_
      refine lv_iload_n S.1 S.2.1 dX4_room_33 rfl (lv_at hl 1 rfl) ?_
      refine lC_3 S K hH (vin (by omega) (by omega)) dX4_room_34 ?_
      refine lv_iload_n S.1 S.2.1 dX4_room_35 rfl (lv_at hl 2 rfl) ?_
      refine cW_bpi (cW_V (n := 1) (As := [.int b]) (rest := []) (k := 14) (i := a.toNatClampNeg) S K hH (cl_lt (n := 12) (by omega) (by omega)) rfl rfl (k_X0_roomLeft l D B L A σ τ a.toNatClampNeg b (cl_lt (n := 12) (by omega) (by omega)) (by omega)) gX4_room_X0_roomLeft rfl hdV_X0_roomLeft ⟨Nat.le_of_ble_eq_true rfl, Nat.le_of_ble_eq_true rfl⟩ rfl hl.1 (Nat.le_of_ble_eq_true rfl) dX4_room_36) hS (fun v5 H locs q5 hH hS => ?_)
      refine cW_iret S hr hk hH hS ?_ dX4_room_39
      exact ⟨v5, rfl, rfl, rfl, by trivial⟩
    · have j4 := t_eq c4
      refine lv_iconst (v := (-1)) S.1 S.2.1 dX4_room_24 (by decide) ?_
      refine cW_iret S hr hk hH hS ?_ dX4_room_25
      exact ⟨(-1), rfl, rfl, rfl, by trivial⟩
set_option maxHeartbeats 4000000 in
set_option maxRecDepth 100000 in
theorem k_X4_soon (l : Launch) (D : va_G) (B : Nat → ClassId) (L : QL) (A : Nat → Prop) (σ : QS) (τ : Int64) (a : Int32) (b : Int32) (z : Int32)  (hI : InvC σ) : cW cntC gC l D B L A yX4_soon wsX4_soon 3 74 [.ref (L 0 0), .int a, .int b, .int z] σ τ (pI (fun x σ' τ' => InvC σ' ∧ Keep [5, 9] σ σ' ∧ τ' = τ ∧ True)) := by
  refine cW_of (cc := cX4_soon) (nL := 4) (ret := (some .int)) (by decide) rfl (Nat.le_of_ble_eq_true rfl) ?_
  intro p e s m below meth c S hr hk K hH hS ls hl
  have hnX0 : ∀ w ∈ wsX00, w ∈ wsX4_soon := fun w h => mG (tX0 w h)
  have hnX3 : ∀ w ∈ wsX30, w ∈ wsX4_soon := fun w h => mG (tX3 w h)
  have hnX4 : ∀ w ∈ wsX40, w ∈ wsX4_soon := fun w h => mG (tX4 w h)
  have lm1 : ((-1) : Int32).toInt = -1 := by decide
  have l0 : (0 : Int32).toInt = 0 := by decide
  have l1 : (1 : Int32).toInt = 1 := by decide
  have l336 : (336 : Int32).toInt = 336 := by decide
  have l6000 : (6000 : Int32).toInt = 6000 := by decide
  have hP : Keep [5, 9] σ σ := Keep_r
  have hl : lv_has ls 4 [(0, .ref (L 0 0)), (1, .int a), (2, .int b), (3, .int z)] := hl
  refine lv_iload_n S.1 S.2.1 dX4_soon_0 rfl (lv_at hl 1 rfl) ?_
  refine cW_bpi (cW_S (n := 1) (As := [.int a]) (rest := []) S K hH (k_X4_isPlace l D B L A σ τ a ) gX4_soon_X4_isPlace rfl hdS_X4_isPlace ⟨Nat.le_of_ble_eq_true rfl, Nat.le_of_ble_eq_true rfl⟩ rfl hl.1 (Nat.le_of_ble_eq_true rfl) dX4_soon_1) hS (fun v1 H locs q1 hH hS => ?_)
  refine lv_if_eq (tgt := 25) S.1 S.2.1 dX4_soon_4 (by decide) (fun c2 => ?_) (fun c2 => ?_)
  · have j2 := t_eq c2
    refine lv_iconst (v := (-1)) S.1 S.2.1 dX4_soon_25 (by decide) ?_
    refine cW_iret S hr hk hH hS ?_ dX4_soon_26
    exact ⟨(-1), rfl, hI, hP, rfl, by trivial⟩
  · have j2 := t_neq c2
    refine lv_iload_n S.1 S.2.1 dX4_soon_7 rfl (lv_at hl 3 rfl) ?_
    refine cW_bpi (cW_S (n := 1) (As := [.int z]) (rest := []) S K hH (k_X4_isPlace l D B L A σ τ z ) gX4_soon_X4_isPlace rfl hdS_X4_isPlace ⟨Nat.le_of_ble_eq_true rfl, Nat.le_of_ble_eq_true rfl⟩ rfl hl.1 (Nat.le_of_ble_eq_true rfl) dX4_soon_8) hS (fun v3 H locs q3 hH hS => ?_)
    refine lv_if_eq (tgt := 25) S.1 S.2.1 dX4_soon_11 (by decide) (fun c4 => ?_) (fun c4 => ?_)
    · have j4 := t_eq c4
      refine lv_iconst (v := (-1)) S.1 S.2.1 dX4_soon_25 (by decide) ?_
      refine cW_iret S hr hk hH hS ?_ dX4_soon_26
      exact ⟨(-1), rfl, hI, hP, rfl, by trivial⟩
    · have j4 := t_neq c4
      refine lv_iload_n S.1 S.2.1 dX4_soon_14 rfl (lv_at hl 2 rfl) ?_
      refine lv_iconst (v := 0) S.1 S.2.1 dX4_soon_15 (by decide) ?_
      refine lv_sipush (v := 6000) S.1 S.2.1 dX4_soon_16 (by decide) ?_
      refine cW_bpi (cW_S (n := 3) (As := [.int b, .int 0, .int 6000]) (rest := []) S K hH (k_X4_isIn l D B L A σ τ b 0 6000 ) gX4_soon_X4_isIn rfl hdS_X4_isIn ⟨Nat.le_of_ble_eq_true rfl, Nat.le_of_ble_eq_true rfl⟩ rfl hl.1 (Nat.le_of_ble_eq_true rfl) dX4_soon_19) hS (fun v5 H locs q5 hH hS => ?_)
      refine lv_if_ne (tgt := 27) S.1 S.2.1 dX4_soon_22 (by decide) (fun c6 => ?_) (fun c6 => ?_)
      · have j6 := t_neq c6
        refine lv_aload_n S.1 S.2.1 dX4_soon_27 rfl (lv_at hl 0 rfl) ?_
        refine rC_0_0 S hnX4 K hH (mG wd_149) dX4_soon_28 ?_
        refine lv_iload_n S.1 S.2.1 dX4_soon_31 rfl (lv_at hl 1 rfl) ?_
        refine lv_iload_n S.1 S.2.1 dX4_soon_32 rfl (lv_at hl 2 rfl) ?_
        refine lv_iload_n S.1 S.2.1 dX4_soon_33 rfl (lv_at hl 2 rfl) ?_
        refine lv_sipush (v := 336) S.1 S.2.1 dX4_soon_34 (by decide) ?_
        refine lv_iadd S.1 S.2.1 dX4_soon_37 ?_
        refine lv_topi (fun v7 e7 => ?_)
        have i7 : v7.toInt = b.toInt + (336 : Int32).toInt := i_add e7 (by omega) (by omega)
        refine lv_iconst (v := 1) S.1 S.2.1 dX4_soon_38 (by decide) ?_
        refine lv_iload_n S.1 S.2.1 dX4_soon_39 rfl (lv_at hl 3 rfl) ?_
        refine lv_ishl S.1 S.2.1 dX4_soon_40 ?_
        refine lv_topi (fun v8 e8 => ?_)
        refine cW_bi (cW_V (n := 4) (As := [.int a, .int b, .int v7, .int v8]) (rest := []) (k := 2) (i := 0) S K hH (by decide) rfl rfl (k_X3_soonest l D B L A σ τ a b v7 v8 (by omega) (by omega) (by omega) hI) gX4_soon_X3_soonest rfl hdV_X3_soonest ⟨Nat.le_of_ble_eq_true rfl, Nat.le_of_ble_eq_true rfl⟩ rfl hl.1 (Nat.le_of_ble_eq_true rfl) dX4_soon_41) hS (fun v9 σ9 τ9 H locs q9 hH hS => ?_)
        obtain ⟨hI, hP9, hτ9, q9⟩ := q9
        rw [hτ9] at hH
        have hP := Keep_t hP hP9 (by decide)
        refine cW_iret S hr hk hH hS ?_ dX4_soon_44
        exact ⟨v9, rfl, hI, hP, rfl, by trivial⟩
      · have j6 := t_eq c6
        refine lv_iconst (v := (-1)) S.1 S.2.1 dX4_soon_25 (by decide) ?_
        refine cW_iret S hr hk hH hS ?_ dX4_soon_26
        exact ⟨(-1), rfl, hI, hP, rfl, by trivial⟩
set_option maxHeartbeats 4000000 in
set_option maxRecDepth 100000 in
theorem k_X4_reach (l : Launch) (D : va_G) (B : Nat → ClassId) (L : QL) (A : Nat → Prop) (σ : QS) (τ : Int64) (a : Int32) (b : Int32) (z : Int32)  (hI : InvC σ) : cW cntC gC l D B L A yX4_reach wsX4_reach 3 74 [.ref (L 0 0), .int a, .int b, .int z] σ τ (pI (fun x σ' τ' => InvC σ' ∧ Keep [5, 9] σ σ' ∧ τ' = τ ∧ True)) := by
  refine cW_of (cc := cX4_reach) (nL := 4) (ret := (some .int)) (by decide) rfl (Nat.le_of_ble_eq_true rfl) ?_
  intro p e s m below meth c S hr hk K hH hS ls hl
  have hnX0 : ∀ w ∈ wsX00, w ∈ wsX4_reach := fun w h => mG (tX0 w h)
  have hnX3 : ∀ w ∈ wsX30, w ∈ wsX4_reach := fun w h => mG (tX3 w h)
  have hnX4 : ∀ w ∈ wsX40, w ∈ wsX4_reach := fun w h => mG (tX4 w h)
  have lm1 : ((-1) : Int32).toInt = -1 := by decide
  have l0 : (0 : Int32).toInt = 0 := by decide
  have l336 : (336 : Int32).toInt = 336 := by decide
  have l6000 : (6000 : Int32).toInt = 6000 := by decide
  have hP : Keep [5, 9] σ σ := Keep_r
  have hl : lv_has ls 4 [(0, .ref (L 0 0)), (1, .int a), (2, .int b), (3, .int z)] := hl
  refine lv_iload_n S.1 S.2.1 dX4_reach_0 rfl (lv_at hl 1 rfl) ?_
  refine cW_bpi (cW_S (n := 1) (As := [.int a]) (rest := []) S K hH (k_X4_isPlace l D B L A σ τ a ) gX4_reach_X4_isPlace rfl hdS_X4_isPlace ⟨Nat.le_of_ble_eq_true rfl, Nat.le_of_ble_eq_true rfl⟩ rfl hl.1 (Nat.le_of_ble_eq_true rfl) dX4_reach_1) hS (fun v1 H locs q1 hH hS => ?_)
  refine lv_if_eq (tgt := 29) S.1 S.2.1 dX4_reach_4 (by decide) (fun c2 => ?_) (fun c2 => ?_)
  · have j2 := t_eq c2
    refine lv_iconst (v := (-1)) S.1 S.2.1 dX4_reach_29 (by decide) ?_
    refine cW_iret S hr hk hH hS ?_ dX4_reach_30
    exact ⟨(-1), rfl, hI, hP, rfl, by trivial⟩
  · have j2 := t_neq c2
    refine lv_iload_n S.1 S.2.1 dX4_reach_7 rfl (lv_at hl 2 rfl) ?_
    refine lv_iconst (v := 0) S.1 S.2.1 dX4_reach_8 (by decide) ?_
    refine lv_sipush (v := 6000) S.1 S.2.1 dX4_reach_9 (by decide) ?_
    refine cW_bpi (cW_S (n := 3) (As := [.int b, .int 0, .int 6000]) (rest := []) S K hH (k_X4_isIn l D B L A σ τ b 0 6000 ) gX4_reach_X4_isIn rfl hdS_X4_isIn ⟨Nat.le_of_ble_eq_true rfl, Nat.le_of_ble_eq_true rfl⟩ rfl hl.1 (Nat.le_of_ble_eq_true rfl) dX4_reach_12) hS (fun v3 H locs q3 hH hS => ?_)
    refine lv_if_eq (tgt := 29) S.1 S.2.1 dX4_reach_15 (by decide) (fun c4 => ?_) (fun c4 => ?_)
    · have j4 := t_eq c4
      refine lv_iconst (v := (-1)) S.1 S.2.1 dX4_reach_29 (by decide) ?_
      refine cW_iret S hr hk hH hS ?_ dX4_reach_30
      exact ⟨(-1), rfl, hI, hP, rfl, by trivial⟩
    · have j4 := t_neq c4
      refine lv_iload_n S.1 S.2.1 dX4_reach_18 rfl (lv_at hl 3 rfl) ?_
      refine lv_iconst (v := 0) S.1 S.2.1 dX4_reach_19 (by decide) ?_
      refine lv_sipush (v := 6000) S.1 S.2.1 dX4_reach_20 (by decide) ?_
      refine cW_bpi (cW_S (n := 3) (As := [.int z, .int 0, .int 6000]) (rest := []) S K hH (k_X4_isIn l D B L A σ τ z 0 6000 ) gX4_reach_X4_isIn rfl hdS_X4_isIn ⟨Nat.le_of_ble_eq_true rfl, Nat.le_of_ble_eq_true rfl⟩ rfl hl.1 (Nat.le_of_ble_eq_true rfl) dX4_reach_23) hS (fun v5 H locs q5 hH hS => ?_)
      refine lv_if_ne (tgt := 31) S.1 S.2.1 dX4_reach_26 (by decide) (fun c6 => ?_) (fun c6 => ?_)
      · have j6 := t_neq c6
        refine lv_iload_n S.1 S.2.1 dX4_reach_31 rfl (lv_at hl 3 rfl) ?_
        refine lv_iload_n S.1 S.2.1 dX4_reach_32 rfl (lv_at hl 2 rfl) ?_
        refine lv_icmp_lt (tgt := 45) S.1 S.2.1 dX4_reach_33 (by decide) (fun c7 => ?_) (fun c7 => ?_)
        · have j7 := t_lt c7
          refine lv_iconst (v := (-1)) S.1 S.2.1 dX4_reach_45 (by decide) ?_
          refine cW_iret S hr hk hH hS ?_ dX4_reach_46
          exact ⟨(-1), rfl, hI, hP, rfl, by trivial⟩
        · have j7 := t_nlt c7
          refine lv_iload_n S.1 S.2.1 dX4_reach_36 rfl (lv_at hl 3 rfl) ?_
          refine lv_iload_n S.1 S.2.1 dX4_reach_37 rfl (lv_at hl 2 rfl) ?_
          refine lv_isub S.1 S.2.1 dX4_reach_38 ?_
          refine lv_topi (fun v8 e8 => ?_)
          have i8 : v8.toInt = z.toInt - b.toInt := i_sub e8 (by omega) (by omega)
          refine lv_sipush (v := 336) S.1 S.2.1 dX4_reach_39 (by decide) ?_
          refine lv_icmp_le (tgt := 47) S.1 S.2.1 dX4_reach_42 (by decide) (fun c9 => ?_) (fun c9 => ?_)
          · have j9 := t_le c9
            refine lv_aload_n S.1 S.2.1 dX4_reach_47 rfl (lv_at hl 0 rfl) ?_
            refine rC_0_0 S hnX4 K hH (mG wd_149) dX4_reach_48 ?_
            refine lv_iload_n S.1 S.2.1 dX4_reach_51 rfl (lv_at hl 1 rfl) ?_
            refine lv_iload_n S.1 S.2.1 dX4_reach_52 rfl (lv_at hl 2 rfl) ?_
            refine lv_iload_n S.1 S.2.1 dX4_reach_53 rfl (lv_at hl 3 rfl) ?_
            refine lv_aload_n S.1 S.2.1 dX4_reach_54 rfl (lv_at hl 0 rfl) ?_
            refine rC_0_0 S hnX4 K hH (mG wd_149) dX4_reach_55 ?_
            refine rC_2_5 S hnX3 K hH (mG wd_204) dX4_reach_58 ?_
            refine lv_iload_n S.1 S.2.1 dX4_reach_61 rfl (lv_at hl 1 rfl) ?_
            refine lC_6 S K hH (vin (by omega) (by omega)) dX4_reach_62 ?_
            refine lv_topi (fun v10 e10 => ?_)
            refine cW_bi (cW_V (n := 4) (As := [.int a, .int b, .int z, .int v10]) (rest := []) (k := 2) (i := 0) S K hH (by decide) rfl rfl (k_X3_soonest l D B L A σ τ a b z v10 (by omega) (by omega) (by omega) hI) gX4_reach_X3_soonest rfl hdV_X3_soonest ⟨Nat.le_of_ble_eq_true rfl, Nat.le_of_ble_eq_true rfl⟩ rfl hl.1 (Nat.le_of_ble_eq_true rfl) dX4_reach_63) hS (fun v11 σ11 τ11 H locs q11 hH hS => ?_)
            obtain ⟨hI, hP11, hτ11, q11⟩ := q11
            rw [hτ11] at hH
            have hP := Keep_t hP hP11 (by decide)
            refine lv_pop S.1 S.2.1 dX4_reach_66 rfl ?_
            refine lv_aload_n S.1 S.2.1 dX4_reach_67 rfl (lv_at hl 0 rfl) ?_
            refine rC_0_0 S hnX4 K hH (mG wd_149) dX4_reach_68 ?_
            refine rC_2_8 S hnX3 K hH (mG wd_205) dX4_reach_71 ?_
            refine lv_topi (fun v12 e12 => ?_)
            refine cW_iret S hr hk hH hS ?_ dX4_reach_74
            exact ⟨v12, rfl, hI, hP, rfl, by trivial⟩
          · have j9 := t_nle c9
            refine lv_iconst (v := (-1)) S.1 S.2.1 dX4_reach_45 (by decide) ?_
            refine cW_iret S hr hk hH hS ?_ dX4_reach_46
            exact ⟨(-1), rfl, hI, hP, rfl, by trivial⟩
      · have j6 := t_eq c6
        refine lv_iconst (v := (-1)) S.1 S.2.1 dX4_reach_29 (by decide) ?_
        refine cW_iret S hr hk hH hS ?_ dX4_reach_30
        exact ⟨(-1), rfl, hI, hP, rfl, by trivial⟩
set_option maxHeartbeats 4000000 in
set_option maxRecDepth 100000 in
theorem k_X4_cut (l : Launch) (D : va_G) (B : Nat → ClassId) (L : QL) (A : Nat → Prop) (σ : QS) (τ : Int64) (a : Int32) (b : Int32) (z : Int32)  (hI : InvC σ) : cW cntC gC l D B L A yX4_cut wsX4_cut 4 102 [.ref (L 0 0), .int a, .int b, .int z] σ τ (pI (fun x σ' τ' => InvC σ' ∧ Keep [9, 10] σ σ' ∧ τ' = τ ∧ True)) := by
  refine cW_of (cc := cX4_cut) (nL := 6) (ret := (some .int)) (by decide) rfl (Nat.le_of_ble_eq_true rfl) ?_
  intro p e s m below meth c S hr hk K hH hS ls hl
  have hnX0 : ∀ w ∈ wsX00, w ∈ wsX4_cut := fun w h => mG (tX0 w h)
  have hnX3 : ∀ w ∈ wsX30, w ∈ wsX4_cut := fun w h => mG (tX3 w h)
  have hnX4 : ∀ w ∈ wsX40, w ∈ wsX4_cut := fun w h => mG (tX4 w h)
  have lm1 : ((-1) : Int32).toInt = -1 := by decide
  have l0 : (0 : Int32).toInt = 0 := by decide
  have l6000 : (6000 : Int32).toInt = 6000 := by decide
  have hP : Keep [9, 10] σ σ := Keep_r
  have hl : lv_has ls 6 [(0, .ref (L 0 0)), (1, .int a), (2, .int b), (3, .int z)] := hl
  refine lv_aload_n S.1 S.2.1 dX4_cut_0 rfl (lv_at hl 0 rfl) ?_
  refine lv_iload_n S.1 S.2.1 dX4_cut_1 rfl (lv_at hl 1 rfl) ?_
  refine cW_bpi (cW_V (n := 1) (As := [.int a]) (rest := []) (k := 0) (i := 0) S K hH (by decide) rfl rfl (k_X4_isCart l D B L A σ τ a hI) gX4_cut_X4_isCart rfl hdV_X4_isCart ⟨Nat.le_of_ble_eq_true rfl, Nat.le_of_ble_eq_true rfl⟩ rfl hl.1 (Nat.le_of_ble_eq_true rfl) dX4_cut_2) hS (fun v1 H locs q1 hH hS => ?_)
  refine lv_if_eq (tgt := 26) S.1 S.2.1 dX4_cut_5 (by decide) (fun c2 => ?_) (fun c2 => ?_)
  · have j2 := t_eq c2
    refine lv_iconst (v := (-1)) S.1 S.2.1 dX4_cut_26 (by decide) ?_
    refine cW_iret S hr hk hH hS ?_ dX4_cut_27
    exact ⟨(-1), rfl, hI, hP, rfl, by trivial⟩
  · have j2 := t_neq c2
    refine lv_iload_n S.1 S.2.1 dX4_cut_8 rfl (lv_at hl 3 rfl) ?_
    refine cW_bpi (cW_S (n := 1) (As := [.int z]) (rest := []) S K hH (k_X4_isPlace l D B L A σ τ z ) gX4_cut_X4_isPlace rfl hdS_X4_isPlace ⟨Nat.le_of_ble_eq_true rfl, Nat.le_of_ble_eq_true rfl⟩ rfl hl.1 (Nat.le_of_ble_eq_true rfl) dX4_cut_9) hS (fun v3 H locs q3 hH hS => ?_)
    refine lv_if_eq (tgt := 26) S.1 S.2.1 dX4_cut_12 (by decide) (fun c4 => ?_) (fun c4 => ?_)
    · have j4 := t_eq c4
      refine lv_iconst (v := (-1)) S.1 S.2.1 dX4_cut_26 (by decide) ?_
      refine cW_iret S hr hk hH hS ?_ dX4_cut_27
      exact ⟨(-1), rfl, hI, hP, rfl, by trivial⟩
    · have j4 := t_neq c4
      refine lv_iload_n S.1 S.2.1 dX4_cut_15 rfl (lv_at hl 2 rfl) ?_
      refine lv_iconst (v := 0) S.1 S.2.1 dX4_cut_16 (by decide) ?_
      refine lv_sipush (v := 6000) S.1 S.2.1 dX4_cut_17 (by decide) ?_
      refine cW_bpi (cW_S (n := 3) (As := [.int b, .int 0, .int 6000]) (rest := []) S K hH (k_X4_isIn l D B L A σ τ b 0 6000 ) gX4_cut_X4_isIn rfl hdS_X4_isIn ⟨Nat.le_of_ble_eq_true rfl, Nat.le_of_ble_eq_true rfl⟩ rfl hl.1 (Nat.le_of_ble_eq_true rfl) dX4_cut_20) hS (fun v5 H locs q5 hH hS => ?_)
      refine lv_if_ne (tgt := 28) S.1 S.2.1 dX4_cut_23 (by decide) (fun c6 => ?_) (fun c6 => ?_)
      · have j6 := t_neq c6
        refine lv_aload_n S.1 S.2.1 dX4_cut_28 rfl (lv_at hl 0 rfl) ?_
        refine rC_0_0 S hnX4 K hH (mG wd_149) dX4_cut_29 ?_
        refine lv_iload_n S.1 S.2.1 dX4_cut_32 rfl (lv_at hl 3 rfl) ?_
        refine lv_iload_n S.1 S.2.1 dX4_cut_33 rfl (lv_at hl 2 rfl) ?_
        refine lv_iconst (v := (-1)) S.1 S.2.1 dX4_cut_34 (by decide) ?_
        refine cW_bi (cW_V (n := 3) (As := [.int z, .int b, .int (-1)]) (rest := []) (k := 2) (i := 0) S K hH (by decide) rfl rfl (k_X3_startsFor l D B L A σ τ z b (-1) (by omega) (by omega) hI) gX4_cut_X3_startsFor rfl hdV_X3_startsFor ⟨Nat.le_of_ble_eq_true rfl, Nat.le_of_ble_eq_true rfl⟩ rfl hl.1 (Nat.le_of_ble_eq_true rfl) dX4_cut_35) hS (fun v7 σ7 τ7 H locs q7 hH hS => ?_)
        obtain ⟨hI, hP7, hτ7, q7⟩ := q7
        rw [hτ7] at hH
        have hP := Keep_t hP hP7 (by decide)
        refine lv_istore (lv' := [(4, .int v7), (0, .ref (L 0 0)), (1, .int a), (2, .int b), (3, .int z)]) S.1 S.2.1 dX4_cut_38 hl (by decide) rfl (fun ls hl => ?_)
        refine lv_aload_n S.1 S.2.1 dX4_cut_40 rfl (lv_at hl 1 rfl) ?_
        refine rC_0_0 S hnX4 K hH (mG wd_149) dX4_cut_41 ?_
        refine lv_iload_n S.1 S.2.1 dX4_cut_44 rfl (lv_at hl 4 rfl) ?_
        refine lv_iload_n S.1 S.2.1 dX4_cut_45 rfl (lv_at hl 3 rfl) ?_
        refine lv_iload_n S.1 S.2.1 dX4_cut_46 rfl (lv_at hl 2 rfl) ?_
        refine cW_bi (cW_V (n := 3) (As := [.int z, .int b, .int a]) (rest := []) (k := 2) (i := 0) S K hH (by decide) rfl rfl (k_X3_startsFor l D B L A σ7 τ z b a (by omega) (by omega) hI) gX4_cut_X3_startsFor rfl hdV_X3_startsFor ⟨Nat.le_of_ble_eq_true rfl, Nat.le_of_ble_eq_true rfl⟩ rfl hl.1 (Nat.le_of_ble_eq_true rfl) dX4_cut_47) hS (fun v8 σ8 τ8 H locs q8 hH hS => ?_)
        obtain ⟨hI, hP8, hτ8, q8⟩ := q8
        rw [hτ8] at hH
        have hP := Keep_t hP hP8 (by decide)
        refine lv_istore (lv' := [(5, .int v8), (4, .int v7), (0, .ref (L 0 0)), (1, .int a), (2, .int b), (3, .int z)]) S.1 S.2.1 dX4_cut_50 hl (by decide) rfl (fun ls hl => ?_)
        refine lv_iload S.1 S.2.1 dX4_cut_52 (lv_at hl 1 rfl) ?_
        refine lv_iload S.1 S.2.1 dX4_cut_54 (lv_at hl 0 rfl) ?_
        refine lv_iconst (v := (-1)) S.1 S.2.1 dX4_cut_56 (by decide) ?_
        refine lv_ixor S.1 S.2.1 dX4_cut_57 ?_
        refine lv_topi (fun v9 e9 => ?_)
        refine lv_iand S.1 S.2.1 dX4_cut_58 ?_
        refine lv_topi (fun v10 e10 => ?_)
        refine cW_iret S hr hk hH hS ?_ dX4_cut_59
        exact ⟨v10, rfl, hI, hP, rfl, by trivial⟩
      · have j6 := t_eq c6
        refine lv_iconst (v := (-1)) S.1 S.2.1 dX4_cut_26 (by decide) ?_
        refine cW_iret S hr hk hH hS ?_ dX4_cut_27
        exact ⟨(-1), rfl, hI, hP, rfl, by trivial⟩
set_option maxHeartbeats 4000000 in
set_option maxRecDepth 100000 in
theorem k_X4_parcel (l : Launch) (D : va_G) (B : Nat → ClassId) (L : QL) (A : Nat → Prop) (σ : QS) (τ : Int64) (a : Int32) (b : Int32) (z : Int32)  (hI : InvC σ) : cW cntC gC l D B L A yX4_parcel wsX4_parcel 2 42 [.ref (L 0 0), .int a, .int b, .int z] σ τ (pI (fun x σ' τ' => InvC σ' ∧ Keep [0, 34, 32, 33] σ σ' ∧ τ' = τ ∧ ((x.toInt = -1 ∧ σ' 0 = σ 0 ∧ ¬ (0 ≤ a.toInt ∧ a.toInt ≤ 11 ∧ 0 ≤ b.toInt ∧ b.toInt ≤ 11 ∧ a.toInt ≠ b.toInt ∧ 1 ≤ z.toInt ∧ z.toInt ≤ 20 ∧ (σ 0 0 0).toInt < 60)) ∨ ((0 ≤ a.toInt ∧ a.toInt ≤ 11 ∧ 0 ≤ b.toInt ∧ b.toInt ≤ 11 ∧ a.toInt ≠ b.toInt ∧ 1 ≤ z.toInt ∧ z.toInt ≤ 20 ∧ (σ 0 0 0).toInt < 60) ∧ x.toInt = (σ 0 0 0).toInt ∧ (σ' 0 0 0).toInt = (σ 0 0 0).toInt + 1)))) := by
  refine cW_of (cc := cX4_parcel) (nL := 5) (ret := (some .int)) (by decide) rfl (Nat.le_of_ble_eq_true rfl) ?_
  intro p e s m below meth c S hr hk K hH hS ls hl
  have hnX2 : ∀ w ∈ wsX20, w ∈ wsX4_parcel := fun w h => mG (tX2 w h)
  have hnX4 : ∀ w ∈ wsX40, w ∈ wsX4_parcel := fun w h => mG (tX4 w h)
  have lm1 : ((-1) : Int32).toInt = -1 := by decide
  have l0 : (0 : Int32).toInt = 0 := by decide
  have l1 : (1 : Int32).toInt = 1 := by decide
  have l20 : (20 : Int32).toInt = 20 := by decide
  have l60 : (60 : Int32).toInt = 60 := by decide
  have hl : lv_has ls 5 [(0, .ref (L 0 0)), (1, .int a), (2, .int b), (3, .int z)] := hl
  refine lv_iload_n S.1 S.2.1 dX4_parcel_0 rfl (lv_at hl 1 rfl) ?_
  refine cW_bpi (cW_S (n := 1) (As := [.int a]) (rest := []) S K hH (k_X4_isPlace l D B L A σ τ a ) gX4_parcel_X4_isPlace rfl hdS_X4_isPlace ⟨Nat.le_of_ble_eq_true rfl, Nat.le_of_ble_eq_true rfl⟩ rfl hl.1 (Nat.le_of_ble_eq_true rfl) dX4_parcel_1) hS (fun v1 H locs q1 hH hS => ?_)
  refine lv_if_eq (tgt := 29) S.1 S.2.1 dX4_parcel_4 (by decide) (fun c2 => ?_) (fun c2 => ?_)
  · have j2 := t_eq c2
    refine lv_iconst (v := (-1)) S.1 S.2.1 dX4_parcel_29 (by decide) ?_
    refine cW_iret S hr hk hH hS ?_ dX4_parcel_30
    exact ⟨(-1), rfl, by exact ⟨hI, Keep_r, rfl, Or.inl ⟨by decide, rfl, by omega⟩⟩⟩
  · have j2 := t_neq c2
    refine lv_iload_n S.1 S.2.1 dX4_parcel_7 rfl (lv_at hl 2 rfl) ?_
    refine cW_bpi (cW_S (n := 1) (As := [.int b]) (rest := []) S K hH (k_X4_isPlace l D B L A σ τ b ) gX4_parcel_X4_isPlace rfl hdS_X4_isPlace ⟨Nat.le_of_ble_eq_true rfl, Nat.le_of_ble_eq_true rfl⟩ rfl hl.1 (Nat.le_of_ble_eq_true rfl) dX4_parcel_8) hS (fun v3 H locs q3 hH hS => ?_)
    refine lv_if_eq (tgt := 29) S.1 S.2.1 dX4_parcel_11 (by decide) (fun c4 => ?_) (fun c4 => ?_)
    · have j4 := t_eq c4
      refine lv_iconst (v := (-1)) S.1 S.2.1 dX4_parcel_29 (by decide) ?_
      refine cW_iret S hr hk hH hS ?_ dX4_parcel_30
      exact ⟨(-1), rfl, by exact ⟨hI, Keep_r, rfl, Or.inl ⟨by decide, rfl, by omega⟩⟩⟩
    · have j4 := t_neq c4
      refine lv_iload_n S.1 S.2.1 dX4_parcel_14 rfl (lv_at hl 1 rfl) ?_
      refine lv_iload_n S.1 S.2.1 dX4_parcel_15 rfl (lv_at hl 2 rfl) ?_
      refine lv_icmp_eq (tgt := 29) S.1 S.2.1 dX4_parcel_16 (by decide) (fun c5 => ?_) (fun c5 => ?_)
      · have j5 := t_eq c5
        refine lv_iconst (v := (-1)) S.1 S.2.1 dX4_parcel_29 (by decide) ?_
        refine cW_iret S hr hk hH hS ?_ dX4_parcel_30
        exact ⟨(-1), rfl, by exact ⟨hI, Keep_r, rfl, Or.inl ⟨by decide, rfl, by omega⟩⟩⟩
      · have j5 := t_neq c5
        refine lv_iload_n S.1 S.2.1 dX4_parcel_19 rfl (lv_at hl 3 rfl) ?_
        refine lv_iconst (v := 1) S.1 S.2.1 dX4_parcel_20 (by decide) ?_
        refine lv_bipush (v := 20) S.1 S.2.1 dX4_parcel_21 (by decide) ?_
        refine cW_bpi (cW_S (n := 3) (As := [.int z, .int 1, .int 20]) (rest := []) S K hH (k_X4_isIn l D B L A σ τ z 1 20 ) gX4_parcel_X4_isIn rfl hdS_X4_isIn ⟨Nat.le_of_ble_eq_true rfl, Nat.le_of_ble_eq_true rfl⟩ rfl hl.1 (Nat.le_of_ble_eq_true rfl) dX4_parcel_23) hS (fun v6 H locs q6 hH hS => ?_)
        refine lv_if_ne (tgt := 31) S.1 S.2.1 dX4_parcel_26 (by decide) (fun c7 => ?_) (fun c7 => ?_)
        · have j7 := t_neq c7
          refine lv_aload_n S.1 S.2.1 dX4_parcel_31 rfl (lv_at hl 0 rfl) ?_
          refine rC_0_3 S hnX4 K hH (mG wd_155) dX4_parcel_32 ?_
          refine lv_topi (fun v8 e8 => ?_)
          have bv8 : 0 ≤ v8.toInt ∧ v8.toInt ≤ 60 := by rw [e8]; exact hI.1 0 0 0
          have fv8 : v8.toInt = (σ 0 0 0).toInt := by rw [e8]
          refine lv_bipush (v := 60) S.1 S.2.1 dX4_parcel_35 (by decide) ?_
          refine lv_icmp_lt (tgt := 42) S.1 S.2.1 dX4_parcel_37 (by decide) (fun c9 => ?_) (fun c9 => ?_)
          · have j9 := t_lt c9
            refine lv_aload_n S.1 S.2.1 dX4_parcel_42 rfl (lv_at hl 0 rfl) ?_
            refine rC_0_3 S hnX4 K hH (mG wd_155) dX4_parcel_43 ?_
            refine lv_topi (fun v10 e10 => ?_)
            have k10 : v10.toInt = v8.toInt := by rw [e10]; rw [← e8]
            have bv10 : 0 ≤ v10.toInt ∧ v10.toInt ≤ 60 := by rw [e10]; exact hI.1 0 0 0
            have fv10 : v10.toInt = (σ 0 0 0).toInt := by rw [e10]
            refine lv_istore (lv' := [(4, .int v10), (0, .ref (L 0 0)), (1, .int a), (2, .int b), (3, .int z)]) S.1 S.2.1 dX4_parcel_46 hl (by decide) rfl (fun ls hl => ?_)
            refine lv_aload_n S.1 S.2.1 dX4_parcel_48 rfl (lv_at hl 1 rfl) ?_
            refine lv_iload S.1 S.2.1 dX4_parcel_49 (lv_at hl 0 rfl) ?_
            refine lv_iconst (v := 1) S.1 S.2.1 dX4_parcel_51 (by decide) ?_
            refine lv_iadd S.1 S.2.1 dX4_parcel_52 ?_
            refine lv_topi (fun v11 e11 => ?_)
            have i11 : v11.toInt = v10.toInt + (1 : Int32).toInt := i_add e11 (by omega) (by omega)
            refine pC_0_3 S hnX4 K hH hS (mG wd_155) dX4_parcel_53 (fun H locs hH hS => ?_)
            obtain ⟨σ12, eσ12⟩ : ∃ z_9 : QS, z_9 = rs σ 0 0 (fun _ => v11) := ⟨_, rfl⟩
            rw [← eσ12] at hH
            refine lv_aload_n S.1 S.2.1 dX4_parcel_56 rfl (lv_at hl 1 rfl) ?_
            refine rC_0_2 S hnX4 K hH (mG wd_154) dX4_parcel_57 ?_
            refine lv_iload S.1 S.2.1 dX4_parcel_60 (lv_at hl 0 rfl) ?_
            refine lC_1 S K hH (vin (by omega) (by omega)) dX4_parcel_62 ?_
            refine lv_iload_n S.1 S.2.1 dX4_parcel_63 rfl (lv_at hl 2 rfl) ?_
            refine lv_iload_n S.1 S.2.1 dX4_parcel_64 rfl (lv_at hl 3 rfl) ?_
            refine lv_iload_n S.1 S.2.1 dX4_parcel_65 rfl (lv_at hl 4 rfl) ?_
            refine cW_bv (cW_V (n := 3) (As := [.int a, .int b, .int z]) (rest := []) (k := 20) (i := v10.toNatClampNeg) S K hH (cl_lt (n := 60) (by omega) (by omega)) rfl rfl (k_X2_give l D B L A σ12 τ v10.toNatClampNeg a b z (cl_lt (n := 60) (by omega) (by omega))) gX4_parcel_X2_give rfl hdV_X2_give ⟨Nat.le_of_ble_eq_true rfl, Nat.le_of_ble_eq_true rfl⟩ rfl hl.1 (Nat.le_of_ble_eq_true rfl) dX4_parcel_66) hS (fun σ13 τ13 H locs q13 hH hS => ?_)
            obtain ⟨q13, hτ13⟩ := q13
            rw [hτ13] at hH
            have eg := q13
            rw [eσ12] at eg
            refine lv_iload S.1 S.2.1 dX4_parcel_69 (lv_at hl 0 rfl) ?_
            refine cW_iret S hr hk hH hS ?_ dX4_parcel_71
            exact ⟨v10, rfl, by have h9 := cl_eq (j := v10) (by omega); refine ⟨InvC_give hI eg (by omega) (by omega) (by omega) (by omega) (by omega), Keep_w eg (Keep_w rfl (Keep_w rfl (Keep_w rfl Keep_r (by decide)) (by decide)) (by decide)) (by decide), rfl, Or.inr ⟨by omega, by omega, ?_⟩⟩; rw [eg, rs_v (by decide), rs_v (by decide), rs_v (by decide), rs_self]; omega⟩
          · have j9 := t_nlt c9
            refine lv_iconst (v := (-1)) S.1 S.2.1 dX4_parcel_40 (by decide) ?_
            refine cW_iret S hr hk hH hS ?_ dX4_parcel_41
            exact ⟨(-1), rfl, by exact ⟨hI, Keep_r, rfl, Or.inl ⟨by decide, rfl, by omega⟩⟩⟩
        · have j7 := t_eq c7
          refine lv_iconst (v := (-1)) S.1 S.2.1 dX4_parcel_29 (by decide) ?_
          refine cW_iret S hr hk hH hS ?_ dX4_parcel_30
          exact ⟨(-1), rfl, by exact ⟨hI, Keep_r, rfl, Or.inl ⟨by decide, rfl, by omega⟩⟩⟩
set_option maxHeartbeats 4000000 in
set_option maxRecDepth 100000 in
theorem k_X4_renewPlan (l : Launch) (D : va_G) (B : Nat → ClassId) (L : QL) (A : Nat → Prop) (σ : QS) (τ : Int64) (q : Nat)  (hp0 : q < 60) (hI : InvC σ) (hp2 : 0 ≤ (σ 34 q 0).toInt) (hp3 : 0 ≤ (σ 32 q 0).toInt) : cW cntC gC l D B L A yX4_renewPlan wsX4_renewPlan 3 77 [.ref (L 0 0), .ref (L 20 q)] σ τ (pV (fun σ' τ' => InvC σ' ∧ Keep [5, 9, 41, 42, 43] σ σ' ∧ τ' = τ ∧ True)) := by
  refine cW_of (cc := cX4_renewPlan) (nL := 5) (ret := none) (by decide) rfl (Nat.le_of_ble_eq_true rfl) ?_
  intro p e s m below meth c S hr hk K hH hS ls hl
  have hnX0 : ∀ w ∈ wsX00, w ∈ wsX4_renewPlan := fun w h => mG (tX0 w h)
  have hnX2 : ∀ w ∈ wsX20, w ∈ wsX4_renewPlan := fun w h => mG (tX2 w h)
  have hnX3 : ∀ w ∈ wsX30, w ∈ wsX4_renewPlan := fun w h => mG (tX3 w h)
  have hnX4 : ∀ w ∈ wsX40, w ∈ wsX4_renewPlan := fun w h => mG (tX4 w h)
  have lm1 : ((-1) : Int32).toInt = -1 := by decide
  have l0 : (0 : Int32).toInt = 0 := by decide
  have l1 : (1 : Int32).toInt = 1 := by decide
  have l336 : (336 : Int32).toInt = 336 := by decide
  have l672 : (672 : Int32).toInt = 672 := by decide
  have hP : Keep [5, 9, 41, 42, 43] σ σ := Keep_r
  have hl : lv_has ls 5 [(0, .ref (L 0 0)), (1, .ref (L 20 q))] := hl
  refine lv_aload_n S.1 S.2.1 dX4_renewPlan_0 rfl (lv_at hl 1 rfl) ?_
  refine rC_20_9 S hnX2 K hH (show q < 60 by omega) (mG wd_222) dX4_renewPlan_1 ?_
  refine lv_topi (fun v1 e1 => ?_)
  refine lv_aload_n S.1 S.2.1 dX4_renewPlan_4 rfl (lv_at hl 0 rfl) ?_
  refine rC_0_0 S hnX4 K hH (mG wd_149) dX4_renewPlan_5 ?_
  refine rC_2_2 S hnX3 K hH (mG wd_223) dX4_renewPlan_8 ?_
  refine lv_topi (fun v2 e2 => ?_)
  refine lv_icmp_ne (tgt := 18) S.1 S.2.1 dX4_renewPlan_11 (by decide) (fun c3 => ?_) (fun c3 => ?_)
  · have j3 := t_neq c3
    refine lv_iconst (v := 0) S.1 S.2.1 dX4_renewPlan_18 (by decide) ?_
    refine lv_istore_n (lv' := [(2, .int 0), (0, .ref (L 0 0)), (1, .ref (L 20 q))]) S.1 S.2.1 dX4_renewPlan_19 rfl hl (by decide) rfl (fun ls hl => ?_)
    refine lv_iload_n S.1 S.2.1 dX4_renewPlan_20 rfl (lv_at hl 0 rfl) ?_
    refine lv_if_eq (tgt := 52) S.1 S.2.1 dX4_renewPlan_21 (by decide) (fun c4 => ?_) (fun c4 => ?_)
    · have j4 := t_eq c4
      refine lv_aload_n S.1 S.2.1 dX4_renewPlan_52 rfl (lv_at hl 1 rfl) ?_
      refine rC_0_4 S hnX4 K hH (mG wd_156) dX4_renewPlan_53 ?_
      refine lv_topi (fun v5 e5 => ?_)
      have b5 : 0 ≤ v5.toInt ∧ v5.toInt ≤ 5000 := by rw [e5]; exact hI.1 1 0 0
      refine lv_sipush (v := 672) S.1 S.2.1 dX4_renewPlan_56 (by decide) ?_
      refine lv_iadd S.1 S.2.1 dX4_renewPlan_59 ?_
      refine lv_topi (fun v6 e6 => ?_)
      have i6 : v6.toInt = v5.toInt + (672 : Int32).toInt := i_add e6 (by omega) (by omega)
      refine lv_istore_n (lv' := [(3, .int v6), (2, .int 0), (0, .ref (L 0 0)), (1, .ref (L 20 q))]) S.1 S.2.1 dX4_renewPlan_60 rfl hl (by decide) rfl (fun ls hl => ?_)
      refine lv_aload_n S.1 S.2.1 dX4_renewPlan_61 rfl (lv_at hl 2 rfl) ?_
      refine rC_0_0 S hnX4 K hH (mG wd_149) dX4_renewPlan_62 ?_
      refine lv_aload_n S.1 S.2.1 dX4_renewPlan_65 rfl (lv_at hl 3 rfl) ?_
      refine rC_20_2 S hnX2 K hH (show q < 60 by omega) (mG wd_226) dX4_renewPlan_66 ?_
      refine lv_topi (fun v7 e7 => ?_)
      have b7 : (-1) ≤ v7.toInt ∧ v7.toInt ≤ 11 := by rw [e7]; exact hI.1 34 q 0
      have zv7 : 0 ≤ v7.toInt := by rw [e7]; exact hp2
      refine lv_aload_n S.1 S.2.1 dX4_renewPlan_69 rfl (lv_at hl 2 rfl) ?_
      refine rC_0_4 S hnX4 K hH (mG wd_156) dX4_renewPlan_70 ?_
      refine lv_topi (fun v8 e8 => ?_)
      have b8 : 0 ≤ v8.toInt ∧ v8.toInt ≤ 5000 := by rw [e8]; exact hI.1 1 0 0
      have k8 : v8.toInt = v5.toInt := by rw [e8]; rw [← e5]
      refine lv_iload_n S.1 S.2.1 dX4_renewPlan_73 rfl (lv_at hl 0 rfl) ?_
      refine lv_iconst (v := 1) S.1 S.2.1 dX4_renewPlan_74 (by decide) ?_
      refine lv_aload_n S.1 S.2.1 dX4_renewPlan_75 rfl (lv_at hl 3 rfl) ?_
      refine rC_20_0 S hnX2 K hH (show q < 60 by omega) (mG wd_227) dX4_renewPlan_76 ?_
      refine lv_topi (fun v9 e9 => ?_)
      have b9 : (-1) ≤ v9.toInt ∧ v9.toInt ≤ 11 := by rw [e9]; exact hI.1 32 q 0
      refine lv_ishl S.1 S.2.1 dX4_renewPlan_79 ?_
      refine lv_topi (fun v10 e10 => ?_)
      refine cW_bi (cW_V (n := 4) (As := [.int v7, .int v8, .int v6, .int v10]) (rest := []) (k := 2) (i := 0) S K hH (by decide) rfl rfl (k_X3_soonest l D B L A σ τ v7 v8 v6 v10 (by omega) (by omega) (by omega) hI) gX4_renewPlan_X3_soonest rfl hdV_X3_soonest ⟨Nat.le_of_ble_eq_true rfl, Nat.le_of_ble_eq_true rfl⟩ rfl hl.1 (Nat.le_of_ble_eq_true rfl) dX4_renewPlan_80) hS (fun v11 σ11 τ11 H locs q11 hH hS => ?_)
      obtain ⟨hI, hP11, hτ11, q11⟩ := q11
      rw [hτ11] at hH
      have hP := Keep_t hP hP11 (by decide)
      refine lv_istore (lv' := [(4, .int v11), (3, .int v6), (2, .int 0), (0, .ref (L 0 0)), (1, .ref (L 20 q))]) S.1 S.2.1 dX4_renewPlan_83 hl (by decide) rfl (fun ls hl => ?_)
      refine lv_aload_n S.1 S.2.1 dX4_renewPlan_85 rfl (lv_at hl 4 rfl) ?_
      refine lv_aload_n S.1 S.2.1 dX4_renewPlan_86 rfl (lv_at hl 3 rfl) ?_
      refine rC_0_0 S hnX4 K hH (mG wd_149) dX4_renewPlan_87 ?_
      refine rC_2_2 S hnX3 K hH (mG wd_223) dX4_renewPlan_90 ?_
      refine lv_topi (fun v12 e12 => ?_)
      have k12 : v12.toInt = v2.toInt := by rw [e12, hP11 4 (by decide)]; rw [← e2]
      refine pC_20_9 S hnX2 K hH hS (show q < 60 by omega) (mG wd_222) dX4_renewPlan_93 (fun H locs hH hS => ?_)
      obtain ⟨σ13, eσ13⟩ : ∃ z_9 : QS, z_9 = rs σ11 41 q (fun _ => v12) := ⟨_, rfl⟩
      rw [← eσ13] at hH
      have hI := InvC_f eσ13 hI (by decide) (any32 _)
      have hP := Keep_w eσ13 hP (by decide)
      refine lv_aload_n S.1 S.2.1 dX4_renewPlan_96 rfl (lv_at hl 4 rfl) ?_
      refine lv_iload S.1 S.2.1 dX4_renewPlan_97 (lv_at hl 0 rfl) ?_
      refine lv_iconst (v := (-1)) S.1 S.2.1 dX4_renewPlan_99 (by decide) ?_
      refine lv_icmp_ne (tgt := 109) S.1 S.2.1 dX4_renewPlan_100 (by decide) (fun c14 => ?_) (fun c14 => ?_)
      · have j14 := t_neq c14
        refine lv_iload S.1 S.2.1 dX4_renewPlan_109 (lv_at hl 0 rfl) ?_
        refine lv_sipush (v := 336) S.1 S.2.1 dX4_renewPlan_111 (by decide) ?_
        refine lv_isub S.1 S.2.1 dX4_renewPlan_114 ?_
        refine lv_topi (fun v15 e15 => ?_)
        have i15 : v15.toInt = v11.toInt - (336 : Int32).toInt := i_sub e15 (by omega) (by omega)
        refine pC_20_10 S hnX2 K hH hS (show q < 60 by omega) (mG wd_224) dX4_renewPlan_115 (fun H locs hH hS => ?_)
        obtain ⟨σ16, eσ16⟩ : ∃ z_9 : QS, z_9 = rs σ13 42 q (fun _ => v15) := ⟨_, rfl⟩
        rw [← eσ16] at hH
        have hI := InvC_f eσ16 hI (by decide) (any32 _)
        have hP := Keep_w eσ16 hP (by decide)
        refine lv_aload_n S.1 S.2.1 dX4_renewPlan_118 rfl (lv_at hl 3 rfl) ?_
        refine rC_0_4 S hnX4 K hH (mG wd_156) dX4_renewPlan_119 ?_
        refine lv_topi (fun v17 e17 => ?_)
        have b17 : 0 ≤ v17.toInt ∧ v17.toInt ≤ 5000 := by rw [e17]; exact hI.1 1 0 0
        have k17 : v17.toInt = v5.toInt := by rw [e17, eσ16, rs_v (by decide), eσ13, rs_v (by decide), hP11 1 (by decide)]; rw [← e5]
        refine lv_aload_n S.1 S.2.1 dX4_renewPlan_122 rfl (lv_at hl 4 rfl) ?_
        refine rC_20_10 S hnX2 K hH (show q < 60 by omega) (mG wd_224) dX4_renewPlan_123 ?_
        refine lv_topi (fun v18 e18 => ?_)
        have k18 : v18.toInt = v15.toInt := by rw [e18, eσ16, rs_self]
        refine lv_icmp_ge (tgt := 140) S.1 S.2.1 dX4_renewPlan_126 (by decide) (fun c19 => ?_) (fun c19 => ?_)
        · have j19 := t_le c19
          refine lv_aload_n S.1 S.2.1 dX4_renewPlan_140 rfl (lv_at hl 3 rfl) ?_
          refine rC_0_0 S hnX4 K hH (mG wd_149) dX4_renewPlan_141 ?_
          refine lv_aload_n S.1 S.2.1 dX4_renewPlan_144 rfl (lv_at hl 4 rfl) ?_
          refine rC_20_0 S hnX2 K hH (show q < 60 by omega) (mG wd_227) dX4_renewPlan_145 ?_
          refine lv_topi (fun v20 e20 => ?_)
          have b20 : (-1) ≤ v20.toInt ∧ v20.toInt ≤ 11 := by rw [e20]; exact hI.1 32 q 0
          have k20 : v20.toInt = v9.toInt := by rw [e20, eσ16, rs_v (by decide), eσ13, rs_v (by decide), hP11 32 (by decide)]; rw [← e9]
          have zv20 : 0 ≤ v20.toInt := by rw [e20, hP 32 (by decide)]; exact hp3
          refine lv_aload_n S.1 S.2.1 dX4_renewPlan_148 rfl (lv_at hl 3 rfl) ?_
          refine rC_0_4 S hnX4 K hH (mG wd_156) dX4_renewPlan_149 ?_
          refine lv_topi (fun v21 e21 => ?_)
          have b21 : 0 ≤ v21.toInt ∧ v21.toInt ≤ 5000 := by rw [e21]; exact hI.1 1 0 0
          have k21 : v21.toInt = v5.toInt := by rw [e21, eσ16, rs_v (by decide), eσ13, rs_v (by decide), hP11 1 (by decide)]; rw [← e5]
          refine lv_iload S.1 S.2.1 dX4_renewPlan_152 (lv_at hl 0 rfl) ?_
          refine lv_iconst (v := (-1)) S.1 S.2.1 dX4_renewPlan_154 (by decide) ?_
          refine lv_aload_n S.1 S.2.1 dX4_renewPlan_155 rfl (lv_at hl 4 rfl) ?_
          refine rC_20_11 S hnX2 K hH (show q < 60 by omega) (mG wd_225) dX4_renewPlan_156 ?_
          refine cW_bv (cW_V (n := 5) (As := [.int v20, .int v21, .int v11, .int (-1), .ref (L 21 q)]) (rest := []) (k := 2) (i := 0) S K hH (by decide) rfl rfl (k_fiL_21 l D B L A σ16 τ v20 v21 v11 (-1) q (show q < 60 by omega) (by omega) (by omega) (by omega) hI) gX4_renewPlan_X3_findLatest rfl hdV_X3_findLatest ⟨Nat.le_of_ble_eq_true rfl, Nat.le_of_ble_eq_true rfl⟩ rfl hl.1 (Nat.le_of_ble_eq_true rfl) dX4_renewPlan_159) hS (fun σ22 τ22 H locs q22 hH hS => ?_)
          obtain ⟨hI, hP22, hτ22, q22⟩ := q22
          rw [hτ22] at hH
          have hP := Keep_t hP hP22 (by decide)
          refine cW_vret S hr hk hH hS ?_ dX4_renewPlan_162
          exact ⟨rfl, hI, hP, rfl, by trivial⟩
        · have j19 := t_nle c19
          refine lv_aload_n S.1 S.2.1 dX4_renewPlan_129 rfl (lv_at hl 4 rfl) ?_
          refine rC_20_11 S hnX2 K hH (show q < 60 by omega) (mG wd_225) dX4_renewPlan_130 ?_
          refine lv_iconst (v := (-1)) S.1 S.2.1 dX4_renewPlan_133 (by decide) ?_
          refine cW_bv (cW_S (n := 2) (As := [.ref (L 21 q), .int (-1)]) (rest := []) S K hH (k_fill_21 l D B L A σ16 τ q (-1) (show q < 60 by omega) hI) gX4_renewPlan_J7_fill_53178 rfl hdS_J7_fill_53178 ⟨Nat.le_of_ble_eq_true rfl, Nat.le_of_ble_eq_true rfl⟩ rfl hl.1 (Nat.le_of_ble_eq_true rfl) dX4_renewPlan_134) hS (fun σ23 τ23 H locs q23 hH hS => ?_)
          obtain ⟨hI, hP23, hτ23, q23⟩ := q23
          rw [hτ23] at hH
          have hP := Keep_t hP hP23 (by decide)
          refine lv_goto (tgt := 162) S.1 S.2.1 dX4_renewPlan_137 (by decide) ?_
          refine cW_vret S hr hk hH hS ?_ dX4_renewPlan_162
          exact ⟨rfl, hI, hP, rfl, by trivial⟩
      · have j14 := t_eq c14
        refine lv_iload_n S.1 S.2.1 dX4_renewPlan_103 rfl (lv_at hl 1 rfl) ?_
        refine lv_iconst (v := 1) S.1 S.2.1 dX4_renewPlan_104 (by decide) ?_
        refine lv_iadd S.1 S.2.1 dX4_renewPlan_105 ?_
        refine lv_topi (fun v24 e24 => ?_)
        have i24 : v24.toInt = v6.toInt + (1 : Int32).toInt := i_add e24 (by omega) (by omega)
        refine lv_goto (tgt := 111) S.1 S.2.1 dX4_renewPlan_106 (by decide) ?_
        refine lv_sipush (v := 336) S.1 S.2.1 dX4_renewPlan_111 (by decide) ?_
        refine lv_isub S.1 S.2.1 dX4_renewPlan_114 ?_
        refine lv_topi (fun v25 e25 => ?_)
        have i25 : v25.toInt = v24.toInt - (336 : Int32).toInt := i_sub e25 (by omega) (by omega)
        refine pC_20_10 S hnX2 K hH hS (show q < 60 by omega) (mG wd_224) dX4_renewPlan_115 (fun H locs hH hS => ?_)
        obtain ⟨σ26, eσ26⟩ : ∃ z_9 : QS, z_9 = rs σ13 42 q (fun _ => v25) := ⟨_, rfl⟩
        rw [← eσ26] at hH
        have hI := InvC_f eσ26 hI (by decide) (any32 _)
        have hP := Keep_w eσ26 hP (by decide)
        refine lv_aload_n S.1 S.2.1 dX4_renewPlan_118 rfl (lv_at hl 3 rfl) ?_
        refine rC_0_4 S hnX4 K hH (mG wd_156) dX4_renewPlan_119 ?_
        refine lv_topi (fun v27 e27 => ?_)
        have b27 : 0 ≤ v27.toInt ∧ v27.toInt ≤ 5000 := by rw [e27]; exact hI.1 1 0 0
        have k27 : v27.toInt = v5.toInt := by rw [e27, eσ26, rs_v (by decide), eσ13, rs_v (by decide), hP11 1 (by decide)]; rw [← e5]
        refine lv_aload_n S.1 S.2.1 dX4_renewPlan_122 rfl (lv_at hl 4 rfl) ?_
        refine rC_20_10 S hnX2 K hH (show q < 60 by omega) (mG wd_224) dX4_renewPlan_123 ?_
        refine lv_topi (fun v28 e28 => ?_)
        have k28 : v28.toInt = v25.toInt := by rw [e28, eσ26, rs_self]
        refine lv_icmp_ge (tgt := 140) S.1 S.2.1 dX4_renewPlan_126 (by decide) (fun c29 => ?_) (fun c29 => ?_)
        · have j29 := t_le c29
          refine lv_aload_n S.1 S.2.1 dX4_renewPlan_140 rfl (lv_at hl 3 rfl) ?_
          refine rC_0_0 S hnX4 K hH (mG wd_149) dX4_renewPlan_141 ?_
          refine lv_aload_n S.1 S.2.1 dX4_renewPlan_144 rfl (lv_at hl 4 rfl) ?_
          refine rC_20_0 S hnX2 K hH (show q < 60 by omega) (mG wd_227) dX4_renewPlan_145 ?_
          refine lv_topi (fun v30 e30 => ?_)
          have b30 : (-1) ≤ v30.toInt ∧ v30.toInt ≤ 11 := by rw [e30]; exact hI.1 32 q 0
          have k30 : v30.toInt = v9.toInt := by rw [e30, eσ26, rs_v (by decide), eσ13, rs_v (by decide), hP11 32 (by decide)]; rw [← e9]
          have zv30 : 0 ≤ v30.toInt := by rw [e30, hP 32 (by decide)]; exact hp3
          refine lv_aload_n S.1 S.2.1 dX4_renewPlan_148 rfl (lv_at hl 3 rfl) ?_
          refine rC_0_4 S hnX4 K hH (mG wd_156) dX4_renewPlan_149 ?_
          refine lv_topi (fun v31 e31 => ?_)
          have b31 : 0 ≤ v31.toInt ∧ v31.toInt ≤ 5000 := by rw [e31]; exact hI.1 1 0 0
          have k31 : v31.toInt = v5.toInt := by rw [e31, eσ26, rs_v (by decide), eσ13, rs_v (by decide), hP11 1 (by decide)]; rw [← e5]
          refine lv_iload S.1 S.2.1 dX4_renewPlan_152 (lv_at hl 0 rfl) ?_
          refine lv_iconst (v := (-1)) S.1 S.2.1 dX4_renewPlan_154 (by decide) ?_
          refine lv_aload_n S.1 S.2.1 dX4_renewPlan_155 rfl (lv_at hl 4 rfl) ?_
          refine rC_20_11 S hnX2 K hH (show q < 60 by omega) (mG wd_225) dX4_renewPlan_156 ?_
          refine cW_bv (cW_V (n := 5) (As := [.int v30, .int v31, .int v11, .int (-1), .ref (L 21 q)]) (rest := []) (k := 2) (i := 0) S K hH (by decide) rfl rfl (k_fiL_21 l D B L A σ26 τ v30 v31 v11 (-1) q (show q < 60 by omega) (by omega) (by omega) (by omega) hI) gX4_renewPlan_X3_findLatest rfl hdV_X3_findLatest ⟨Nat.le_of_ble_eq_true rfl, Nat.le_of_ble_eq_true rfl⟩ rfl hl.1 (Nat.le_of_ble_eq_true rfl) dX4_renewPlan_159) hS (fun σ32 τ32 H locs q32 hH hS => ?_)
          obtain ⟨hI, hP32, hτ32, q32⟩ := q32
          rw [hτ32] at hH
          have hP := Keep_t hP hP32 (by decide)
          refine cW_vret S hr hk hH hS ?_ dX4_renewPlan_162
          exact ⟨rfl, hI, hP, rfl, by trivial⟩
        · have j29 := t_nle c29
          refine lv_aload_n S.1 S.2.1 dX4_renewPlan_129 rfl (lv_at hl 4 rfl) ?_
          refine rC_20_11 S hnX2 K hH (show q < 60 by omega) (mG wd_225) dX4_renewPlan_130 ?_
          refine lv_iconst (v := (-1)) S.1 S.2.1 dX4_renewPlan_133 (by decide) ?_
          refine cW_bv (cW_S (n := 2) (As := [.ref (L 21 q), .int (-1)]) (rest := []) S K hH (k_fill_21 l D B L A σ26 τ q (-1) (show q < 60 by omega) hI) gX4_renewPlan_J7_fill_53178 rfl hdS_J7_fill_53178 ⟨Nat.le_of_ble_eq_true rfl, Nat.le_of_ble_eq_true rfl⟩ rfl hl.1 (Nat.le_of_ble_eq_true rfl) dX4_renewPlan_134) hS (fun σ33 τ33 H locs q33 hH hS => ?_)
          obtain ⟨hI, hP33, hτ33, q33⟩ := q33
          rw [hτ33] at hH
          have hP := Keep_t hP hP33 (by decide)
          refine lv_goto (tgt := 162) S.1 S.2.1 dX4_renewPlan_137 (by decide) ?_
          refine cW_vret S hr hk hH hS ?_ dX4_renewPlan_162
          exact ⟨rfl, hI, hP, rfl, by trivial⟩
    · have j4 := t_neq c4
      exact absurd j4 (by omega)
  · have j3 := t_eq c3
    refine lv_iconst (v := 1) S.1 S.2.1 dX4_renewPlan_14 (by decide) ?_
    refine lv_goto (tgt := 19) S.1 S.2.1 dX4_renewPlan_15 (by decide) ?_
    refine lv_istore_n (lv' := [(2, .int 1), (0, .ref (L 0 0)), (1, .ref (L 20 q))]) S.1 S.2.1 dX4_renewPlan_19 rfl hl (by decide) rfl (fun ls hl => ?_)
    refine lv_iload_n S.1 S.2.1 dX4_renewPlan_20 rfl (lv_at hl 0 rfl) ?_
    refine lv_if_eq (tgt := 52) S.1 S.2.1 dX4_renewPlan_21 (by decide) (fun c34 => ?_) (fun c34 => ?_)
    · have j34 := t_eq c34
      exact absurd j34 (by omega)
    · have j34 := t_neq c34
      refine lv_aload_n S.1 S.2.1 dX4_renewPlan_24 rfl (lv_at hl 1 rfl) ?_
      refine rC_0_4 S hnX4 K hH (mG wd_156) dX4_renewPlan_25 ?_
      refine lv_topi (fun v35 e35 => ?_)
      have b35 : 0 ≤ v35.toInt ∧ v35.toInt ≤ 5000 := by rw [e35]; exact hI.1 1 0 0
      refine lv_aload_n S.1 S.2.1 dX4_renewPlan_28 rfl (lv_at hl 2 rfl) ?_
      refine rC_20_10 S hnX2 K hH (show q < 60 by omega) (mG wd_224) dX4_renewPlan_29 ?_
      refine lv_topi (fun v36 e36 => ?_)
      refine lv_icmp_lt (tgt := 51) S.1 S.2.1 dX4_renewPlan_32 (by decide) (fun c37 => ?_) (fun c37 => ?_)
      · have j37 := t_lt c37
        refine cW_vret S hr hk hH hS ?_ dX4_renewPlan_51
        exact ⟨rfl, hI, hP, rfl, by trivial⟩
      · have j37 := t_nlt c37
        refine lv_aload_n S.1 S.2.1 dX4_renewPlan_35 rfl (lv_at hl 1 rfl) ?_
        refine rC_0_4 S hnX4 K hH (mG wd_156) dX4_renewPlan_36 ?_
        refine lv_topi (fun v38 e38 => ?_)
        have b38 : 0 ≤ v38.toInt ∧ v38.toInt ≤ 5000 := by rw [e38]; exact hI.1 1 0 0
        have k38 : v38.toInt = v35.toInt := by rw [e38]; rw [← e35]
        refine lv_aload_n S.1 S.2.1 dX4_renewPlan_39 rfl (lv_at hl 2 rfl) ?_
        refine rC_20_11 S hnX2 K hH (show q < 60 by omega) (mG wd_225) dX4_renewPlan_40 ?_
        refine lv_aload_n S.1 S.2.1 dX4_renewPlan_43 rfl (lv_at hl 2 rfl) ?_
        refine rC_20_2 S hnX2 K hH (show q < 60 by omega) (mG wd_226) dX4_renewPlan_44 ?_
        refine lv_topi (fun v39 e39 => ?_)
        have b39 : (-1) ≤ v39.toInt ∧ v39.toInt ≤ 11 := by rw [e39]; exact hI.1 34 q 0
        have zv39 : 0 ≤ v39.toInt := by rw [e39]; exact hp2
        refine lC_21 S K hH (show q < 60 by omega) (vin (by omega) (by omega)) dX4_renewPlan_47 ?_
        refine lv_topi (fun v40 e40 => ?_)
        refine lv_icmp_gt (tgt := 52) S.1 S.2.1 dX4_renewPlan_48 (by decide) (fun c41 => ?_) (fun c41 => ?_)
        · have j41 := t_lt c41
          refine lv_aload_n S.1 S.2.1 dX4_renewPlan_52 rfl (lv_at hl 1 rfl) ?_
          refine rC_0_4 S hnX4 K hH (mG wd_156) dX4_renewPlan_53 ?_
          refine lv_topi (fun v42 e42 => ?_)
          have b42 : 0 ≤ v42.toInt ∧ v42.toInt ≤ 5000 := by rw [e42]; exact hI.1 1 0 0
          have k42 : v42.toInt = v35.toInt := by rw [e42]; rw [← e35]
          refine lv_sipush (v := 672) S.1 S.2.1 dX4_renewPlan_56 (by decide) ?_
          refine lv_iadd S.1 S.2.1 dX4_renewPlan_59 ?_
          refine lv_topi (fun v43 e43 => ?_)
          have i43 : v43.toInt = v42.toInt + (672 : Int32).toInt := i_add e43 (by omega) (by omega)
          refine lv_istore_n (lv' := [(3, .int v43), (2, .int 1), (0, .ref (L 0 0)), (1, .ref (L 20 q))]) S.1 S.2.1 dX4_renewPlan_60 rfl hl (by decide) rfl (fun ls hl => ?_)
          refine lv_aload_n S.1 S.2.1 dX4_renewPlan_61 rfl (lv_at hl 2 rfl) ?_
          refine rC_0_0 S hnX4 K hH (mG wd_149) dX4_renewPlan_62 ?_
          refine lv_aload_n S.1 S.2.1 dX4_renewPlan_65 rfl (lv_at hl 3 rfl) ?_
          refine rC_20_2 S hnX2 K hH (show q < 60 by omega) (mG wd_226) dX4_renewPlan_66 ?_
          refine lv_topi (fun v44 e44 => ?_)
          have b44 : (-1) ≤ v44.toInt ∧ v44.toInt ≤ 11 := by rw [e44]; exact hI.1 34 q 0
          have k44 : v44.toInt = v39.toInt := by rw [e44]; rw [← e39]
          have zv44 : 0 ≤ v44.toInt := by rw [e44]; exact hp2
          refine lv_aload_n S.1 S.2.1 dX4_renewPlan_69 rfl (lv_at hl 2 rfl) ?_
          refine rC_0_4 S hnX4 K hH (mG wd_156) dX4_renewPlan_70 ?_
          refine lv_topi (fun v45 e45 => ?_)
          have b45 : 0 ≤ v45.toInt ∧ v45.toInt ≤ 5000 := by rw [e45]; exact hI.1 1 0 0
          have k45 : v45.toInt = v35.toInt := by rw [e45]; rw [← e35]
          refine lv_iload_n S.1 S.2.1 dX4_renewPlan_73 rfl (lv_at hl 0 rfl) ?_
          refine lv_iconst (v := 1) S.1 S.2.1 dX4_renewPlan_74 (by decide) ?_
          refine lv_aload_n S.1 S.2.1 dX4_renewPlan_75 rfl (lv_at hl 3 rfl) ?_
          refine rC_20_0 S hnX2 K hH (show q < 60 by omega) (mG wd_227) dX4_renewPlan_76 ?_
          refine lv_topi (fun v46 e46 => ?_)
          have b46 : (-1) ≤ v46.toInt ∧ v46.toInt ≤ 11 := by rw [e46]; exact hI.1 32 q 0
          refine lv_ishl S.1 S.2.1 dX4_renewPlan_79 ?_
          refine lv_topi (fun v47 e47 => ?_)
          refine cW_bi (cW_V (n := 4) (As := [.int v44, .int v45, .int v43, .int v47]) (rest := []) (k := 2) (i := 0) S K hH (by decide) rfl rfl (k_X3_soonest l D B L A σ τ v44 v45 v43 v47 (by omega) (by omega) (by omega) hI) gX4_renewPlan_X3_soonest rfl hdV_X3_soonest ⟨Nat.le_of_ble_eq_true rfl, Nat.le_of_ble_eq_true rfl⟩ rfl hl.1 (Nat.le_of_ble_eq_true rfl) dX4_renewPlan_80) hS (fun v48 σ48 τ48 H locs q48 hH hS => ?_)
          obtain ⟨hI, hP48, hτ48, q48⟩ := q48
          rw [hτ48] at hH
          have hP := Keep_t hP hP48 (by decide)
          refine lv_istore (lv' := [(4, .int v48), (3, .int v43), (2, .int 1), (0, .ref (L 0 0)), (1, .ref (L 20 q))]) S.1 S.2.1 dX4_renewPlan_83 hl (by decide) rfl (fun ls hl => ?_)
          refine lv_aload_n S.1 S.2.1 dX4_renewPlan_85 rfl (lv_at hl 4 rfl) ?_
          refine lv_aload_n S.1 S.2.1 dX4_renewPlan_86 rfl (lv_at hl 3 rfl) ?_
          refine rC_0_0 S hnX4 K hH (mG wd_149) dX4_renewPlan_87 ?_
          refine rC_2_2 S hnX3 K hH (mG wd_223) dX4_renewPlan_90 ?_
          refine lv_topi (fun v49 e49 => ?_)
          have k49 : v49.toInt = v2.toInt := by rw [e49, hP48 4 (by decide)]; rw [← e2]
          refine pC_20_9 S hnX2 K hH hS (show q < 60 by omega) (mG wd_222) dX4_renewPlan_93 (fun H locs hH hS => ?_)
          obtain ⟨σ50, eσ50⟩ : ∃ z_9 : QS, z_9 = rs σ48 41 q (fun _ => v49) := ⟨_, rfl⟩
          rw [← eσ50] at hH
          have hI := InvC_f eσ50 hI (by decide) (any32 _)
          have hP := Keep_w eσ50 hP (by decide)
          refine lv_aload_n S.1 S.2.1 dX4_renewPlan_96 rfl (lv_at hl 4 rfl) ?_
          refine lv_iload S.1 S.2.1 dX4_renewPlan_97 (lv_at hl 0 rfl) ?_
          refine lv_iconst (v := (-1)) S.1 S.2.1 dX4_renewPlan_99 (by decide) ?_
          refine lv_icmp_ne (tgt := 109) S.1 S.2.1 dX4_renewPlan_100 (by decide) (fun c51 => ?_) (fun c51 => ?_)
          · have j51 := t_neq c51
            refine lv_iload S.1 S.2.1 dX4_renewPlan_109 (lv_at hl 0 rfl) ?_
            refine lv_sipush (v := 336) S.1 S.2.1 dX4_renewPlan_111 (by decide) ?_
            refine lv_isub S.1 S.2.1 dX4_renewPlan_114 ?_
            refine lv_topi (fun v52 e52 => ?_)
            have i52 : v52.toInt = v48.toInt - (336 : Int32).toInt := i_sub e52 (by omega) (by omega)
            refine pC_20_10 S hnX2 K hH hS (show q < 60 by omega) (mG wd_224) dX4_renewPlan_115 (fun H locs hH hS => ?_)
            obtain ⟨σ53, eσ53⟩ : ∃ z_9 : QS, z_9 = rs σ50 42 q (fun _ => v52) := ⟨_, rfl⟩
            rw [← eσ53] at hH
            have hI := InvC_f eσ53 hI (by decide) (any32 _)
            have hP := Keep_w eσ53 hP (by decide)
            refine lv_aload_n S.1 S.2.1 dX4_renewPlan_118 rfl (lv_at hl 3 rfl) ?_
            refine rC_0_4 S hnX4 K hH (mG wd_156) dX4_renewPlan_119 ?_
            refine lv_topi (fun v54 e54 => ?_)
            have b54 : 0 ≤ v54.toInt ∧ v54.toInt ≤ 5000 := by rw [e54]; exact hI.1 1 0 0
            have k54 : v54.toInt = v35.toInt := by rw [e54, eσ53, rs_v (by decide), eσ50, rs_v (by decide), hP48 1 (by decide)]; rw [← e35]
            refine lv_aload_n S.1 S.2.1 dX4_renewPlan_122 rfl (lv_at hl 4 rfl) ?_
            refine rC_20_10 S hnX2 K hH (show q < 60 by omega) (mG wd_224) dX4_renewPlan_123 ?_
            refine lv_topi (fun v55 e55 => ?_)
            have k55 : v55.toInt = v52.toInt := by rw [e55, eσ53, rs_self]
            refine lv_icmp_ge (tgt := 140) S.1 S.2.1 dX4_renewPlan_126 (by decide) (fun c56 => ?_) (fun c56 => ?_)
            · have j56 := t_le c56
              refine lv_aload_n S.1 S.2.1 dX4_renewPlan_140 rfl (lv_at hl 3 rfl) ?_
              refine rC_0_0 S hnX4 K hH (mG wd_149) dX4_renewPlan_141 ?_
              refine lv_aload_n S.1 S.2.1 dX4_renewPlan_144 rfl (lv_at hl 4 rfl) ?_
              refine rC_20_0 S hnX2 K hH (show q < 60 by omega) (mG wd_227) dX4_renewPlan_145 ?_
              refine lv_topi (fun v57 e57 => ?_)
              have b57 : (-1) ≤ v57.toInt ∧ v57.toInt ≤ 11 := by rw [e57]; exact hI.1 32 q 0
              have k57 : v57.toInt = v46.toInt := by rw [e57, eσ53, rs_v (by decide), eσ50, rs_v (by decide), hP48 32 (by decide)]; rw [← e46]
              have zv57 : 0 ≤ v57.toInt := by rw [e57, hP 32 (by decide)]; exact hp3
              refine lv_aload_n S.1 S.2.1 dX4_renewPlan_148 rfl (lv_at hl 3 rfl) ?_
              refine rC_0_4 S hnX4 K hH (mG wd_156) dX4_renewPlan_149 ?_
              refine lv_topi (fun v58 e58 => ?_)
              have b58 : 0 ≤ v58.toInt ∧ v58.toInt ≤ 5000 := by rw [e58]; exact hI.1 1 0 0
              have k58 : v58.toInt = v35.toInt := by rw [e58, eσ53, rs_v (by decide), eσ50, rs_v (by decide), hP48 1 (by decide)]; rw [← e35]
              refine lv_iload S.1 S.2.1 dX4_renewPlan_152 (lv_at hl 0 rfl) ?_
              refine lv_iconst (v := (-1)) S.1 S.2.1 dX4_renewPlan_154 (by decide) ?_
              refine lv_aload_n S.1 S.2.1 dX4_renewPlan_155 rfl (lv_at hl 4 rfl) ?_
              refine rC_20_11 S hnX2 K hH (show q < 60 by omega) (mG wd_225) dX4_renewPlan_156 ?_
              refine cW_bv (cW_V (n := 5) (As := [.int v57, .int v58, .int v48, .int (-1), .ref (L 21 q)]) (rest := []) (k := 2) (i := 0) S K hH (by decide) rfl rfl (k_fiL_21 l D B L A σ53 τ v57 v58 v48 (-1) q (show q < 60 by omega) (by omega) (by omega) (by omega) hI) gX4_renewPlan_X3_findLatest rfl hdV_X3_findLatest ⟨Nat.le_of_ble_eq_true rfl, Nat.le_of_ble_eq_true rfl⟩ rfl hl.1 (Nat.le_of_ble_eq_true rfl) dX4_renewPlan_159) hS (fun σ59 τ59 H locs q59 hH hS => ?_)
              obtain ⟨hI, hP59, hτ59, q59⟩ := q59
              rw [hτ59] at hH
              have hP := Keep_t hP hP59 (by decide)
              refine cW_vret S hr hk hH hS ?_ dX4_renewPlan_162
              exact ⟨rfl, hI, hP, rfl, by trivial⟩
            · have j56 := t_nle c56
              refine lv_aload_n S.1 S.2.1 dX4_renewPlan_129 rfl (lv_at hl 4 rfl) ?_
              refine rC_20_11 S hnX2 K hH (show q < 60 by omega) (mG wd_225) dX4_renewPlan_130 ?_
              refine lv_iconst (v := (-1)) S.1 S.2.1 dX4_renewPlan_133 (by decide) ?_
              refine cW_bv (cW_S (n := 2) (As := [.ref (L 21 q), .int (-1)]) (rest := []) S K hH (k_fill_21 l D B L A σ53 τ q (-1) (show q < 60 by omega) hI) gX4_renewPlan_J7_fill_53178 rfl hdS_J7_fill_53178 ⟨Nat.le_of_ble_eq_true rfl, Nat.le_of_ble_eq_true rfl⟩ rfl hl.1 (Nat.le_of_ble_eq_true rfl) dX4_renewPlan_134) hS (fun σ60 τ60 H locs q60 hH hS => ?_)
              obtain ⟨hI, hP60, hτ60, q60⟩ := q60
              rw [hτ60] at hH
              have hP := Keep_t hP hP60 (by decide)
              refine lv_goto (tgt := 162) S.1 S.2.1 dX4_renewPlan_137 (by decide) ?_
              refine cW_vret S hr hk hH hS ?_ dX4_renewPlan_162
              exact ⟨rfl, hI, hP, rfl, by trivial⟩
          · have j51 := t_eq c51
            refine lv_iload_n S.1 S.2.1 dX4_renewPlan_103 rfl (lv_at hl 1 rfl) ?_
            refine lv_iconst (v := 1) S.1 S.2.1 dX4_renewPlan_104 (by decide) ?_
            refine lv_iadd S.1 S.2.1 dX4_renewPlan_105 ?_
            refine lv_topi (fun v61 e61 => ?_)
            have i61 : v61.toInt = v43.toInt + (1 : Int32).toInt := i_add e61 (by omega) (by omega)
            refine lv_goto (tgt := 111) S.1 S.2.1 dX4_renewPlan_106 (by decide) ?_
            refine lv_sipush (v := 336) S.1 S.2.1 dX4_renewPlan_111 (by decide) ?_
            refine lv_isub S.1 S.2.1 dX4_renewPlan_114 ?_
            refine lv_topi (fun v62 e62 => ?_)
            have i62 : v62.toInt = v61.toInt - (336 : Int32).toInt := i_sub e62 (by omega) (by omega)
            refine pC_20_10 S hnX2 K hH hS (show q < 60 by omega) (mG wd_224) dX4_renewPlan_115 (fun H locs hH hS => ?_)
            obtain ⟨σ63, eσ63⟩ : ∃ z_9 : QS, z_9 = rs σ50 42 q (fun _ => v62) := ⟨_, rfl⟩
            rw [← eσ63] at hH
            have hI := InvC_f eσ63 hI (by decide) (any32 _)
            have hP := Keep_w eσ63 hP (by decide)
            refine lv_aload_n S.1 S.2.1 dX4_renewPlan_118 rfl (lv_at hl 3 rfl) ?_
            refine rC_0_4 S hnX4 K hH (mG wd_156) dX4_renewPlan_119 ?_
            refine lv_topi (fun v64 e64 => ?_)
            have b64 : 0 ≤ v64.toInt ∧ v64.toInt ≤ 5000 := by rw [e64]; exact hI.1 1 0 0
            have k64 : v64.toInt = v35.toInt := by rw [e64, eσ63, rs_v (by decide), eσ50, rs_v (by decide), hP48 1 (by decide)]; rw [← e35]
            refine lv_aload_n S.1 S.2.1 dX4_renewPlan_122 rfl (lv_at hl 4 rfl) ?_
            refine rC_20_10 S hnX2 K hH (show q < 60 by omega) (mG wd_224) dX4_renewPlan_123 ?_
            refine lv_topi (fun v65 e65 => ?_)
            have k65 : v65.toInt = v62.toInt := by rw [e65, eσ63, rs_self]
            refine lv_icmp_ge (tgt := 140) S.1 S.2.1 dX4_renewPlan_126 (by decide) (fun c66 => ?_) (fun c66 => ?_)
            · have j66 := t_le c66
              refine lv_aload_n S.1 S.2.1 dX4_renewPlan_140 rfl (lv_at hl 3 rfl) ?_
              refine rC_0_0 S hnX4 K hH (mG wd_149) dX4_renewPlan_141 ?_
              refine lv_aload_n S.1 S.2.1 dX4_renewPlan_144 rfl (lv_at hl 4 rfl) ?_
              refine rC_20_0 S hnX2 K hH (show q < 60 by omega) (mG wd_227) dX4_renewPlan_145 ?_
              refine lv_topi (fun v67 e67 => ?_)
              have b67 : (-1) ≤ v67.toInt ∧ v67.toInt ≤ 11 := by rw [e67]; exact hI.1 32 q 0
              have k67 : v67.toInt = v46.toInt := by rw [e67, eσ63, rs_v (by decide), eσ50, rs_v (by decide), hP48 32 (by decide)]; rw [← e46]
              have zv67 : 0 ≤ v67.toInt := by rw [e67, hP 32 (by decide)]; exact hp3
              refine lv_aload_n S.1 S.2.1 dX4_renewPlan_148 rfl (lv_at hl 3 rfl) ?_
              refine rC_0_4 S hnX4 K hH (mG wd_156) dX4_renewPlan_149 ?_
              refine lv_topi (fun v68 e68 => ?_)
              have b68 : 0 ≤ v68.toInt ∧ v68.toInt ≤ 5000 := by rw [e68]; exact hI.1 1 0 0
              have k68 : v68.toInt = v35.toInt := by rw [e68, eσ63, rs_v (by decide), eσ50, rs_v (by decide), hP48 1 (by decide)]; rw [← e35]
              refine lv_iload S.1 S.2.1 dX4_renewPlan_152 (lv_at hl 0 rfl) ?_
              refine lv_iconst (v := (-1)) S.1 S.2.1 dX4_renewPlan_154 (by decide) ?_
              refine lv_aload_n S.1 S.2.1 dX4_renewPlan_155 rfl (lv_at hl 4 rfl) ?_
              refine rC_20_11 S hnX2 K hH (show q < 60 by omega) (mG wd_225) dX4_renewPlan_156 ?_
              refine cW_bv (cW_V (n := 5) (As := [.int v67, .int v68, .int v48, .int (-1), .ref (L 21 q)]) (rest := []) (k := 2) (i := 0) S K hH (by decide) rfl rfl (k_fiL_21 l D B L A σ63 τ v67 v68 v48 (-1) q (show q < 60 by omega) (by omega) (by omega) (by omega) hI) gX4_renewPlan_X3_findLatest rfl hdV_X3_findLatest ⟨Nat.le_of_ble_eq_true rfl, Nat.le_of_ble_eq_true rfl⟩ rfl hl.1 (Nat.le_of_ble_eq_true rfl) dX4_renewPlan_159) hS (fun σ69 τ69 H locs q69 hH hS => ?_)
              obtain ⟨hI, hP69, hτ69, q69⟩ := q69
              rw [hτ69] at hH
              have hP := Keep_t hP hP69 (by decide)
              refine cW_vret S hr hk hH hS ?_ dX4_renewPlan_162
              exact ⟨rfl, hI, hP, rfl, by trivial⟩
            · have j66 := t_nle c66
              refine lv_aload_n S.1 S.2.1 dX4_renewPlan_129 rfl (lv_at hl 4 rfl) ?_
              refine rC_20_11 S hnX2 K hH (show q < 60 by omega) (mG wd_225) dX4_renewPlan_130 ?_
              refine lv_iconst (v := (-1)) S.1 S.2.1 dX4_renewPlan_133 (by decide) ?_
              refine cW_bv (cW_S (n := 2) (As := [.ref (L 21 q), .int (-1)]) (rest := []) S K hH (k_fill_21 l D B L A σ63 τ q (-1) (show q < 60 by omega) hI) gX4_renewPlan_J7_fill_53178 rfl hdS_J7_fill_53178 ⟨Nat.le_of_ble_eq_true rfl, Nat.le_of_ble_eq_true rfl⟩ rfl hl.1 (Nat.le_of_ble_eq_true rfl) dX4_renewPlan_134) hS (fun σ70 τ70 H locs q70 hH hS => ?_)
              obtain ⟨hI, hP70, hτ70, q70⟩ := q70
              rw [hτ70] at hH
              have hP := Keep_t hP hP70 (by decide)
              refine lv_goto (tgt := 162) S.1 S.2.1 dX4_renewPlan_137 (by decide) ?_
              refine cW_vret S hr hk hH hS ?_ dX4_renewPlan_162
              exact ⟨rfl, hI, hP, rfl, by trivial⟩
        · have j41 := t_nlt c41
          refine cW_vret S hr hk hH hS ?_ dX4_renewPlan_51
          exact ⟨rfl, hI, hP, rfl, by trivial⟩
set_option maxHeartbeats 4000000 in
set_option maxRecDepth 100000 in
theorem k_X4_seekRide (l : Launch) (D : va_G) (B : Nat → ClassId) (L : QL) (A : Nat → Prop) (σ : QS) (τ : Int64) (q : Nat)  (hp0 : q < 60) (hI : InvC σ) (hp2 : 0 ≤ (σ 32 q 0).toInt) : cW cntC gC l D B L A yX4_seekRide wsX4_seekRide 4 101 [.ref (L 0 0), .ref (L 20 q)] σ τ (pV (fun σ' τ' => InvC σ' ∧ Keep [5, 9, 41, 42, 43, 30, 31, 34, 35, 36, 37, 38, 40] σ σ' ∧ τ' = τ ∧ True)) := by
  refine cW_of (cc := cX4_seekRide) (nL := 9) (ret := none) (by decide) rfl (Nat.le_of_ble_eq_true rfl) ?_
  intro p e s m below meth c S hr hk K hH hS ls hl
  have hnX0 : ∀ w ∈ wsX00, w ∈ wsX4_seekRide := fun w h => mG (tX0 w h)
  have hnX2 : ∀ w ∈ wsX20, w ∈ wsX4_seekRide := fun w h => mG (tX2 w h)
  have hnX3 : ∀ w ∈ wsX30, w ∈ wsX4_seekRide := fun w h => mG (tX3 w h)
  have hnX4 : ∀ w ∈ wsX40, w ∈ wsX4_seekRide := fun w h => mG (tX4 w h)
  have lm1 : ((-1) : Int32).toInt = -1 := by decide
  have l0 : (0 : Int32).toInt = 0 := by decide
  have l1 : (1 : Int32).toInt = 1 := by decide
  have hP : Keep [5, 9, 41, 42, 43, 30, 31, 34, 35, 36, 37, 38, 40] σ σ := Keep_r
  have hl : lv_has ls 9 [(0, .ref (L 0 0)), (1, .ref (L 20 q))] := hl
  refine lv_aload_n S.1 S.2.1 dX4_seekRide_0 rfl (lv_at hl 0 rfl) ?_
  refine rC_0_0 S hnX4 K hH (mG wd_149) dX4_seekRide_1 ?_
  refine lv_aload_n S.1 S.2.1 dX4_seekRide_4 rfl (lv_at hl 0 rfl) ?_
  refine rC_0_4 S hnX4 K hH (mG wd_156) dX4_seekRide_5 ?_
  refine lv_topi (fun v1 e1 => ?_)
  have b1 : 0 ≤ v1.toInt ∧ v1.toInt ≤ 5000 := by rw [e1]; exact hI.1 1 0 0
  refine cW_bpi (cW_V (n := 1) (As := [.int v1]) (rest := []) (k := 2) (i := 0) S K hH (by decide) rfl rfl (k_X3_haltsEnd l D B L A σ τ v1 (by omega) hI) gX4_seekRide_X3_haltsEnd rfl hdV_X3_haltsEnd ⟨Nat.le_of_ble_eq_true rfl, Nat.le_of_ble_eq_true rfl⟩ rfl hl.1 (Nat.le_of_ble_eq_true rfl) dX4_seekRide_8) hS (fun v2 H locs q2 hH hS => ?_)
  refine lv_istore_n (lv' := [(2, .int v2), (0, .ref (L 0 0)), (1, .ref (L 20 q))]) S.1 S.2.1 dX4_seekRide_11 rfl hl (by decide) rfl (fun ls hl => ?_)
  refine lv_aload_n S.1 S.2.1 dX4_seekRide_12 rfl (lv_at hl 1 rfl) ?_
  refine rC_0_0 S hnX4 K hH (mG wd_149) dX4_seekRide_13 ?_
  refine lv_aload_n S.1 S.2.1 dX4_seekRide_16 rfl (lv_at hl 1 rfl) ?_
  refine rC_0_4 S hnX4 K hH (mG wd_156) dX4_seekRide_17 ?_
  refine lv_topi (fun v3 e3 => ?_)
  have b3 : 0 ≤ v3.toInt ∧ v3.toInt ≤ 5000 := by rw [e3]; exact hI.1 1 0 0
  have k3 : v3.toInt = v1.toInt := by rw [e3]; rw [← e1]
  refine cW_bpi (cW_V (n := 1) (As := [.int v3]) (rest := []) (k := 2) (i := 0) S K hH (by decide) rfl rfl (k_X3_haltsBegin l D B L A σ τ v3 (by omega) hI) gX4_seekRide_X3_haltsBegin rfl hdV_X3_haltsBegin ⟨Nat.le_of_ble_eq_true rfl, Nat.le_of_ble_eq_true rfl⟩ rfl hl.1 (Nat.le_of_ble_eq_true rfl) dX4_seekRide_20) hS (fun v4 H locs q4 hH hS => ?_)
  refine lv_istore_n (lv' := [(3, .int v4), (2, .int v2), (0, .ref (L 0 0)), (1, .ref (L 20 q))]) S.1 S.2.1 dX4_seekRide_23 rfl hl (by decide) rfl (fun ls hl => ?_)
  have cut_24_5 : ∀ (n : Nat) (x3_5 : Int32) (σ_5 : QS) (H : Heap) (locs : List Loc) (ls : Array Slot), (v2.toInt - x3_5.toInt).toNat < n → 0 ≤ x3_5.toInt ∧ x3_5.toInt ≤ 72 → InvC σ_5 → Keep [5, 9, 41, 42, 43, 30, 31, 34, 35, 36, 37, 38, 40] σ σ_5 → hW cntC gC D B L σ_5 τ H → va_S A s.heap H locs → lv_has ls 9 [(0, .ref (L 0 0)), (1, .ref (L 20 q)), (2, .int v2), (3, .int x3_5)] → W p l e { frames := 4, cells := 0, slots := 0, locals := 101 } s m [.ref (L 0 0), .ref (L 20 q)].toArray below meth c H locs 0 0 (MQ below (QcW cntC gC D B L A (pV (fun σ' τ' => InvC σ' ∧ Keep [5, 9, 41, 42, 43, 30, 31, 34, 35, 36, 37, 38, 40] σ σ' ∧ τ' = τ ∧ True))) [.ref (L 0 0), .ref (L 20 q)].toArray s 0 0 A) (F0 m 24 ls []) := by
    intro n
    induction n with
    | zero => intro x3_5 σ_5 H locs ls hm; exact absurd hm (Nat.not_lt_zero _)
    | succ n ih5 =>
      intro x3_5 σ_5 H locs ls hm5 h5_0 hI hP hH hS hl
      have y9 : (σ_5 7 0 24).toInt = (σ 7 0 24).toInt := by rw [hP 7 (by decide)]
      have y8 : (σ_5 32 q 0).toInt = (σ 32 q 0).toInt := by rw [hP 32 (by decide)]
      refine lv_iload_n S.1 S.2.1 dX4_seekRide_24 rfl (lv_at hl 3 rfl) ?_
      refine lv_iload_n S.1 S.2.1 dX4_seekRide_25 rfl (lv_at hl 2 rfl) ?_
      refine lv_icmp_ge (tgt := 184) S.1 S.2.1 dX4_seekRide_26 (by decide) (fun c6 => ?_) (fun c6 => ?_)
      · have j6 := t_le c6
        refine cW_vret S hr hk hH hS ?_ dX4_seekRide_184
        exact ⟨rfl, hI, hP, rfl, by trivial⟩
      · have j6 := t_nle c6
        refine lv_aload_n S.1 S.2.1 dX4_seekRide_29 rfl (lv_at hl 0 rfl) ?_
        refine rC_0_0 S hnX4 K hH (mG wd_149) dX4_seekRide_30 ?_
        refine lv_iload_n S.1 S.2.1 dX4_seekRide_33 rfl (lv_at hl 3 rfl) ?_
        refine cW_bpi (cW_V (n := 1) (As := [.int x3_5]) (rest := []) (k := 2) (i := 0) S K hH (by decide) rfl rfl (k_X3_cartOf l D B L A σ_5 τ x3_5 (by omega) hI (by omega)) gX4_seekRide_X3_cartOf rfl hdV_X3_cartOf ⟨Nat.le_of_ble_eq_true rfl, Nat.le_of_ble_eq_true rfl⟩ rfl hl.1 (Nat.le_of_ble_eq_true rfl) dX4_seekRide_34) hS (fun v7 H locs q7 hH hS => ?_)
        refine lv_istore (lv' := [(4, .int v7), (0, .ref (L 0 0)), (1, .ref (L 20 q)), (2, .int v2), (3, .int x3_5)]) S.1 S.2.1 dX4_seekRide_37 hl (by decide) rfl (fun ls hl => ?_)
        refine lv_aload_n S.1 S.2.1 dX4_seekRide_39 rfl (lv_at hl 1 rfl) ?_
        refine rC_0_0 S hnX4 K hH (mG wd_149) dX4_seekRide_40 ?_
        refine lv_iload_n S.1 S.2.1 dX4_seekRide_43 rfl (lv_at hl 4 rfl) ?_
        refine cW_bpi (cW_V (n := 1) (As := [.int x3_5]) (rest := []) (k := 2) (i := 0) S K hH (by decide) rfl rfl (k_X3_stopOf l D B L A σ_5 τ x3_5 (by omega) hI (by omega)) gX4_seekRide_X3_stopOf rfl hdV_X3_stopOf ⟨Nat.le_of_ble_eq_true rfl, Nat.le_of_ble_eq_true rfl⟩ rfl hl.1 (Nat.le_of_ble_eq_true rfl) dX4_seekRide_44) hS (fun v8 H locs q8 hH hS => ?_)
        refine lv_istore (lv' := [(5, .int v8), (4, .int v7), (0, .ref (L 0 0)), (1, .ref (L 20 q)), (2, .int v2), (3, .int x3_5)]) S.1 S.2.1 dX4_seekRide_47 hl (by decide) rfl (fun ls hl => ?_)
        refine lv_aload_n S.1 S.2.1 dX4_seekRide_49 rfl (lv_at hl 2 rfl) ?_
        refine rC_0_0 S hnX4 K hH (mG wd_149) dX4_seekRide_50 ?_
        refine rC_2_0 S hnX3 K hH (mG wd_167) dX4_seekRide_53 ?_
        refine lv_iload S.1 S.2.1 dX4_seekRide_56 (lv_at hl 1 rfl) ?_
        refine lC_3 S K hH (vin (by omega) (by omega)) dX4_seekRide_58 ?_
        refine lv_astore (lv' := [(6, .ref (L 14 v7.toNatClampNeg)), (5, .int v8), (4, .int v7), (0, .ref (L 0 0)), (1, .ref (L 20 q)), (2, .int v2), (3, .int x3_5)]) S.1 S.2.1 dX4_seekRide_59 hl (by decide) rfl (fun ls hl => ?_)
        refine lv_aload S.1 S.2.1 dX4_seekRide_61 (lv_at hl 0 rfl) ?_
        refine lv_iload S.1 S.2.1 dX4_seekRide_63 (lv_at hl 1 rfl) ?_
        refine lv_aload_n S.1 S.2.1 dX4_seekRide_65 rfl (lv_at hl 3 rfl) ?_
        refine rC_0_4 S hnX4 K hH (mG wd_156) dX4_seekRide_66 ?_
        refine lv_topi (fun v9 e9 => ?_)
        have b9 : 0 ≤ v9.toInt ∧ v9.toInt ≤ 5000 := by rw [e9]; exact hI.1 1 0 0
        refine cW_bpi (cW_V (n := 2) (As := [.int v8, .int v9]) (rest := []) (k := 14) (i := v7.toNatClampNeg) S K hH (cl_lt (n := 12) (by omega) (by omega)) rfl rfl (k_X0_dayOf l D B L A σ_5 τ v7.toNatClampNeg v8 v9 (cl_lt (n := 12) (by omega) (by omega)) (by omega)) gX4_seekRide_X0_dayOf rfl hdV_X0_dayOf ⟨Nat.le_of_ble_eq_true rfl, Nat.le_of_ble_eq_true rfl⟩ rfl hl.1 (Nat.le_of_ble_eq_true rfl) dX4_seekRide_69) hS (fun v10 H locs q10 hH hS => ?_)
        refine lv_istore (lv' := [(7, .int v10), (6, .ref (L 14 v7.toNatClampNeg)), (5, .int v8), (4, .int v7), (0, .ref (L 0 0)), (1, .ref (L 20 q)), (2, .int v2), (3, .int x3_5)]) S.1 S.2.1 dX4_seekRide_72 hl (by decide) rfl (fun ls hl => ?_)
        refine lv_aload S.1 S.2.1 dX4_seekRide_74 (lv_at hl 1 rfl) ?_
        refine lv_aload_n S.1 S.2.1 dX4_seekRide_76 rfl (lv_at hl 5 rfl) ?_
        refine rC_20_2 S hnX2 K hH (show q < 60 by omega) (mG wd_226) dX4_seekRide_77 ?_
        refine lv_topi (fun v11 e11 => ?_)
        have b11 : (-1) ≤ v11.toInt ∧ v11.toInt ≤ 11 := by rw [e11]; exact hI.1 34 q 0
        refine lv_iload S.1 S.2.1 dX4_seekRide_80 (lv_at hl 2 rfl) ?_
        refine cW_bpi (cW_V (n := 2) (As := [.int v11, .int v8]) (rest := []) (k := 14) (i := v7.toNatClampNeg) S K hH (cl_lt (n := 12) (by omega) (by omega)) rfl rfl (k_X0_takesFrom l D B L A σ_5 τ v7.toNatClampNeg v11 v8 (cl_lt (n := 12) (by omega) (by omega)) (by omega) hI) gX4_seekRide_X0_takesFrom rfl hdV_X0_takesFrom ⟨Nat.le_of_ble_eq_true rfl, Nat.le_of_ble_eq_true rfl⟩ rfl hl.1 (Nat.le_of_ble_eq_true rfl) dX4_seekRide_82) hS (fun v12 H locs q12 hH hS => ?_)
        refine lv_if_eq (tgt := 178) S.1 S.2.1 dX4_seekRide_85 (by decide) (fun c13 => ?_) (fun c13 => ?_)
        · have j13 := t_eq c13
          obtain ⟨v14, e14⟩ : ∃ y_9 : Int32, y_9 = x3_5 + 1 := ⟨_, rfl⟩
          have i14 : v14.toInt = x3_5.toInt + 1 := i_addc e14 (by decide) (by omega) (by omega)
          refine lv_iinc (v := v14) (lv' := [(3, .int v14), (7, .int v10), (6, .ref (L 14 v7.toNatClampNeg)), (5, .int v8), (4, .int v7), (0, .ref (L 0 0)), (1, .ref (L 20 q)), (2, .int v2)]) S.1 S.2.1 dX4_seekRide_178 hl (k := 7) rfl (by rw [e14]; rfl) (by decide) rfl (fun ls hl => ?_)
          refine lv_goto (tgt := 24) S.1 S.2.1 dX4_seekRide_181 (by decide) ?_
          exact ih5 v14 σ_5 _ _ ls (by omega) (by omega) hI hP hH hS (lv_sub hl [5, 6, 7, 0] rfl)
        · have j13 := t_neq c13
          refine lv_aload S.1 S.2.1 dX4_seekRide_88 (lv_at hl 1 rfl) ?_
          refine lv_iload S.1 S.2.1 dX4_seekRide_90 (lv_at hl 0 rfl) ?_
          refine cW_bpi (cW_V (n := 1) (As := [.int v10]) (rest := []) (k := 14) (i := v7.toNatClampNeg) S K hH (cl_lt (n := 12) (by omega) (by omega)) rfl rfl (k_X0_goesOn l D B L A σ_5 τ v7.toNatClampNeg v10 (cl_lt (n := 12) (by omega) (by omega))) gX4_seekRide_X0_goesOn rfl hdV_X0_goesOn ⟨Nat.le_of_ble_eq_true rfl, Nat.le_of_ble_eq_true rfl⟩ rfl hl.1 (Nat.le_of_ble_eq_true rfl) dX4_seekRide_92) hS (fun v15 H locs q15 hH hS => ?_)
          refine lv_if_eq (tgt := 178) S.1 S.2.1 dX4_seekRide_95 (by decide) (fun c16 => ?_) (fun c16 => ?_)
          · have j16 := t_eq c16
            obtain ⟨v17, e17⟩ : ∃ y_9 : Int32, y_9 = x3_5 + 1 := ⟨_, rfl⟩
            have i17 : v17.toInt = x3_5.toInt + 1 := i_addc e17 (by decide) (by omega) (by omega)
            refine lv_iinc (v := v17) (lv' := [(3, .int v17), (7, .int v10), (6, .ref (L 14 v7.toNatClampNeg)), (5, .int v8), (4, .int v7), (0, .ref (L 0 0)), (1, .ref (L 20 q)), (2, .int v2)]) S.1 S.2.1 dX4_seekRide_178 hl (k := 7) rfl (by rw [e17]; rfl) (by decide) rfl (fun ls hl => ?_)
            refine lv_goto (tgt := 24) S.1 S.2.1 dX4_seekRide_181 (by decide) ?_
            exact ih5 v17 σ_5 _ _ ls (by omega) (by omega) hI hP hH hS (lv_sub hl [5, 6, 7, 0] rfl)
          · have j16 := t_neq c16
            refine lv_aload S.1 S.2.1 dX4_seekRide_98 (lv_at hl 1 rfl) ?_
            refine lv_iload S.1 S.2.1 dX4_seekRide_100 (lv_at hl 0 rfl) ?_
            refine cW_bpi (cW_V (n := 1) (As := [.int v10]) (rest := []) (k := 14) (i := v7.toNatClampNeg) S K hH (cl_lt (n := 12) (by omega) (by omega)) rfl rfl (k_X0_roomLeft l D B L A σ_5 τ v7.toNatClampNeg v10 (cl_lt (n := 12) (by omega) (by omega)) (by omega)) gX4_seekRide_X0_roomLeft rfl hdV_X0_roomLeft ⟨Nat.le_of_ble_eq_true rfl, Nat.le_of_ble_eq_true rfl⟩ rfl hl.1 (Nat.le_of_ble_eq_true rfl) dX4_seekRide_102) hS (fun v18 H locs q18 hH hS => ?_)
            refine lv_aload_n S.1 S.2.1 dX4_seekRide_105 rfl (lv_at hl 5 rfl) ?_
            refine rC_20_1 S hnX2 K hH (show q < 60 by omega) (mG wd_215) dX4_seekRide_106 ?_
            refine lv_topi (fun v19 e19 => ?_)
            refine lv_icmp_ge (tgt := 115) S.1 S.2.1 dX4_seekRide_109 (by decide) (fun c20 => ?_) (fun c20 => ?_)
            · have j20 := t_le c20
              refine lv_aload_n S.1 S.2.1 dX4_seekRide_115 rfl (lv_at hl 4 rfl) ?_
              refine lv_aload_n S.1 S.2.1 dX4_seekRide_116 rfl (lv_at hl 5 rfl) ?_
              refine cW_bv (cW_V (n := 1) (As := [.ref (L 20 q)]) (rest := []) (k := 0) (i := 0) S K hH (by decide) rfl rfl (k_X4_renewPlan l D B L A σ_5 τ q (show q < 60 by omega) hI (by rw [← e11]; omega) (by omega)) gX4_seekRide_X4_renewPlan rfl hdV_X4_renewPlan ⟨Nat.le_of_ble_eq_true rfl, Nat.le_of_ble_eq_true rfl⟩ rfl hl.1 (Nat.le_of_ble_eq_true rfl) dX4_seekRide_117) hS (fun σ21 τ21 H locs q21 hH hS => ?_)
              obtain ⟨hI, hP21, hτ21, q21⟩ := q21
              rw [hτ21] at hH
              have hP := Keep_t hP hP21 (by decide)
              refine lv_aload S.1 S.2.1 dX4_seekRide_120 (lv_at hl 1 rfl) ?_
              refine lv_iload S.1 S.2.1 dX4_seekRide_122 (lv_at hl 2 rfl) ?_
              refine lv_iload S.1 S.2.1 dX4_seekRide_124 (lv_at hl 0 rfl) ?_
              refine lv_aload_n S.1 S.2.1 dX4_seekRide_126 rfl (lv_at hl 5 rfl) ?_
              refine rC_20_11 S hnX2 K hH (show q < 60 by omega) (mG wd_225) dX4_seekRide_127 ?_
              refine cW_bpi (cW_V (n := 3) (As := [.int v8, .int v10, .ref (L 21 q)]) (rest := []) (k := 14) (i := v7.toNatClampNeg) S K hH (cl_lt (n := 12) (by omega) (by omega)) rfl rfl (k_X0_lastInTime l D B L A σ21 τ v7.toNatClampNeg v8 v10 q (cl_lt (n := 12) (by omega) (by omega)) (show q < 60 by omega) (by omega) hI) gX4_seekRide_X0_lastInTime rfl hdV_X0_lastInTime ⟨Nat.le_of_ble_eq_true rfl, Nat.le_of_ble_eq_true rfl⟩ rfl hl.1 (Nat.le_of_ble_eq_true rfl) dX4_seekRide_130) hS (fun v22 H locs q22 hH hS => ?_)
              refine lv_istore (lv' := [(8, .int v22), (7, .int v10), (6, .ref (L 14 v7.toNatClampNeg)), (5, .int v8), (4, .int v7), (0, .ref (L 0 0)), (1, .ref (L 20 q)), (2, .int v2), (3, .int x3_5)]) S.1 S.2.1 dX4_seekRide_133 hl (by decide) rfl (fun ls hl => ?_)
              refine lv_iload S.1 S.2.1 dX4_seekRide_135 (lv_at hl 0 rfl) ?_
              refine lv_iconst (v := (-1)) S.1 S.2.1 dX4_seekRide_137 (by decide) ?_
              refine lv_icmp_eq (tgt := 178) S.1 S.2.1 dX4_seekRide_138 (by decide) (fun c23 => ?_) (fun c23 => ?_)
              · have j23 := t_eq c23
                obtain ⟨v24, e24⟩ : ∃ y_9 : Int32, y_9 = x3_5 + 1 := ⟨_, rfl⟩
                have i24 : v24.toInt = x3_5.toInt + 1 := i_addc e24 (by decide) (by omega) (by omega)
                refine lv_iinc (v := v24) (lv' := [(3, .int v24), (8, .int v22), (7, .int v10), (6, .ref (L 14 v7.toNatClampNeg)), (5, .int v8), (4, .int v7), (0, .ref (L 0 0)), (1, .ref (L 20 q)), (2, .int v2)]) S.1 S.2.1 dX4_seekRide_178 hl (k := 8) rfl (by rw [e24]; rfl) (by decide) rfl (fun ls hl => ?_)
                refine lv_goto (tgt := 24) S.1 S.2.1 dX4_seekRide_181 (by decide) ?_
                exact ih5 v24 σ21 _ _ ls (by omega) (by omega) hI hP hH hS (lv_sub hl [6, 7, 8, 0] rfl)
              · have j23 := t_neq c23
                refine lv_aload S.1 S.2.1 dX4_seekRide_141 (lv_at hl 2 rfl) ?_
                refine lv_iload S.1 S.2.1 dX4_seekRide_143 (lv_at hl 1 rfl) ?_
                refine lv_aload_n S.1 S.2.1 dX4_seekRide_145 rfl (lv_at hl 6 rfl) ?_
                refine rC_20_1 S hnX2 K hH (show q < 60 by omega) (mG wd_215) dX4_seekRide_146 ?_
                refine lv_topi (fun v25 e25 => ?_)
                have k25 : v25.toInt = v19.toInt := by rw [e25, hP21 33 (by decide)]; rw [← e19]
                refine cW_bv (cW_V (n := 2) (As := [.int v10, .int v25]) (rest := []) (k := 14) (i := v7.toNatClampNeg) S K hH (cl_lt (n := 12) (by omega) (by omega)) rfl rfl (k_X0_load l D B L A σ21 τ v7.toNatClampNeg v10 v25 (cl_lt (n := 12) (by omega) (by omega)) (by omega) hI) gX4_seekRide_X0_load rfl hdV_X0_load ⟨Nat.le_of_ble_eq_true rfl, Nat.le_of_ble_eq_true rfl⟩ rfl hl.1 (Nat.le_of_ble_eq_true rfl) dX4_seekRide_149) hS (fun σ26 τ26 H locs q26 hH hS => ?_)
                obtain ⟨hI, hP26, hτ26, q26⟩ := q26
                rw [hτ26] at hH
                have hP := Keep_t hP hP26 (by decide)
                refine lv_aload_n S.1 S.2.1 dX4_seekRide_152 rfl (lv_at hl 6 rfl) ?_
                refine lv_iload S.1 S.2.1 dX4_seekRide_153 (lv_at hl 4 rfl) ?_
                refine lv_iload S.1 S.2.1 dX4_seekRide_155 (lv_at hl 1 rfl) ?_
                refine lv_aload S.1 S.2.1 dX4_seekRide_157 (lv_at hl 2 rfl) ?_
                refine lv_iload S.1 S.2.1 dX4_seekRide_159 (lv_at hl 0 rfl) ?_
                refine lv_iload S.1 S.2.1 dX4_seekRide_161 (lv_at hl 1 rfl) ?_
                refine cW_bpi (cW_V (n := 2) (As := [.int v22, .int v10]) (rest := [.int v10, .int v7, .ref (L 20 q)]) (k := 14) (i := v7.toNatClampNeg) S K hH (cl_lt (n := 12) (by omega) (by omega)) rfl rfl (k_X0_hourAt l D B L A σ26 τ v7.toNatClampNeg v22 v10 (cl_lt (n := 12) (by omega) (by omega)) (by omega)) gX4_seekRide_X0_hourAt rfl hdV_X0_hourAt ⟨Nat.le_of_ble_eq_true rfl, Nat.le_of_ble_eq_true rfl⟩ rfl hl.1 (Nat.le_of_ble_eq_true rfl) dX4_seekRide_163) hS (fun v27 H locs q27 hH hS => ?_)
                refine lv_aload S.1 S.2.1 dX4_seekRide_166 (lv_at hl 2 rfl) ?_
                refine rC_14_6 S hnX0 K hH (cl_lt (n := 12) (by omega) (by omega)) (mG wd_230) dX4_seekRide_168 ?_
                refine lv_iload S.1 S.2.1 dX4_seekRide_171 (lv_at hl 0 rfl) ?_
                refine lC_15 S K hH (cl_lt (n := 12) (by omega) (by omega)) (vin (by omega) (by omega)) dX4_seekRide_173 ?_
                refine lv_topi (fun v28 e28 => ?_)
                have b28 : 0 ≤ v28.toInt ∧ v28.toInt ≤ 11 := by rw [e28]; exact hI.1 27 v7.toNatClampNeg v22.toNatClampNeg
                refine cW_bv (cW_V (n := 4) (As := [.int v7, .int v10, .int v27, .int v28]) (rest := []) (k := 20) (i := q) S K hH (show q < 60 by omega) rfl rfl (k_X2_board l D B L A σ26 τ q v7 v10 v27 v28 (show q < 60 by omega)) gX4_seekRide_X2_board rfl hdV_X2_board ⟨Nat.le_of_ble_eq_true rfl, Nat.le_of_ble_eq_true rfl⟩ rfl hl.1 (Nat.le_of_ble_eq_true rfl) dX4_seekRide_174) hS (fun σ29 τ29 H locs q29 hH hS => ?_)
                obtain ⟨q29, hτ29⟩ := q29
                rw [hτ29] at hH
                obtain ⟨f9, eb⟩ := q29
                have hI := InvC_board hI eb (by omega) (by omega) (by omega)
                have hP := Keep_w eb (Keep_w rfl (Keep_w rfl (Keep_w rfl (Keep_w rfl (Keep_w rfl hP (by decide)) (by decide)) (by decide)) (by decide)) (by decide)) (by decide)
                refine cW_vret S hr hk hH hS ?_ dX4_seekRide_177
                exact ⟨rfl, hI, hP, rfl, by trivial⟩
            · have j20 := t_nle c20
              refine lv_goto (tgt := 178) S.1 S.2.1 dX4_seekRide_112 (by decide) ?_
              obtain ⟨v30, e30⟩ : ∃ y_9 : Int32, y_9 = x3_5 + 1 := ⟨_, rfl⟩
              have i30 : v30.toInt = x3_5.toInt + 1 := i_addc e30 (by decide) (by omega) (by omega)
              refine lv_iinc (v := v30) (lv' := [(3, .int v30), (7, .int v10), (6, .ref (L 14 v7.toNatClampNeg)), (5, .int v8), (4, .int v7), (0, .ref (L 0 0)), (1, .ref (L 20 q)), (2, .int v2)]) S.1 S.2.1 dX4_seekRide_178 hl (k := 7) rfl (by rw [e30]; rfl) (by decide) rfl (fun ls hl => ?_)
              refine lv_goto (tgt := 24) S.1 S.2.1 dX4_seekRide_181 (by decide) ?_
              exact ih5 v30 σ_5 _ _ ls (by omega) (by omega) hI hP hH hS (lv_sub hl [5, 6, 7, 0] rfl)
  exact cut_24_5 _ v4 σ _ _ ls (Nat.lt_succ_self _) (by omega) hI hP hH hS (lv_sub hl [2, 3, 1, 0] rfl)
set_option maxHeartbeats 4000000 in
set_option maxRecDepth 100000 in
theorem k_X4_loadParcels (l : Launch) (D : va_G) (B : Nat → ClassId) (L : QL) (A : Nat → Prop) (σ : QS) (τ : Int64)   (hI : InvC σ) : cW cntC gC l D B L A yX4_loadParcels wsX4_loadParcels 5 129 [.ref (L 0 0)] σ τ (pV (fun σ' τ' => InvC σ' ∧ Keep [5, 9, 41, 42, 43, 30, 31, 34, 35, 36, 37, 38, 40] σ σ' ∧ τ' = τ ∧ True)) := by
  refine cW_of (cc := cX4_loadParcels) (nL := 3) (ret := none) (by decide) rfl (Nat.le_of_ble_eq_true rfl) ?_
  intro p e s m below meth c S hr hk K hH hS ls hl
  have hnX0 : ∀ w ∈ wsX00, w ∈ wsX4_loadParcels := fun w h => mG (tX0 w h)
  have hnX2 : ∀ w ∈ wsX20, w ∈ wsX4_loadParcels := fun w h => mG (tX2 w h)
  have hnX3 : ∀ w ∈ wsX30, w ∈ wsX4_loadParcels := fun w h => mG (tX3 w h)
  have hnX4 : ∀ w ∈ wsX40, w ∈ wsX4_loadParcels := fun w h => mG (tX4 w h)
  have lm1 : ((-1) : Int32).toInt = -1 := by decide
  have l0 : (0 : Int32).toInt = 0 := by decide
  have l1 : (1 : Int32).toInt = 1 := by decide
  have hP : Keep [5, 9, 41, 42, 43, 30, 31, 34, 35, 36, 37, 38, 40] σ σ := Keep_r
  have hl : lv_has ls 3 [(0, .ref (L 0 0))] := hl
  refine lv_iconst (v := 0) S.1 S.2.1 dX4_loadParcels_0 (by decide) ?_
  refine lv_istore_n (lv' := [(1, .int 0), (0, .ref (L 0 0))]) S.1 S.2.1 dX4_loadParcels_1 rfl hl (by decide) rfl (fun ls hl => ?_)
  have cut_2_1 : ∀ (n : Nat) (x1_1 : Int32) (σ_1 : QS) (H : Heap) (locs : List Loc) (ls : Array Slot), (60 - x1_1.toInt).toNat < n → 0 ≤ x1_1.toInt ∧ x1_1.toInt ≤ 60 → InvC σ_1 → Keep [5, 9, 41, 42, 43, 30, 31, 34, 35, 36, 37, 38, 40] σ σ_1 → hW cntC gC D B L σ_1 τ H → va_S A s.heap H locs → lv_has ls 3 [(0, .ref (L 0 0)), (1, .int x1_1)] → W p l e { frames := 5, cells := 0, slots := 0, locals := 129 } s m [.ref (L 0 0)].toArray below meth c H locs 0 0 (MQ below (QcW cntC gC D B L A (pV (fun σ' τ' => InvC σ' ∧ Keep [5, 9, 41, 42, 43, 30, 31, 34, 35, 36, 37, 38, 40] σ σ' ∧ τ' = τ ∧ True))) [.ref (L 0 0)].toArray s 0 0 A) (F0 m 2 ls []) := by
    intro n
    induction n with
    | zero => intro x1_1 σ_1 H locs ls hm; exact absurd hm (Nat.not_lt_zero _)
    | succ n ih1 =>
      intro x1_1 σ_1 H locs ls hm1 h1_0 hI hP hH hS hl
      refine lv_iload_n S.1 S.2.1 dX4_loadParcels_2 rfl (lv_at hl 1 rfl) ?_
      refine lv_aload_n S.1 S.2.1 dX4_loadParcels_3 rfl (lv_at hl 0 rfl) ?_
      refine rC_0_3 S hnX4 K hH (mG wd_155) dX4_loadParcels_4 ?_
      refine lv_topi (fun v2 e2 => ?_)
      have b2 : 0 ≤ v2.toInt ∧ v2.toInt ≤ 60 := by rw [e2]; exact hI.1 0 0 0
      refine lv_icmp_ge (tgt := 44) S.1 S.2.1 dX4_loadParcels_7 (by decide) (fun c3 => ?_) (fun c3 => ?_)
      · have j3 := t_le c3
        refine cW_vret S hr hk hH hS ?_ dX4_loadParcels_44
        exact ⟨rfl, hI, hP, rfl, by trivial⟩
      · have j3 := t_nle c3
        refine lv_aload_n S.1 S.2.1 dX4_loadParcels_10 rfl (lv_at hl 0 rfl) ?_
        refine rC_0_2 S hnX4 K hH (mG wd_154) dX4_loadParcels_11 ?_
        refine lv_iload_n S.1 S.2.1 dX4_loadParcels_14 rfl (lv_at hl 1 rfl) ?_
        refine lC_1 S K hH (vin (by omega) (by omega)) dX4_loadParcels_15 ?_
        refine lv_astore_n (lv' := [(2, .ref (L 20 x1_1.toNatClampNeg)), (0, .ref (L 0 0)), (1, .int x1_1)]) S.1 S.2.1 dX4_loadParcels_16 rfl hl (by decide) rfl (fun ls hl => ?_)
        refine lv_aload_n S.1 S.2.1 dX4_loadParcels_17 rfl (lv_at hl 0 rfl) ?_
        refine rC_20_3 S hnX2 K hH (cl_lt (n := 60) (by omega) (by omega)) (mG wd_212) dX4_loadParcels_18 ?_
        refine lv_topi (fun v4 e4 => ?_)
        have b4 : (-1) ≤ v4.toInt ∧ v4.toInt ≤ 11 := by rw [e4]; exact hI.1 35 x1_1.toNatClampNeg 0
        refine lv_iconst (v := (-1)) S.1 S.2.1 dX4_loadParcels_21 (by decide) ?_
        refine lv_icmp_ne (tgt := 38) S.1 S.2.1 dX4_loadParcels_22 (by decide) (fun c5 => ?_) (fun c5 => ?_)
        · have j5 := t_neq c5
          obtain ⟨v6, e6⟩ : ∃ y_9 : Int32, y_9 = x1_1 + 1 := ⟨_, rfl⟩
          have i6 : v6.toInt = x1_1.toInt + 1 := i_addc e6 (by decide) (by omega) (by omega)
          refine lv_iinc (v := v6) (lv' := [(1, .int v6), (2, .ref (L 20 x1_1.toNatClampNeg)), (0, .ref (L 0 0))]) S.1 S.2.1 dX4_loadParcels_38 hl (k := 2) rfl (by rw [e6]; rfl) (by decide) rfl (fun ls hl => ?_)
          refine lv_goto (tgt := 2) S.1 S.2.1 dX4_loadParcels_41 (by decide) ?_
          exact ih1 v6 σ_1 _ _ ls (by omega) (by omega) hI hP hH hS (lv_sub hl [2, 0] rfl)
        · have j5 := t_eq c5
          refine lv_aload_n S.1 S.2.1 dX4_loadParcels_25 rfl (lv_at hl 0 rfl) ?_
          refine rC_20_7 S hnX2 K hH (cl_lt (n := 60) (by omega) (by omega)) (mG wd_252) dX4_loadParcels_26 ?_
          refine lv_topi (fun v7 e7 => ?_)
          refine lv_iconst (v := (-1)) S.1 S.2.1 dX4_loadParcels_29 (by decide) ?_
          refine lv_icmp_ne (tgt := 38) S.1 S.2.1 dX4_loadParcels_30 (by decide) (fun c8 => ?_) (fun c8 => ?_)
          · have j8 := t_neq c8
            obtain ⟨v9, e9⟩ : ∃ y_9 : Int32, y_9 = x1_1 + 1 := ⟨_, rfl⟩
            have i9 : v9.toInt = x1_1.toInt + 1 := i_addc e9 (by decide) (by omega) (by omega)
            refine lv_iinc (v := v9) (lv' := [(1, .int v9), (2, .ref (L 20 x1_1.toNatClampNeg)), (0, .ref (L 0 0))]) S.1 S.2.1 dX4_loadParcels_38 hl (k := 2) rfl (by rw [e9]; rfl) (by decide) rfl (fun ls hl => ?_)
            refine lv_goto (tgt := 2) S.1 S.2.1 dX4_loadParcels_41 (by decide) ?_
            exact ih1 v9 σ_1 _ _ ls (by omega) (by omega) hI hP hH hS (lv_sub hl [2, 0] rfl)
          · have j8 := t_eq c8
            refine lv_aload_n S.1 S.2.1 dX4_loadParcels_33 rfl (lv_at hl 1 rfl) ?_
            refine lv_aload_n S.1 S.2.1 dX4_loadParcels_34 rfl (lv_at hl 0 rfl) ?_
            refine cW_bv (cW_V (n := 1) (As := [.ref (L 20 x1_1.toNatClampNeg)]) (rest := []) (k := 0) (i := 0) S K hH (by decide) rfl rfl (k_X4_seekRide l D B L A σ_1 τ x1_1.toNatClampNeg (cl_lt (n := 60) (by omega) (by omega)) hI (hI.2.2.2.1 _ (by have h9 := cl_eq (j := x1_1) (by omega); rw [← e2]; omega))) gX4_loadParcels_X4_seekRide rfl hdV_X4_seekRide ⟨Nat.le_of_ble_eq_true rfl, Nat.le_of_ble_eq_true rfl⟩ rfl hl.1 (Nat.le_of_ble_eq_true rfl) dX4_loadParcels_35) hS (fun σ10 τ10 H locs q10 hH hS => ?_)
            obtain ⟨hI, hP10, hτ10, q10⟩ := q10
            rw [hτ10] at hH
            have hP := Keep_t hP hP10 (by decide)
            obtain ⟨v11, e11⟩ : ∃ y_9 : Int32, y_9 = x1_1 + 1 := ⟨_, rfl⟩
            have i11 : v11.toInt = x1_1.toInt + 1 := i_addc e11 (by decide) (by omega) (by omega)
            refine lv_iinc (v := v11) (lv' := [(1, .int v11), (2, .ref (L 20 x1_1.toNatClampNeg)), (0, .ref (L 0 0))]) S.1 S.2.1 dX4_loadParcels_38 hl (k := 2) rfl (by rw [e11]; rfl) (by decide) rfl (fun ls hl => ?_)
            refine lv_goto (tgt := 2) S.1 S.2.1 dX4_loadParcels_41 (by decide) ?_
            exact ih1 v11 σ10 _ _ ls (by omega) (by omega) hI hP hH hS (lv_sub hl [2, 0] rfl)
  exact cut_2_1 _ 0 σ _ _ ls (Nat.lt_succ_self _) (by omega) hI hP hH hS (lv_sub hl [1, 0] rfl)
set_option maxHeartbeats 4000000 in
set_option maxRecDepth 100000 in
theorem k_X4_unloadParcels (l : Launch) (D : va_G) (B : Nat → ClassId) (L : QL) (A : Nat → Prop) (σ : QS) (τ : Int64)   (hI : InvC σ) : cW cntC gC l D B L A yX4_unloadParcels wsX4_unloadParcels 1 22 [.ref (L 0 0)] σ τ (pV (fun σ' τ' => InvC σ' ∧ Keep [30, 25, 34, 39, 35, 36, 37, 38] σ σ' ∧ τ' = τ ∧ True)) := by
  refine cW_of (cc := cX4_unloadParcels) (nL := 3) (ret := none) (by decide) rfl (Nat.le_of_ble_eq_true rfl) ?_
  intro p e s m below meth c S hr hk K hH hS ls hl
  have hnX0 : ∀ w ∈ wsX00, w ∈ wsX4_unloadParcels := fun w h => mG (tX0 w h)
  have hnX2 : ∀ w ∈ wsX20, w ∈ wsX4_unloadParcels := fun w h => mG (tX2 w h)
  have hnX3 : ∀ w ∈ wsX30, w ∈ wsX4_unloadParcels := fun w h => mG (tX3 w h)
  have hnX4 : ∀ w ∈ wsX40, w ∈ wsX4_unloadParcels := fun w h => mG (tX4 w h)
  have lm1 : ((-1) : Int32).toInt = -1 := by decide
  have l0 : (0 : Int32).toInt = 0 := by decide
  have l1 : (1 : Int32).toInt = 1 := by decide
  have hP : Keep [30, 25, 34, 39, 35, 36, 37, 38] σ σ := Keep_r
  have hl : lv_has ls 3 [(0, .ref (L 0 0))] := hl
  refine lv_iconst (v := 0) S.1 S.2.1 dX4_unloadParcels_0 (by decide) ?_
  refine lv_istore_n (lv' := [(1, .int 0), (0, .ref (L 0 0))]) S.1 S.2.1 dX4_unloadParcels_1 rfl hl (by decide) rfl (fun ls hl => ?_)
  have cut_2_1 : ∀ (n : Nat) (x1_1 : Int32) (σ_1 : QS) (H : Heap) (locs : List Loc) (ls : Array Slot), (60 - x1_1.toInt).toNat < n → 0 ≤ x1_1.toInt ∧ x1_1.toInt ≤ 60 → InvC σ_1 → Keep [30, 25, 34, 39, 35, 36, 37, 38] σ σ_1 → hW cntC gC D B L σ_1 τ H → va_S A s.heap H locs → lv_has ls 3 [(0, .ref (L 0 0)), (1, .int x1_1)] → W p l e { frames := 1, cells := 0, slots := 0, locals := 22 } s m [.ref (L 0 0)].toArray below meth c H locs 0 0 (MQ below (QcW cntC gC D B L A (pV (fun σ' τ' => InvC σ' ∧ Keep [30, 25, 34, 39, 35, 36, 37, 38] σ σ' ∧ τ' = τ ∧ True))) [.ref (L 0 0)].toArray s 0 0 A) (F0 m 2 ls []) := by
    intro n
    induction n with
    | zero => intro x1_1 σ_1 H locs ls hm; exact absurd hm (Nat.not_lt_zero _)
    | succ n ih1 =>
      intro x1_1 σ_1 H locs ls hm1 h1_0 hI hP hH hS hl
      refine lv_iload_n S.1 S.2.1 dX4_unloadParcels_2 rfl (lv_at hl 1 rfl) ?_
      refine lv_aload_n S.1 S.2.1 dX4_unloadParcels_3 rfl (lv_at hl 0 rfl) ?_
      refine rC_0_3 S hnX4 K hH (mG wd_155) dX4_unloadParcels_4 ?_
      refine lv_topi (fun v2 e2 => ?_)
      have b2 : 0 ≤ v2.toInt ∧ v2.toInt ≤ 60 := by rw [e2]; exact hI.1 0 0 0
      refine lv_icmp_ge (tgt := 73) S.1 S.2.1 dX4_unloadParcels_7 (by decide) (fun c3 => ?_) (fun c3 => ?_)
      · have j3 := t_le c3
        refine cW_vret S hr hk hH hS ?_ dX4_unloadParcels_73
        exact ⟨rfl, hI, hP, rfl, by trivial⟩
      · have j3 := t_nle c3
        refine lv_aload_n S.1 S.2.1 dX4_unloadParcels_10 rfl (lv_at hl 0 rfl) ?_
        refine rC_0_2 S hnX4 K hH (mG wd_154) dX4_unloadParcels_11 ?_
        refine lv_iload_n S.1 S.2.1 dX4_unloadParcels_14 rfl (lv_at hl 1 rfl) ?_
        refine lC_1 S K hH (vin (by omega) (by omega)) dX4_unloadParcels_15 ?_
        refine lv_astore_n (lv' := [(2, .ref (L 20 x1_1.toNatClampNeg)), (0, .ref (L 0 0)), (1, .int x1_1)]) S.1 S.2.1 dX4_unloadParcels_16 rfl hl (by decide) rfl (fun ls hl => ?_)
        refine lv_aload_n S.1 S.2.1 dX4_unloadParcels_17 rfl (lv_at hl 0 rfl) ?_
        refine rC_20_3 S hnX2 K hH (cl_lt (n := 60) (by omega) (by omega)) (mG wd_212) dX4_unloadParcels_18 ?_
        refine lv_topi (fun v4 e4 => ?_)
        have b4 : (-1) ≤ v4.toInt ∧ v4.toInt ≤ 11 := by rw [e4]; exact hI.1 35 x1_1.toNatClampNeg 0
        refine lv_iconst (v := (-1)) S.1 S.2.1 dX4_unloadParcels_21 (by decide) ?_
        refine lv_icmp_eq (tgt := 67) S.1 S.2.1 dX4_unloadParcels_22 (by decide) (fun c5 => ?_) (fun c5 => ?_)
        · have j5 := t_eq c5
          obtain ⟨v6, e6⟩ : ∃ y_9 : Int32, y_9 = x1_1 + 1 := ⟨_, rfl⟩
          have i6 : v6.toInt = x1_1.toInt + 1 := i_addc e6 (by decide) (by omega) (by omega)
          refine lv_iinc (v := v6) (lv' := [(1, .int v6), (2, .ref (L 20 x1_1.toNatClampNeg)), (0, .ref (L 0 0))]) S.1 S.2.1 dX4_unloadParcels_67 hl (k := 2) rfl (by rw [e6]; rfl) (by decide) rfl (fun ls hl => ?_)
          refine lv_goto (tgt := 2) S.1 S.2.1 dX4_unloadParcels_70 (by decide) ?_
          exact ih1 v6 σ_1 _ _ ls (by omega) (by omega) hI hP hH hS (lv_sub hl [2, 0] rfl)
        · have j5 := t_neq c5
          refine lv_aload_n S.1 S.2.1 dX4_unloadParcels_25 rfl (lv_at hl 0 rfl) ?_
          refine rC_20_5 S hnX2 K hH (cl_lt (n := 60) (by omega) (by omega)) (mG wd_213) dX4_unloadParcels_26 ?_
          refine lv_topi (fun v7 e7 => ?_)
          refine lv_aload_n S.1 S.2.1 dX4_unloadParcels_29 rfl (lv_at hl 1 rfl) ?_
          refine rC_0_4 S hnX4 K hH (mG wd_156) dX4_unloadParcels_30 ?_
          refine lv_topi (fun v8 e8 => ?_)
          have b8 : 0 ≤ v8.toInt ∧ v8.toInt ≤ 5000 := by rw [e8]; exact hI.1 1 0 0
          refine lv_icmp_ne (tgt := 67) S.1 S.2.1 dX4_unloadParcels_33 (by decide) (fun c9 => ?_) (fun c9 => ?_)
          · have j9 := t_neq c9
            obtain ⟨v10, e10⟩ : ∃ y_9 : Int32, y_9 = x1_1 + 1 := ⟨_, rfl⟩
            have i10 : v10.toInt = x1_1.toInt + 1 := i_addc e10 (by decide) (by omega) (by omega)
            refine lv_iinc (v := v10) (lv' := [(1, .int v10), (2, .ref (L 20 x1_1.toNatClampNeg)), (0, .ref (L 0 0))]) S.1 S.2.1 dX4_unloadParcels_67 hl (k := 2) rfl (by rw [e10]; rfl) (by decide) rfl (fun ls hl => ?_)
            refine lv_goto (tgt := 2) S.1 S.2.1 dX4_unloadParcels_70 (by decide) ?_
            exact ih1 v10 σ_1 _ _ ls (by omega) (by omega) hI hP hH hS (lv_sub hl [2, 0] rfl)
          · have j9 := t_eq c9
            refine lv_aload_n S.1 S.2.1 dX4_unloadParcels_36 rfl (lv_at hl 1 rfl) ?_
            refine rC_0_0 S hnX4 K hH (mG wd_149) dX4_unloadParcels_37 ?_
            refine rC_2_0 S hnX3 K hH (mG wd_167) dX4_unloadParcels_40 ?_
            refine lv_aload_n S.1 S.2.1 dX4_unloadParcels_43 rfl (lv_at hl 0 rfl) ?_
            refine rC_20_3 S hnX2 K hH (cl_lt (n := 60) (by omega) (by omega)) (mG wd_212) dX4_unloadParcels_44 ?_
            refine lv_topi (fun v11 e11 => ?_)
            have b11 : (-1) ≤ v11.toInt ∧ v11.toInt ≤ 11 := by rw [e11]; exact hI.1 35 x1_1.toNatClampNeg 0
            have k11 : v11.toInt = v4.toInt := by rw [e11]; rw [← e4]
            refine lC_3 S K hH (vin (by omega) (by omega)) dX4_unloadParcels_47 ?_
            refine lv_aload_n S.1 S.2.1 dX4_unloadParcels_48 rfl (lv_at hl 0 rfl) ?_
            refine rC_20_4 S hnX2 K hH (cl_lt (n := 60) (by omega) (by omega)) (mG wd_214) dX4_unloadParcels_49 ?_
            refine lv_topi (fun v12 e12 => ?_)
            have zv12 : 0 ≤ v12.toInt := by rw [e12]; exact hI.2.2.2.2 _ (by rw [← e11]; omega)
            refine lv_aload_n S.1 S.2.1 dX4_unloadParcels_52 rfl (lv_at hl 0 rfl) ?_
            refine rC_20_1 S hnX2 K hH (cl_lt (n := 60) (by omega) (by omega)) (mG wd_215) dX4_unloadParcels_53 ?_
            refine lv_topi (fun v13 e13 => ?_)
            refine cW_bv (cW_V (n := 2) (As := [.int v12, .int v13]) (rest := []) (k := 14) (i := v11.toNatClampNeg) S K hH (cl_lt (n := 12) (by omega) (by omega)) rfl rfl (k_X0_unload l D B L A σ_1 τ v11.toNatClampNeg v12 v13 (cl_lt (n := 12) (by omega) (by omega)) (by omega) hI) gX4_unloadParcels_X0_unload rfl hdV_X0_unload ⟨Nat.le_of_ble_eq_true rfl, Nat.le_of_ble_eq_true rfl⟩ rfl hl.1 (Nat.le_of_ble_eq_true rfl) dX4_unloadParcels_56) hS (fun σ14 τ14 H locs q14 hH hS => ?_)
            obtain ⟨hI, hP14, hτ14, q14⟩ := q14
            rw [hτ14] at hH
            have hP := Keep_t hP hP14 (by decide)
            refine lv_aload_n S.1 S.2.1 dX4_unloadParcels_59 rfl (lv_at hl 0 rfl) ?_
            refine lv_aload_n S.1 S.2.1 dX4_unloadParcels_60 rfl (lv_at hl 1 rfl) ?_
            refine rC_0_4 S hnX4 K hH (mG wd_156) dX4_unloadParcels_61 ?_
            refine lv_topi (fun v15 e15 => ?_)
            have b15 : 0 ≤ v15.toInt ∧ v15.toInt ≤ 5000 := by rw [e15]; exact hI.1 1 0 0
            have k15 : v15.toInt = v8.toInt := by rw [e15, hP14 1 (by decide)]; rw [← e8]
            refine cW_bv (cW_V (n := 1) (As := [.int v15]) (rest := []) (k := 20) (i := x1_1.toNatClampNeg) S K hH (cl_lt (n := 60) (by omega) (by omega)) rfl rfl (k_X2_leave l D B L A σ14 τ x1_1.toNatClampNeg v15 (cl_lt (n := 60) (by omega) (by omega)) hI) gX4_unloadParcels_X2_leave rfl hdV_X2_leave ⟨Nat.le_of_ble_eq_true rfl, Nat.le_of_ble_eq_true rfl⟩ rfl hl.1 (Nat.le_of_ble_eq_true rfl) dX4_unloadParcels_64) hS (fun σ16 τ16 H locs q16 hH hS => ?_)
            obtain ⟨hI, hP16, hτ16, q16⟩ := q16
            rw [hτ16] at hH
            have hP := Keep_t hP hP16 (by decide)
            obtain ⟨v17, e17⟩ : ∃ y_9 : Int32, y_9 = x1_1 + 1 := ⟨_, rfl⟩
            have i17 : v17.toInt = x1_1.toInt + 1 := i_addc e17 (by decide) (by omega) (by omega)
            refine lv_iinc (v := v17) (lv' := [(1, .int v17), (2, .ref (L 20 x1_1.toNatClampNeg)), (0, .ref (L 0 0))]) S.1 S.2.1 dX4_unloadParcels_67 hl (k := 2) rfl (by rw [e17]; rfl) (by decide) rfl (fun ls hl => ?_)
            refine lv_goto (tgt := 2) S.1 S.2.1 dX4_unloadParcels_70 (by decide) ?_
            exact ih1 v17 σ16 _ _ ls (by omega) (by omega) hI hP hH hS (lv_sub hl [2, 0] rfl)
  exact cut_2_1 _ 0 σ _ _ ls (Nat.lt_succ_self _) (by omega) hI hP hH hS (lv_sub hl [1, 0] rfl)
set_option maxHeartbeats 4000000 in
set_option maxRecDepth 100000 in
theorem k_X4_tick (l : Launch) (D : va_G) (B : Nat → ClassId) (L : QL) (A : Nat → Prop) (σ : QS) (τ : Int64) (n9 : Int32)  (hI : InvC σ) : cW cntC gC l D B L A yX4_tick wsX4_tick 6 151 [.ref (L 0 0), .int n9] σ τ (pI (fun x σ' τ' => InvC σ' ∧ Keep [1, 30, 25, 34, 39, 35, 36, 37, 38, 5, 9, 41, 42, 43, 31, 40] σ σ' ∧ τ' = τ ∧ ((x.toInt = -1 ∧ σ' 1 = σ 1 ∧ ¬ (0 ≤ n9.toInt ∧ n9.toInt ≤ 500 ∧ n9.toInt + (σ 1 0 0).toInt ≤ 5000)) ∨ ((0 ≤ n9.toInt ∧ n9.toInt ≤ 500 ∧ n9.toInt + (σ 1 0 0).toInt ≤ 5000) ∧ x.toInt = (σ 1 0 0).toInt + n9.toInt ∧ (σ' 1 0 0).toInt = (σ 1 0 0).toInt + n9.toInt)))) := by
  refine cW_of (cc := cX4_tick) (nL := 3) (ret := (some .int)) (by decide) rfl (Nat.le_of_ble_eq_true rfl) ?_
  intro p e s m below meth c S hr hk K hH hS ls hl
  have hnX0 : ∀ w ∈ wsX00, w ∈ wsX4_tick := fun w h => mG (tX0 w h)
  have hnX2 : ∀ w ∈ wsX20, w ∈ wsX4_tick := fun w h => mG (tX2 w h)
  have hnX3 : ∀ w ∈ wsX30, w ∈ wsX4_tick := fun w h => mG (tX3 w h)
  have hnX4 : ∀ w ∈ wsX40, w ∈ wsX4_tick := fun w h => mG (tX4 w h)
  have lm1 : ((-1) : Int32).toInt = -1 := by decide
  have l0 : (0 : Int32).toInt = 0 := by decide
  have l1 : (1 : Int32).toInt = 1 := by decide
  have l500 : (500 : Int32).toInt = 500 := by decide
  have l5000 : (5000 : Int32).toInt = 5000 := by decide
  have hP : Keep [1, 30, 25, 34, 39, 35, 36, 37, 38, 5, 9, 41, 42, 43, 31, 40] σ σ := Keep_r
  have hl : lv_has ls 3 [(0, .ref (L 0 0)), (1, .int n9)] := hl
  refine lv_iload_n S.1 S.2.1 dX4_tick_0 rfl (lv_at hl 1 rfl) ?_
  refine lv_iconst (v := 0) S.1 S.2.1 dX4_tick_1 (by decide) ?_
  refine lv_sipush (v := 500) S.1 S.2.1 dX4_tick_2 (by decide) ?_
  refine cW_bpi (cW_S (n := 3) (As := [.int n9, .int 0, .int 500]) (rest := []) S K hH (k_X4_isIn l D B L A σ τ n9 0 500 ) gX4_tick_X4_isIn rfl hdS_X4_isIn ⟨Nat.le_of_ble_eq_true rfl, Nat.le_of_ble_eq_true rfl⟩ rfl hl.1 (Nat.le_of_ble_eq_true rfl) dX4_tick_5) hS (fun v1 H locs q1 hH hS => ?_)
  refine lv_if_eq (tgt := 23) S.1 S.2.1 dX4_tick_8 (by decide) (fun c2 => ?_) (fun c2 => ?_)
  · have j2 := t_eq c2
    refine lv_iconst (v := (-1)) S.1 S.2.1 dX4_tick_23 (by decide) ?_
    refine cW_iret S hr hk hH hS ?_ dX4_tick_24
    exact ⟨(-1), rfl, hI, hP, rfl, by exact Or.inl ⟨by decide, rfl, by omega⟩⟩
  · have j2 := t_neq c2
    refine lv_iload_n S.1 S.2.1 dX4_tick_11 rfl (lv_at hl 1 rfl) ?_
    refine lv_sipush (v := 5000) S.1 S.2.1 dX4_tick_12 (by decide) ?_
    refine lv_aload_n S.1 S.2.1 dX4_tick_15 rfl (lv_at hl 0 rfl) ?_
    refine rC_0_4 S hnX4 K hH (mG wd_156) dX4_tick_16 ?_
    refine lv_topi (fun v3 e3 => ?_)
    have b3 : 0 ≤ v3.toInt ∧ v3.toInt ≤ 5000 := by rw [e3]; exact hI.1 1 0 0
    have fv3 : v3.toInt = (σ 1 0 0).toInt := by rw [e3]
    refine lv_isub S.1 S.2.1 dX4_tick_19 ?_
    refine lv_topi (fun v4 e4 => ?_)
    have i4 : v4.toInt = (5000 : Int32).toInt - v3.toInt := i_sub e4 (by omega) (by omega)
    refine lv_icmp_le (tgt := 25) S.1 S.2.1 dX4_tick_20 (by decide) (fun c5 => ?_) (fun c5 => ?_)
    · have j5 := t_le c5
      refine lv_iconst (v := 0) S.1 S.2.1 dX4_tick_25 (by decide) ?_
      refine lv_istore_n (lv' := [(2, .int 0), (0, .ref (L 0 0)), (1, .int n9)]) S.1 S.2.1 dX4_tick_26 rfl hl (by decide) rfl (fun ls hl => ?_)
      have cut_27_6 : ∀ (n : Nat) (x2_6 : Int32) (σ_6 : QS) (H : Heap) (locs : List Loc) (ls : Array Slot), (500 - x2_6.toInt).toNat < n → 0 ≤ x2_6.toInt ∧ x2_6.toInt ≤ 500 → ((σ_6 1 0 0).toInt = (σ 1 0 0).toInt + x2_6.toInt) → (x2_6.toInt ≤ n9.toInt) → InvC σ_6 → Keep [1, 30, 25, 34, 39, 35, 36, 37, 38, 5, 9, 41, 42, 43, 31, 40] σ σ_6 → hW cntC gC D B L σ_6 τ H → va_S A s.heap H locs → lv_has ls 3 [(0, .ref (L 0 0)), (1, .int n9), (2, .int x2_6)] → W p l e { frames := 6, cells := 0, slots := 0, locals := 151 } s m [.ref (L 0 0), .int n9].toArray below meth c H locs 0 0 (MQ below (QcW cntC gC D B L A (pI (fun x σ' τ' => InvC σ' ∧ Keep [1, 30, 25, 34, 39, 35, 36, 37, 38, 5, 9, 41, 42, 43, 31, 40] σ σ' ∧ τ' = τ ∧ ((x.toInt = -1 ∧ σ' 1 = σ 1 ∧ ¬ (0 ≤ n9.toInt ∧ n9.toInt ≤ 500 ∧ n9.toInt + (σ 1 0 0).toInt ≤ 5000)) ∨ ((0 ≤ n9.toInt ∧ n9.toInt ≤ 500 ∧ n9.toInt + (σ 1 0 0).toInt ≤ 5000) ∧ x.toInt = (σ 1 0 0).toInt + n9.toInt ∧ (σ' 1 0 0).toInt = (σ 1 0 0).toInt + n9.toInt))))) [.ref (L 0 0), .int n9].toArray s 0 0 A) (F0 m 27 ls []) := by
        intro n
        induction n with
        | zero => intro x2_6 σ_6 H locs ls hm; exact absurd hm (Nat.not_lt_zero _)
        | succ n ih6 =>
          intro x2_6 σ_6 H locs ls hm6 h6_0 hnow hle hI hP hH hS hl
          refine lv_iload_n S.1 S.2.1 dX4_tick_27 rfl (lv_at hl 2 rfl) ?_
          refine lv_iload_n S.1 S.2.1 dX4_tick_28 rfl (lv_at hl 1 rfl) ?_
          refine lv_icmp_ge (tgt := 70) S.1 S.2.1 dX4_tick_29 (by decide) (fun c7 => ?_) (fun c7 => ?_)
          · have j7 := t_le c7
            refine lv_aload_n S.1 S.2.1 dX4_tick_70 rfl (lv_at hl 0 rfl) ?_
            refine rC_0_4 S hnX4 K hH (mG wd_156) dX4_tick_71 ?_
            refine lv_topi (fun v8 e8 => ?_)
            have b8 : 0 ≤ v8.toInt ∧ v8.toInt ≤ 5000 := by rw [e8]; exact hI.1 1 0 0
            have fv8 : v8.toInt = (σ_6 1 0 0).toInt := by rw [e8]
            refine cW_iret S hr hk hH hS ?_ dX4_tick_74
            exact ⟨v8, rfl, hI, hP, rfl, by omega⟩
          · have j7 := t_nle c7
            refine lv_aload_n S.1 S.2.1 dX4_tick_32 rfl (lv_at hl 0 rfl) ?_
            refine lv_dup S.1 S.2.1 dX4_tick_33 rfl ?_
            refine rC_0_4 S hnX4 K hH (mG wd_156) dX4_tick_34 ?_
            refine lv_topi (fun v9 e9 => ?_)
            have b9 : 0 ≤ v9.toInt ∧ v9.toInt ≤ 5000 := by rw [e9]; exact hI.1 1 0 0
            have fv9 : v9.toInt = (σ_6 1 0 0).toInt := by rw [e9]
            refine lv_iconst (v := 1) S.1 S.2.1 dX4_tick_37 (by decide) ?_
            refine lv_iadd S.1 S.2.1 dX4_tick_38 ?_
            refine lv_topi (fun v10 e10 => ?_)
            have i10 : v10.toInt = v9.toInt + (1 : Int32).toInt := i_add e10 (by omega) (by omega)
            refine pC_0_4 S hnX4 K hH hS (mG wd_156) dX4_tick_39 (fun H locs hH hS => ?_)
            obtain ⟨σ11, eσ11⟩ : ∃ z_9 : QS, z_9 = rs σ_6 1 0 (fun _ => v10) := ⟨_, rfl⟩
            rw [← eσ11] at hH
            have hI := InvC_f eσ11 hI (by decide) (show (0 : Int) ≤ v10.toInt ∧ v10.toInt ≤ 5000 by omega)
            have hP := Keep_w eσ11 hP (by decide)
            refine lv_aload_n S.1 S.2.1 dX4_tick_42 rfl (lv_at hl 0 rfl) ?_
            refine cW_bv (cW_V (n := 0) (As := []) (rest := []) (k := 0) (i := 0) S K hH (by decide) rfl rfl (k_X4_unloadParcels l D B L A σ11 τ  hI) gX4_tick_X4_unloadParcels rfl hdV_X4_unloadParcels ⟨Nat.le_of_ble_eq_true rfl, Nat.le_of_ble_eq_true rfl⟩ rfl hl.1 (Nat.le_of_ble_eq_true rfl) dX4_tick_43) hS (fun σ12 τ12 H locs q12 hH hS => ?_)
            obtain ⟨hI, hP12, hτ12, q12⟩ := q12
            rw [hτ12] at hH
            have hP := Keep_t hP hP12 (by decide)
            refine lv_aload_n S.1 S.2.1 dX4_tick_46 rfl (lv_at hl 0 rfl) ?_
            refine rC_0_0 S hnX4 K hH (mG wd_149) dX4_tick_47 ?_
            refine lv_aload_n S.1 S.2.1 dX4_tick_50 rfl (lv_at hl 0 rfl) ?_
            refine rC_0_4 S hnX4 K hH (mG wd_156) dX4_tick_51 ?_
            refine lv_topi (fun v13 e13 => ?_)
            have b13 : 0 ≤ v13.toInt ∧ v13.toInt ≤ 5000 := by rw [e13]; exact hI.1 1 0 0
            have k13 : v13.toInt = v10.toInt := by rw [e13, hP12 1 (by decide), eσ11, rs_self]
            refine cW_bpi (cW_V (n := 1) (As := [.int v13]) (rest := []) (k := 2) (i := 0) S K hH (by decide) rfl rfl (k_X3_hasHalts l D B L A σ12 τ v13 (by omega) hI) gX4_tick_X3_hasHalts rfl hdV_X3_hasHalts ⟨Nat.le_of_ble_eq_true rfl, Nat.le_of_ble_eq_true rfl⟩ rfl hl.1 (Nat.le_of_ble_eq_true rfl) dX4_tick_54) hS (fun v14 H locs q14 hH hS => ?_)
            refine lv_if_eq (tgt := 64) S.1 S.2.1 dX4_tick_57 (by decide) (fun c15 => ?_) (fun c15 => ?_)
            · have j15 := t_eq c15
              obtain ⟨v16, e16⟩ : ∃ y_9 : Int32, y_9 = x2_6 + 1 := ⟨_, rfl⟩
              have i16 : v16.toInt = x2_6.toInt + 1 := i_addc e16 (by decide) (by omega) (by omega)
              refine lv_iinc (v := v16) (lv' := [(2, .int v16), (0, .ref (L 0 0)), (1, .int n9)]) S.1 S.2.1 dX4_tick_64 hl (k := 2) rfl (by rw [e16]; rfl) (by decide) rfl (fun ls hl => ?_)
              refine lv_goto (tgt := 27) S.1 S.2.1 dX4_tick_67 (by decide) ?_
              exact ih6 v16 σ12 _ _ ls (by omega) (by omega) (by rw [hP12 1 (by decide), eσ11, rs_self]; omega) (by omega) hI hP hH hS (lv_sub hl [1, 2, 0] rfl)
            · have j15 := t_neq c15
              refine lv_aload_n S.1 S.2.1 dX4_tick_60 rfl (lv_at hl 0 rfl) ?_
              refine cW_bv (cW_V (n := 0) (As := []) (rest := []) (k := 0) (i := 0) S K hH (by decide) rfl rfl (k_X4_loadParcels l D B L A σ12 τ  hI) gX4_tick_X4_loadParcels rfl hdV_X4_loadParcels ⟨Nat.le_of_ble_eq_true rfl, Nat.le_of_ble_eq_true rfl⟩ rfl hl.1 (Nat.le_of_ble_eq_true rfl) dX4_tick_61) hS (fun σ17 τ17 H locs q17 hH hS => ?_)
              obtain ⟨hI, hP17, hτ17, q17⟩ := q17
              rw [hτ17] at hH
              have hP := Keep_t hP hP17 (by decide)
              obtain ⟨v18, e18⟩ : ∃ y_9 : Int32, y_9 = x2_6 + 1 := ⟨_, rfl⟩
              have i18 : v18.toInt = x2_6.toInt + 1 := i_addc e18 (by decide) (by omega) (by omega)
              refine lv_iinc (v := v18) (lv' := [(2, .int v18), (0, .ref (L 0 0)), (1, .int n9)]) S.1 S.2.1 dX4_tick_64 hl (k := 2) rfl (by rw [e18]; rfl) (by decide) rfl (fun ls hl => ?_)
              refine lv_goto (tgt := 27) S.1 S.2.1 dX4_tick_67 (by decide) ?_
              exact ih6 v18 σ17 _ _ ls (by omega) (by omega) (by rw [hP17 1 (by decide), hP12 1 (by decide), eσ11, rs_self]; omega) (by omega) hI hP hH hS (lv_sub hl [1, 2, 0] rfl)
      exact cut_27_6 _ 0 σ _ _ ls (Nat.lt_succ_self _) (by omega) (by omega) (by omega) hI hP hH hS (lv_sub hl [1, 2, 0] rfl)
    · have j5 := t_nle c5
      refine lv_iconst (v := (-1)) S.1 S.2.1 dX4_tick_23 (by decide) ?_
      refine cW_iret S hr hk hH hS ?_ dX4_tick_24
      exact ⟨(-1), rfl, hI, hP, rfl, by exact Or.inl ⟨by decide, rfl, by omega⟩⟩
set_option maxHeartbeats 4000000 in
set_option maxRecDepth 100000 in
theorem k_X4_waiting (l : Launch) (D : va_G) (B : Nat → ClassId) (L : QL) (A : Nat → Prop) (σ : QS) (τ : Int64) (a : Int32)  (hI : InvC σ) : cW cntC gC l D B L A yX4_waiting wsX4_waiting 2 42 [.ref (L 0 0), .int a] σ τ (pI (fun x σ' τ' => σ' = σ ∧ τ' = τ ∧ True)) := by
  refine cW_of (cc := cX4_waiting) (nL := 4) (ret := (some .int)) (by decide) rfl (Nat.le_of_ble_eq_true rfl) ?_
  intro p e s m below meth c S hr hk K hH hS ls hl
  have hnX2 : ∀ w ∈ wsX20, w ∈ wsX4_waiting := fun w h => mG (tX2 w h)
  have hnX4 : ∀ w ∈ wsX40, w ∈ wsX4_waiting := fun w h => mG (tX4 w h)
  have lm1 : ((-1) : Int32).toInt = -1 := by decide
  have l0 : (0 : Int32).toInt = 0 := by decide
  have l1 : (1 : Int32).toInt = 1 := by decide
  have hl : lv_has ls 4 [(0, .ref (L 0 0)), (1, .int a)] := hl
  refine lv_iload_n S.1 S.2.1 dX4_waiting_0 rfl (lv_at hl 1 rfl) ?_
  refine cW_bpi (cW_S (n := 1) (As := [.int a]) (rest := []) S K hH (k_X4_isPlace l D B L A σ τ a ) gX4_waiting_X4_isPlace rfl hdS_X4_isPlace ⟨Nat.le_of_ble_eq_true rfl, Nat.le_of_ble_eq_true rfl⟩ rfl hl.1 (Nat.le_of_ble_eq_true rfl) dX4_waiting_1) hS (fun v1 H locs q1 hH hS => ?_)
  refine lv_if_ne (tgt := 9) S.1 S.2.1 dX4_waiting_4 (by decide) (fun c2 => ?_) (fun c2 => ?_)
  · have j2 := t_neq c2
    refine lv_iconst (v := 0) S.1 S.2.1 dX4_waiting_9 (by decide) ?_
    refine lv_istore_n (lv' := [(2, .int 0), (0, .ref (L 0 0)), (1, .int a)]) S.1 S.2.1 dX4_waiting_10 rfl hl (by decide) rfl (fun ls hl => ?_)
    refine lv_iconst (v := 0) S.1 S.2.1 dX4_waiting_11 (by decide) ?_
    refine lv_istore_n (lv' := [(3, .int 0), (2, .int 0), (0, .ref (L 0 0)), (1, .int a)]) S.1 S.2.1 dX4_waiting_12 rfl hl (by decide) rfl (fun ls hl => ?_)
    have cut_13_3 : ∀ (n : Nat) (x2_3 : Int32) (x3_3 : Int32)  (H : Heap) (locs : List Loc) (ls : Array Slot), (60 - x3_3.toInt).toNat < n → 0 ≤ x3_3.toInt ∧ x3_3.toInt ≤ 60 → hW cntC gC D B L σ τ H → va_S A s.heap H locs → lv_has ls 4 [(0, .ref (L 0 0)), (1, .int a), (2, .int x2_3), (3, .int x3_3)] → W p l e { frames := 2, cells := 0, slots := 0, locals := 42 } s m [.ref (L 0 0), .int a].toArray below meth c H locs 0 0 (MQ below (QcW cntC gC D B L A (pI (fun x σ' τ' => σ' = σ ∧ τ' = τ ∧ True))) [.ref (L 0 0), .int a].toArray s 0 0 A) (F0 m 13 ls []) := by
      intro n
      induction n with
      | zero => intro x2_3 x3_3 H locs ls hm; exact absurd hm (Nat.not_lt_zero _)
      | succ n ih3 =>
        intro x2_3 x3_3 H locs ls hm3 h3_0 hH hS hl
        refine lv_iload_n S.1 S.2.1 dX4_waiting_13 rfl (lv_at hl 3 rfl) ?_
        refine lv_aload_n S.1 S.2.1 dX4_waiting_14 rfl (lv_at hl 0 rfl) ?_
        refine rC_0_3 S hnX4 K hH (mG wd_155) dX4_waiting_15 ?_
        refine lv_topi (fun v4 e4 => ?_)
        have b4 : 0 ≤ v4.toInt ∧ v4.toInt ≤ 60 := by rw [e4]; exact hI.1 0 0 0
        refine lv_icmp_ge (tgt := 56) S.1 S.2.1 dX4_waiting_18 (by decide) (fun c5 => ?_) (fun c5 => ?_)
        · have j5 := t_le c5
          refine lv_iload_n S.1 S.2.1 dX4_waiting_56 rfl (lv_at hl 2 rfl) ?_
          refine cW_iret S hr hk hH hS ?_ dX4_waiting_57
          exact ⟨x2_3, rfl, rfl, rfl, by trivial⟩
        · have j5 := t_nle c5
          refine lv_aload_n S.1 S.2.1 dX4_waiting_21 rfl (lv_at hl 0 rfl) ?_
          refine rC_0_2 S hnX4 K hH (mG wd_154) dX4_waiting_22 ?_
          refine lv_iload_n S.1 S.2.1 dX4_waiting_25 rfl (lv_at hl 3 rfl) ?_
          refine lC_1 S K hH (vin (by omega) (by omega)) dX4_waiting_26 ?_
          refine rC_20_2 S hnX2 K hH (cl_lt (n := 60) (by omega) (by omega)) (mG wd_226) dX4_waiting_27 ?_
          refine lv_topi (fun v6 e6 => ?_)
          have b6 : (-1) ≤ v6.toInt ∧ v6.toInt ≤ 11 := by rw [e6]; exact hI.1 34 x3_3.toNatClampNeg 0
          refine lv_iload_n S.1 S.2.1 dX4_waiting_30 rfl (lv_at hl 1 rfl) ?_
          refine lv_icmp_ne (tgt := 50) S.1 S.2.1 dX4_waiting_31 (by decide) (fun c7 => ?_) (fun c7 => ?_)
          · have j7 := t_neq c7
            obtain ⟨v8, e8⟩ : ∃ y_9 : Int32, y_9 = x3_3 + 1 := ⟨_, rfl⟩
            have i8 : v8.toInt = x3_3.toInt + 1 := i_addc e8 (by decide) (by omega) (by omega)
            refine lv_iinc (v := v8) (lv' := [(3, .int v8), (0, .ref (L 0 0)), (1, .int a), (2, .int x2_3)]) S.1 S.2.1 dX4_waiting_50 hl (k := 3) rfl (by rw [e8]; rfl) (by decide) rfl (fun ls hl => ?_)
            refine lv_goto (tgt := 13) S.1 S.2.1 dX4_waiting_53 (by decide) ?_
            exact ih3 x2_3 v8 _ _ ls (by omega) (by omega) hH hS (lv_sub hl [1, 2, 3, 0] rfl)
          · have j7 := t_eq c7
            refine lv_aload_n S.1 S.2.1 dX4_waiting_34 rfl (lv_at hl 0 rfl) ?_
            refine rC_0_2 S hnX4 K hH (mG wd_154) dX4_waiting_35 ?_
            refine lv_iload_n S.1 S.2.1 dX4_waiting_38 rfl (lv_at hl 3 rfl) ?_
            refine lC_1 S K hH (vin (by omega) (by omega)) dX4_waiting_39 ?_
            refine rC_20_7 S hnX2 K hH (cl_lt (n := 60) (by omega) (by omega)) (mG wd_252) dX4_waiting_40 ?_
            refine lv_topi (fun v9 e9 => ?_)
            refine lv_iconst (v := (-1)) S.1 S.2.1 dX4_waiting_43 (by decide) ?_
            refine lv_icmp_ne (tgt := 50) S.1 S.2.1 dX4_waiting_44 (by decide) (fun c10 => ?_) (fun c10 => ?_)
            · have j10 := t_neq c10
              obtain ⟨v11, e11⟩ : ∃ y_9 : Int32, y_9 = x3_3 + 1 := ⟨_, rfl⟩
              have i11 : v11.toInt = x3_3.toInt + 1 := i_addc e11 (by decide) (by omega) (by omega)
              refine lv_iinc (v := v11) (lv' := [(3, .int v11), (0, .ref (L 0 0)), (1, .int a), (2, .int x2_3)]) S.1 S.2.1 dX4_waiting_50 hl (k := 3) rfl (by rw [e11]; rfl) (by decide) rfl (fun ls hl => ?_)
              refine lv_goto (tgt := 13) S.1 S.2.1 dX4_waiting_53 (by decide) ?_
              exact ih3 x2_3 v11 _ _ ls (by omega) (by omega) hH hS (lv_sub hl [1, 2, 3, 0] rfl)
            · have j10 := t_eq c10
              obtain ⟨v12, e12⟩ : ∃ y_9 : Int32, y_9 = x2_3 + 1 := ⟨_, rfl⟩
              refine lv_iinc (v := v12) (lv' := [(2, .int v12), (0, .ref (L 0 0)), (1, .int a), (3, .int x3_3)]) S.1 S.2.1 dX4_waiting_47 hl (k := 2) rfl (by rw [e12]; rfl) (by decide) rfl (fun ls hl => ?_)
              obtain ⟨v13, e13⟩ : ∃ y_9 : Int32, y_9 = x3_3 + 1 := ⟨_, rfl⟩
              have i13 : v13.toInt = x3_3.toInt + 1 := i_addc e13 (by decide) (by omega) (by omega)
              refine lv_iinc (v := v13) (lv' := [(3, .int v13), (2, .int v12), (0, .ref (L 0 0)), (1, .int a)]) S.1 S.2.1 dX4_waiting_50 hl (k := 3) rfl (by rw [e13]; rfl) (by decide) rfl (fun ls hl => ?_)
              refine lv_goto (tgt := 13) S.1 S.2.1 dX4_waiting_53 (by decide) ?_
              exact ih3 v12 v13 _ _ ls (by omega) (by omega) hH hS (lv_sub hl [2, 3, 1, 0] rfl)
    exact cut_13_3 _ 0 0 _ _ ls (Nat.lt_succ_self _) (by omega) hH hS (lv_sub hl [2, 3, 1, 0] rfl)
  · have j2 := t_eq c2
    refine lv_iconst (v := (-1)) S.1 S.2.1 dX4_waiting_7 (by decide) ?_
    refine cW_iret S hr hk hH hS ?_ dX4_waiting_8
    exact ⟨(-1), rfl, rfl, rfl, by trivial⟩
set_option maxHeartbeats 4000000 in
set_option maxRecDepth 100000 in
theorem k_X4_countCome (l : Launch) (D : va_G) (B : Nat → ClassId) (L : QL) (A : Nat → Prop) (σ : QS) (τ : Int64)   (hI : InvC σ) : cW cntC gC l D B L A yX4_countCome wsX4_countCome 0 0 [.ref (L 0 0)] σ τ (pI (fun x σ' τ' => σ' = σ ∧ τ' = τ ∧ True)) := by
  refine cW_of (cc := cX4_countCome) (nL := 3) (ret := (some .int)) (by decide) rfl (Nat.le_of_ble_eq_true rfl) ?_
  intro p e s m below meth c S hr hk K hH hS ls hl
  have hnX2 : ∀ w ∈ wsX20, w ∈ wsX4_countCome := fun w h => mG (tX2 w h)
  have hnX4 : ∀ w ∈ wsX40, w ∈ wsX4_countCome := fun w h => mG (tX4 w h)
  have lm1 : ((-1) : Int32).toInt = -1 := by decide
  have l0 : (0 : Int32).toInt = 0 := by decide
  have l1 : (1 : Int32).toInt = 1 := by decide
  have hl : lv_has ls 3 [(0, .ref (L 0 0))] := hl
  refine lv_iconst (v := 0) S.1 S.2.1 dX4_countCome_0 (by decide) ?_
  refine lv_istore_n (lv' := [(1, .int 0), (0, .ref (L 0 0))]) S.1 S.2.1 dX4_countCome_1 rfl hl (by decide) rfl (fun ls hl => ?_)
  refine lv_iconst (v := 0) S.1 S.2.1 dX4_countCome_2 (by decide) ?_
  refine lv_istore_n (lv' := [(2, .int 0), (1, .int 0), (0, .ref (L 0 0))]) S.1 S.2.1 dX4_countCome_3 rfl hl (by decide) rfl (fun ls hl => ?_)
  have cut_4_1 : ∀ (n : Nat) (x1_1 : Int32) (x2_1 : Int32)  (H : Heap) (locs : List Loc) (ls : Array Slot), (60 - x2_1.toInt).toNat < n → 0 ≤ x2_1.toInt ∧ x2_1.toInt ≤ 60 → hW cntC gC D B L σ τ H → va_S A s.heap H locs → lv_has ls 3 [(0, .ref (L 0 0)), (1, .int x1_1), (2, .int x2_1)] → W p l e { frames := 0, cells := 0, slots := 0, locals := 0 } s m [.ref (L 0 0)].toArray below meth c H locs 0 0 (MQ below (QcW cntC gC D B L A (pI (fun x σ' τ' => σ' = σ ∧ τ' = τ ∧ True))) [.ref (L 0 0)].toArray s 0 0 A) (F0 m 4 ls []) := by
    intro n
    induction n with
    | zero => intro x1_1 x2_1 H locs ls hm; exact absurd hm (Nat.not_lt_zero _)
    | succ n ih1 =>
      intro x1_1 x2_1 H locs ls hm1 h1_0 hH hS hl
      refine lv_iload_n S.1 S.2.1 dX4_countCome_4 rfl (lv_at hl 2 rfl) ?_
      refine lv_aload_n S.1 S.2.1 dX4_countCome_5 rfl (lv_at hl 0 rfl) ?_
      refine rC_0_3 S hnX4 K hH (mG wd_155) dX4_countCome_6 ?_
      refine lv_topi (fun v2 e2 => ?_)
      have b2 : 0 ≤ v2.toInt ∧ v2.toInt ≤ 60 := by rw [e2]; exact hI.1 0 0 0
      refine lv_icmp_ge (tgt := 34) S.1 S.2.1 dX4_countCome_9 (by decide) (fun c3 => ?_) (fun c3 => ?_)
      · have j3 := t_le c3
        refine lv_iload_n S.1 S.2.1 dX4_countCome_34 rfl (lv_at hl 1 rfl) ?_
        refine cW_iret S hr hk hH hS ?_ dX4_countCome_35
        exact ⟨x1_1, rfl, rfl, rfl, by trivial⟩
      · have j3 := t_nle c3
        refine lv_aload_n S.1 S.2.1 dX4_countCome_12 rfl (lv_at hl 0 rfl) ?_
        refine rC_0_2 S hnX4 K hH (mG wd_154) dX4_countCome_13 ?_
        refine lv_iload_n S.1 S.2.1 dX4_countCome_16 rfl (lv_at hl 2 rfl) ?_
        refine lC_1 S K hH (vin (by omega) (by omega)) dX4_countCome_17 ?_
        refine rC_20_7 S hnX2 K hH (cl_lt (n := 60) (by omega) (by omega)) (mG wd_252) dX4_countCome_18 ?_
        refine lv_topi (fun v4 e4 => ?_)
        refine lv_iconst (v := (-1)) S.1 S.2.1 dX4_countCome_21 (by decide) ?_
        refine lv_icmp_eq (tgt := 28) S.1 S.2.1 dX4_countCome_22 (by decide) (fun c5 => ?_) (fun c5 => ?_)
        · have j5 := t_eq c5
          obtain ⟨v6, e6⟩ : ∃ y_9 : Int32, y_9 = x2_1 + 1 := ⟨_, rfl⟩
          have i6 : v6.toInt = x2_1.toInt + 1 := i_addc e6 (by decide) (by omega) (by omega)
          refine lv_iinc (v := v6) (lv' := [(2, .int v6), (0, .ref (L 0 0)), (1, .int x1_1)]) S.1 S.2.1 dX4_countCome_28 hl (k := 2) rfl (by rw [e6]; rfl) (by decide) rfl (fun ls hl => ?_)
          refine lv_goto (tgt := 4) S.1 S.2.1 dX4_countCome_31 (by decide) ?_
          exact ih1 x1_1 v6 _ _ ls (by omega) (by omega) hH hS (lv_sub hl [1, 2, 0] rfl)
        · have j5 := t_neq c5
          obtain ⟨v7, e7⟩ : ∃ y_9 : Int32, y_9 = x1_1 + 1 := ⟨_, rfl⟩
          refine lv_iinc (v := v7) (lv' := [(1, .int v7), (0, .ref (L 0 0)), (2, .int x2_1)]) S.1 S.2.1 dX4_countCome_25 hl (k := 1) rfl (by rw [e7]; rfl) (by decide) rfl (fun ls hl => ?_)
          obtain ⟨v8, e8⟩ : ∃ y_9 : Int32, y_9 = x2_1 + 1 := ⟨_, rfl⟩
          have i8 : v8.toInt = x2_1.toInt + 1 := i_addc e8 (by decide) (by omega) (by omega)
          refine lv_iinc (v := v8) (lv' := [(2, .int v8), (1, .int v7), (0, .ref (L 0 0))]) S.1 S.2.1 dX4_countCome_28 hl (k := 2) rfl (by rw [e8]; rfl) (by decide) rfl (fun ls hl => ?_)
          refine lv_goto (tgt := 4) S.1 S.2.1 dX4_countCome_31 (by decide) ?_
          exact ih1 v7 v8 _ _ ls (by omega) (by omega) hH hS (lv_sub hl [2, 1, 0] rfl)
  exact cut_4_1 _ 0 0 _ _ ls (Nat.lt_succ_self _) (by omega) hH hS (lv_sub hl [2, 1, 0] rfl)
set_option maxHeartbeats 4000000 in
set_option maxRecDepth 100000 in
theorem k_X4_countRiding (l : Launch) (D : va_G) (B : Nat → ClassId) (L : QL) (A : Nat → Prop) (σ : QS) (τ : Int64)   (hI : InvC σ) : cW cntC gC l D B L A yX4_countRiding wsX4_countRiding 0 0 [.ref (L 0 0)] σ τ (pI (fun x σ' τ' => σ' = σ ∧ τ' = τ ∧ True)) := by
  refine cW_of (cc := cX4_countRiding) (nL := 3) (ret := (some .int)) (by decide) rfl (Nat.le_of_ble_eq_true rfl) ?_
  intro p e s m below meth c S hr hk K hH hS ls hl
  have hnX2 : ∀ w ∈ wsX20, w ∈ wsX4_countRiding := fun w h => mG (tX2 w h)
  have hnX4 : ∀ w ∈ wsX40, w ∈ wsX4_countRiding := fun w h => mG (tX4 w h)
  have lm1 : ((-1) : Int32).toInt = -1 := by decide
  have l0 : (0 : Int32).toInt = 0 := by decide
  have l1 : (1 : Int32).toInt = 1 := by decide
  have hl : lv_has ls 3 [(0, .ref (L 0 0))] := hl
  refine lv_iconst (v := 0) S.1 S.2.1 dX4_countRiding_0 (by decide) ?_
  refine lv_istore_n (lv' := [(1, .int 0), (0, .ref (L 0 0))]) S.1 S.2.1 dX4_countRiding_1 rfl hl (by decide) rfl (fun ls hl => ?_)
  refine lv_iconst (v := 0) S.1 S.2.1 dX4_countRiding_2 (by decide) ?_
  refine lv_istore_n (lv' := [(2, .int 0), (1, .int 0), (0, .ref (L 0 0))]) S.1 S.2.1 dX4_countRiding_3 rfl hl (by decide) rfl (fun ls hl => ?_)
  have cut_4_1 : ∀ (n : Nat) (x1_1 : Int32) (x2_1 : Int32)  (H : Heap) (locs : List Loc) (ls : Array Slot), (60 - x2_1.toInt).toNat < n → 0 ≤ x2_1.toInt ∧ x2_1.toInt ≤ 60 → hW cntC gC D B L σ τ H → va_S A s.heap H locs → lv_has ls 3 [(0, .ref (L 0 0)), (1, .int x1_1), (2, .int x2_1)] → W p l e { frames := 0, cells := 0, slots := 0, locals := 0 } s m [.ref (L 0 0)].toArray below meth c H locs 0 0 (MQ below (QcW cntC gC D B L A (pI (fun x σ' τ' => σ' = σ ∧ τ' = τ ∧ True))) [.ref (L 0 0)].toArray s 0 0 A) (F0 m 4 ls []) := by
    intro n
    induction n with
    | zero => intro x1_1 x2_1 H locs ls hm; exact absurd hm (Nat.not_lt_zero _)
    | succ n ih1 =>
      intro x1_1 x2_1 H locs ls hm1 h1_0 hH hS hl
      refine lv_iload_n S.1 S.2.1 dX4_countRiding_4 rfl (lv_at hl 2 rfl) ?_
      refine lv_aload_n S.1 S.2.1 dX4_countRiding_5 rfl (lv_at hl 0 rfl) ?_
      refine rC_0_3 S hnX4 K hH (mG wd_155) dX4_countRiding_6 ?_
      refine lv_topi (fun v2 e2 => ?_)
      have b2 : 0 ≤ v2.toInt ∧ v2.toInt ≤ 60 := by rw [e2]; exact hI.1 0 0 0
      refine lv_icmp_ge (tgt := 34) S.1 S.2.1 dX4_countRiding_9 (by decide) (fun c3 => ?_) (fun c3 => ?_)
      · have j3 := t_le c3
        refine lv_iload_n S.1 S.2.1 dX4_countRiding_34 rfl (lv_at hl 1 rfl) ?_
        refine cW_iret S hr hk hH hS ?_ dX4_countRiding_35
        exact ⟨x1_1, rfl, rfl, rfl, by trivial⟩
      · have j3 := t_nle c3
        refine lv_aload_n S.1 S.2.1 dX4_countRiding_12 rfl (lv_at hl 0 rfl) ?_
        refine rC_0_2 S hnX4 K hH (mG wd_154) dX4_countRiding_13 ?_
        refine lv_iload_n S.1 S.2.1 dX4_countRiding_16 rfl (lv_at hl 2 rfl) ?_
        refine lC_1 S K hH (vin (by omega) (by omega)) dX4_countRiding_17 ?_
        refine rC_20_3 S hnX2 K hH (cl_lt (n := 60) (by omega) (by omega)) (mG wd_212) dX4_countRiding_18 ?_
        refine lv_topi (fun v4 e4 => ?_)
        have b4 : (-1) ≤ v4.toInt ∧ v4.toInt ≤ 11 := by rw [e4]; exact hI.1 35 x2_1.toNatClampNeg 0
        refine lv_iconst (v := (-1)) S.1 S.2.1 dX4_countRiding_21 (by decide) ?_
        refine lv_icmp_eq (tgt := 28) S.1 S.2.1 dX4_countRiding_22 (by decide) (fun c5 => ?_) (fun c5 => ?_)
        · have j5 := t_eq c5
          obtain ⟨v6, e6⟩ : ∃ y_9 : Int32, y_9 = x2_1 + 1 := ⟨_, rfl⟩
          have i6 : v6.toInt = x2_1.toInt + 1 := i_addc e6 (by decide) (by omega) (by omega)
          refine lv_iinc (v := v6) (lv' := [(2, .int v6), (0, .ref (L 0 0)), (1, .int x1_1)]) S.1 S.2.1 dX4_countRiding_28 hl (k := 2) rfl (by rw [e6]; rfl) (by decide) rfl (fun ls hl => ?_)
          refine lv_goto (tgt := 4) S.1 S.2.1 dX4_countRiding_31 (by decide) ?_
          exact ih1 x1_1 v6 _ _ ls (by omega) (by omega) hH hS (lv_sub hl [1, 2, 0] rfl)
        · have j5 := t_neq c5
          obtain ⟨v7, e7⟩ : ∃ y_9 : Int32, y_9 = x1_1 + 1 := ⟨_, rfl⟩
          refine lv_iinc (v := v7) (lv' := [(1, .int v7), (0, .ref (L 0 0)), (2, .int x2_1)]) S.1 S.2.1 dX4_countRiding_25 hl (k := 1) rfl (by rw [e7]; rfl) (by decide) rfl (fun ls hl => ?_)
          obtain ⟨v8, e8⟩ : ∃ y_9 : Int32, y_9 = x2_1 + 1 := ⟨_, rfl⟩
          have i8 : v8.toInt = x2_1.toInt + 1 := i_addc e8 (by decide) (by omega) (by omega)
          refine lv_iinc (v := v8) (lv' := [(2, .int v8), (1, .int v7), (0, .ref (L 0 0))]) S.1 S.2.1 dX4_countRiding_28 hl (k := 2) rfl (by rw [e8]; rfl) (by decide) rfl (fun ls hl => ?_)
          refine lv_goto (tgt := 4) S.1 S.2.1 dX4_countRiding_31 (by decide) ?_
          exact ih1 v7 v8 _ _ ls (by omega) (by omega) hH hS (lv_sub hl [2, 1, 0] rfl)
  exact cut_4_1 _ 0 0 _ _ ls (Nat.lt_succ_self _) (by omega) hH hS (lv_sub hl [2, 1, 0] rfl)
set_option maxHeartbeats 4000000 in
set_option maxRecDepth 100000 in
theorem k_X4_walk (l : Launch) (D : va_G) (B : Nat → ClassId) (L : QL) (A : Nat → Prop) (σ : QS) (τ : Int64) (a : Int32) (b : Int32) (z : Int32)  (hI : InvC σ) : cW cntC gC l D B L A yX4_walk wsX4_walk 2 43 [.ref (L 0 0), .int a, .int b, .int z] σ τ (pI (fun x σ' τ' => InvC σ' ∧ Keep [11, 16, 17] σ σ' ∧ τ' = τ ∧ ((x.toInt = 1 ∧ (0 ≤ a.toInt ∧ a.toInt ≤ 8 ∧ 0 ≤ b.toInt ∧ b.toInt ≤ 8 ∧ a.toInt ≠ b.toInt ∧ 0 ≤ z.toInt ∧ z.toInt ≤ 60) ∧ σ' 11 0 = upd (upd (σ 11 0) (9 * a.toNatClampNeg + b.toNatClampNeg) z) (9 * b.toNatClampNeg + a.toNatClampNeg) z ∧ σ' 16 0 0 = 0 ∧ σ' 17 0 0 = -1) ∨ (x.toInt = 0 ∧ ¬ (0 ≤ a.toInt ∧ a.toInt ≤ 8 ∧ 0 ≤ b.toInt ∧ b.toInt ≤ 8 ∧ a.toInt ≠ b.toInt ∧ 0 ≤ z.toInt ∧ z.toInt ≤ 60) ∧ σ' 11 = σ 11 ∧ σ' 16 = σ 16 ∧ σ' 17 = σ 17)))) := by
  refine cW_of (cc := cX4_walk) (nL := 4) (ret := (some .boolean)) (by decide) rfl (Nat.le_of_ble_eq_true rfl) ?_
  intro p e s m below meth c S hr hk K hH hS ls hl
  have hnX1 : ∀ w ∈ wsX10, w ∈ wsX4_walk := fun w h => mG (tX1 w h)
  have hnX4 : ∀ w ∈ wsX40, w ∈ wsX4_walk := fun w h => mG (tX4 w h)
  have l0 : (0 : Int32).toInt = 0 := by decide
  have l1 : (1 : Int32).toInt = 1 := by decide
  have l8 : (8 : Int32).toInt = 8 := by decide
  have l60 : (60 : Int32).toInt = 60 := by decide
  have hP : Keep [11, 16, 17] σ σ := Keep_r
  have hl : lv_has ls 4 [(0, .ref (L 0 0)), (1, .int a), (2, .int b), (3, .int z)] := hl
  refine lv_iload_n S.1 S.2.1 dX4_walk_0 rfl (lv_at hl 1 rfl) ?_
  refine lv_iconst (v := 0) S.1 S.2.1 dX4_walk_1 (by decide) ?_
  refine lv_bipush (v := 8) S.1 S.2.1 dX4_walk_2 (by decide) ?_
  refine cW_bpi (cW_S (n := 3) (As := [.int a, .int 0, .int 8]) (rest := []) S K hH (k_X4_isIn l D B L A σ τ a 0 8 ) gX4_walk_X4_isIn rfl hdS_X4_isIn ⟨Nat.le_of_ble_eq_true rfl, Nat.le_of_ble_eq_true rfl⟩ rfl hl.1 (Nat.le_of_ble_eq_true rfl) dX4_walk_4) hS (fun v1 H locs q1 hH hS => ?_)
  refine lv_if_eq (tgt := 25) S.1 S.2.1 dX4_walk_7 (by decide) (fun c2 => ?_) (fun c2 => ?_)
  · have j2 := t_eq c2
    refine lv_iconst (v := 0) S.1 S.2.1 dX4_walk_25 (by decide) ?_
    refine cW_zret S hr hk hH hS (by decide) ?_ dX4_walk_26
    exact ⟨0, rfl, hI, hP, rfl, by exact Or.inr ⟨by decide, by omega, rfl, rfl, rfl⟩⟩
  · have j2 := t_neq c2
    refine lv_iload_n S.1 S.2.1 dX4_walk_10 rfl (lv_at hl 2 rfl) ?_
    refine lv_iconst (v := 0) S.1 S.2.1 dX4_walk_11 (by decide) ?_
    refine lv_bipush (v := 8) S.1 S.2.1 dX4_walk_12 (by decide) ?_
    refine cW_bpi (cW_S (n := 3) (As := [.int b, .int 0, .int 8]) (rest := []) S K hH (k_X4_isIn l D B L A σ τ b 0 8 ) gX4_walk_X4_isIn rfl hdS_X4_isIn ⟨Nat.le_of_ble_eq_true rfl, Nat.le_of_ble_eq_true rfl⟩ rfl hl.1 (Nat.le_of_ble_eq_true rfl) dX4_walk_14) hS (fun v3 H locs q3 hH hS => ?_)
    refine lv_if_eq (tgt := 25) S.1 S.2.1 dX4_walk_17 (by decide) (fun c4 => ?_) (fun c4 => ?_)
    · have j4 := t_eq c4
      refine lv_iconst (v := 0) S.1 S.2.1 dX4_walk_25 (by decide) ?_
      refine cW_zret S hr hk hH hS (by decide) ?_ dX4_walk_26
      exact ⟨0, rfl, hI, hP, rfl, by exact Or.inr ⟨by decide, by omega, rfl, rfl, rfl⟩⟩
    · have j4 := t_neq c4
      refine lv_iload_n S.1 S.2.1 dX4_walk_20 rfl (lv_at hl 1 rfl) ?_
      refine lv_iload_n S.1 S.2.1 dX4_walk_21 rfl (lv_at hl 2 rfl) ?_
      refine lv_icmp_ne (tgt := 27) S.1 S.2.1 dX4_walk_22 (by decide) (fun c5 => ?_) (fun c5 => ?_)
      · have j5 := t_neq c5
        refine lv_iload_n S.1 S.2.1 dX4_walk_27 rfl (lv_at hl 3 rfl) ?_
        refine lv_iconst (v := 0) S.1 S.2.1 dX4_walk_28 (by decide) ?_
        refine lv_bipush (v := 60) S.1 S.2.1 dX4_walk_29 (by decide) ?_
        refine cW_bpi (cW_S (n := 3) (As := [.int z, .int 0, .int 60]) (rest := []) S K hH (k_X4_isIn l D B L A σ τ z 0 60 ) gX4_walk_X4_isIn rfl hdS_X4_isIn ⟨Nat.le_of_ble_eq_true rfl, Nat.le_of_ble_eq_true rfl⟩ rfl hl.1 (Nat.le_of_ble_eq_true rfl) dX4_walk_31) hS (fun v6 H locs q6 hH hS => ?_)
        refine lv_if_ne (tgt := 39) S.1 S.2.1 dX4_walk_34 (by decide) (fun c7 => ?_) (fun c7 => ?_)
        · have j7 := t_neq c7
          refine lv_aload_n S.1 S.2.1 dX4_walk_39 rfl (lv_at hl 0 rfl) ?_
          refine rC_0_1 S hnX4 K hH (mG wd_152) dX4_walk_40 ?_
          refine lv_iload_n S.1 S.2.1 dX4_walk_43 rfl (lv_at hl 1 rfl) ?_
          refine lv_iload_n S.1 S.2.1 dX4_walk_44 rfl (lv_at hl 2 rfl) ?_
          refine lv_iload_n S.1 S.2.1 dX4_walk_45 rfl (lv_at hl 3 rfl) ?_
          refine cW_bv (cW_V (n := 3) (As := [.int a, .int b, .int z]) (rest := []) (k := 9) (i := 0) S K hH (by decide) rfl rfl (k_X1_setWalk l D B L A σ τ a b z (by omega) (by omega) (by omega) hI) gX4_walk_X1_setWalk rfl hdV_X1_setWalk ⟨Nat.le_of_ble_eq_true rfl, Nat.le_of_ble_eq_true rfl⟩ rfl hl.1 (Nat.le_of_ble_eq_true rfl) dX4_walk_46) hS (fun σ8 τ8 H locs q8 hH hS => ?_)
          obtain ⟨hI, hP8, hτ8, q8⟩ := q8
          rw [hτ8] at hH
          have hP := Keep_t hP hP8 (by decide)
          refine lv_iconst (v := 1) S.1 S.2.1 dX4_walk_49 (by decide) ?_
          refine cW_zret S hr hk hH hS (by decide) ?_ dX4_walk_50
          exact ⟨1, rfl, hI, hP, rfl, by exact Or.inl ⟨by decide, by omega, q8⟩⟩
        · have j7 := t_eq c7
          refine lv_iconst (v := 0) S.1 S.2.1 dX4_walk_37 (by decide) ?_
          refine cW_zret S hr hk hH hS (by decide) ?_ dX4_walk_38
          exact ⟨0, rfl, hI, hP, rfl, by exact Or.inr ⟨by decide, by omega, rfl, rfl, rfl⟩⟩
      · have j5 := t_eq c5
        refine lv_iconst (v := 0) S.1 S.2.1 dX4_walk_25 (by decide) ?_
        refine cW_zret S hr hk hH hS (by decide) ?_ dX4_walk_26
        exact ⟨0, rfl, hI, hP, rfl, by exact Or.inr ⟨by decide, by omega, rfl, rfl, rfl⟩⟩
set_option maxHeartbeats 4000000 in
set_option maxRecDepth 100000 in
theorem k_X4_errand (l : Launch) (D : va_G) (B : Nat → ClassId) (L : QL) (A : Nat → Prop) (σ : QS) (τ : Int64) (a : Int32) (b : Int32) (z : Int32)  (hI : InvC σ) : cW cntC gC l D B L A yX4_errand wsX4_errand 2 43 [.ref (L 0 0), .int a, .int b, .int z] σ τ (pI (fun x σ' τ' => InvC σ' ∧ Keep [15, 12, 13, 16, 17] σ σ' ∧ τ' = τ ∧ ((x.toInt = 1 ∧ (1 ≤ a.toInt ∧ a.toInt ≤ 8 ∧ 0 ≤ b.toInt ∧ b.toInt ≤ 60 ∧ 0 ≤ z.toInt ∧ z.toInt ≤ 100) ∧ σ' 15 0 0 = (σ 15 0 0 ||| bI a) ∧ σ' 12 0 = upd (σ 12 0) a.toNatClampNeg b ∧ σ' 13 0 = upd (σ 13 0) a.toNatClampNeg z ∧ σ' 16 0 0 = 0 ∧ σ' 17 0 0 = -1) ∨ (x.toInt = 0 ∧ ¬ (1 ≤ a.toInt ∧ a.toInt ≤ 8 ∧ 0 ≤ b.toInt ∧ b.toInt ≤ 60 ∧ 0 ≤ z.toInt ∧ z.toInt ≤ 100) ∧ σ' 15 = σ 15 ∧ σ' 12 = σ 12 ∧ σ' 13 = σ 13 ∧ σ' 16 = σ 16 ∧ σ' 17 = σ 17)))) := by
  refine cW_of (cc := cX4_errand) (nL := 4) (ret := (some .boolean)) (by decide) rfl (Nat.le_of_ble_eq_true rfl) ?_
  intro p e s m below meth c S hr hk K hH hS ls hl
  have hnX1 : ∀ w ∈ wsX10, w ∈ wsX4_errand := fun w h => mG (tX1 w h)
  have hnX4 : ∀ w ∈ wsX40, w ∈ wsX4_errand := fun w h => mG (tX4 w h)
  have l0 : (0 : Int32).toInt = 0 := by decide
  have l1 : (1 : Int32).toInt = 1 := by decide
  have l8 : (8 : Int32).toInt = 8 := by decide
  have l60 : (60 : Int32).toInt = 60 := by decide
  have l100 : (100 : Int32).toInt = 100 := by decide
  have hP : Keep [15, 12, 13, 16, 17] σ σ := Keep_r
  have hl : lv_has ls 4 [(0, .ref (L 0 0)), (1, .int a), (2, .int b), (3, .int z)] := hl
  refine lv_iload_n S.1 S.2.1 dX4_errand_0 rfl (lv_at hl 1 rfl) ?_
  refine lv_iconst (v := 1) S.1 S.2.1 dX4_errand_1 (by decide) ?_
  refine lv_bipush (v := 8) S.1 S.2.1 dX4_errand_2 (by decide) ?_
  refine cW_bpi (cW_S (n := 3) (As := [.int a, .int 1, .int 8]) (rest := []) S K hH (k_X4_isIn l D B L A σ τ a 1 8 ) gX4_errand_X4_isIn rfl hdS_X4_isIn ⟨Nat.le_of_ble_eq_true rfl, Nat.le_of_ble_eq_true rfl⟩ rfl hl.1 (Nat.le_of_ble_eq_true rfl) dX4_errand_4) hS (fun v1 H locs q1 hH hS => ?_)
  refine lv_if_eq (tgt := 20) S.1 S.2.1 dX4_errand_7 (by decide) (fun c2 => ?_) (fun c2 => ?_)
  · have j2 := t_eq c2
    refine lv_iconst (v := 0) S.1 S.2.1 dX4_errand_20 (by decide) ?_
    refine cW_zret S hr hk hH hS (by decide) ?_ dX4_errand_21
    exact ⟨0, rfl, hI, hP, rfl, by exact Or.inr ⟨by decide, by omega, rfl, rfl, rfl, rfl, rfl⟩⟩
  · have j2 := t_neq c2
    refine lv_iload_n S.1 S.2.1 dX4_errand_10 rfl (lv_at hl 2 rfl) ?_
    refine lv_iconst (v := 0) S.1 S.2.1 dX4_errand_11 (by decide) ?_
    refine lv_bipush (v := 60) S.1 S.2.1 dX4_errand_12 (by decide) ?_
    refine cW_bpi (cW_S (n := 3) (As := [.int b, .int 0, .int 60]) (rest := []) S K hH (k_X4_isIn l D B L A σ τ b 0 60 ) gX4_errand_X4_isIn rfl hdS_X4_isIn ⟨Nat.le_of_ble_eq_true rfl, Nat.le_of_ble_eq_true rfl⟩ rfl hl.1 (Nat.le_of_ble_eq_true rfl) dX4_errand_14) hS (fun v3 H locs q3 hH hS => ?_)
    refine lv_if_ne (tgt := 22) S.1 S.2.1 dX4_errand_17 (by decide) (fun c4 => ?_) (fun c4 => ?_)
    · have j4 := t_neq c4
      refine lv_iload_n S.1 S.2.1 dX4_errand_22 rfl (lv_at hl 3 rfl) ?_
      refine lv_iconst (v := 0) S.1 S.2.1 dX4_errand_23 (by decide) ?_
      refine lv_bipush (v := 100) S.1 S.2.1 dX4_errand_24 (by decide) ?_
      refine cW_bpi (cW_S (n := 3) (As := [.int z, .int 0, .int 100]) (rest := []) S K hH (k_X4_isIn l D B L A σ τ z 0 100 ) gX4_errand_X4_isIn rfl hdS_X4_isIn ⟨Nat.le_of_ble_eq_true rfl, Nat.le_of_ble_eq_true rfl⟩ rfl hl.1 (Nat.le_of_ble_eq_true rfl) dX4_errand_26) hS (fun v5 H locs q5 hH hS => ?_)
      refine lv_if_ne (tgt := 34) S.1 S.2.1 dX4_errand_29 (by decide) (fun c6 => ?_) (fun c6 => ?_)
      · have j6 := t_neq c6
        refine lv_aload_n S.1 S.2.1 dX4_errand_34 rfl (lv_at hl 0 rfl) ?_
        refine rC_0_1 S hnX4 K hH (mG wd_152) dX4_errand_35 ?_
        refine lv_iload_n S.1 S.2.1 dX4_errand_38 rfl (lv_at hl 1 rfl) ?_
        refine lv_iload_n S.1 S.2.1 dX4_errand_39 rfl (lv_at hl 2 rfl) ?_
        refine lv_iload_n S.1 S.2.1 dX4_errand_40 rfl (lv_at hl 3 rfl) ?_
        refine cW_bv (cW_V (n := 3) (As := [.int a, .int b, .int z]) (rest := []) (k := 9) (i := 0) S K hH (by decide) rfl rfl (k_X1_put l D B L A σ τ a b z (by omega) (by omega) (by omega) hI) gX4_errand_X1_put rfl hdV_X1_put ⟨Nat.le_of_ble_eq_true rfl, Nat.le_of_ble_eq_true rfl⟩ rfl hl.1 (Nat.le_of_ble_eq_true rfl) dX4_errand_41) hS (fun σ7 τ7 H locs q7 hH hS => ?_)
        obtain ⟨hI, hP7, hτ7, q7⟩ := q7
        rw [hτ7] at hH
        have hP := Keep_t hP hP7 (by decide)
        refine lv_iconst (v := 1) S.1 S.2.1 dX4_errand_44 (by decide) ?_
        refine cW_zret S hr hk hH hS (by decide) ?_ dX4_errand_45
        exact ⟨1, rfl, hI, hP, rfl, by exact Or.inl ⟨by decide, by omega, q7⟩⟩
      · have j6 := t_eq c6
        refine lv_iconst (v := 0) S.1 S.2.1 dX4_errand_32 (by decide) ?_
        refine cW_zret S hr hk hH hS (by decide) ?_ dX4_errand_33
        exact ⟨0, rfl, hI, hP, rfl, by exact Or.inr ⟨by decide, by omega, rfl, rfl, rfl, rfl, rfl⟩⟩
    · have j4 := t_eq c4
      refine lv_iconst (v := 0) S.1 S.2.1 dX4_errand_20 (by decide) ?_
      refine cW_zret S hr hk hH hS (by decide) ?_ dX4_errand_21
      exact ⟨0, rfl, hI, hP, rfl, by exact Or.inr ⟨by decide, by omega, rfl, rfl, rfl, rfl, rfl⟩⟩
set_option maxHeartbeats 4000000 in
set_option maxRecDepth 100000 in
theorem k_X4_clear (l : Launch) (D : va_G) (B : Nat → ClassId) (L : QL) (A : Nat → Prop) (σ : QS) (τ : Int64)   (hI : InvC σ) : cW cntC gC l D B L A yX4_clear wsX4_clear 2 40 [.ref (L 0 0)] σ τ (pV (fun σ' τ' => InvC σ' ∧ Keep [15, 16, 17] σ σ' ∧ τ' = τ ∧ σ' 15 0 0 = 0 ∧ σ' 16 0 0 = 0 ∧ σ' 17 0 0 = -1)) := by
  refine cW_of (cc := cX4_clear) (nL := 1) (ret := none) (by decide) rfl (Nat.le_of_ble_eq_true rfl) ?_
  intro p e s m below meth c S hr hk K hH hS ls hl
  have hnX1 : ∀ w ∈ wsX10, w ∈ wsX4_clear := fun w h => mG (tX1 w h)
  have hnX4 : ∀ w ∈ wsX40, w ∈ wsX4_clear := fun w h => mG (tX4 w h)
  have hP : Keep [15, 16, 17] σ σ := Keep_r
  have hl : lv_has ls 1 [(0, .ref (L 0 0))] := hl
  refine lv_aload_n S.1 S.2.1 dX4_clear_0 rfl (lv_at hl 0 rfl) ?_
  refine rC_0_1 S hnX4 K hH (mG wd_152) dX4_clear_1 ?_
  refine cW_bv (cW_V (n := 0) (As := []) (rest := []) (k := 9) (i := 0) S K hH (by decide) rfl rfl (k_X1_empty l D B L A σ τ  hI) gX4_clear_X1_empty rfl hdV_X1_empty ⟨Nat.le_of_ble_eq_true rfl, Nat.le_of_ble_eq_true rfl⟩ rfl hl.1 (Nat.le_of_ble_eq_true rfl) dX4_clear_4) hS (fun σ1 τ1 H locs q1 hH hS => ?_)
  obtain ⟨hI, hP1, hτ1, q1⟩ := q1
  rw [hτ1] at hH
  have hP := Keep_t hP hP1 (by decide)
  refine cW_vret S hr hk hH hS ?_ dX4_clear_7
  exact ⟨rfl, hI, hP, rfl, by exact q1⟩
set_option maxHeartbeats 4000000 in
set_option maxRecDepth 100000 in
theorem k_J6_bitCount_0f7a4 (l : Launch) (D : va_G) (B : Nat → ClassId) (L : QL) (A : Nat → Prop) (σ : QS) (τ : Int64) (z : Int32)   : cW cntC gC l D B L A yJ6_bitCount_0f7a4 wsJ6_bitCount_0f7a4 0 0 [.int z] σ τ (pI (fun x σ' τ' => σ' = σ ∧ τ' = τ ∧ x = bcF z)) := by
  refine cW_of (cc := cJ6_bitCount_0f7a4) (nL := 1) (ret := (some .int)) (by decide) rfl (Nat.le_of_ble_eq_true rfl) ?_
  intro p e s m below meth c S hr hk K hH hS ls hl
  have l1 : (1 : Int32).toInt = 1 := by decide
  have l2 : (2 : Int32).toInt = 2 := by decide
  have l4 : (4 : Int32).toInt = 4 := by decide
  have l8 : (8 : Int32).toInt = 8 := by decide
  have l16 : (16 : Int32).toInt = 16 := by decide
  have l63 : (63 : Int32).toInt = 63 := by decide
  have l252645135 : (252645135 : Int32).toInt = 252645135 := by decide
  have l858993459 : (858993459 : Int32).toInt = 858993459 := by decide
  have l1431655765 : (1431655765 : Int32).toInt = 1431655765 := by decide
  have hl : lv_has ls 1 [(0, .int z)] := hl
  refine lv_iload_n S.1 S.2.1 dJ6_bitCount_0f7a4_0 rfl (lv_at hl 0 rfl) ?_
  refine lv_iload_n S.1 S.2.1 dJ6_bitCount_0f7a4_1 rfl (lv_at hl 0 rfl) ?_
  refine lv_iconst (v := 1) S.1 S.2.1 dJ6_bitCount_0f7a4_2 (by decide) ?_
  refine lv_iushr S.1 S.2.1 dJ6_bitCount_0f7a4_3 rfl ?_
  refine lv_topi (fun v1 e1 => ?_)
  refine lv_ldcw (v := 1431655765) S.1 S.2.1 S.2.2.2.1 (S.2.2.2.2 (.constant RJ6 265 (1431655765)) (mG wd_277)) dJ6_bitCount_0f7a4_4 ?_
  refine lv_iand S.1 S.2.1 dJ6_bitCount_0f7a4_7 ?_
  refine lv_topi (fun v2 e2 => ?_)
  have i2 : 0 ≤ v2.toInt ∧ v2.toInt ≤ (1431655765 : Int32).toInt := i_andr e2 (by omega)
  refine lv_isub S.1 S.2.1 dJ6_bitCount_0f7a4_8 ?_
  refine lv_topi (fun v3 e3 => ?_)
  refine lv_istore_n (lv' := [(0, .int v3)]) S.1 S.2.1 dJ6_bitCount_0f7a4_9 rfl hl (by decide) rfl (fun ls hl => ?_)
  refine lv_iload_n S.1 S.2.1 dJ6_bitCount_0f7a4_10 rfl (lv_at hl 0 rfl) ?_
  refine lv_ldcw (v := 858993459) S.1 S.2.1 S.2.2.2.1 (S.2.2.2.2 (.constant RJ6 266 (858993459)) (mG wd_278)) dJ6_bitCount_0f7a4_11 ?_
  refine lv_iand S.1 S.2.1 dJ6_bitCount_0f7a4_14 ?_
  refine lv_topi (fun v4 e4 => ?_)
  have i4 : 0 ≤ v4.toInt ∧ v4.toInt ≤ (858993459 : Int32).toInt := i_andr e4 (by omega)
  refine lv_iload_n S.1 S.2.1 dJ6_bitCount_0f7a4_15 rfl (lv_at hl 0 rfl) ?_
  refine lv_iconst (v := 2) S.1 S.2.1 dJ6_bitCount_0f7a4_16 (by decide) ?_
  refine lv_iushr S.1 S.2.1 dJ6_bitCount_0f7a4_17 rfl ?_
  refine lv_topi (fun v5 e5 => ?_)
  refine lv_ldcw (v := 858993459) S.1 S.2.1 S.2.2.2.1 (S.2.2.2.2 (.constant RJ6 266 (858993459)) (mG wd_278)) dJ6_bitCount_0f7a4_18 ?_
  refine lv_iand S.1 S.2.1 dJ6_bitCount_0f7a4_21 ?_
  refine lv_topi (fun v6 e6 => ?_)
  have i6 : 0 ≤ v6.toInt ∧ v6.toInt ≤ (858993459 : Int32).toInt := i_andr e6 (by omega)
  refine lv_iadd S.1 S.2.1 dJ6_bitCount_0f7a4_22 ?_
  refine lv_topi (fun v7 e7 => ?_)
  have i7 : v7.toInt = v4.toInt + v6.toInt := i_add e7 (by omega) (by omega)
  refine lv_istore_n (lv' := [(0, .int v7)]) S.1 S.2.1 dJ6_bitCount_0f7a4_23 rfl hl (by decide) rfl (fun ls hl => ?_)
  refine lv_iload_n S.1 S.2.1 dJ6_bitCount_0f7a4_24 rfl (lv_at hl 0 rfl) ?_
  refine lv_iload_n S.1 S.2.1 dJ6_bitCount_0f7a4_25 rfl (lv_at hl 0 rfl) ?_
  refine lv_iconst (v := 4) S.1 S.2.1 dJ6_bitCount_0f7a4_26 (by decide) ?_
  refine lv_iushr S.1 S.2.1 dJ6_bitCount_0f7a4_27 rfl ?_
  refine lv_topi (fun v8 e8 => ?_)
  refine lv_iadd S.1 S.2.1 dJ6_bitCount_0f7a4_28 ?_
  refine lv_topi (fun v9 e9 => ?_)
  refine lv_ldcw (v := 252645135) S.1 S.2.1 S.2.2.2.1 (S.2.2.2.2 (.constant RJ6 267 (252645135)) (mG wd_279)) dJ6_bitCount_0f7a4_29 ?_
  refine lv_iand S.1 S.2.1 dJ6_bitCount_0f7a4_32 ?_
  refine lv_topi (fun v10 e10 => ?_)
  have i10 : 0 ≤ v10.toInt ∧ v10.toInt ≤ (252645135 : Int32).toInt := i_andr e10 (by omega)
  refine lv_istore_n (lv' := [(0, .int v10)]) S.1 S.2.1 dJ6_bitCount_0f7a4_33 rfl hl (by decide) rfl (fun ls hl => ?_)
  refine lv_iload_n S.1 S.2.1 dJ6_bitCount_0f7a4_34 rfl (lv_at hl 0 rfl) ?_
  refine lv_iload_n S.1 S.2.1 dJ6_bitCount_0f7a4_35 rfl (lv_at hl 0 rfl) ?_
  refine lv_bipush (v := 8) S.1 S.2.1 dJ6_bitCount_0f7a4_36 (by decide) ?_
  refine lv_iushr S.1 S.2.1 dJ6_bitCount_0f7a4_38 rfl ?_
  refine lv_topi (fun v11 e11 => ?_)
  refine lv_iadd S.1 S.2.1 dJ6_bitCount_0f7a4_39 ?_
  refine lv_topi (fun v12 e12 => ?_)
  refine lv_istore_n (lv' := [(0, .int v12)]) S.1 S.2.1 dJ6_bitCount_0f7a4_40 rfl hl (by decide) rfl (fun ls hl => ?_)
  refine lv_iload_n S.1 S.2.1 dJ6_bitCount_0f7a4_41 rfl (lv_at hl 0 rfl) ?_
  refine lv_iload_n S.1 S.2.1 dJ6_bitCount_0f7a4_42 rfl (lv_at hl 0 rfl) ?_
  refine lv_bipush (v := 16) S.1 S.2.1 dJ6_bitCount_0f7a4_43 (by decide) ?_
  refine lv_iushr S.1 S.2.1 dJ6_bitCount_0f7a4_45 rfl ?_
  refine lv_topi (fun v13 e13 => ?_)
  refine lv_iadd S.1 S.2.1 dJ6_bitCount_0f7a4_46 ?_
  refine lv_topi (fun v14 e14 => ?_)
  refine lv_istore_n (lv' := [(0, .int v14)]) S.1 S.2.1 dJ6_bitCount_0f7a4_47 rfl hl (by decide) rfl (fun ls hl => ?_)
  refine lv_iload_n S.1 S.2.1 dJ6_bitCount_0f7a4_48 rfl (lv_at hl 0 rfl) ?_
  refine lv_bipush (v := 63) S.1 S.2.1 dJ6_bitCount_0f7a4_49 (by decide) ?_
  refine lv_iand S.1 S.2.1 dJ6_bitCount_0f7a4_51 ?_
  refine lv_topi (fun v15 e15 => ?_)
  have i15 : 0 ≤ v15.toInt ∧ v15.toInt ≤ (63 : Int32).toInt := i_andr e15 (by omega)
  refine cW_iret S hr hk hH hS ?_ dJ6_bitCount_0f7a4_52
  exact ⟨v15, rfl, rfl, rfl, by rw [e15, e14, e13, e12, e11, e10, e9, e8, e7, e6, e5, e4, e3, e2, e1]; rfl⟩
set_option maxHeartbeats 4000000 in
set_option maxRecDepth 100000 in
theorem k_X4_best (l : Launch) (D : va_G) (B : Nat → ClassId) (L : QL) (A : Nat → Prop) (σ : QS) (τ : Int64) (a : Int32) (b : Int32)  (hI : InvC σ) (hp1 : ((σ 16 0 0 ≠ 0 → waysOk (wkC (σ 11 0)) (mnC (σ 12 0)) (σ 15 0 0) (σ 14 0) 256) ∧ ((σ 17 0 0).toInt = -1 ∨ chRec (wkC (σ 11 0)) (mnC (σ 12 0)) (mnC (σ 13 0)) (σ 15 0 0) (σ 17 0 0).toInt 256 (σ 18 0 0) (σ 19 0 0).toInt (σ 20 0 0).toInt τ.toInt))) : cW cntC gC l D B L A yX4_best wsX4_best 6 141 [.ref (L 0 0), .int a, .int b] σ τ (pI (fun x σ' τ' => InvC σ' ∧ Keep [14, 16, 17, 18, 19, 20] σ σ' ∧ ((¬ (0 ≤ a.toInt ∧ a.toInt ≤ 500) ∧ x.toInt = -1 ∧ σ' = σ ∧ τ' = τ) ∨ ((0 ≤ a.toInt ∧ a.toInt ≤ 500) ∧ (σ' 16 0 0 ≠ 0 ∧ waysOk (wkC (σ 11 0)) (mnC (σ 12 0)) (σ 15 0 0) (σ' 14 0) 256 ∧ σ' 17 0 0 = a ∧ chRec (wkC (σ 11 0)) (mnC (σ 12 0)) (mnC (σ 13 0)) (σ 15 0 0) a.toInt 256 (σ' 18 0 0) (σ' 19 0 0).toInt (σ' 20 0 0).toInt τ'.toInt) ∧ ((b.toInt = 0 ∧ x.toInt = (σ' 19 0 0).toInt) ∨ (b.toInt = 1 ∧ x.toInt = (σ' 20 0 0).toInt) ∨ (b.toInt = 2 ∧ x = bcF (σ' 18 0 0)) ∨ ((b.toInt < 0 ∨ 2 < b.toInt) ∧ x.toInt = -1)))))) := by
  refine cW_of (cc := cX4_best) (nL := 3) (ret := (some .int)) (by decide) rfl (Nat.le_of_ble_eq_true rfl) ?_
  intro p e s m below meth c S hr hk K hH hS ls hl
  have hnX1 : ∀ w ∈ wsX10, w ∈ wsX4_best := fun w h => mG (tX1 w h)
  have hnX4 : ∀ w ∈ wsX40, w ∈ wsX4_best := fun w h => mG (tX4 w h)
  have lm1 : ((-1) : Int32).toInt = -1 := by decide
  have l0 : (0 : Int32).toInt = 0 := by decide
  have l500 : (500 : Int32).toInt = 500 := by decide
  have hP : Keep [14, 16, 17, 18, 19, 20] σ σ := Keep_r
  have hl : lv_has ls 3 [(0, .ref (L 0 0)), (1, .int a), (2, .int b)] := hl
  refine lv_iload_n S.1 S.2.1 dX4_best_0 rfl (lv_at hl 1 rfl) ?_
  refine lv_iconst (v := 0) S.1 S.2.1 dX4_best_1 (by decide) ?_
  refine lv_sipush (v := 500) S.1 S.2.1 dX4_best_2 (by decide) ?_
  refine cW_bpi (cW_S (n := 3) (As := [.int a, .int 0, .int 500]) (rest := []) S K hH (k_X4_isIn l D B L A σ τ a 0 500 ) gX4_best_X4_isIn rfl hdS_X4_isIn ⟨Nat.le_of_ble_eq_true rfl, Nat.le_of_ble_eq_true rfl⟩ rfl hl.1 (Nat.le_of_ble_eq_true rfl) dX4_best_5) hS (fun v1 H locs q1 hH hS => ?_)
  refine lv_if_ne (tgt := 13) S.1 S.2.1 dX4_best_8 (by decide) (fun c2 => ?_) (fun c2 => ?_)
  · have j2 := t_neq c2
    refine lv_aload_n S.1 S.2.1 dX4_best_13 rfl (lv_at hl 0 rfl) ?_
    refine rC_0_1 S hnX4 K hH (mG wd_152) dX4_best_14 ?_
    refine lv_iload_n S.1 S.2.1 dX4_best_17 rfl (lv_at hl 1 rfl) ?_
    refine cW_bv (cW_V (n := 1) (As := [.int a]) (rest := []) (k := 9) (i := 0) S K hH (by decide) rfl rfl (k_X1_choose l D B L A σ τ a (by omega) hI (by omega)) gX4_best_X1_choose rfl hdV_X1_choose ⟨Nat.le_of_ble_eq_true rfl, Nat.le_of_ble_eq_true rfl⟩ rfl hl.1 (Nat.le_of_ble_eq_true rfl) dX4_best_18) hS (fun σ3 τ3 H locs q3 hH hS => ?_)
    obtain ⟨hI, hP3, q3⟩ := q3
    have hP := Keep_t hP hP3 (by decide)
    refine lv_iload_n S.1 S.2.1 dX4_best_21 rfl (lv_at hl 2 rfl) ?_
    rcases sw_in b 0 2 with c4 | ⟨c4, d4⟩
    · refine lv_tableOut (tgt := 75) S.1 S.2.1 dX4_best_22 c4 (by decide) ?_
      refine lv_iconst (v := (-1)) S.1 S.2.1 dX4_best_75 (by decide) ?_
      refine cW_iret S hr hk hH hS ?_ dX4_best_76
      exact ⟨(-1), rfl, hI, hP, by exact Or.inr ⟨by omega, q3, Or.inr (Or.inr (Or.inr ⟨by omega, by decide⟩))⟩⟩
    · rcases (show b.toInt = 0 ∨ b.toInt = 1 ∨ b.toInt = 2 by omega) with f4 | f4 | f4
      · refine lv_tableIn (off := 26) (tgt := 48) S.1 S.2.1 dX4_best_22 (by omega) (by omega) (by rw [f4]; rfl) (by decide) ?_
        refine lv_aload_n S.1 S.2.1 dX4_best_48 rfl (lv_at hl 0 rfl) ?_
        refine rC_0_1 S hnX4 K hH (mG wd_152) dX4_best_49 ?_
        refine rC_9_8 S hnX1 K hH (mG wd_280) dX4_best_52 ?_
        refine lv_topi (fun v5 e5 => ?_)
        refine cW_iret S hr hk hH hS ?_ dX4_best_55
        exact ⟨v5, rfl, hI, hP, by exact Or.inr ⟨by omega, q3, Or.inl ⟨by omega, by rw [e5]⟩⟩⟩
      · refine lv_tableIn (off := 34) (tgt := 56) S.1 S.2.1 dX4_best_22 (by omega) (by omega) (by rw [f4]; rfl) (by decide) ?_
        refine lv_aload_n S.1 S.2.1 dX4_best_56 rfl (lv_at hl 0 rfl) ?_
        refine rC_0_1 S hnX4 K hH (mG wd_152) dX4_best_57 ?_
        refine rC_9_9 S hnX1 K hH (mG wd_281) dX4_best_60 ?_
        refine lv_topi (fun v6 e6 => ?_)
        refine cW_iret S hr hk hH hS ?_ dX4_best_63
        exact ⟨v6, rfl, hI, hP, by exact Or.inr ⟨by omega, q3, Or.inr (Or.inl ⟨by omega, by rw [e6]⟩)⟩⟩
      · refine lv_tableIn (off := 42) (tgt := 64) S.1 S.2.1 dX4_best_22 (by omega) (by omega) (by rw [f4]; rfl) (by decide) ?_
        refine lv_aload_n S.1 S.2.1 dX4_best_64 rfl (lv_at hl 0 rfl) ?_
        refine rC_0_1 S hnX4 K hH (mG wd_152) dX4_best_65 ?_
        refine rC_9_7 S hnX1 K hH (mG wd_282) dX4_best_68 ?_
        refine lv_topi (fun v7 e7 => ?_)
        refine cW_bpi (cW_S (n := 1) (As := [.int v7]) (rest := []) S K hH (k_J6_bitCount_0f7a4 l D B L A σ3 τ3 v7 ) gX4_best_J6_bitCount_0f7a4 rfl hdS_J6_bitCount_0f7a4 ⟨Nat.le_of_ble_eq_true rfl, Nat.le_of_ble_eq_true rfl⟩ rfl hl.1 (Nat.le_of_ble_eq_true rfl) dX4_best_71) hS (fun v8 H locs q8 hH hS => ?_)
        refine cW_iret S hr hk hH hS ?_ dX4_best_74
        exact ⟨v8, rfl, hI, hP, by exact Or.inr ⟨by omega, q3, Or.inr (Or.inr (Or.inl ⟨by omega, by rw [q8, e7]⟩))⟩⟩
  · have j2 := t_eq c2
    refine lv_iconst (v := (-1)) S.1 S.2.1 dX4_best_11 (by decide) ?_
    refine cW_iret S hr hk hH hS ?_ dX4_best_12
    exact ⟨(-1), rfl, hI, hP, by exact Or.inl ⟨by omega, by decide, rfl, rfl⟩⟩
set_option maxHeartbeats 4000000 in
set_option maxRecDepth 100000 in
theorem k_X4_round (l : Launch) (D : va_G) (B : Nat → ClassId) (L : QL) (A : Nat → Prop) (σ : QS) (τ : Int64) (a : Int32) (b : Int32)  (hI : InvC σ) (hp1 : ((σ 16 0 0 ≠ 0 → waysOk (wkC (σ 11 0)) (mnC (σ 12 0)) (σ 15 0 0) (σ 14 0) 256) ∧ ((σ 17 0 0).toInt = -1 ∨ chRec (wkC (σ 11 0)) (mnC (σ 12 0)) (mnC (σ 13 0)) (σ 15 0 0) (σ 17 0 0).toInt 256 (σ 18 0 0) (σ 19 0 0).toInt (σ 20 0 0).toInt τ.toInt))) : cW cntC gC l D B L A yX4_round wsX4_round 6 141 [.ref (L 0 0), .int a, .int b] σ τ (pI (fun x σ' τ' => InvC σ' ∧ Keep [14, 16, 17, 18, 19, 20] σ σ' ∧ ((¬ ((0 ≤ a.toInt ∧ a.toInt ≤ 500) ∧ (0 ≤ b.toInt ∧ b.toInt ≤ 7)) ∧ x.toInt = -1 ∧ σ' = σ ∧ τ' = τ) ∨ ((0 ≤ a.toInt ∧ a.toInt ≤ 500) ∧ (0 ≤ b.toInt ∧ b.toInt ≤ 7) ∧ (σ' 16 0 0 ≠ 0 ∧ waysOk (wkC (σ 11 0)) (mnC (σ 12 0)) (σ 15 0 0) (σ' 14 0) 256 ∧ σ' 17 0 0 = a ∧ chRec (wkC (σ 11 0)) (mnC (σ 12 0)) (mnC (σ 13 0)) (σ 15 0 0) a.toInt 256 (σ' 18 0 0) (σ' 19 0 0).toInt (σ' 20 0 0).toInt τ'.toInt) ∧ (((digS τ' b).toInt = 0 ∧ x.toInt = -1) ∨ ((digS τ' b).toInt ≠ 0 ∧ x = digS τ' b)))))) := by
  refine cW_of (cc := cX4_round) (nL := 3) (ret := (some .int)) (by decide) rfl (Nat.le_of_ble_eq_true rfl) ?_
  intro p e s m below meth c S hr hk K hH hS ls hl
  have hnX1 : ∀ w ∈ wsX10, w ∈ wsX4_round := fun w h => mG (tX1 w h)
  have hnX4 : ∀ w ∈ wsX40, w ∈ wsX4_round := fun w h => mG (tX4 w h)
  have lm1 : ((-1) : Int32).toInt = -1 := by decide
  have l0 : (0 : Int32).toInt = 0 := by decide
  have l7 : (7 : Int32).toInt = 7 := by decide
  have l500 : (500 : Int32).toInt = 500 := by decide
  have hP : Keep [14, 16, 17, 18, 19, 20] σ σ := Keep_r
  have hl : lv_has ls 3 [(0, .ref (L 0 0)), (1, .int a), (2, .int b)] := hl
  refine lv_iload_n S.1 S.2.1 dX4_round_0 rfl (lv_at hl 1 rfl) ?_
  refine lv_iconst (v := 0) S.1 S.2.1 dX4_round_1 (by decide) ?_
  refine lv_sipush (v := 500) S.1 S.2.1 dX4_round_2 (by decide) ?_
  refine cW_bpi (cW_S (n := 3) (As := [.int a, .int 0, .int 500]) (rest := []) S K hH (k_X4_isIn l D B L A σ τ a 0 500 ) gX4_round_X4_isIn rfl hdS_X4_isIn ⟨Nat.le_of_ble_eq_true rfl, Nat.le_of_ble_eq_true rfl⟩ rfl hl.1 (Nat.le_of_ble_eq_true rfl) dX4_round_5) hS (fun v1 H locs q1 hH hS => ?_)
  refine lv_if_eq (tgt := 21) S.1 S.2.1 dX4_round_8 (by decide) (fun c2 => ?_) (fun c2 => ?_)
  · have j2 := t_eq c2
    refine lv_iconst (v := (-1)) S.1 S.2.1 dX4_round_21 (by decide) ?_
    refine cW_iret S hr hk hH hS ?_ dX4_round_22
    exact ⟨(-1), rfl, hI, hP, by exact Or.inl ⟨by omega, by decide, rfl, rfl⟩⟩
  · have j2 := t_neq c2
    refine lv_iload_n S.1 S.2.1 dX4_round_11 rfl (lv_at hl 2 rfl) ?_
    refine lv_iconst (v := 0) S.1 S.2.1 dX4_round_12 (by decide) ?_
    refine lv_bipush (v := 7) S.1 S.2.1 dX4_round_13 (by decide) ?_
    refine cW_bpi (cW_S (n := 3) (As := [.int b, .int 0, .int 7]) (rest := []) S K hH (k_X4_isIn l D B L A σ τ b 0 7 ) gX4_round_X4_isIn rfl hdS_X4_isIn ⟨Nat.le_of_ble_eq_true rfl, Nat.le_of_ble_eq_true rfl⟩ rfl hl.1 (Nat.le_of_ble_eq_true rfl) dX4_round_15) hS (fun v3 H locs q3 hH hS => ?_)
    refine lv_if_ne (tgt := 23) S.1 S.2.1 dX4_round_18 (by decide) (fun c4 => ?_) (fun c4 => ?_)
    · have j4 := t_neq c4
      refine lv_aload_n S.1 S.2.1 dX4_round_23 rfl (lv_at hl 0 rfl) ?_
      refine rC_0_1 S hnX4 K hH (mG wd_152) dX4_round_24 ?_
      refine lv_iload_n S.1 S.2.1 dX4_round_27 rfl (lv_at hl 1 rfl) ?_
      refine cW_bv (cW_V (n := 1) (As := [.int a]) (rest := []) (k := 9) (i := 0) S K hH (by decide) rfl rfl (k_X1_choose l D B L A σ τ a (by omega) hI (by omega)) gX4_round_X1_choose rfl hdV_X1_choose ⟨Nat.le_of_ble_eq_true rfl, Nat.le_of_ble_eq_true rfl⟩ rfl hl.1 (Nat.le_of_ble_eq_true rfl) dX4_round_28) hS (fun σ5 τ5 H locs q5 hH hS => ?_)
      obtain ⟨hI, hP5, q5⟩ := q5
      have hP := Keep_t hP hP5 (by decide)
      refine lv_aload_n S.1 S.2.1 dX4_round_31 rfl (lv_at hl 0 rfl) ?_
      refine rC_0_1 S hnX4 K hH (mG wd_152) dX4_round_32 ?_
      refine lv_iload_n S.1 S.2.1 dX4_round_35 rfl (lv_at hl 2 rfl) ?_
      refine cW_bpi (cW_V (n := 1) (As := [.int b]) (rest := []) (k := 9) (i := 0) S K hH (by decide) rfl rfl (k_X1_chosenShop l D B L A σ5 τ5 b (by omega)) gX4_round_X1_chosenShop rfl hdV_X1_chosenShop ⟨Nat.le_of_ble_eq_true rfl, Nat.le_of_ble_eq_true rfl⟩ rfl hl.1 (Nat.le_of_ble_eq_true rfl) dX4_round_36) hS (fun v6 H locs q6 hH hS => ?_)
      refine cW_iret S hr hk hH hS ?_ dX4_round_39
      exact ⟨v6, rfl, hI, hP, by exact Or.inr ⟨by omega, by omega, q5, q6⟩⟩
    · have j4 := t_eq c4
      refine lv_iconst (v := (-1)) S.1 S.2.1 dX4_round_21 (by decide) ?_
      refine cW_iret S hr hk hH hS ?_ dX4_round_22
      exact ⟨(-1), rfl, hI, hP, by exact Or.inl ⟨by omega, by decide, rfl, rfl⟩⟩
set_option maxHeartbeats 4000000 in
set_option maxRecDepth 100000 in
theorem k_X4_count (l : Launch) (D : va_G) (B : Nat → ClassId) (L : QL) (A : Nat → Prop) (σ : QS) (τ : Int64) (a : Int32)  (hI : InvC σ) : cW cntC gC l D B L A yX4_count wsX4_count 1 22 [.ref (L 0 0), .int a] σ τ (pI (fun x σ' τ' => σ' = σ ∧ τ' = τ ∧ True)) := by
  refine cW_of (cc := cX4_count) (nL := 2) (ret := (some .int)) (by decide) rfl (Nat.le_of_ble_eq_true rfl) ?_
  intro p e s m below meth c S hr hk K hH hS ls hl
  have hnX0 : ∀ w ∈ wsX00, w ∈ wsX4_count := fun w h => mG (tX0 w h)
  have hnX1 : ∀ w ∈ wsX10, w ∈ wsX4_count := fun w h => mG (tX1 w h)
  have hnX2 : ∀ w ∈ wsX20, w ∈ wsX4_count := fun w h => mG (tX2 w h)
  have hnX3 : ∀ w ∈ wsX30, w ∈ wsX4_count := fun w h => mG (tX3 w h)
  have hnX4 : ∀ w ∈ wsX40, w ∈ wsX4_count := fun w h => mG (tX4 w h)
  have lm1 : ((-1) : Int32).toInt = -1 := by decide
  have hl : lv_has ls 2 [(0, .ref (L 0 0)), (1, .int a)] := hl
  refine lv_iload_n S.1 S.2.1 dX4_count_0 rfl (lv_at hl 1 rfl) ?_
  rcases sw_in a 0 7 with c1 | ⟨c1, d1⟩
  · refine lv_tableOut (tgt := 100) S.1 S.2.1 dX4_count_1 c1 (by decide) ?_
    refine lv_iconst (v := (-1)) S.1 S.2.1 dX4_count_100 (by decide) ?_
    refine cW_iret S hr hk hH hS ?_ dX4_count_101
    exact ⟨(-1), rfl, rfl, rfl, by trivial⟩
  · rcases (show a.toInt = 0 ∨ a.toInt = 1 ∨ a.toInt = 2 ∨ a.toInt = 3 ∨ a.toInt = 4 ∨ a.toInt = 5 ∨ a.toInt = 6 ∨ a.toInt = 7 by omega) with f1 | f1 | f1 | f1 | f1 | f1 | f1 | f1
    · refine lv_tableIn (off := 47) (tgt := 48) S.1 S.2.1 dX4_count_1 (by omega) (by omega) (by rw [f1]; rfl) (by decide) ?_
      refine lv_aload_n S.1 S.2.1 dX4_count_48 rfl (lv_at hl 0 rfl) ?_
      refine rC_0_4 S hnX4 K hH (mG wd_156) dX4_count_49 ?_
      refine lv_topi (fun v2 e2 => ?_)
      have b2 : 0 ≤ v2.toInt ∧ v2.toInt ≤ 5000 := by rw [e2]; exact hI.1 1 0 0
      refine cW_iret S hr hk hH hS ?_ dX4_count_52
      exact ⟨v2, rfl, rfl, rfl, by trivial⟩
    · refine lv_tableIn (off := 52) (tgt := 53) S.1 S.2.1 dX4_count_1 (by omega) (by omega) (by rw [f1]; rfl) (by decide) ?_
      refine lv_aload_n S.1 S.2.1 dX4_count_53 rfl (lv_at hl 0 rfl) ?_
      refine rC_0_0 S hnX4 K hH (mG wd_149) dX4_count_54 ?_
      refine rC_2_1 S hnX3 K hH (mG wd_166) dX4_count_57 ?_
      refine lv_topi (fun v3 e3 => ?_)
      have b3 : 0 ≤ v3.toInt ∧ v3.toInt ≤ 12 := by rw [e3]; exact hI.1 3 0 0
      refine cW_iret S hr hk hH hS ?_ dX4_count_60
      exact ⟨v3, rfl, rfl, rfl, by trivial⟩
    · refine lv_tableIn (off := 60) (tgt := 61) S.1 S.2.1 dX4_count_1 (by omega) (by omega) (by rw [f1]; rfl) (by decide) ?_
      refine lv_aload_n S.1 S.2.1 dX4_count_61 rfl (lv_at hl 0 rfl) ?_
      refine rC_0_3 S hnX4 K hH (mG wd_155) dX4_count_62 ?_
      refine lv_topi (fun v4 e4 => ?_)
      have b4 : 0 ≤ v4.toInt ∧ v4.toInt ≤ 60 := by rw [e4]; exact hI.1 0 0 0
      refine cW_iret S hr hk hH hS ?_ dX4_count_65
      exact ⟨v4, rfl, rfl, rfl, by trivial⟩
    · refine lv_tableIn (off := 65) (tgt := 66) S.1 S.2.1 dX4_count_1 (by omega) (by omega) (by rw [f1]; rfl) (by decide) ?_
      refine lv_aload_n S.1 S.2.1 dX4_count_66 rfl (lv_at hl 0 rfl) ?_
      refine cW_bpi (cW_V (n := 0) (As := []) (rest := []) (k := 0) (i := 0) S K hH (by decide) rfl rfl (k_X4_countCome l D B L A σ τ  hI) gX4_count_X4_countCome rfl hdV_X4_countCome ⟨Nat.le_of_ble_eq_true rfl, Nat.le_of_ble_eq_true rfl⟩ rfl hl.1 (Nat.le_of_ble_eq_true rfl) dX4_count_67) hS (fun v5 H locs q5 hH hS => ?_)
      refine cW_iret S hr hk hH hS ?_ dX4_count_70
      exact ⟨v5, rfl, rfl, rfl, by trivial⟩
    · refine lv_tableIn (off := 70) (tgt := 71) S.1 S.2.1 dX4_count_1 (by omega) (by omega) (by rw [f1]; rfl) (by decide) ?_
      refine lv_aload_n S.1 S.2.1 dX4_count_71 rfl (lv_at hl 0 rfl) ?_
      refine cW_bpi (cW_V (n := 0) (As := []) (rest := []) (k := 0) (i := 0) S K hH (by decide) rfl rfl (k_X4_countRiding l D B L A σ τ  hI) gX4_count_X4_countRiding rfl hdV_X4_countRiding ⟨Nat.le_of_ble_eq_true rfl, Nat.le_of_ble_eq_true rfl⟩ rfl hl.1 (Nat.le_of_ble_eq_true rfl) dX4_count_72) hS (fun v6 H locs q6 hH hS => ?_)
      refine cW_iret S hr hk hH hS ?_ dX4_count_75
      exact ⟨v6, rfl, rfl, rfl, by trivial⟩
    · refine lv_tableIn (off := 75) (tgt := 76) S.1 S.2.1 dX4_count_1 (by omega) (by omega) (by rw [f1]; rfl) (by decide) ?_
      refine lv_aload_n S.1 S.2.1 dX4_count_76 rfl (lv_at hl 0 rfl) ?_
      refine rC_0_5 S hnX4 K hH (mG wd_157) dX4_count_77 ?_
      refine lv_topi (fun v7 e7 => ?_)
      have b7 : 0 ≤ v7.toInt ∧ v7.toInt ≤ 100 := by rw [e7]; exact hI.1 2 0 0
      refine cW_iret S hr hk hH hS ?_ dX4_count_80
      exact ⟨v7, rfl, rfl, rfl, by trivial⟩
    · refine lv_tableIn (off := 80) (tgt := 81) S.1 S.2.1 dX4_count_1 (by omega) (by omega) (by rw [f1]; rfl) (by decide) ?_
      refine lv_aload_n S.1 S.2.1 dX4_count_81 rfl (lv_at hl 0 rfl) ?_
      refine rC_0_0 S hnX4 K hH (mG wd_149) dX4_count_82 ?_
      refine cW_bpi (cW_V (n := 0) (As := []) (rest := []) (k := 2) (i := 0) S K hH (by decide) rfl rfl (k_X3_earnedInAll l D B L A σ τ  hI) gX4_count_X3_earnedInAll rfl hdV_X3_earnedInAll ⟨Nat.le_of_ble_eq_true rfl, Nat.le_of_ble_eq_true rfl⟩ rfl hl.1 (Nat.le_of_ble_eq_true rfl) dX4_count_85) hS (fun v8 H locs q8 hH hS => ?_)
      refine cW_iret S hr hk hH hS ?_ dX4_count_88
      exact ⟨v8, rfl, rfl, rfl, by trivial⟩
    · refine lv_tableIn (off := 88) (tgt := 89) S.1 S.2.1 dX4_count_1 (by omega) (by omega) (by rw [f1]; rfl) (by decide) ?_
      refine lv_aload_n S.1 S.2.1 dX4_count_89 rfl (lv_at hl 0 rfl) ?_
      refine rC_0_1 S hnX4 K hH (mG wd_152) dX4_count_90 ?_
      refine rC_9_4 S hnX1 K hH (mG wd_292) dX4_count_93 ?_
      refine lv_topi (fun v9 e9 => ?_)
      have b9 : 0 ≤ v9.toInt ∧ v9.toInt ≤ 255 := by rw [e9]; exact hI.1 15 0 0
      refine cW_bpi (cW_S (n := 1) (As := [.int v9]) (rest := []) S K hH (k_J6_bitCount_0f7a4 l D B L A σ τ v9 ) gX4_count_J6_bitCount_0f7a4 rfl hdS_J6_bitCount_0f7a4 ⟨Nat.le_of_ble_eq_true rfl, Nat.le_of_ble_eq_true rfl⟩ rfl hl.1 (Nat.le_of_ble_eq_true rfl) dX4_count_96) hS (fun v10 H locs q10 hH hS => ?_)
      refine cW_iret S hr hk hH hS ?_ dX4_count_99
      exact ⟨v10, rfl, rfl, rfl, by trivial⟩
