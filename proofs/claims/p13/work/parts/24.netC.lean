set_option maxHeartbeats 4000000 in
set_option maxRecDepth 100000 in
theorem k_X4_isPlace (l : Launch) (D : va_G) (B : Nat → ClassId) (L : QL) (A : Nat → Prop) (σ : QS) (τ : Int64) (w : Int32)   : cW cntC gC l D B L A yX4_isPlace wsX4_isPlace 1 22 [.int w] σ τ (pI (fun x σ' τ' => σ' = σ ∧ τ' = τ ∧ ((x.toInt = 1 ∧ 0 ≤ w.toInt ∧ w.toInt ≤ 11) ∨ (x.toInt = 0 ∧ (w.toInt < 0 ∨ 11 < w.toInt))))) := by
  refine cW_of (cc := cX4_isPlace) (nL := 1) (ret := (some .boolean)) (by decide) rfl (Nat.le_of_ble_eq_true rfl) ?_
  intro p e s m below meth c S hr hk K hH hS ls hl
  have l0 : (0 : Int32).toInt = 0 := by decide
  have l11 : (11 : Int32).toInt = 11 := by decide
  have hl : lv_has ls 1 [(0, .int w)] := hl
  refine lv_iload_n S.1 S.2.1 dX4_isPlace_0 rfl (lv_at hl 0 rfl) ?_
  refine lv_iconst (v := 0) S.1 S.2.1 dX4_isPlace_1 (by decide) ?_
  refine lv_bipush (v := 11) S.1 S.2.1 dX4_isPlace_2 (by decide) ?_
  refine cW_bpi (cW_S (n := 3) (As := [.int w, .int 0, .int 11]) (rest := []) S K hH (k_X4_isIn l D B L A σ τ w 0 11 ) gX4_isPlace_X4_isIn rfl hdS_X4_isIn ⟨Nat.le_of_ble_eq_true rfl, Nat.le_of_ble_eq_true rfl⟩ rfl hl.1 (Nat.le_of_ble_eq_true rfl) dX4_isPlace_4) hS (fun v1 H locs q1 hH hS => ?_)
  refine cW_zret S hr hk hH hS (nz (by omega)) ?_ dX4_isPlace_7
  exact ⟨v1, rfl, rfl, rfl, by omega⟩
set_option maxHeartbeats 4000000 in
set_option maxRecDepth 100000 in
theorem k_X4_isCart (l : Launch) (D : va_G) (B : Nat → ClassId) (L : QL) (A : Nat → Prop) (σ : QS) (τ : Int64) (n9 : Int32)  (hI : InvC σ) : cW cntC gC l D B L A yX4_isCart wsX4_isCart 1 22 [.ref (L 0 0), .int n9] σ τ (pI (fun x σ' τ' => σ' = σ ∧ τ' = τ ∧ ((x.toInt = 1 ∧ 0 ≤ n9.toInt ∧ n9.toInt ≤ 11 ∧ n9.toInt < (σ 3 0 0).toInt) ∨ (x.toInt = 0 ∧ (n9.toInt < 0 ∨ (σ 3 0 0).toInt ≤ n9.toInt))))) := by
  refine cW_of (cc := cX4_isCart) (nL := 2) (ret := (some .boolean)) (by decide) rfl (Nat.le_of_ble_eq_true rfl) ?_
  intro p e s m below meth c S hr hk K hH hS ls hl
  have hnX3 : ∀ w ∈ wsX30, w ∈ wsX4_isCart := fun w h => mG (tX3 w h)
  have hnX4 : ∀ w ∈ wsX40, w ∈ wsX4_isCart := fun w h => mG (tX4 w h)
  have l0 : (0 : Int32).toInt = 0 := by decide
  have l1 : (1 : Int32).toInt = 1 := by decide
  have hl : lv_has ls 2 [(0, .ref (L 0 0)), (1, .int n9)] := hl
  refine lv_iload_n S.1 S.2.1 dX4_isCart_0 rfl (lv_at hl 1 rfl) ?_
  refine lv_iconst (v := 0) S.1 S.2.1 dX4_isCart_1 (by decide) ?_
  refine lv_aload_n S.1 S.2.1 dX4_isCart_2 rfl (lv_at hl 0 rfl) ?_
  refine rC_0_0 S hnX4 K hH (mG wd_149) dX4_isCart_3 ?_
  refine rC_2_1 S hnX3 K hH (mG wd_166) dX4_isCart_6 ?_
  refine lv_topi (fun v1 e1 => ?_)
  have b1 : 0 ≤ v1.toInt ∧ v1.toInt ≤ 12 := by rw [e1]; exact hI.1 3 0 0
  refine lv_iconst (v := 1) S.1 S.2.1 dX4_isCart_9 (by decide) ?_
  refine lv_isub S.1 S.2.1 dX4_isCart_10 ?_
  refine lv_topi (fun v2 e2 => ?_)
  have i2 : v2.toInt = v1.toInt - (1 : Int32).toInt := i_sub e2 (by omega) (by omega)
  refine cW_bpi (cW_S (n := 3) (As := [.int n9, .int 0, .int v2]) (rest := []) S K hH (k_X4_isIn l D B L A σ τ n9 0 v2 ) gX4_isCart_X4_isIn rfl hdS_X4_isIn ⟨Nat.le_of_ble_eq_true rfl, Nat.le_of_ble_eq_true rfl⟩ rfl hl.1 (Nat.le_of_ble_eq_true rfl) dX4_isCart_11) hS (fun v3 H locs q3 hH hS => ?_)
  refine cW_zret S hr hk hH hS (nz (by omega)) ?_ dX4_isCart_14
  exact ⟨v3, rfl, rfl, rfl, by rw [← e1]; omega⟩
set_option maxHeartbeats 4000000 in
set_option maxRecDepth 100000 in
theorem k_X4_areTerms (l : Launch) (D : va_G) (B : Nat → ClassId) (L : QL) (A : Nat → Prop) (σ : QS) (τ : Int64) (a : Int32) (r : Int32) (f : Int32)   : cW cntC gC l D B L A yX4_areTerms wsX4_areTerms 1 22 [.int a, .int r, .int f] σ τ (pI (fun x σ' τ' => σ' = σ ∧ τ' = τ ∧ ((x.toInt = 1 ∧ (0 ≤ a.toInt ∧ a.toInt ≤ 127 ∧ 0 ≤ r.toInt ∧ r.toInt ≤ 50 ∧ 0 ≤ f.toInt ∧ f.toInt ≤ 20)) ∨ (x.toInt = 0 ∧ ¬ (0 ≤ a.toInt ∧ a.toInt ≤ 127 ∧ 0 ≤ r.toInt ∧ r.toInt ≤ 50 ∧ 0 ≤ f.toInt ∧ f.toInt ≤ 20))))) := by
  refine cW_of (cc := cX4_areTerms) (nL := 3) (ret := (some .boolean)) (by decide) rfl (Nat.le_of_ble_eq_true rfl) ?_
  intro p e s m below meth c S hr hk K hH hS ls hl
  have l0 : (0 : Int32).toInt = 0 := by decide
  have l1 : (1 : Int32).toInt = 1 := by decide
  have l20 : (20 : Int32).toInt = 20 := by decide
  have l50 : (50 : Int32).toInt = 50 := by decide
  have l127 : (127 : Int32).toInt = 127 := by decide
  have hl : lv_has ls 3 [(0, .int a), (1, .int r), (2, .int f)] := hl
  refine lv_iload_n S.1 S.2.1 dX4_areTerms_0 rfl (lv_at hl 0 rfl) ?_
  refine lv_iconst (v := 0) S.1 S.2.1 dX4_areTerms_1 (by decide) ?_
  refine lv_bipush (v := 127) S.1 S.2.1 dX4_areTerms_2 (by decide) ?_
  refine cW_bpi (cW_S (n := 3) (As := [.int a, .int 0, .int 127]) (rest := []) S K hH (k_X4_isIn l D B L A σ τ a 0 127 ) gX4_areTerms_X4_isIn rfl hdS_X4_isIn ⟨Nat.le_of_ble_eq_true rfl, Nat.le_of_ble_eq_true rfl⟩ rfl hl.1 (Nat.le_of_ble_eq_true rfl) dX4_areTerms_4) hS (fun v1 H locs q1 hH hS => ?_)
  refine lv_if_eq (tgt := 34) S.1 S.2.1 dX4_areTerms_7 (by decide) (fun c2 => ?_) (fun c2 => ?_)
  · have j2 := t_eq c2
    refine lv_iconst (v := 0) S.1 S.2.1 dX4_areTerms_34 (by decide) ?_
    refine cW_zret S hr hk hH hS (by decide) ?_ dX4_areTerms_35
    exact ⟨0, rfl, rfl, rfl, by omega⟩
  · have j2 := t_neq c2
    refine lv_iload_n S.1 S.2.1 dX4_areTerms_10 rfl (lv_at hl 1 rfl) ?_
    refine lv_iconst (v := 0) S.1 S.2.1 dX4_areTerms_11 (by decide) ?_
    refine lv_bipush (v := 50) S.1 S.2.1 dX4_areTerms_12 (by decide) ?_
    refine cW_bpi (cW_S (n := 3) (As := [.int r, .int 0, .int 50]) (rest := []) S K hH (k_X4_isIn l D B L A σ τ r 0 50 ) gX4_areTerms_X4_isIn rfl hdS_X4_isIn ⟨Nat.le_of_ble_eq_true rfl, Nat.le_of_ble_eq_true rfl⟩ rfl hl.1 (Nat.le_of_ble_eq_true rfl) dX4_areTerms_14) hS (fun v3 H locs q3 hH hS => ?_)
    refine lv_if_eq (tgt := 34) S.1 S.2.1 dX4_areTerms_17 (by decide) (fun c4 => ?_) (fun c4 => ?_)
    · have j4 := t_eq c4
      refine lv_iconst (v := 0) S.1 S.2.1 dX4_areTerms_34 (by decide) ?_
      refine cW_zret S hr hk hH hS (by decide) ?_ dX4_areTerms_35
      exact ⟨0, rfl, rfl, rfl, by omega⟩
    · have j4 := t_neq c4
      refine lv_iload_n S.1 S.2.1 dX4_areTerms_20 rfl (lv_at hl 2 rfl) ?_
      refine lv_iconst (v := 0) S.1 S.2.1 dX4_areTerms_21 (by decide) ?_
      refine lv_bipush (v := 20) S.1 S.2.1 dX4_areTerms_22 (by decide) ?_
      refine cW_bpi (cW_S (n := 3) (As := [.int f, .int 0, .int 20]) (rest := []) S K hH (k_X4_isIn l D B L A σ τ f 0 20 ) gX4_areTerms_X4_isIn rfl hdS_X4_isIn ⟨Nat.le_of_ble_eq_true rfl, Nat.le_of_ble_eq_true rfl⟩ rfl hl.1 (Nat.le_of_ble_eq_true rfl) dX4_areTerms_24) hS (fun v5 H locs q5 hH hS => ?_)
      refine lv_if_eq (tgt := 34) S.1 S.2.1 dX4_areTerms_27 (by decide) (fun c6 => ?_) (fun c6 => ?_)
      · have j6 := t_eq c6
        refine lv_iconst (v := 0) S.1 S.2.1 dX4_areTerms_34 (by decide) ?_
        refine cW_zret S hr hk hH hS (by decide) ?_ dX4_areTerms_35
        exact ⟨0, rfl, rfl, rfl, by omega⟩
      · have j6 := t_neq c6
        refine lv_iconst (v := 1) S.1 S.2.1 dX4_areTerms_30 (by decide) ?_
        refine lv_goto (tgt := 35) S.1 S.2.1 dX4_areTerms_31 (by decide) ?_
        refine cW_zret S hr hk hH hS (by decide) ?_ dX4_areTerms_35
        exact ⟨1, rfl, rfl, rfl, by omega⟩
set_option maxHeartbeats 4000000 in
set_option maxRecDepth 100000 in
theorem k_X4_cart (l : Launch) (D : va_G) (B : Nat → ClassId) (L : QL) (A : Nat → Prop) (σ : QS) (τ : Int64) (a : Int32) (h : Int32) (r : Int32) (f : Int32) (z : Int32) (N : Net) (hI : InvC σ) (hp1 : NetC σ N) : cW cntC gC l D B L A yX4_cart wsX4_cart 3 72 [.ref (L 0 0), .int a, .int h, .int r, .int f, .int z] σ τ (pI (fun x σ' τ' => InvC σ' ∧ Keep [3, 22, 21, 23, 24, 27, 28, 26, 6, 7, 4, 8] σ σ' ∧ τ' = τ ∧ (((x.toInt = -1 ∧ σ' 3 = σ 3 ∧ ¬ (0 ≤ a.toInt ∧ a.toInt ≤ 127 ∧ 0 ≤ h.toInt ∧ h.toInt ≤ 23 ∧ 0 ≤ r.toInt ∧ r.toInt ≤ 50 ∧ 0 ≤ f.toInt ∧ f.toInt ≤ 20 ∧ 0 ≤ z.toInt ∧ z.toInt ≤ 11 ∧ (σ 3 0 0).toInt < 12)) ∨ ((0 ≤ a.toInt ∧ a.toInt ≤ 127 ∧ 0 ≤ h.toInt ∧ h.toInt ≤ 23 ∧ 0 ≤ r.toInt ∧ r.toInt ≤ 50 ∧ 0 ≤ f.toInt ∧ f.toInt ≤ 20 ∧ 0 ≤ z.toInt ∧ z.toInt ≤ 11 ∧ (σ 3 0 0).toInt < 12) ∧ x.toInt = (σ 3 0 0).toInt ∧ (σ' 3 0 0).toInt = (σ 3 0 0).toInt + 1)) ∧ ((x.toInt = -1 ∧ σ' = σ) ∨ (x.toInt ≠ -1 ∧ NetC σ' (netA N h.toInt a.toNatClampNeg z.toNatClampNeg (fun d => snB (σ 29 (nK N)) (nI d) ≠ 0)) ∧ σ' 4 0 0 = σ 4 0 0 + 1 ∧ σ' 23 = rs σ 23 (nK N) (fun _ => r) 23 ∧ σ' 24 = rs σ 24 (nK N) (fun _ => f) 24))))) := by
  refine cW_of (cc := cX4_cart) (nL := 8) (ret := (some .int)) (by decide) rfl (Nat.le_of_ble_eq_true rfl) ?_
  intro p e s m below meth c S hr hk K hH hS ls hl
  have hnX0 : ∀ w ∈ wsX00, w ∈ wsX4_cart := fun w h => mG (tX0 w h)
  have hnX3 : ∀ w ∈ wsX30, w ∈ wsX4_cart := fun w h => mG (tX3 w h)
  have hnX4 : ∀ w ∈ wsX40, w ∈ wsX4_cart := fun w h => mG (tX4 w h)
  have lm1 : ((-1) : Int32).toInt = -1 := by decide
  have l0 : (0 : Int32).toInt = 0 := by decide
  have l1 : (1 : Int32).toInt = 1 := by decide
  have l12 : (12 : Int32).toInt = 12 := by decide
  have l23 : (23 : Int32).toInt = 23 := by decide
  have hP : Keep [3, 22, 21, 23, 24, 27, 28, 26, 6, 7, 4, 8] σ σ := Keep_r
  have hl : lv_has ls 8 [(0, .ref (L 0 0)), (1, .int a), (2, .int h), (3, .int r), (4, .int f), (5, .int z)] := hl
  refine lv_iload_n S.1 S.2.1 dX4_cart_0 rfl (lv_at hl 1 rfl) ?_
  refine lv_iload_n S.1 S.2.1 dX4_cart_1 rfl (lv_at hl 3 rfl) ?_
  refine lv_iload S.1 S.2.1 dX4_cart_2 (lv_at hl 4 rfl) ?_
  refine cW_bpi (cW_S (n := 3) (As := [.int a, .int r, .int f]) (rest := []) S K hH (k_X4_areTerms l D B L A σ τ a r f ) gX4_cart_X4_areTerms rfl hdS_X4_areTerms ⟨Nat.le_of_ble_eq_true rfl, Nat.le_of_ble_eq_true rfl⟩ rfl hl.1 (Nat.le_of_ble_eq_true rfl) dX4_cart_4) hS (fun v1 H locs q1 hH hS => ?_)
  refine lv_if_eq (tgt := 28) S.1 S.2.1 dX4_cart_7 (by decide) (fun c2 => ?_) (fun c2 => ?_)
  · have j2 := t_eq c2
    refine lv_iconst (v := (-1)) S.1 S.2.1 dX4_cart_28 (by decide) ?_
    refine cW_iret S hr hk hH hS ?_ dX4_cart_29
    exact ⟨(-1), rfl, hI, hP, rfl, by exact ⟨Or.inl ⟨by decide, rfl, by omega⟩, Or.inl ⟨by decide, rfl⟩⟩⟩
  · have j2 := t_neq c2
    refine lv_iload_n S.1 S.2.1 dX4_cart_10 rfl (lv_at hl 2 rfl) ?_
    refine lv_iconst (v := 0) S.1 S.2.1 dX4_cart_11 (by decide) ?_
    refine lv_bipush (v := 23) S.1 S.2.1 dX4_cart_12 (by decide) ?_
    refine cW_bpi (cW_S (n := 3) (As := [.int h, .int 0, .int 23]) (rest := []) S K hH (k_X4_isIn l D B L A σ τ h 0 23 ) gX4_cart_X4_isIn rfl hdS_X4_isIn ⟨Nat.le_of_ble_eq_true rfl, Nat.le_of_ble_eq_true rfl⟩ rfl hl.1 (Nat.le_of_ble_eq_true rfl) dX4_cart_14) hS (fun v3 H locs q3 hH hS => ?_)
    refine lv_if_eq (tgt := 28) S.1 S.2.1 dX4_cart_17 (by decide) (fun c4 => ?_) (fun c4 => ?_)
    · have j4 := t_eq c4
      refine lv_iconst (v := (-1)) S.1 S.2.1 dX4_cart_28 (by decide) ?_
      refine cW_iret S hr hk hH hS ?_ dX4_cart_29
      exact ⟨(-1), rfl, hI, hP, rfl, by exact ⟨Or.inl ⟨by decide, rfl, by omega⟩, Or.inl ⟨by decide, rfl⟩⟩⟩
    · have j4 := t_neq c4
      refine lv_iload S.1 S.2.1 dX4_cart_20 (lv_at hl 5 rfl) ?_
      refine cW_bpi (cW_S (n := 1) (As := [.int z]) (rest := []) S K hH (k_X4_isPlace l D B L A σ τ z ) gX4_cart_X4_isPlace rfl hdS_X4_isPlace ⟨Nat.le_of_ble_eq_true rfl, Nat.le_of_ble_eq_true rfl⟩ rfl hl.1 (Nat.le_of_ble_eq_true rfl) dX4_cart_22) hS (fun v5 H locs q5 hH hS => ?_)
      refine lv_if_ne (tgt := 30) S.1 S.2.1 dX4_cart_25 (by decide) (fun c6 => ?_) (fun c6 => ?_)
      · have j6 := t_neq c6
        refine lv_aload_n S.1 S.2.1 dX4_cart_30 rfl (lv_at hl 0 rfl) ?_
        refine rC_0_0 S hnX4 K hH (mG wd_149) dX4_cart_31 ?_
        refine rC_2_1 S hnX3 K hH (mG wd_166) dX4_cart_34 ?_
        refine lv_topi (fun v7 e7 => ?_)
        have b7 : 0 ≤ v7.toInt ∧ v7.toInt ≤ 12 := by rw [e7]; exact hI.1 3 0 0
        refine lv_bipush (v := 12) S.1 S.2.1 dX4_cart_37 (by decide) ?_
        refine lv_icmp_lt (tgt := 44) S.1 S.2.1 dX4_cart_39 (by decide) (fun c8 => ?_) (fun c8 => ?_)
        · have j8 := t_lt c8
          refine lv_aload_n S.1 S.2.1 dX4_cart_44 rfl (lv_at hl 0 rfl) ?_
          refine rC_0_0 S hnX4 K hH (mG wd_149) dX4_cart_45 ?_
          refine rC_2_1 S hnX3 K hH (mG wd_166) dX4_cart_48 ?_
          refine lv_topi (fun v9 e9 => ?_)
          have b9 : 0 ≤ v9.toInt ∧ v9.toInt ≤ 12 := by rw [e9]; exact hI.1 3 0 0
          have k9 : v9.toInt = v7.toInt := by rw [e9]; rw [← e7]
          have f48 : v9.toInt = (σ 3 0 0).toInt := by rw [e9]
          have hkn : v9.toNatClampNeg = nK N := by have z3 := cl_eq (j := v9) (by omega); have z4 := hp1.1.2.1; omega
          refine lv_istore (lv' := [(6, .int v9), (0, .ref (L 0 0)), (1, .int a), (2, .int h), (3, .int r), (4, .int f), (5, .int z)]) S.1 S.2.1 dX4_cart_51 hl (by decide) rfl (fun ls hl => ?_)
          refine lv_aload_n S.1 S.2.1 dX4_cart_53 rfl (lv_at hl 1 rfl) ?_
          refine rC_0_0 S hnX4 K hH (mG wd_149) dX4_cart_54 ?_
          refine lv_iload S.1 S.2.1 dX4_cart_57 (lv_at hl 0 rfl) ?_
          refine lv_iconst (v := 1) S.1 S.2.1 dX4_cart_59 (by decide) ?_
          refine lv_iadd S.1 S.2.1 dX4_cart_60 ?_
          refine lv_topi (fun v10 e10 => ?_)
          have i10 : v10.toInt = v9.toInt + (1 : Int32).toInt := i_add e10 (by omega) (by omega)
          refine pC_2_1 S hnX3 K hH hS (mG wd_166) dX4_cart_61 (fun H locs hH hS => ?_)
          obtain ⟨σ11, eσ11⟩ : ∃ z_9 : QS, z_9 = rs σ 3 0 (fun _ => v10) := ⟨_, rfl⟩
          rw [← eσ11] at hH
          have hI := InvC_f eσ11 hI (by decide) (show (0 : Int) ≤ v10.toInt ∧ v10.toInt ≤ 12 by omega)
          have hP := Keep_w eσ11 hP (by decide)
          refine lv_aload_n S.1 S.2.1 dX4_cart_64 rfl (lv_at hl 1 rfl) ?_
          refine rC_0_0 S hnX4 K hH (mG wd_149) dX4_cart_65 ?_
          refine rC_2_0 S hnX3 K hH (mG wd_167) dX4_cart_68 ?_
          refine lv_iload S.1 S.2.1 dX4_cart_71 (lv_at hl 0 rfl) ?_
          refine lC_3 S K hH (vin (by omega) (by omega)) dX4_cart_73 ?_
          refine lv_astore (lv' := [(7, .ref (L 14 v9.toNatClampNeg)), (6, .int v9), (0, .ref (L 0 0)), (1, .int a), (2, .int h), (3, .int r), (4, .int f), (5, .int z)]) S.1 S.2.1 dX4_cart_74 hl (by decide) rfl (fun ls hl => ?_)
          refine lv_aload S.1 S.2.1 dX4_cart_76 (lv_at hl 0 rfl) ?_
          refine lv_iload_n S.1 S.2.1 dX4_cart_78 rfl (lv_at hl 4 rfl) ?_
          refine pC_14_1 S hnX0 K hH hS (cl_lt (n := 12) (by omega) (by omega)) (mG wd_168) dX4_cart_79 (fun H locs hH hS => ?_)
          obtain ⟨σ12, eσ12⟩ : ∃ z_9 : QS, z_9 = rs σ11 22 v9.toNatClampNeg (fun _ => h) := ⟨_, rfl⟩
          rw [← eσ12] at hH
          have hI := InvC_f eσ12 hI (by decide) (show (0 : Int) ≤ h.toInt ∧ h.toInt ≤ 23 by omega)
          have hP := Keep_w eσ12 hP (by decide)
          refine lv_aload S.1 S.2.1 dX4_cart_82 (lv_at hl 0 rfl) ?_
          refine lv_iload_n S.1 S.2.1 dX4_cart_84 rfl (lv_at hl 3 rfl) ?_
          refine lv_iload_n S.1 S.2.1 dX4_cart_85 rfl (lv_at hl 5 rfl) ?_
          refine lv_iload S.1 S.2.1 dX4_cart_86 (lv_at hl 6 rfl) ?_
          refine cW_bv (cW_V (n := 3) (As := [.int a, .int r, .int f]) (rest := []) (k := 14) (i := v9.toNatClampNeg) S K hH (cl_lt (n := 12) (by omega) (by omega)) rfl rfl (k_X0_setTerms l D B L A σ12 τ v9.toNatClampNeg a r f (cl_lt (n := 12) (by omega) (by omega)) (by omega) hI) gX4_cart_X0_setTerms rfl hdV_X0_setTerms ⟨Nat.le_of_ble_eq_true rfl, Nat.le_of_ble_eq_true rfl⟩ rfl hl.1 (Nat.le_of_ble_eq_true rfl) dX4_cart_88) hS (fun σ13 τ13 H locs q13 hH hS => ?_)
          obtain ⟨hI, hP13, hτ13, q13⟩ := q13
          rw [hτ13] at hH
          have hP := Keep_t hP hP13 (by decide)
          have y3 : (σ13 3 0 0).toInt = nK N + 1 := by rw [hP13 3 (by decide), eσ12, rs_v (by decide), eσ11, rs_self]; have z4 := hp1.1.2.1; omega
          have y22 : σ13 22 = rs σ 22 (nK N) (fun _ => h) 22 := by rw [hP13 22 (by decide), eσ12, hkn]; exact rs_tw (by rw [eσ11, rs_v (by decide)])
          have y21 : σ13 21 = rs σ 21 (nK N) (fun _ => a) 21 := by rw [(q13).1, hkn]; exact rs_tw (by rw [eσ12, rs_v (by decide), eσ11, rs_v (by decide)])
          have y23 : σ13 23 = rs σ 23 (nK N) (fun _ => r) 23 := by rw [(q13).2.1, hkn]; exact rs_tw (by rw [eσ12, rs_v (by decide), eσ11, rs_v (by decide)])
          have y24 : σ13 24 = rs σ 24 (nK N) (fun _ => f) 24 := by rw [(q13).2.2, hkn]; exact rs_tw (by rw [eσ12, rs_v (by decide), eσ11, rs_v (by decide)])
          have yk : ∀ v' : Nat, v' ∈ [4, 6, 7, 26, 27, 28, 29] → σ13 v' = σ v' := fun v' hv' => by rw [hP13 v' (by revert hv'; revert v'; decide), eσ12, rs_v (by intro z9; subst z9; revert hv'; decide), eσ11, rs_v (by intro z9; subst z9; revert hv'; decide)]
          refine lv_aload_n S.1 S.2.1 dX4_cart_91 rfl (lv_at hl 2 rfl) ?_
          refine rC_0_0 S hnX4 K hH (mG wd_149) dX4_cart_92 ?_
          refine lv_iload S.1 S.2.1 dX4_cart_95 (lv_at hl 1 rfl) ?_
          refine lv_iload S.1 S.2.1 dX4_cart_97 (lv_at hl 7 rfl) ?_
          refine lv_iconst (v := 0) S.1 S.2.1 dX4_cart_99 (by decide) ?_
          refine cW_bv (cW_V (n := 3) (As := [.int v9, .int z, .int 0]) (rest := []) (k := 2) (i := 0) S K hH (by decide) rfl rfl (k_X3_addStop l D B L A σ13 τ v9 z 0 (N) (netA N h.toInt a.toNatClampNeg z.toNatClampNeg (fun d => snB (σ 29 (nK N)) (nI d) ≠ 0)) (by omega) (by omega) (by omega) hI (by rw [hkn]; exact ok_A hp1 (by have z4 := hp1.1.2.1; omega) (by omega) (by omega) (by omega) y3 y22 y21 (fun v' hv' => yk v' (by revert hv'; revert v'; decide)))) gX4_cart_X3_addStop rfl hdV_X3_addStop ⟨Nat.le_of_ble_eq_true rfl, Nat.le_of_ble_eq_true rfl⟩ rfl hl.1 (Nat.le_of_ble_eq_true rfl) dX4_cart_100) hS (fun σ14 τ14 H locs q14 hH hS => ?_)
          obtain ⟨hI, hP14, hτ14, q14⟩ := q14
          rw [hτ14] at hH
          have hP := Keep_t hP hP14 (by decide)
          have hq9 := q14
          rw [hkn] at hq9
          refine lv_iload S.1 S.2.1 dX4_cart_103 (lv_at hl 1 rfl) ?_
          refine cW_iret S hr hk hH hS ?_ dX4_cart_105
          exact ⟨v9, rfl, hI, hP, rfl, by refine ⟨Or.inr ?_, Or.inr ⟨by omega, net_A hp1 hq9 (yk 7 (by decide)) (yk 26 (by decide)), by rw [hq9.2.2.2.2.1, yk 4 (by decide)], by rw [hP14 23 (by decide)]; exact y23, by rw [hP14 24 (by decide)]; exact y24⟩⟩; rw [hP14 3 (by decide), hP13 3 (by decide), eσ12, rs_v (by decide), eσ11, rs_self, ← e7]; omega⟩
        · have j8 := t_nlt c8
          refine lv_iconst (v := (-1)) S.1 S.2.1 dX4_cart_42 (by decide) ?_
          refine cW_iret S hr hk hH hS ?_ dX4_cart_43
          exact ⟨(-1), rfl, hI, hP, rfl, by exact ⟨Or.inl ⟨by decide, rfl, by rw [← e7]; omega⟩, Or.inl ⟨by decide, rfl⟩⟩⟩
      · have j6 := t_eq c6
        refine lv_iconst (v := (-1)) S.1 S.2.1 dX4_cart_28 (by decide) ?_
        refine cW_iret S hr hk hH hS ?_ dX4_cart_29
        exact ⟨(-1), rfl, hI, hP, rfl, by exact ⟨Or.inl ⟨by decide, rfl, by omega⟩, Or.inl ⟨by decide, rfl⟩⟩⟩
set_option maxHeartbeats 4000000 in
set_option maxRecDepth 100000 in
theorem k_X4_stop (l : Launch) (D : va_G) (B : Nat → ClassId) (L : QL) (A : Nat → Prop) (σ : QS) (τ : Int64) (a : Int32) (b : Int32) (z : Int32) (N : Net) (hI : InvC σ) (hp1 : NetC σ N) : cW cntC gC l D B L A yX4_stop wsX4_stop 3 72 [.ref (L 0 0), .int a, .int b, .int z] σ τ (pI (fun x σ' τ' => InvC σ' ∧ Keep [27, 28, 26, 6, 7, 4, 8] σ σ' ∧ τ' = τ ∧ ((x.toInt = -1 ∧ σ' = σ ∧ ¬ (0 ≤ a.toInt ∧ a.toInt < (σ 3 0 0).toInt ∧ 0 ≤ b.toInt ∧ b.toInt ≤ 11 ∧ z.toInt ≤ 60 ∧ nS N a.toNatClampNeg < 6 ∧ nO N a.toNatClampNeg (nS N a.toNatClampNeg - 1) < z.toInt ∧ ¬ ldn (σ 30 a.toNatClampNeg))) ∨ (x.toInt = nS N a.toNatClampNeg + 1 ∧ (0 ≤ a.toInt ∧ a.toInt < (σ 3 0 0).toInt ∧ 0 ≤ b.toInt ∧ b.toInt ≤ 11 ∧ z.toInt ≤ 60 ∧ nS N a.toNatClampNeg < 6 ∧ nO N a.toNatClampNeg (nS N a.toNatClampNeg - 1) < z.toInt ∧ ¬ ldn (σ 30 a.toNatClampNeg)) ∧ NetC σ' (netS N a.toNatClampNeg b.toNatClampNeg z.toInt) ∧ σ' 4 0 0 = σ 4 0 0 + 1)))) := by
  refine cW_of (cc := cX4_stop) (nL := 5) (ret := (some .int)) (by decide) rfl (Nat.le_of_ble_eq_true rfl) ?_
  intro p e s m below meth c S hr hk K hH hS ls hl
  have hnX0 : ∀ w ∈ wsX00, w ∈ wsX4_stop := fun w h => mG (tX0 w h)
  have hnX3 : ∀ w ∈ wsX30, w ∈ wsX4_stop := fun w h => mG (tX3 w h)
  have hnX4 : ∀ w ∈ wsX40, w ∈ wsX4_stop := fun w h => mG (tX4 w h)
  have lm1 : ((-1) : Int32).toInt = -1 := by decide
  have l0 : (0 : Int32).toInt = 0 := by decide
  have l6 : (6 : Int32).toInt = 6 := by decide
  have l60 : (60 : Int32).toInt = 60 := by decide
  have hP : Keep [27, 28, 26, 6, 7, 4, 8] σ σ := Keep_r
  have hl : lv_has ls 5 [(0, .ref (L 0 0)), (1, .int a), (2, .int b), (3, .int z)] := hl
  refine lv_aload_n S.1 S.2.1 dX4_stop_0 rfl (lv_at hl 0 rfl) ?_
  refine lv_iload_n S.1 S.2.1 dX4_stop_1 rfl (lv_at hl 1 rfl) ?_
  refine cW_bpi (cW_V (n := 1) (As := [.int a]) (rest := []) (k := 0) (i := 0) S K hH (by decide) rfl rfl (k_X4_isCart l D B L A σ τ a hI) gX4_stop_X4_isCart rfl hdV_X4_isCart ⟨Nat.le_of_ble_eq_true rfl, Nat.le_of_ble_eq_true rfl⟩ rfl hl.1 (Nat.le_of_ble_eq_true rfl) dX4_stop_2) hS (fun v1 H locs q1 hH hS => ?_)
  refine lv_if_eq (tgt := 21) S.1 S.2.1 dX4_stop_5 (by decide) (fun c2 => ?_) (fun c2 => ?_)
  · have j2 := t_eq c2
    refine lv_iconst (v := (-1)) S.1 S.2.1 dX4_stop_21 (by decide) ?_
    refine cW_iret S hr hk hH hS ?_ dX4_stop_22
    exact ⟨(-1), rfl, hI, hP, rfl, by exact Or.inl ⟨by decide, rfl, fun h9 => by obtain ⟨g1, g2, g3, g4, g5, g6, g7, -⟩ := h9; omega⟩⟩
  · have j2 := t_neq c2
    refine lv_iload_n S.1 S.2.1 dX4_stop_8 rfl (lv_at hl 2 rfl) ?_
    refine cW_bpi (cW_S (n := 1) (As := [.int b]) (rest := []) S K hH (k_X4_isPlace l D B L A σ τ b ) gX4_stop_X4_isPlace rfl hdS_X4_isPlace ⟨Nat.le_of_ble_eq_true rfl, Nat.le_of_ble_eq_true rfl⟩ rfl hl.1 (Nat.le_of_ble_eq_true rfl) dX4_stop_9) hS (fun v3 H locs q3 hH hS => ?_)
    refine lv_if_eq (tgt := 21) S.1 S.2.1 dX4_stop_12 (by decide) (fun c4 => ?_) (fun c4 => ?_)
    · have j4 := t_eq c4
      refine lv_iconst (v := (-1)) S.1 S.2.1 dX4_stop_21 (by decide) ?_
      refine cW_iret S hr hk hH hS ?_ dX4_stop_22
      exact ⟨(-1), rfl, hI, hP, rfl, by exact Or.inl ⟨by decide, rfl, fun h9 => by obtain ⟨g1, g2, g3, g4, g5, g6, g7, -⟩ := h9; omega⟩⟩
    · have j4 := t_neq c4
      refine lv_iload_n S.1 S.2.1 dX4_stop_15 rfl (lv_at hl 3 rfl) ?_
      refine lv_bipush (v := 60) S.1 S.2.1 dX4_stop_16 (by decide) ?_
      refine lv_icmp_le (tgt := 23) S.1 S.2.1 dX4_stop_18 (by decide) (fun c5 => ?_) (fun c5 => ?_)
      · have j5 := t_le c5
        refine lv_aload_n S.1 S.2.1 dX4_stop_23 rfl (lv_at hl 0 rfl) ?_
        refine rC_0_0 S hnX4 K hH (mG wd_149) dX4_stop_24 ?_
        refine rC_2_0 S hnX3 K hH (mG wd_167) dX4_stop_27 ?_
        refine lv_iload_n S.1 S.2.1 dX4_stop_30 rfl (lv_at hl 1 rfl) ?_
        refine lC_3 S K hH (vin (by omega) (by omega)) dX4_stop_31 ?_
        refine lv_astore (lv' := [(4, .ref (L 14 a.toNatClampNeg)), (0, .ref (L 0 0)), (1, .int a), (2, .int b), (3, .int z)]) S.1 S.2.1 dX4_stop_32 hl (by decide) rfl (fun ls hl => ?_)
        have hk9 : a.toNatClampNeg < nK N := by have z3 := cl_eq (j := a) (by omega); have z4 := hp1.1.2.1; omega
        refine lv_aload S.1 S.2.1 dX4_stop_34 (lv_at hl 0 rfl) ?_
        refine rC_14_5 S hnX0 K hH (cl_lt (n := 12) (by omega) (by omega)) (mG wd_179) dX4_stop_36 ?_
        refine lv_topi (fun v6 e6 => ?_)
        have b6 : 0 ≤ v6.toInt ∧ v6.toInt ≤ 6 := by rw [e6]; exact hI.1 26 a.toNatClampNeg 0
        have f36 : v6.toInt = nS N a.toNatClampNeg := by rw [e6]; exact ((hp1.1.2.2 _ hk9).1).1
        refine lv_bipush (v := 6) S.1 S.2.1 dX4_stop_39 (by decide) ?_
        refine lv_icmp_ge (tgt := 61) S.1 S.2.1 dX4_stop_41 (by decide) (fun c7 => ?_) (fun c7 => ?_)
        · have j7 := t_le c7
          refine lv_iconst (v := (-1)) S.1 S.2.1 dX4_stop_61 (by decide) ?_
          refine cW_iret S hr hk hH hS ?_ dX4_stop_62
          exact ⟨(-1), rfl, hI, hP, rfl, by refine Or.inl ⟨by decide, rfl, fun h9 => ?_⟩; obtain ⟨g1, g2, g3, g4, g5, g6, g7, g8⟩ := h9; first | omega | exact g8 (Or.resolve_right q9999 (fun y => absurd y.1 (by omega))).2⟩
        · have j7 := t_nle c7
          refine lv_iload_n S.1 S.2.1 dX4_stop_44 rfl (lv_at hl 4 rfl) ?_
          refine lv_aload S.1 S.2.1 dX4_stop_45 (lv_at hl 0 rfl) ?_
          refine cW_bpi (cW_V (n := 0) (As := []) (rest := [.int z]) (k := 14) (i := a.toNatClampNeg) S K hH (cl_lt (n := 12) (by omega) (by omega)) rfl rfl (k_X0_lastOffset l D B L A σ τ a.toNatClampNeg (cl_lt (n := 12) (by omega) (by omega)) hI) gX4_stop_X0_lastOffset rfl hdV_X0_lastOffset ⟨Nat.le_of_ble_eq_true rfl, Nat.le_of_ble_eq_true rfl⟩ rfl hl.1 (Nat.le_of_ble_eq_true rfl) dX4_stop_47) hS (fun v8 H locs q8 hH hS => ?_)
          have hl9 : v8.toInt = nO N a.toNatClampNeg (nS N a.toNatClampNeg - 1) := by have z1 := (q8).2; have z4 := ((hp1.1.2.2 _ hk9).1).1; have z5 := (hp1.1.1.2 _ hk9).1; have z6 := cl_eq (j := σ 26 a.toNatClampNeg 0) (by omega); have z7 : (σ 26 a.toNatClampNeg 0).toNatClampNeg = nS N a.toNatClampNeg := (by omega); rw [z7] at z1; have z8 := (z1.resolve_left (fun y => absurd y.1 (by omega))).2; rw [z8]; exact ((hp1.1.2.2 _ hk9).2.1 _ (by omega)).2
          refine lv_icmp_le (tgt := 61) S.1 S.2.1 dX4_stop_50 (by decide) (fun c9 => ?_) (fun c9 => ?_)
          · have j9 := t_le c9
            refine lv_iconst (v := (-1)) S.1 S.2.1 dX4_stop_61 (by decide) ?_
            refine cW_iret S hr hk hH hS ?_ dX4_stop_62
            exact ⟨(-1), rfl, hI, hP, rfl, by refine Or.inl ⟨by decide, rfl, fun h9 => ?_⟩; obtain ⟨g1, g2, g3, g4, g5, g6, g7, g8⟩ := h9; first | omega | exact g8 (Or.resolve_right q9999 (fun y => absurd y.1 (by omega))).2⟩
          · have j9 := t_nle c9
            refine lv_aload S.1 S.2.1 dX4_stop_53 (lv_at hl 0 rfl) ?_
            refine cW_bpi (cW_V (n := 0) (As := []) (rest := []) (k := 14) (i := a.toNatClampNeg) S K hH (cl_lt (n := 12) (by omega) (by omega)) rfl rfl (k_X0_isLaden l D B L A σ τ a.toNatClampNeg (cl_lt (n := 12) (by omega) (by omega))) gX4_stop_X0_isLaden rfl hdV_X0_isLaden ⟨Nat.le_of_ble_eq_true rfl, Nat.le_of_ble_eq_true rfl⟩ rfl hl.1 (Nat.le_of_ble_eq_true rfl) dX4_stop_55) hS (fun v10 H locs q10 hH hS => ?_)
            refine lv_if_eq (tgt := 63) S.1 S.2.1 dX4_stop_58 (by decide) (fun c11 => ?_) (fun c11 => ?_)
            · have j11 := t_eq c11
              have ho9 : (0 ≤ a.toInt ∧ a.toInt < (σ 3 0 0).toInt ∧ 0 ≤ b.toInt ∧ b.toInt ≤ 11 ∧ z.toInt ≤ 60 ∧ nS N a.toNatClampNeg < 6 ∧ nO N a.toNatClampNeg (nS N a.toNatClampNeg - 1) < z.toInt ∧ ¬ ldn (σ 30 a.toNatClampNeg)) := ⟨by omega, by omega, by omega, by omega, by omega, by omega, by omega, (Or.resolve_left q10 (fun y => absurd y.1 (by omega))).2⟩
              refine lv_aload_n S.1 S.2.1 dX4_stop_63 rfl (lv_at hl 1 rfl) ?_
              refine rC_0_0 S hnX4 K hH (mG wd_149) dX4_stop_64 ?_
              refine lv_iload_n S.1 S.2.1 dX4_stop_67 rfl (lv_at hl 2 rfl) ?_
              refine lv_iload_n S.1 S.2.1 dX4_stop_68 rfl (lv_at hl 3 rfl) ?_
              refine lv_iload_n S.1 S.2.1 dX4_stop_69 rfl (lv_at hl 4 rfl) ?_
              refine cW_bv (cW_V (n := 3) (As := [.int a, .int b, .int z]) (rest := []) (k := 2) (i := 0) S K hH (by decide) rfl rfl (k_X3_addStop l D B L A σ τ a b z (N) (netS N a.toNatClampNeg b.toNatClampNeg z.toInt) (by omega) (by omega) (by omega) hI (ok_S hp1 hk9 ho9.2.2.2.2.2.1 (by omega) ho9.2.2.2.2.2.2.1 (by omega))) gX4_stop_X3_addStop rfl hdV_X3_addStop ⟨Nat.le_of_ble_eq_true rfl, Nat.le_of_ble_eq_true rfl⟩ rfl hl.1 (Nat.le_of_ble_eq_true rfl) dX4_stop_70) hS (fun σ12 τ12 H locs q12 hH hS => ?_)
              obtain ⟨hI, hP12, hτ12, q12⟩ := q12
              rw [hτ12] at hH
              have hP := Keep_t hP hP12 (by decide)
              refine lv_aload S.1 S.2.1 dX4_stop_73 (lv_at hl 0 rfl) ?_
              refine rC_14_5 S hnX0 K hH (cl_lt (n := 12) (by omega) (by omega)) (mG wd_179) dX4_stop_75 ?_
              refine lv_topi (fun v13 e13 => ?_)
              have b13 : 0 ≤ v13.toInt ∧ v13.toInt ≤ 6 := by rw [e13]; exact hI.1 26 a.toNatClampNeg 0
              have f75 : v13.toInt = nS N a.toNatClampNeg + 1 := by rw [e13]; have z4 := (((q12).1.2.2 a.toNatClampNeg hk9).1).1; rw [z4, show nS (netS N a.toNatClampNeg b.toNatClampNeg z.toInt) a.toNatClampNeg = nS N a.toNatClampNeg + 1 from if_pos rfl]; rfl
              refine cW_iret S hr hk hH hS ?_ dX4_stop_78
              exact ⟨v13, rfl, hI, hP, rfl, by exact Or.inr ⟨f75, ho9, net_S hp1 hk9 q12 rfl rfl, (q12).2.2.2.2.1⟩⟩
            · have j11 := t_neq c11
              refine lv_iconst (v := (-1)) S.1 S.2.1 dX4_stop_61 (by decide) ?_
              refine cW_iret S hr hk hH hS ?_ dX4_stop_62
              exact ⟨(-1), rfl, hI, hP, rfl, by refine Or.inl ⟨by decide, rfl, fun h9 => ?_⟩; obtain ⟨g1, g2, g3, g4, g5, g6, g7, g8⟩ := h9; first | omega | exact g8 (Or.resolve_right q10 (fun y => absurd y.1 (by omega))).2⟩
      · have j5 := t_nle c5
        refine lv_iconst (v := (-1)) S.1 S.2.1 dX4_stop_21 (by decide) ?_
        refine cW_iret S hr hk hH hS ?_ dX4_stop_22
        exact ⟨(-1), rfl, hI, hP, rfl, by exact Or.inl ⟨by decide, rfl, fun h9 => by obtain ⟨g1, g2, g3, g4, g5, g6, g7, -⟩ := h9; omega⟩⟩
set_option maxHeartbeats 4000000 in
set_option maxRecDepth 100000 in
theorem k_X4_change (l : Launch) (D : va_G) (B : Nat → ClassId) (L : QL) (A : Nat → Prop) (σ : QS) (τ : Int64) (a : Int32) (b : Int32) (r : Int32) (f : Int32) (N : Net) (hI : InvC σ) (hp1 : NetC σ N) : cW cntC gC l D B L A yX4_change wsX4_change 2 47 [.ref (L 0 0), .int a, .int b, .int r, .int f] σ τ (pI (fun x σ' τ' => InvC σ' ∧ Keep [21, 23, 24, 4, 8] σ σ' ∧ τ' = τ ∧ ((x.toInt = 0 ∧ σ' = σ ∧ ¬ (0 ≤ a.toInt ∧ a.toInt < (σ 3 0 0).toInt ∧ 0 ≤ b.toInt ∧ b.toInt ≤ 127 ∧ 0 ≤ r.toInt ∧ r.toInt ≤ 50 ∧ 0 ≤ f.toInt ∧ f.toInt ≤ 20 ∧ ¬ ldn (σ 30 a.toNatClampNeg))) ∨ (x.toInt = 1 ∧ (0 ≤ a.toInt ∧ a.toInt < (σ 3 0 0).toInt ∧ 0 ≤ b.toInt ∧ b.toInt ≤ 127 ∧ 0 ≤ r.toInt ∧ r.toInt ≤ 50 ∧ 0 ≤ f.toInt ∧ f.toInt ≤ 20 ∧ ¬ ldn (σ 30 a.toNatClampNeg)) ∧ NetC σ' (netW N a.toNatClampNeg b.toNatClampNeg) ∧ σ' 4 0 0 = σ 4 0 0 + 1 ∧ σ' 23 = rs σ 23 a.toNatClampNeg (fun _ => r) 23 ∧ σ' 24 = rs σ 24 a.toNatClampNeg (fun _ => f) 24)))) := by
  refine cW_of (cc := cX4_change) (nL := 6) (ret := (some .boolean)) (by decide) rfl (Nat.le_of_ble_eq_true rfl) ?_
  intro p e s m below meth c S hr hk K hH hS ls hl
  have hnX0 : ∀ w ∈ wsX00, w ∈ wsX4_change := fun w h => mG (tX0 w h)
  have hnX3 : ∀ w ∈ wsX30, w ∈ wsX4_change := fun w h => mG (tX3 w h)
  have hnX4 : ∀ w ∈ wsX40, w ∈ wsX4_change := fun w h => mG (tX4 w h)
  have l0 : (0 : Int32).toInt = 0 := by decide
  have l1 : (1 : Int32).toInt = 1 := by decide
  have hP : Keep [21, 23, 24, 4, 8] σ σ := Keep_r
  have hl : lv_has ls 6 [(0, .ref (L 0 0)), (1, .int a), (2, .int b), (3, .int r), (4, .int f)] := hl
  refine lv_aload_n S.1 S.2.1 dX4_change_0 rfl (lv_at hl 0 rfl) ?_
  refine lv_iload_n S.1 S.2.1 dX4_change_1 rfl (lv_at hl 1 rfl) ?_
  refine cW_bpi (cW_V (n := 1) (As := [.int a]) (rest := []) (k := 0) (i := 0) S K hH (by decide) rfl rfl (k_X4_isCart l D B L A σ τ a hI) gX4_change_X4_isCart rfl hdV_X4_isCart ⟨Nat.le_of_ble_eq_true rfl, Nat.le_of_ble_eq_true rfl⟩ rfl hl.1 (Nat.le_of_ble_eq_true rfl) dX4_change_2) hS (fun v1 H locs q1 hH hS => ?_)
  refine lv_if_eq (tgt := 18) S.1 S.2.1 dX4_change_5 (by decide) (fun c2 => ?_) (fun c2 => ?_)
  · have j2 := t_eq c2
    refine lv_iconst (v := 0) S.1 S.2.1 dX4_change_18 (by decide) ?_
    refine cW_zret S hr hk hH hS (by decide) ?_ dX4_change_19
    exact ⟨0, rfl, hI, hP, rfl, by exact Or.inl ⟨by decide, rfl, fun h9 => by obtain ⟨g1, g2, g3, g4, g5, g6, g7, g8, -⟩ := h9; omega⟩⟩
  · have j2 := t_neq c2
    refine lv_iload_n S.1 S.2.1 dX4_change_8 rfl (lv_at hl 2 rfl) ?_
    refine lv_iload_n S.1 S.2.1 dX4_change_9 rfl (lv_at hl 3 rfl) ?_
    refine lv_iload S.1 S.2.1 dX4_change_10 (lv_at hl 4 rfl) ?_
    refine cW_bpi (cW_S (n := 3) (As := [.int b, .int r, .int f]) (rest := []) S K hH (k_X4_areTerms l D B L A σ τ b r f ) gX4_change_X4_areTerms rfl hdS_X4_areTerms ⟨Nat.le_of_ble_eq_true rfl, Nat.le_of_ble_eq_true rfl⟩ rfl hl.1 (Nat.le_of_ble_eq_true rfl) dX4_change_12) hS (fun v3 H locs q3 hH hS => ?_)
    refine lv_if_ne (tgt := 20) S.1 S.2.1 dX4_change_15 (by decide) (fun c4 => ?_) (fun c4 => ?_)
    · have j4 := t_neq c4
      refine lv_aload_n S.1 S.2.1 dX4_change_20 rfl (lv_at hl 0 rfl) ?_
      refine rC_0_0 S hnX4 K hH (mG wd_149) dX4_change_21 ?_
      refine rC_2_0 S hnX3 K hH (mG wd_167) dX4_change_24 ?_
      refine lv_iload_n S.1 S.2.1 dX4_change_27 rfl (lv_at hl 1 rfl) ?_
      refine lC_3 S K hH (vin (by omega) (by omega)) dX4_change_28 ?_
      refine lv_astore (lv' := [(5, .ref (L 14 a.toNatClampNeg)), (0, .ref (L 0 0)), (1, .int a), (2, .int b), (3, .int r), (4, .int f)]) S.1 S.2.1 dX4_change_29 hl (by decide) rfl (fun ls hl => ?_)
      have hk9 : a.toNatClampNeg < nK N := by have z3 := cl_eq (j := a) (by omega); have z4 := hp1.1.2.1; omega
      refine lv_aload S.1 S.2.1 dX4_change_31 (lv_at hl 0 rfl) ?_
      refine cW_bpi (cW_V (n := 0) (As := []) (rest := []) (k := 14) (i := a.toNatClampNeg) S K hH (cl_lt (n := 12) (by omega) (by omega)) rfl rfl (k_X0_isLaden l D B L A σ τ a.toNatClampNeg (cl_lt (n := 12) (by omega) (by omega))) gX4_change_X0_isLaden rfl hdV_X0_isLaden ⟨Nat.le_of_ble_eq_true rfl, Nat.le_of_ble_eq_true rfl⟩ rfl hl.1 (Nat.le_of_ble_eq_true rfl) dX4_change_33) hS (fun v5 H locs q5 hH hS => ?_)
      refine lv_if_eq (tgt := 41) S.1 S.2.1 dX4_change_36 (by decide) (fun c6 => ?_) (fun c6 => ?_)
      · have j6 := t_eq c6
        refine lv_aload S.1 S.2.1 dX4_change_41 (lv_at hl 0 rfl) ?_
        refine lv_iload_n S.1 S.2.1 dX4_change_43 rfl (lv_at hl 3 rfl) ?_
        refine lv_iload_n S.1 S.2.1 dX4_change_44 rfl (lv_at hl 4 rfl) ?_
        refine lv_iload S.1 S.2.1 dX4_change_45 (lv_at hl 5 rfl) ?_
        refine cW_bv (cW_V (n := 3) (As := [.int b, .int r, .int f]) (rest := []) (k := 14) (i := a.toNatClampNeg) S K hH (cl_lt (n := 12) (by omega) (by omega)) rfl rfl (k_X0_setTerms l D B L A σ τ a.toNatClampNeg b r f (cl_lt (n := 12) (by omega) (by omega)) (by omega) hI) gX4_change_X0_setTerms rfl hdV_X0_setTerms ⟨Nat.le_of_ble_eq_true rfl, Nat.le_of_ble_eq_true rfl⟩ rfl hl.1 (Nat.le_of_ble_eq_true rfl) dX4_change_47) hS (fun σ7 τ7 H locs q7 hH hS => ?_)
        obtain ⟨hI, hP7, hτ7, q7⟩ := q7
        rw [hτ7] at hH
        have hP := Keep_t hP hP7 (by decide)
        have hR9 : RepC σ7 (netW N a.toNatClampNeg b.toNatClampNeg) := rep_W hp1.1 hk9 (by omega) (q7).1 (fun v' hv' => hP7 v' (by revert hv'; revert v'; decide))
        refine lv_aload_n S.1 S.2.1 dX4_change_50 rfl (lv_at hl 1 rfl) ?_
        refine rC_0_0 S hnX4 K hH (mG wd_149) dX4_change_51 ?_
        refine cW_bv (cW_V (n := 0) (As := []) (rest := []) (k := 2) (i := 0) S K hH (by decide) rfl rfl (k_X3_renew l D B L A σ7 τ  (netW N a.toNatClampNeg b.toNatClampNeg) hI (hR9)) gX4_change_X3_renew rfl hdV_X3_renew ⟨Nat.le_of_ble_eq_true rfl, Nat.le_of_ble_eq_true rfl⟩ rfl hl.1 (Nat.le_of_ble_eq_true rfl) dX4_change_54) hS (fun σ8 τ8 H locs q8 hH hS => ?_)
        obtain ⟨hI, hP8, hτ8, q8⟩ := q8
        rw [hτ8] at hH
        have hP := Keep_t hP hP8 (by decide)
        refine lv_iconst (v := 1) S.1 S.2.1 dX4_change_57 (by decide) ?_
        refine cW_zret S hr hk hH hS (by decide) ?_ dX4_change_58
        exact ⟨1, rfl, hI, hP, rfl, by exact Or.inr ⟨by decide, ⟨by omega, by omega, by omega, by omega, by omega, by omega, by omega, by omega, (Or.resolve_left q5 (fun y => absurd y.1 (by omega))).2⟩, net_R hp1 (RepC_k hR9 hP8 (by decide)) rfl rfl rfl rfl q8 (fun v' hv' => by rw [hP8 v' (by revert hv'; revert v'; decide), hP7 v' (by revert hv'; revert v'; decide)]), by rw [(q8).2.2, hP7 4 (by decide)], by rw [hP8 23 (by decide)]; exact (q7).2.1, by rw [hP8 24 (by decide)]; exact (q7).2.2⟩⟩
      · have j6 := t_neq c6
        refine lv_iconst (v := 0) S.1 S.2.1 dX4_change_39 (by decide) ?_
        refine cW_zret S hr hk hH hS (by decide) ?_ dX4_change_40
        exact ⟨0, rfl, hI, hP, rfl, by exact Or.inl ⟨by decide, rfl, fun h9 => h9.2.2.2.2.2.2.2.2 (Or.resolve_right q5 (fun y => absurd y.1 (by omega))).2⟩⟩
    · have j4 := t_eq c4
      refine lv_iconst (v := 0) S.1 S.2.1 dX4_change_18 (by decide) ?_
      refine cW_zret S hr hk hH hS (by decide) ?_ dX4_change_19
      exact ⟨0, rfl, hI, hP, rfl, by exact Or.inl ⟨by decide, rfl, fun h9 => by obtain ⟨g1, g2, g3, g4, g5, g6, g7, g8, -⟩ := h9; omega⟩⟩
set_option maxHeartbeats 4000000 in
set_option maxRecDepth 100000 in
theorem k_X4_snow (l : Launch) (D : va_G) (B : Nat → ClassId) (L : QL) (A : Nat → Prop) (σ : QS) (τ : Int64) (a : Int32) (b : Int32) (N : Net) (hI : InvC σ) (hp1 : NetC σ N) : cW cntC gC l D B L A yX4_snow wsX4_snow 2 47 [.ref (L 0 0), .int a, .int b] σ τ (pI (fun x σ' τ' => InvC σ' ∧ Keep [29, 2, 4, 8] σ σ' ∧ τ' = τ ∧ (((x.toInt = 0 ∧ σ' 29 = σ 29 ∧ σ' 2 = σ 2 ∧ ¬ (0 ≤ a.toInt ∧ a.toInt < (σ 3 0 0).toInt ∧ (σ 1 0 0).toInt / 24 + 1 ≤ b.toInt ∧ b.toInt ≤ 300 ∧ (σ 2 0 0).toInt < 100 ∧ snB (σ 29 a.toNatClampNeg) b = 0)) ∨ (x.toInt = 1 ∧ (0 ≤ a.toInt ∧ a.toInt < (σ 3 0 0).toInt ∧ (σ 1 0 0).toInt / 24 + 1 ≤ b.toInt ∧ b.toInt ≤ 300 ∧ (σ 2 0 0).toInt < 100 ∧ snB (σ 29 a.toNatClampNeg) b = 0) ∧ (σ' 2 0 0).toInt = (σ 2 0 0).toInt + 1 ∧ σ' 29 = rs σ 29 a.toNatClampNeg (snA (σ 29 a.toNatClampNeg) b) 29)) ∧ ((x.toInt = 0 ∧ σ' = σ) ∨ (x.toInt = 1 ∧ NetC σ' (netN N a.toNatClampNeg b.toNatClampNeg) ∧ σ' 4 0 0 = σ 4 0 0 + 1))))) := by
  refine cW_of (cc := cX4_snow) (nL := 4) (ret := (some .boolean)) (by decide) rfl (Nat.le_of_ble_eq_true rfl) ?_
  intro p e s m below meth c S hr hk K hH hS ls hl
  have hnX0 : ∀ w ∈ wsX00, w ∈ wsX4_snow := fun w h => mG (tX0 w h)
  have hnX3 : ∀ w ∈ wsX30, w ∈ wsX4_snow := fun w h => mG (tX3 w h)
  have hnX4 : ∀ w ∈ wsX40, w ∈ wsX4_snow := fun w h => mG (tX4 w h)
  have l0 : (0 : Int32).toInt = 0 := by decide
  have l1 : (1 : Int32).toInt = 1 := by decide
  have l24 : (24 : Int32).toInt = 24 := by decide
  have l100 : (100 : Int32).toInt = 100 := by decide
  have l300 : (300 : Int32).toInt = 300 := by decide
  have hP : Keep [29, 2, 4, 8] σ σ := Keep_r
  have hl : lv_has ls 4 [(0, .ref (L 0 0)), (1, .int a), (2, .int b)] := hl
  refine lv_aload_n S.1 S.2.1 dX4_snow_0 rfl (lv_at hl 0 rfl) ?_
  refine lv_iload_n S.1 S.2.1 dX4_snow_1 rfl (lv_at hl 1 rfl) ?_
  refine cW_bpi (cW_V (n := 1) (As := [.int a]) (rest := []) (k := 0) (i := 0) S K hH (by decide) rfl rfl (k_X4_isCart l D B L A σ τ a hI) gX4_snow_X4_isCart rfl hdV_X4_isCart ⟨Nat.le_of_ble_eq_true rfl, Nat.le_of_ble_eq_true rfl⟩ rfl hl.1 (Nat.le_of_ble_eq_true rfl) dX4_snow_2) hS (fun v1 H locs q1 hH hS => ?_)
  refine lv_if_eq (tgt := 36) S.1 S.2.1 dX4_snow_5 (by decide) (fun c2 => ?_) (fun c2 => ?_)
  · have j2 := t_eq c2
    refine lv_iconst (v := 0) S.1 S.2.1 dX4_snow_36 (by decide) ?_
    refine cW_zret S hr hk hH hS (by decide) ?_ dX4_snow_37
    exact ⟨0, rfl, hI, hP, rfl, by exact ⟨Or.inl ⟨by decide, rfl, rfl, fun h9 => by obtain ⟨g1, g2, g3, g4, g5, -⟩ := h9; omega⟩, Or.inl ⟨by decide, rfl⟩⟩⟩
  · have j2 := t_neq c2
    refine lv_iload_n S.1 S.2.1 dX4_snow_8 rfl (lv_at hl 2 rfl) ?_
    refine lv_aload_n S.1 S.2.1 dX4_snow_9 rfl (lv_at hl 0 rfl) ?_
    refine rC_0_4 S hnX4 K hH (mG wd_156) dX4_snow_10 ?_
    refine lv_topi (fun v3 e3 => ?_)
    have b3 : 0 ≤ v3.toInt ∧ v3.toInt ≤ 5000 := by rw [e3]; exact hI.1 1 0 0
    have fv3 : v3.toInt = (σ 1 0 0).toInt := by rw [e3]
    refine lv_bipush (v := 24) S.1 S.2.1 dX4_snow_13 (by decide) ?_
    refine lv_idiv S.1 S.2.1 dX4_snow_15 (by decide) ?_
    refine lv_topi (fun v4 e4 => ?_)
    have i4 : v4.toInt = v3.toInt / 24 := i_div e4 (by decide) (by decide) (by omega)
    refine lv_iconst (v := 1) S.1 S.2.1 dX4_snow_16 (by decide) ?_
    refine lv_iadd S.1 S.2.1 dX4_snow_17 ?_
    refine lv_topi (fun v5 e5 => ?_)
    have i5 : v5.toInt = v4.toInt + (1 : Int32).toInt := i_add e5 (by omega) (by omega)
    refine lv_sipush (v := 300) S.1 S.2.1 dX4_snow_18 (by decide) ?_
    refine cW_bpi (cW_S (n := 3) (As := [.int b, .int v5, .int 300]) (rest := []) S K hH (k_X4_isIn l D B L A σ τ b v5 300 ) gX4_snow_X4_isIn rfl hdS_X4_isIn ⟨Nat.le_of_ble_eq_true rfl, Nat.le_of_ble_eq_true rfl⟩ rfl hl.1 (Nat.le_of_ble_eq_true rfl) dX4_snow_21) hS (fun v6 H locs q6 hH hS => ?_)
    refine lv_if_eq (tgt := 36) S.1 S.2.1 dX4_snow_24 (by decide) (fun c7 => ?_) (fun c7 => ?_)
    · have j7 := t_eq c7
      refine lv_iconst (v := 0) S.1 S.2.1 dX4_snow_36 (by decide) ?_
      refine cW_zret S hr hk hH hS (by decide) ?_ dX4_snow_37
      exact ⟨0, rfl, hI, hP, rfl, by exact ⟨Or.inl ⟨by decide, rfl, rfl, fun h9 => by obtain ⟨g1, g2, g3, g4, g5, -⟩ := h9; omega⟩, Or.inl ⟨by decide, rfl⟩⟩⟩
    · have j7 := t_neq c7
      refine lv_aload_n S.1 S.2.1 dX4_snow_27 rfl (lv_at hl 0 rfl) ?_
      refine rC_0_5 S hnX4 K hH (mG wd_157) dX4_snow_28 ?_
      refine lv_topi (fun v8 e8 => ?_)
      have b8 : 0 ≤ v8.toInt ∧ v8.toInt ≤ 100 := by rw [e8]; exact hI.1 2 0 0
      have fv8 : v8.toInt = (σ 2 0 0).toInt := by rw [e8]
      refine lv_bipush (v := 100) S.1 S.2.1 dX4_snow_31 (by decide) ?_
      refine lv_icmp_lt (tgt := 38) S.1 S.2.1 dX4_snow_33 (by decide) (fun c9 => ?_) (fun c9 => ?_)
      · have j9 := t_lt c9
        refine lv_aload_n S.1 S.2.1 dX4_snow_38 rfl (lv_at hl 0 rfl) ?_
        refine rC_0_0 S hnX4 K hH (mG wd_149) dX4_snow_39 ?_
        refine rC_2_0 S hnX3 K hH (mG wd_167) dX4_snow_42 ?_
        refine lv_iload_n S.1 S.2.1 dX4_snow_45 rfl (lv_at hl 1 rfl) ?_
        refine lC_3 S K hH (vin (by omega) (by omega)) dX4_snow_46 ?_
        refine lv_astore_n (lv' := [(3, .ref (L 14 a.toNatClampNeg)), (0, .ref (L 0 0)), (1, .int a), (2, .int b)]) S.1 S.2.1 dX4_snow_47 rfl hl (by decide) rfl (fun ls hl => ?_)
        have hk9 : a.toNatClampNeg < nK N := by have z3 := cl_eq (j := a) (by omega); have z4 := hp1.1.2.1; omega
        refine lv_aload_n S.1 S.2.1 dX4_snow_48 rfl (lv_at hl 0 rfl) ?_
        refine lv_iload_n S.1 S.2.1 dX4_snow_49 rfl (lv_at hl 3 rfl) ?_
        refine cW_bpi (cW_V (n := 1) (As := [.int b]) (rest := []) (k := 14) (i := a.toNatClampNeg) S K hH (cl_lt (n := 12) (by omega) (by omega)) rfl rfl (k_X0_isSnowedIn l D B L A σ τ a.toNatClampNeg b (cl_lt (n := 12) (by omega) (by omega))) gX4_snow_X0_isSnowedIn rfl hdV_X0_isSnowedIn ⟨Nat.le_of_ble_eq_true rfl, Nat.le_of_ble_eq_true rfl⟩ rfl hl.1 (Nat.le_of_ble_eq_true rfl) dX4_snow_50) hS (fun v10 H locs q10 hH hS => ?_)
        refine lv_if_eq (tgt := 58) S.1 S.2.1 dX4_snow_53 (by decide) (fun c11 => ?_) (fun c11 => ?_)
        · have j11 := t_eq c11
          refine lv_aload_n S.1 S.2.1 dX4_snow_58 rfl (lv_at hl 0 rfl) ?_
          refine lv_iload_n S.1 S.2.1 dX4_snow_59 rfl (lv_at hl 3 rfl) ?_
          refine cW_bv (cW_V (n := 1) (As := [.int b]) (rest := []) (k := 14) (i := a.toNatClampNeg) S K hH (cl_lt (n := 12) (by omega) (by omega)) rfl rfl (k_X0_addSnow l D B L A σ τ a.toNatClampNeg b (cl_lt (n := 12) (by omega) (by omega)) (by omega) hI) gX4_snow_X0_addSnow rfl hdV_X0_addSnow ⟨Nat.le_of_ble_eq_true rfl, Nat.le_of_ble_eq_true rfl⟩ rfl hl.1 (Nat.le_of_ble_eq_true rfl) dX4_snow_60) hS (fun σ12 τ12 H locs q12 hH hS => ?_)
          obtain ⟨hI, hP12, hτ12, q12⟩ := q12
          rw [hτ12] at hH
          have hP := Keep_t hP hP12 (by decide)
          refine lv_aload_n S.1 S.2.1 dX4_snow_63 rfl (lv_at hl 1 rfl) ?_
          refine lv_dup S.1 S.2.1 dX4_snow_64 rfl ?_
          refine rC_0_5 S hnX4 K hH (mG wd_157) dX4_snow_65 ?_
          refine lv_topi (fun v13 e13 => ?_)
          have b13 : 0 ≤ v13.toInt ∧ v13.toInt ≤ 100 := by rw [e13]; exact hI.1 2 0 0
          have k13 : v13.toInt = v8.toInt := by rw [e13, hP12 2 (by decide)]; rw [← e8]
          refine lv_iconst (v := 1) S.1 S.2.1 dX4_snow_68 (by decide) ?_
          refine lv_iadd S.1 S.2.1 dX4_snow_69 ?_
          refine lv_topi (fun v14 e14 => ?_)
          have i14 : v14.toInt = v13.toInt + (1 : Int32).toInt := i_add e14 (by omega) (by omega)
          refine pC_0_5 S hnX4 K hH hS (mG wd_157) dX4_snow_70 (fun H locs hH hS => ?_)
          obtain ⟨σ15, eσ15⟩ : ∃ z_9 : QS, z_9 = rs σ12 2 0 (fun _ => v14) := ⟨_, rfl⟩
          rw [← eσ15] at hH
          have hI := InvC_f eσ15 hI (by decide) (show (0 : Int) ≤ v14.toInt ∧ v14.toInt ≤ 100 by omega)
          have hP := Keep_w eσ15 hP (by decide)
          have hR9 : RepC σ15 (netN N a.toNatClampNeg b.toNatClampNeg) := rep_N hp1.1 hk9 (by omega) (by rw [eσ15, rs_v (by decide)]; exact q12) (fun v' hv' => by rw [eσ15, rs_v (by intro z9; subst z9; revert hv'; decide), hP12 v' (by revert hv'; revert v'; decide)])
          refine lv_aload_n S.1 S.2.1 dX4_snow_73 rfl (lv_at hl 1 rfl) ?_
          refine rC_0_0 S hnX4 K hH (mG wd_149) dX4_snow_74 ?_
          refine cW_bv (cW_V (n := 0) (As := []) (rest := []) (k := 2) (i := 0) S K hH (by decide) rfl rfl (k_X3_renew l D B L A σ15 τ  (netN N a.toNatClampNeg b.toNatClampNeg) hI (hR9)) gX4_snow_X3_renew rfl hdV_X3_renew ⟨Nat.le_of_ble_eq_true rfl, Nat.le_of_ble_eq_true rfl⟩ rfl hl.1 (Nat.le_of_ble_eq_true rfl) dX4_snow_77) hS (fun σ16 τ16 H locs q16 hH hS => ?_)
          obtain ⟨hI, hP16, hτ16, q16⟩ := q16
          rw [hτ16] at hH
          have hP := Keep_t hP hP16 (by decide)
          refine lv_iconst (v := 1) S.1 S.2.1 dX4_snow_80 (by decide) ?_
          refine cW_zret S hr hk hH hS (by decide) ?_ dX4_snow_81
          exact ⟨1, rfl, hI, hP, rfl, by refine ⟨Or.inr ⟨by decide, ⟨by omega, by omega, by omega, by omega, by omega, ?_⟩, by rw [hP16 2 (by decide), eσ15, rs_self]; omega, by rw [hP16 29 (by decide), eσ15, rs_v (by decide)]; exact q12⟩, Or.inr ⟨by decide, net_R hp1 (RepC_k hR9 hP16 (by decide)) rfl rfl rfl rfl q16 (fun v' hv' => by rw [hP16 v' (by revert hv'; revert v'; decide), eσ15, rs_v (by intro z9; subst z9; revert hv'; decide), hP12 v' (by revert hv'; revert v'; decide)]), by rw [(q16).2.2, eσ15, rs_v (by decide), hP12 4 (by decide)]⟩⟩; rcases q10 with q | q; exact absurd q.1 (by omega); exact q.2 (by omega) (by omega)⟩
        · have j11 := t_neq c11
          refine lv_iconst (v := 0) S.1 S.2.1 dX4_snow_56 (by decide) ?_
          refine cW_zret S hr hk hH hS (by decide) ?_ dX4_snow_57
          exact ⟨0, rfl, hI, hP, rfl, by exact ⟨Or.inl ⟨by decide, rfl, rfl, fun h9 => by rcases q10 with q | q; exact q.2.2.2 h9.2.2.2.2.2; exact absurd q.1 (by omega)⟩, Or.inl ⟨by decide, rfl⟩⟩⟩
      · have j9 := t_nlt c9
        refine lv_iconst (v := 0) S.1 S.2.1 dX4_snow_36 (by decide) ?_
        refine cW_zret S hr hk hH hS (by decide) ?_ dX4_snow_37
        exact ⟨0, rfl, hI, hP, rfl, by exact ⟨Or.inl ⟨by decide, rfl, rfl, fun h9 => by obtain ⟨g1, g2, g3, g4, g5, -⟩ := h9; omega⟩, Or.inl ⟨by decide, rfl⟩⟩⟩
set_option maxHeartbeats 4000000 in
set_option maxRecDepth 100000 in
theorem k_X4_runs (l : Launch) (D : va_G) (B : Nat → ClassId) (L : QL) (A : Nat → Prop) (σ : QS) (τ : Int64) (a : Int32) (b : Int32) (N : Net) (hI : InvC σ) (hp1 : NetC σ N) : cW cntC gC l D B L A yX4_runs wsX4_runs 2 43 [.ref (L 0 0), .int a, .int b] σ τ (pI (fun x σ' τ' => σ' = σ ∧ τ' = τ ∧ ((x.toInt = -1 ∧ ¬ (0 ≤ a.toInt ∧ a.toInt < (σ 3 0 0).toInt ∧ 0 ≤ b.toInt ∧ b.toInt ≤ 300)) ∨ ((0 ≤ a.toInt ∧ a.toInt < (σ 3 0 0).toInt ∧ 0 ≤ b.toInt ∧ b.toInt ≤ 300) ∧ ((x.toInt = 1 ∧ runN N a.toNatClampNeg b.toNatClampNeg) ∨ (x.toInt = 0 ∧ ¬ runN N a.toNatClampNeg b.toNatClampNeg)))))) := by
  refine cW_of (cc := cX4_runs) (nL := 3) (ret := (some .int)) (by decide) rfl (Nat.le_of_ble_eq_true rfl) ?_
  intro p e s m below meth c S hr hk K hH hS ls hl
  have hnX0 : ∀ w ∈ wsX00, w ∈ wsX4_runs := fun w h => mG (tX0 w h)
  have hnX3 : ∀ w ∈ wsX30, w ∈ wsX4_runs := fun w h => mG (tX3 w h)
  have hnX4 : ∀ w ∈ wsX40, w ∈ wsX4_runs := fun w h => mG (tX4 w h)
  have lm1 : ((-1) : Int32).toInt = -1 := by decide
  have l0 : (0 : Int32).toInt = 0 := by decide
  have l1 : (1 : Int32).toInt = 1 := by decide
  have l300 : (300 : Int32).toInt = 300 := by decide
  have hl : lv_has ls 3 [(0, .ref (L 0 0)), (1, .int a), (2, .int b)] := hl
  refine lv_aload_n S.1 S.2.1 dX4_runs_0 rfl (lv_at hl 0 rfl) ?_
  refine lv_iload_n S.1 S.2.1 dX4_runs_1 rfl (lv_at hl 1 rfl) ?_
  refine cW_bpi (cW_V (n := 1) (As := [.int a]) (rest := []) (k := 0) (i := 0) S K hH (by decide) rfl rfl (k_X4_isCart l D B L A σ τ a hI) gX4_runs_X4_isCart rfl hdV_X4_isCart ⟨Nat.le_of_ble_eq_true rfl, Nat.le_of_ble_eq_true rfl⟩ rfl hl.1 (Nat.le_of_ble_eq_true rfl) dX4_runs_2) hS (fun v1 H locs q1 hH hS => ?_)
  refine lv_if_eq (tgt := 19) S.1 S.2.1 dX4_runs_5 (by decide) (fun c2 => ?_) (fun c2 => ?_)
  · have j2 := t_eq c2
    refine lv_iconst (v := (-1)) S.1 S.2.1 dX4_runs_19 (by decide) ?_
    refine cW_iret S hr hk hH hS ?_ dX4_runs_20
    exact ⟨(-1), rfl, rfl, rfl, by exact Or.inl ⟨by decide, by omega⟩⟩
  · have j2 := t_neq c2
    refine lv_iload_n S.1 S.2.1 dX4_runs_8 rfl (lv_at hl 2 rfl) ?_
    refine lv_iconst (v := 0) S.1 S.2.1 dX4_runs_9 (by decide) ?_
    refine lv_sipush (v := 300) S.1 S.2.1 dX4_runs_10 (by decide) ?_
    refine cW_bpi (cW_S (n := 3) (As := [.int b, .int 0, .int 300]) (rest := []) S K hH (k_X4_isIn l D B L A σ τ b 0 300 ) gX4_runs_X4_isIn rfl hdS_X4_isIn ⟨Nat.le_of_ble_eq_true rfl, Nat.le_of_ble_eq_true rfl⟩ rfl hl.1 (Nat.le_of_ble_eq_true rfl) dX4_runs_13) hS (fun v3 H locs q3 hH hS => ?_)
    refine lv_if_ne (tgt := 21) S.1 S.2.1 dX4_runs_16 (by decide) (fun c4 => ?_) (fun c4 => ?_)
    · have j4 := t_neq c4
      refine lv_aload_n S.1 S.2.1 dX4_runs_21 rfl (lv_at hl 0 rfl) ?_
      refine rC_0_0 S hnX4 K hH (mG wd_149) dX4_runs_22 ?_
      refine rC_2_0 S hnX3 K hH (mG wd_167) dX4_runs_25 ?_
      refine lv_iload_n S.1 S.2.1 dX4_runs_28 rfl (lv_at hl 1 rfl) ?_
      refine lC_3 S K hH (vin (by omega) (by omega)) dX4_runs_29 ?_
      refine lv_iload_n S.1 S.2.1 dX4_runs_30 rfl (lv_at hl 2 rfl) ?_
      refine cW_bpi (cW_V (n := 1) (As := [.int b]) (rest := []) (k := 14) (i := a.toNatClampNeg) S K hH (cl_lt (n := 12) (by omega) (by omega)) rfl rfl (k_X0_goesOn l D B L A σ τ a.toNatClampNeg b (cl_lt (n := 12) (by omega) (by omega))) gX4_runs_X0_goesOn rfl hdV_X0_goesOn ⟨Nat.le_of_ble_eq_true rfl, Nat.le_of_ble_eq_true rfl⟩ rfl hl.1 (Nat.le_of_ble_eq_true rfl) dX4_runs_31) hS (fun v5 H locs q5 hH hS => ?_)
      have hk9 : a.toNatClampNeg < nK N := by have z3 := cl_eq (j := a) (by omega); have z4 := hp1.1.2.1; omega
      have hg9 : gOn (σ 21 a.toNatClampNeg 0) (σ 29 a.toNatClampNeg) b ↔ runN N a.toNatClampNeg b.toNatClampNeg := (gOn_run hp1.1 hk9).trans ⟨fun y => by obtain ⟨d, y1, y2⟩ := y; have z3 := cl_eq (j := b) (by omega); rw [show b.toNatClampNeg = d by omega]; exact y2, fun y => ⟨_, cl_eq (by omega), y⟩⟩
      refine lv_if_eq (tgt := 41) S.1 S.2.1 dX4_runs_34 (by decide) (fun c6 => ?_) (fun c6 => ?_)
      · have j6 := t_eq c6
        refine lv_iconst (v := 0) S.1 S.2.1 dX4_runs_41 (by decide) ?_
        refine cW_iret S hr hk hH hS ?_ dX4_runs_42
        exact ⟨0, rfl, rfl, rfl, by refine Or.inr ⟨by omega, ?_⟩; rw [← hg9]; rcases q5 with q | q; (first | exact Or.inl ⟨by decide, q.2.2⟩ | exact absurd q.1 (by omega)); (first | exact Or.inr ⟨by decide, q.2⟩ | exact absurd q.1 (by omega))⟩
      · have j6 := t_neq c6
        refine lv_iconst (v := 1) S.1 S.2.1 dX4_runs_37 (by decide) ?_
        refine lv_goto (tgt := 42) S.1 S.2.1 dX4_runs_38 (by decide) ?_
        refine cW_iret S hr hk hH hS ?_ dX4_runs_42
        exact ⟨1, rfl, rfl, rfl, by refine Or.inr ⟨by omega, ?_⟩; rw [← hg9]; rcases q5 with q | q; (first | exact Or.inl ⟨by decide, q.2.2⟩ | exact absurd q.1 (by omega)); (first | exact Or.inr ⟨by decide, q.2⟩ | exact absurd q.1 (by omega))⟩
    · have j4 := t_eq c4
      refine lv_iconst (v := (-1)) S.1 S.2.1 dX4_runs_19 (by decide) ?_
      refine cW_iret S hr hk hH hS ?_ dX4_runs_20
      exact ⟨(-1), rfl, rfl, rfl, by exact Or.inl ⟨by decide, by omega⟩⟩
set_option maxHeartbeats 4000000 in
set_option maxRecDepth 100000 in
theorem k_X4_fares (l : Launch) (D : va_G) (B : Nat → ClassId) (L : QL) (A : Nat → Prop) (σ : QS) (τ : Int64) (a : Int32)  (hI : InvC σ) : cW cntC gC l D B L A yX4_fares wsX4_fares 2 43 [.ref (L 0 0), .int a] σ τ (pI (fun x σ' τ' => σ' = σ ∧ τ' = τ ∧ ((x.toInt = -1 ∧ ¬ (0 ≤ a.toInt ∧ a.toInt < (σ 3 0 0).toInt)) ∨ ((0 ≤ a.toInt ∧ a.toInt < (σ 3 0 0).toInt) ∧ x = eC σ a.toNatClampNeg)))) := by
  refine cW_of (cc := cX4_fares) (nL := 2) (ret := (some .int)) (by decide) rfl (Nat.le_of_ble_eq_true rfl) ?_
  intro p e s m below meth c S hr hk K hH hS ls hl
  have hnX0 : ∀ w ∈ wsX00, w ∈ wsX4_fares := fun w h => mG (tX0 w h)
  have hnX3 : ∀ w ∈ wsX30, w ∈ wsX4_fares := fun w h => mG (tX3 w h)
  have hnX4 : ∀ w ∈ wsX40, w ∈ wsX4_fares := fun w h => mG (tX4 w h)
  have lm1 : ((-1) : Int32).toInt = -1 := by decide
  have l0 : (0 : Int32).toInt = 0 := by decide
  have hl : lv_has ls 2 [(0, .ref (L 0 0)), (1, .int a)] := hl
  refine lv_aload_n S.1 S.2.1 dX4_fares_0 rfl (lv_at hl 0 rfl) ?_
  refine lv_iload_n S.1 S.2.1 dX4_fares_1 rfl (lv_at hl 1 rfl) ?_
  refine cW_bpi (cW_V (n := 1) (As := [.int a]) (rest := []) (k := 0) (i := 0) S K hH (by decide) rfl rfl (k_X4_isCart l D B L A σ τ a hI) gX4_fares_X4_isCart rfl hdV_X4_isCart ⟨Nat.le_of_ble_eq_true rfl, Nat.le_of_ble_eq_true rfl⟩ rfl hl.1 (Nat.le_of_ble_eq_true rfl) dX4_fares_2) hS (fun v1 H locs q1 hH hS => ?_)
  refine lv_if_eq (tgt := 23) S.1 S.2.1 dX4_fares_5 (by decide) (fun c2 => ?_) (fun c2 => ?_)
  · have j2 := t_eq c2
    refine lv_iconst (v := (-1)) S.1 S.2.1 dX4_fares_23 (by decide) ?_
    refine cW_iret S hr hk hH hS ?_ dX4_fares_24
    exact ⟨(-1), rfl, rfl, rfl, by first | exact Or.inl ⟨by decide, by omega⟩ | exact Or.inr ⟨by omega, f17⟩⟩
  · have j2 := t_neq c2
    refine lv_aload_n S.1 S.2.1 dX4_fares_8 rfl (lv_at hl 0 rfl) ?_
    refine rC_0_0 S hnX4 K hH (mG wd_149) dX4_fares_9 ?_
    refine rC_2_0 S hnX3 K hH (mG wd_167) dX4_fares_12 ?_
    refine lv_iload_n S.1 S.2.1 dX4_fares_15 rfl (lv_at hl 1 rfl) ?_
    refine lC_3 S K hH (vin (by omega) (by omega)) dX4_fares_16 ?_
    refine rC_14_4 S hnX0 K hH (cl_lt (n := 12) (by omega) (by omega)) (mG wd_197) dX4_fares_17 ?_
    refine lv_topi (fun v3 e3 => ?_)
    have f17 : v3 = eC σ a.toNatClampNeg := by rw [e3]; unfold eC; rw [if_pos (cl_lt (n := 12) (by omega) (by omega))]
    refine lv_goto (tgt := 24) S.1 S.2.1 dX4_fares_20 (by decide) ?_
    refine cW_iret S hr hk hH hS ?_ dX4_fares_24
    exact ⟨v3, rfl, rfl, rfl, by first | exact Or.inl ⟨by decide, by omega⟩ | exact Or.inr ⟨by omega, f17⟩⟩
set_option maxHeartbeats 4000000 in
set_option maxRecDepth 100000 in
theorem k_X4_room (l : Launch) (D : va_G) (B : Nat → ClassId) (L : QL) (A : Nat → Prop) (σ : QS) (τ : Int64) (a : Int32) (b : Int32)  (hI : InvC σ) : cW cntC gC l D B L A yX4_room wsX4_room 2 43 [.ref (L 0 0), .int a, .int b] σ τ (pI (fun x σ' τ' => σ' = σ ∧ τ' = τ ∧ True)) := by
  refine cW_of (cc := cX4_room) (nL := 3) (ret := (some .int)) (by decide) rfl (Nat.le_of_ble_eq_true rfl) ?_
  intro p e s m below meth c S hr hk K hH hS ls hl
  have hnX0 : ∀ w ∈ wsX00, w ∈ wsX4_room := fun w h => mG (tX0 w h)
  have hnX3 : ∀ w ∈ wsX30, w ∈ wsX4_room := fun w h => mG (tX3 w h)
  have hnX4 : ∀ w ∈ wsX40, w ∈ wsX4_room := fun w h => mG (tX4 w h)
  have lm1 : ((-1) : Int32).toInt = -1 := by decide
  have l0 : (0 : Int32).toInt = 0 := by decide
  have hl : lv_has ls 3 [(0, .ref (L 0 0)), (1, .int a), (2, .int b)] := hl
  refine lv_aload_n S.1 S.2.1 dX4_room_0 rfl (lv_at hl 0 rfl) ?_
  refine lv_iload_n S.1 S.2.1 dX4_room_1 rfl (lv_at hl 1 rfl) ?_
  refine cW_bpi (cW_V (n := 1) (As := [.int a]) (rest := []) (k := 0) (i := 0) S K hH (by decide) rfl rfl (k_X4_isCart l D B L A σ τ a hI) gX4_room_X4_isCart rfl hdV_X4_isCart ⟨Nat.le_of_ble_eq_true rfl, Nat.le_of_ble_eq_true rfl⟩ rfl hl.1 (Nat.le_of_ble_eq_true rfl) dX4_room_2) hS (fun v1 H locs q1 hH hS => ?_)
  refine lv_if_eq (tgt := 24) S.1 S.2.1 dX4_room_5 (by decide) (fun c2 => ?_) (fun c2 => ?_)
  · have j2 := t_eq c2
    refine lv_iconst (v := (-1)) S.1 S.2.1 dX4_room_24 (by decide) ?_
    refine cW_iret S hr hk hH hS ?_ dX4_room_25
    exact ⟨(-1), rfl, rfl, rfl, by trivial⟩
  · have j2 := t_neq c2
    refine lv_aload_n S.1 S.2.1 dX4_room_8 rfl (lv_at hl 0 rfl) ?_
    refine rC_0_0 S hnX4 K hH (mG wd_149) dX4_room_9 ?_
    refine rC_2_0 S hnX3 K hH (mG wd_167) dX4_room_12 ?_
    refine lv_iload_n S.1 S.2.1 dX4_room_15 rfl (lv_at hl 1 rfl) ?_
    refine lC_3 S K hH (vin (by omega) (by omega)) dX4_room_16 ?_
    refine lv_iload_n S.1 S.2.1 dX4_room_17 rfl (lv_at hl 2 rfl) ?_
    refine cW_bpi (cW_V (n := 1) (As := [.int b]) (rest := []) (k := 14) (i := a.toNatClampNeg) S K hH (cl_lt (n := 12) (by omega) (by omega)) rfl rfl (k_X0_goesOn l D B L A σ τ a.toNatClampNeg b (cl_lt (n := 12) (by omega) (by omega))) gX4_room_X0_goesOn rfl hdV_X0_goesOn ⟨Nat.le_of_ble_eq_true rfl, Nat.le_of_ble_eq_true rfl⟩ rfl hl.1 (Nat.le_of_ble_eq_true rfl) dX4_room_18) hS (fun v3 H locs q3 hH hS => ?_)
    refine lv_if_ne (tgt := 26) S.1 S.2.1 dX4_room_21 (by decide) (fun c4 => ?_) (fun c4 => ?_)
    · have j4 := t_neq c4
      refine lv_aload_n S.1 S.2.1 dX4_room_26 rfl (lv_at hl 0 rfl) ?_
      refine rC_0_0 S hnX4 K hH (mG wd_149) dX4_room_27 ?_
      refine rC_2_0 S hnX3 K hH (mG wd_167) dX4_room_30 ?_
      refine lv_iload_n S.1 S.2.1 dX4_room_33 rfl (lv_at hl 1 rfl) ?_
      refine lC_3 S K hH (vin (by omega) (by omega)) dX4_room_34 ?_
      refine lv_iload_n S.1 S.2.1 dX4_room_35 rfl (lv_at hl 2 rfl) ?_
      refine cW_bpi (cW_V (n := 1) (As := [.int b]) (rest := []) (k := 14) (i := a.toNatClampNeg) S K hH (cl_lt (n := 12) (by omega) (by omega)) rfl rfl (k_X0_roomLeft l D B L A σ τ a.toNatClampNeg b (cl_lt (n := 12) (by omega) (by omega)) (by omega)) gX4_room_X0_roomLeft rfl hdV_X0_roomLeft ⟨Nat.le_of_ble_eq_true rfl, Nat.le_of_ble_eq_true rfl⟩ rfl hl.1 (Nat.le_of_ble_eq_true rfl) dX4_room_36) hS (fun v5 H locs q5 hH hS => ?_)
      refine cW_iret S hr hk hH hS ?_ dX4_room_39
      exact ⟨v5, rfl, rfl, rfl, by trivial⟩
    · have j4 := t_eq c4
      refine lv_iconst (v := (-1)) S.1 S.2.1 dX4_room_24 (by decide) ?_
      refine cW_iret S hr hk hH hS ?_ dX4_room_25
      exact ⟨(-1), rfl, rfl, rfl, by trivial⟩
set_option maxHeartbeats 4000000 in
set_option maxRecDepth 100000 in
theorem k_X4_soon (l : Launch) (D : va_G) (B : Nat → ClassId) (L : QL) (A : Nat → Prop) (σ : QS) (τ : Int64) (a : Int32) (b : Int32) (z : Int32) (N : Net) (hI : InvC σ) (hp1 : NetC σ N) : cW cntC gC l D B L A yX4_soon wsX4_soon 3 74 [.ref (L 0 0), .int a, .int b, .int z] σ τ (pI (fun x σ' τ' => InvC σ' ∧ Keep [5, 9] σ σ' ∧ τ' = τ ∧ ((x.toInt = -1 ∧ ¬ (0 ≤ a.toInt ∧ a.toInt ≤ 11 ∧ 0 ≤ b.toInt ∧ b.toInt ≤ 6000 ∧ 0 ≤ z.toInt ∧ z.toInt ≤ 11)) ∨ ((0 ≤ a.toInt ∧ a.toInt ≤ 11 ∧ 0 ≤ b.toInt ∧ b.toInt ≤ 6000 ∧ 0 ≤ z.toInt ∧ z.toInt ≤ 11) ∧ sooQ N a.toNatClampNeg b.toInt (b.toInt + 336) z.toNatClampNeg x)))) := by
  refine cW_of (cc := cX4_soon) (nL := 4) (ret := (some .int)) (by decide) rfl (Nat.le_of_ble_eq_true rfl) ?_
  intro p e s m below meth c S hr hk K hH hS ls hl
  have hnX0 : ∀ w ∈ wsX00, w ∈ wsX4_soon := fun w h => mG (tX0 w h)
  have hnX3 : ∀ w ∈ wsX30, w ∈ wsX4_soon := fun w h => mG (tX3 w h)
  have hnX4 : ∀ w ∈ wsX40, w ∈ wsX4_soon := fun w h => mG (tX4 w h)
  have lm1 : ((-1) : Int32).toInt = -1 := by decide
  have l0 : (0 : Int32).toInt = 0 := by decide
  have l1 : (1 : Int32).toInt = 1 := by decide
  have l336 : (336 : Int32).toInt = 336 := by decide
  have l6000 : (6000 : Int32).toInt = 6000 := by decide
  have hP : Keep [5, 9] σ σ := Keep_r
  have hl : lv_has ls 4 [(0, .ref (L 0 0)), (1, .int a), (2, .int b), (3, .int z)] := hl
  refine lv_iload_n S.1 S.2.1 dX4_soon_0 rfl (lv_at hl 1 rfl) ?_
  refine cW_bpi (cW_S (n := 1) (As := [.int a]) (rest := []) S K hH (k_X4_isPlace l D B L A σ τ a ) gX4_soon_X4_isPlace rfl hdS_X4_isPlace ⟨Nat.le_of_ble_eq_true rfl, Nat.le_of_ble_eq_true rfl⟩ rfl hl.1 (Nat.le_of_ble_eq_true rfl) dX4_soon_1) hS (fun v1 H locs q1 hH hS => ?_)
  refine lv_if_eq (tgt := 25) S.1 S.2.1 dX4_soon_4 (by decide) (fun c2 => ?_) (fun c2 => ?_)
  · have j2 := t_eq c2
    refine lv_iconst (v := (-1)) S.1 S.2.1 dX4_soon_25 (by decide) ?_
    refine cW_iret S hr hk hH hS ?_ dX4_soon_26
    exact ⟨(-1), rfl, hI, hP, rfl, by exact Or.inl ⟨by decide, by omega⟩⟩
  · have j2 := t_neq c2
    refine lv_iload_n S.1 S.2.1 dX4_soon_7 rfl (lv_at hl 3 rfl) ?_
    refine cW_bpi (cW_S (n := 1) (As := [.int z]) (rest := []) S K hH (k_X4_isPlace l D B L A σ τ z ) gX4_soon_X4_isPlace rfl hdS_X4_isPlace ⟨Nat.le_of_ble_eq_true rfl, Nat.le_of_ble_eq_true rfl⟩ rfl hl.1 (Nat.le_of_ble_eq_true rfl) dX4_soon_8) hS (fun v3 H locs q3 hH hS => ?_)
    refine lv_if_eq (tgt := 25) S.1 S.2.1 dX4_soon_11 (by decide) (fun c4 => ?_) (fun c4 => ?_)
    · have j4 := t_eq c4
      refine lv_iconst (v := (-1)) S.1 S.2.1 dX4_soon_25 (by decide) ?_
      refine cW_iret S hr hk hH hS ?_ dX4_soon_26
      exact ⟨(-1), rfl, hI, hP, rfl, by exact Or.inl ⟨by decide, by omega⟩⟩
    · have j4 := t_neq c4
      refine lv_iload_n S.1 S.2.1 dX4_soon_14 rfl (lv_at hl 2 rfl) ?_
      refine lv_iconst (v := 0) S.1 S.2.1 dX4_soon_15 (by decide) ?_
      refine lv_sipush (v := 6000) S.1 S.2.1 dX4_soon_16 (by decide) ?_
      refine cW_bpi (cW_S (n := 3) (As := [.int b, .int 0, .int 6000]) (rest := []) S K hH (k_X4_isIn l D B L A σ τ b 0 6000 ) gX4_soon_X4_isIn rfl hdS_X4_isIn ⟨Nat.le_of_ble_eq_true rfl, Nat.le_of_ble_eq_true rfl⟩ rfl hl.1 (Nat.le_of_ble_eq_true rfl) dX4_soon_19) hS (fun v5 H locs q5 hH hS => ?_)
      refine lv_if_ne (tgt := 27) S.1 S.2.1 dX4_soon_22 (by decide) (fun c6 => ?_) (fun c6 => ?_)
      · have j6 := t_neq c6
        refine lv_aload_n S.1 S.2.1 dX4_soon_27 rfl (lv_at hl 0 rfl) ?_
        refine rC_0_0 S hnX4 K hH (mG wd_149) dX4_soon_28 ?_
        refine lv_iload_n S.1 S.2.1 dX4_soon_31 rfl (lv_at hl 1 rfl) ?_
        refine lv_iload_n S.1 S.2.1 dX4_soon_32 rfl (lv_at hl 2 rfl) ?_
        refine lv_iload_n S.1 S.2.1 dX4_soon_33 rfl (lv_at hl 2 rfl) ?_
        refine lv_sipush (v := 336) S.1 S.2.1 dX4_soon_34 (by decide) ?_
        refine lv_iadd S.1 S.2.1 dX4_soon_37 ?_
        refine lv_topi (fun v7 e7 => ?_)
        have i7 : v7.toInt = b.toInt + (336 : Int32).toInt := i_add e7 (by omega) (by omega)
        refine lv_iconst (v := 1) S.1 S.2.1 dX4_soon_38 (by decide) ?_
        refine lv_iload_n S.1 S.2.1 dX4_soon_39 rfl (lv_at hl 3 rfl) ?_
        refine lv_ishl S.1 S.2.1 dX4_soon_40 ?_
        refine lv_topi (fun v8 e8 => ?_)
        refine cW_bi (cW_V (n := 4) (As := [.int a, .int b, .int v7, .int v8]) (rest := []) (k := 2) (i := 0) S K hH (by decide) rfl rfl (k_X3_soonest l D B L A σ τ a b v7 v8 (N) (by omega) (by omega) (by omega) hI (hp1.1) (hp1.2.1) (hp1.2.2.1)) gX4_soon_X3_soonest rfl hdV_X3_soonest ⟨Nat.le_of_ble_eq_true rfl, Nat.le_of_ble_eq_true rfl⟩ rfl hl.1 (Nat.le_of_ble_eq_true rfl) dX4_soon_41) hS (fun v9 σ9 τ9 H locs q9 hH hS => ?_)
        obtain ⟨hI, hP9, hτ9, q9⟩ := q9
        rw [hτ9] at hH
        have hP := Keep_t hP hP9 (by decide)
        refine cW_iret S hr hk hH hS ?_ dX4_soon_44
        exact ⟨v9, rfl, hI, hP, rfl, by refine Or.inr ⟨by omega, ?_⟩; have z1 := (q9).2.1; rw [show v7.toInt = b.toInt + 336 by omega, show v8 = pBI z by rw [e8]; rfl] at z1; exact so_one hp1.1.1 (by omega) (by omega) z1⟩
      · have j6 := t_eq c6
        refine lv_iconst (v := (-1)) S.1 S.2.1 dX4_soon_25 (by decide) ?_
        refine cW_iret S hr hk hH hS ?_ dX4_soon_26
        exact ⟨(-1), rfl, hI, hP, rfl, by exact Or.inl ⟨by decide, by omega⟩⟩
set_option maxHeartbeats 4000000 in
set_option maxRecDepth 100000 in
theorem k_X4_reach (l : Launch) (D : va_G) (B : Nat → ClassId) (L : QL) (A : Nat → Prop) (σ : QS) (τ : Int64) (a : Int32) (b : Int32) (z : Int32) (N : Net) (hI : InvC σ) (hp1 : NetC σ N) : cW cntC gC l D B L A yX4_reach wsX4_reach 3 74 [.ref (L 0 0), .int a, .int b, .int z] σ τ (pI (fun x σ' τ' => InvC σ' ∧ Keep [5, 9] σ σ' ∧ τ' = τ ∧ True)) := by
  refine cW_of (cc := cX4_reach) (nL := 4) (ret := (some .int)) (by decide) rfl (Nat.le_of_ble_eq_true rfl) ?_
  intro p e s m below meth c S hr hk K hH hS ls hl
  have hnX0 : ∀ w ∈ wsX00, w ∈ wsX4_reach := fun w h => mG (tX0 w h)
  have hnX3 : ∀ w ∈ wsX30, w ∈ wsX4_reach := fun w h => mG (tX3 w h)
  have hnX4 : ∀ w ∈ wsX40, w ∈ wsX4_reach := fun w h => mG (tX4 w h)
  have lm1 : ((-1) : Int32).toInt = -1 := by decide
  have l0 : (0 : Int32).toInt = 0 := by decide
  have l336 : (336 : Int32).toInt = 336 := by decide
  have l6000 : (6000 : Int32).toInt = 6000 := by decide
  have hP : Keep [5, 9] σ σ := Keep_r
  have hl : lv_has ls 4 [(0, .ref (L 0 0)), (1, .int a), (2, .int b), (3, .int z)] := hl
  refine lv_iload_n S.1 S.2.1 dX4_reach_0 rfl (lv_at hl 1 rfl) ?_
  refine cW_bpi (cW_S (n := 1) (As := [.int a]) (rest := []) S K hH (k_X4_isPlace l D B L A σ τ a ) gX4_reach_X4_isPlace rfl hdS_X4_isPlace ⟨Nat.le_of_ble_eq_true rfl, Nat.le_of_ble_eq_true rfl⟩ rfl hl.1 (Nat.le_of_ble_eq_true rfl) dX4_reach_1) hS (fun v1 H locs q1 hH hS => ?_)
  refine lv_if_eq (tgt := 29) S.1 S.2.1 dX4_reach_4 (by decide) (fun c2 => ?_) (fun c2 => ?_)
  · have j2 := t_eq c2
    refine lv_iconst (v := (-1)) S.1 S.2.1 dX4_reach_29 (by decide) ?_
    refine cW_iret S hr hk hH hS ?_ dX4_reach_30
    exact ⟨(-1), rfl, hI, hP, rfl, by trivial⟩
  · have j2 := t_neq c2
    refine lv_iload_n S.1 S.2.1 dX4_reach_7 rfl (lv_at hl 2 rfl) ?_
    refine lv_iconst (v := 0) S.1 S.2.1 dX4_reach_8 (by decide) ?_
    refine lv_sipush (v := 6000) S.1 S.2.1 dX4_reach_9 (by decide) ?_
    refine cW_bpi (cW_S (n := 3) (As := [.int b, .int 0, .int 6000]) (rest := []) S K hH (k_X4_isIn l D B L A σ τ b 0 6000 ) gX4_reach_X4_isIn rfl hdS_X4_isIn ⟨Nat.le_of_ble_eq_true rfl, Nat.le_of_ble_eq_true rfl⟩ rfl hl.1 (Nat.le_of_ble_eq_true rfl) dX4_reach_12) hS (fun v3 H locs q3 hH hS => ?_)
    refine lv_if_eq (tgt := 29) S.1 S.2.1 dX4_reach_15 (by decide) (fun c4 => ?_) (fun c4 => ?_)
    · have j4 := t_eq c4
      refine lv_iconst (v := (-1)) S.1 S.2.1 dX4_reach_29 (by decide) ?_
      refine cW_iret S hr hk hH hS ?_ dX4_reach_30
      exact ⟨(-1), rfl, hI, hP, rfl, by trivial⟩
    · have j4 := t_neq c4
      refine lv_iload_n S.1 S.2.1 dX4_reach_18 rfl (lv_at hl 3 rfl) ?_
      refine lv_iconst (v := 0) S.1 S.2.1 dX4_reach_19 (by decide) ?_
      refine lv_sipush (v := 6000) S.1 S.2.1 dX4_reach_20 (by decide) ?_
      refine cW_bpi (cW_S (n := 3) (As := [.int z, .int 0, .int 6000]) (rest := []) S K hH (k_X4_isIn l D B L A σ τ z 0 6000 ) gX4_reach_X4_isIn rfl hdS_X4_isIn ⟨Nat.le_of_ble_eq_true rfl, Nat.le_of_ble_eq_true rfl⟩ rfl hl.1 (Nat.le_of_ble_eq_true rfl) dX4_reach_23) hS (fun v5 H locs q5 hH hS => ?_)
      refine lv_if_ne (tgt := 31) S.1 S.2.1 dX4_reach_26 (by decide) (fun c6 => ?_) (fun c6 => ?_)
      · have j6 := t_neq c6
        refine lv_iload_n S.1 S.2.1 dX4_reach_31 rfl (lv_at hl 3 rfl) ?_
        refine lv_iload_n S.1 S.2.1 dX4_reach_32 rfl (lv_at hl 2 rfl) ?_
        refine lv_icmp_lt (tgt := 45) S.1 S.2.1 dX4_reach_33 (by decide) (fun c7 => ?_) (fun c7 => ?_)
        · have j7 := t_lt c7
          refine lv_iconst (v := (-1)) S.1 S.2.1 dX4_reach_45 (by decide) ?_
          refine cW_iret S hr hk hH hS ?_ dX4_reach_46
          exact ⟨(-1), rfl, hI, hP, rfl, by trivial⟩
        · have j7 := t_nlt c7
          refine lv_iload_n S.1 S.2.1 dX4_reach_36 rfl (lv_at hl 3 rfl) ?_
          refine lv_iload_n S.1 S.2.1 dX4_reach_37 rfl (lv_at hl 2 rfl) ?_
          refine lv_isub S.1 S.2.1 dX4_reach_38 ?_
          refine lv_topi (fun v8 e8 => ?_)
          have i8 : v8.toInt = z.toInt - b.toInt := i_sub e8 (by omega) (by omega)
          refine lv_sipush (v := 336) S.1 S.2.1 dX4_reach_39 (by decide) ?_
          refine lv_icmp_le (tgt := 47) S.1 S.2.1 dX4_reach_42 (by decide) (fun c9 => ?_) (fun c9 => ?_)
          · have j9 := t_le c9
            refine lv_aload_n S.1 S.2.1 dX4_reach_47 rfl (lv_at hl 0 rfl) ?_
            refine rC_0_0 S hnX4 K hH (mG wd_149) dX4_reach_48 ?_
            refine lv_iload_n S.1 S.2.1 dX4_reach_51 rfl (lv_at hl 1 rfl) ?_
            refine lv_iload_n S.1 S.2.1 dX4_reach_52 rfl (lv_at hl 2 rfl) ?_
            refine lv_iload_n S.1 S.2.1 dX4_reach_53 rfl (lv_at hl 3 rfl) ?_
            refine lv_aload_n S.1 S.2.1 dX4_reach_54 rfl (lv_at hl 0 rfl) ?_
            refine rC_0_0 S hnX4 K hH (mG wd_149) dX4_reach_55 ?_
            refine rC_2_5 S hnX3 K hH (mG wd_204) dX4_reach_58 ?_
            refine lv_iload_n S.1 S.2.1 dX4_reach_61 rfl (lv_at hl 1 rfl) ?_
            refine lC_6 S K hH (vin (by omega) (by omega)) dX4_reach_62 ?_
            refine lv_topi (fun v10 e10 => ?_)
            refine cW_bi (cW_V (n := 4) (As := [.int a, .int b, .int z, .int v10]) (rest := []) (k := 2) (i := 0) S K hH (by decide) rfl rfl (k_X3_soonest l D B L A σ τ a b z v10 (N) (by omega) (by omega) (by omega) hI (hp1.1) (hp1.2.1) (hp1.2.2.1)) gX4_reach_X3_soonest rfl hdV_X3_soonest ⟨Nat.le_of_ble_eq_true rfl, Nat.le_of_ble_eq_true rfl⟩ rfl hl.1 (Nat.le_of_ble_eq_true rfl) dX4_reach_63) hS (fun v11 σ11 τ11 H locs q11 hH hS => ?_)
            obtain ⟨hI, hP11, hτ11, q11⟩ := q11
            rw [hτ11] at hH
            have hP := Keep_t hP hP11 (by decide)
            refine lv_pop S.1 S.2.1 dX4_reach_66 rfl ?_
            refine lv_aload_n S.1 S.2.1 dX4_reach_67 rfl (lv_at hl 0 rfl) ?_
            refine rC_0_0 S hnX4 K hH (mG wd_149) dX4_reach_68 ?_
            refine rC_2_8 S hnX3 K hH (mG wd_205) dX4_reach_71 ?_
            refine lv_topi (fun v12 e12 => ?_)
            refine cW_iret S hr hk hH hS ?_ dX4_reach_74
            exact ⟨v12, rfl, hI, hP, rfl, by trivial⟩
          · have j9 := t_nle c9
            refine lv_iconst (v := (-1)) S.1 S.2.1 dX4_reach_45 (by decide) ?_
            refine cW_iret S hr hk hH hS ?_ dX4_reach_46
            exact ⟨(-1), rfl, hI, hP, rfl, by trivial⟩
      · have j6 := t_eq c6
        refine lv_iconst (v := (-1)) S.1 S.2.1 dX4_reach_29 (by decide) ?_
        refine cW_iret S hr hk hH hS ?_ dX4_reach_30
        exact ⟨(-1), rfl, hI, hP, rfl, by trivial⟩
set_option maxHeartbeats 4000000 in
set_option maxRecDepth 100000 in
theorem k_X4_cut (l : Launch) (D : va_G) (B : Nat → ClassId) (L : QL) (A : Nat → Prop) (σ : QS) (τ : Int64) (a : Int32) (b : Int32) (z : Int32) (N : Net) (hI : InvC σ) (hp1 : NetC σ N) : cW cntC gC l D B L A yX4_cut wsX4_cut 4 102 [.ref (L 0 0), .int a, .int b, .int z] σ τ (pI (fun x σ' τ' => InvC σ' ∧ Keep [9, 10] σ σ' ∧ τ' = τ ∧ ((x.toInt = -1 ∧ ¬ (0 ≤ a.toInt ∧ a.toInt < (σ 3 0 0).toInt ∧ 0 ≤ b.toInt ∧ b.toInt ≤ 6000 ∧ 0 ≤ z.toInt ∧ z.toInt ≤ 11)) ∨ ((0 ≤ a.toInt ∧ a.toInt < (σ 3 0 0).toInt ∧ 0 ≤ b.toInt ∧ b.toInt ≤ 6000 ∧ 0 ≤ z.toInt ∧ z.toInt ≤ 11) ∧ cuP N a.toInt b.toInt z.toNatClampNeg x)))) := by
  refine cW_of (cc := cX4_cut) (nL := 6) (ret := (some .int)) (by decide) rfl (Nat.le_of_ble_eq_true rfl) ?_
  intro p e s m below meth c S hr hk K hH hS ls hl
  have hnX0 : ∀ w ∈ wsX00, w ∈ wsX4_cut := fun w h => mG (tX0 w h)
  have hnX3 : ∀ w ∈ wsX30, w ∈ wsX4_cut := fun w h => mG (tX3 w h)
  have hnX4 : ∀ w ∈ wsX40, w ∈ wsX4_cut := fun w h => mG (tX4 w h)
  have lm1 : ((-1) : Int32).toInt = -1 := by decide
  have l0 : (0 : Int32).toInt = 0 := by decide
  have l6000 : (6000 : Int32).toInt = 6000 := by decide
  have hP : Keep [9, 10] σ σ := Keep_r
  have hl : lv_has ls 6 [(0, .ref (L 0 0)), (1, .int a), (2, .int b), (3, .int z)] := hl
  refine lv_aload_n S.1 S.2.1 dX4_cut_0 rfl (lv_at hl 0 rfl) ?_
  refine lv_iload_n S.1 S.2.1 dX4_cut_1 rfl (lv_at hl 1 rfl) ?_
  refine cW_bpi (cW_V (n := 1) (As := [.int a]) (rest := []) (k := 0) (i := 0) S K hH (by decide) rfl rfl (k_X4_isCart l D B L A σ τ a hI) gX4_cut_X4_isCart rfl hdV_X4_isCart ⟨Nat.le_of_ble_eq_true rfl, Nat.le_of_ble_eq_true rfl⟩ rfl hl.1 (Nat.le_of_ble_eq_true rfl) dX4_cut_2) hS (fun v1 H locs q1 hH hS => ?_)
  refine lv_if_eq (tgt := 26) S.1 S.2.1 dX4_cut_5 (by decide) (fun c2 => ?_) (fun c2 => ?_)
  · have j2 := t_eq c2
    refine lv_iconst (v := (-1)) S.1 S.2.1 dX4_cut_26 (by decide) ?_
    refine cW_iret S hr hk hH hS ?_ dX4_cut_27
    exact ⟨(-1), rfl, hI, hP, rfl, by exact Or.inl ⟨by decide, by omega⟩⟩
  · have j2 := t_neq c2
    refine lv_iload_n S.1 S.2.1 dX4_cut_8 rfl (lv_at hl 3 rfl) ?_
    refine cW_bpi (cW_S (n := 1) (As := [.int z]) (rest := []) S K hH (k_X4_isPlace l D B L A σ τ z ) gX4_cut_X4_isPlace rfl hdS_X4_isPlace ⟨Nat.le_of_ble_eq_true rfl, Nat.le_of_ble_eq_true rfl⟩ rfl hl.1 (Nat.le_of_ble_eq_true rfl) dX4_cut_9) hS (fun v3 H locs q3 hH hS => ?_)
    refine lv_if_eq (tgt := 26) S.1 S.2.1 dX4_cut_12 (by decide) (fun c4 => ?_) (fun c4 => ?_)
    · have j4 := t_eq c4
      refine lv_iconst (v := (-1)) S.1 S.2.1 dX4_cut_26 (by decide) ?_
      refine cW_iret S hr hk hH hS ?_ dX4_cut_27
      exact ⟨(-1), rfl, hI, hP, rfl, by exact Or.inl ⟨by decide, by omega⟩⟩
    · have j4 := t_neq c4
      refine lv_iload_n S.1 S.2.1 dX4_cut_15 rfl (lv_at hl 2 rfl) ?_
      refine lv_iconst (v := 0) S.1 S.2.1 dX4_cut_16 (by decide) ?_
      refine lv_sipush (v := 6000) S.1 S.2.1 dX4_cut_17 (by decide) ?_
      refine cW_bpi (cW_S (n := 3) (As := [.int b, .int 0, .int 6000]) (rest := []) S K hH (k_X4_isIn l D B L A σ τ b 0 6000 ) gX4_cut_X4_isIn rfl hdS_X4_isIn ⟨Nat.le_of_ble_eq_true rfl, Nat.le_of_ble_eq_true rfl⟩ rfl hl.1 (Nat.le_of_ble_eq_true rfl) dX4_cut_20) hS (fun v5 H locs q5 hH hS => ?_)
      refine lv_if_ne (tgt := 28) S.1 S.2.1 dX4_cut_23 (by decide) (fun c6 => ?_) (fun c6 => ?_)
      · have j6 := t_neq c6
        refine lv_aload_n S.1 S.2.1 dX4_cut_28 rfl (lv_at hl 0 rfl) ?_
        refine rC_0_0 S hnX4 K hH (mG wd_149) dX4_cut_29 ?_
        refine lv_iload_n S.1 S.2.1 dX4_cut_32 rfl (lv_at hl 3 rfl) ?_
        refine lv_iload_n S.1 S.2.1 dX4_cut_33 rfl (lv_at hl 2 rfl) ?_
        refine lv_iconst (v := (-1)) S.1 S.2.1 dX4_cut_34 (by decide) ?_
        refine cW_bi (cW_V (n := 3) (As := [.int z, .int b, .int (-1)]) (rest := []) (k := 2) (i := 0) S K hH (by decide) rfl rfl (k_X3_startsFor l D B L A σ τ z b (-1) (N) (by omega) (by omega) hI (hp1.1) (hp1.2.1)) gX4_cut_X3_startsFor rfl hdV_X3_startsFor ⟨Nat.le_of_ble_eq_true rfl, Nat.le_of_ble_eq_true rfl⟩ rfl hl.1 (Nat.le_of_ble_eq_true rfl) dX4_cut_35) hS (fun v7 σ7 τ7 H locs q7 hH hS => ?_)
        obtain ⟨hI, hP7, hτ7, q7⟩ := q7
        rw [hτ7] at hH
        have hP := Keep_t hP hP7 (by decide)
        refine lv_istore (lv' := [(4, .int v7), (0, .ref (L 0 0)), (1, .int a), (2, .int b), (3, .int z)]) S.1 S.2.1 dX4_cut_38 hl (by decide) rfl (fun ls hl => ?_)
        refine lv_aload_n S.1 S.2.1 dX4_cut_40 rfl (lv_at hl 1 rfl) ?_
        refine rC_0_0 S hnX4 K hH (mG wd_149) dX4_cut_41 ?_
        refine lv_iload_n S.1 S.2.1 dX4_cut_44 rfl (lv_at hl 4 rfl) ?_
        refine lv_iload_n S.1 S.2.1 dX4_cut_45 rfl (lv_at hl 3 rfl) ?_
        refine lv_iload_n S.1 S.2.1 dX4_cut_46 rfl (lv_at hl 2 rfl) ?_
        refine cW_bi (cW_V (n := 3) (As := [.int z, .int b, .int a]) (rest := []) (k := 2) (i := 0) S K hH (by decide) rfl rfl (k_X3_startsFor l D B L A σ7 τ z b a (N) (by omega) (by omega) hI (RepC_k hp1.1 hP (by decide)) (by rw [hP 6 (by decide), hP 7 (by decide)]; exact hp1.2.1)) gX4_cut_X3_startsFor rfl hdV_X3_startsFor ⟨Nat.le_of_ble_eq_true rfl, Nat.le_of_ble_eq_true rfl⟩ rfl hl.1 (Nat.le_of_ble_eq_true rfl) dX4_cut_47) hS (fun v8 σ8 τ8 H locs q8 hH hS => ?_)
        obtain ⟨hI, hP8, hτ8, q8⟩ := q8
        rw [hτ8] at hH
        have hP := Keep_t hP hP8 (by decide)
        refine lv_istore (lv' := [(5, .int v8), (4, .int v7), (0, .ref (L 0 0)), (1, .int a), (2, .int b), (3, .int z)]) S.1 S.2.1 dX4_cut_50 hl (by decide) rfl (fun ls hl => ?_)
        refine lv_iload S.1 S.2.1 dX4_cut_52 (lv_at hl 1 rfl) ?_
        refine lv_iload S.1 S.2.1 dX4_cut_54 (lv_at hl 0 rfl) ?_
        refine lv_iconst (v := (-1)) S.1 S.2.1 dX4_cut_56 (by decide) ?_
        refine lv_ixor S.1 S.2.1 dX4_cut_57 ?_
        refine lv_topi (fun v9 e9 => ?_)
        refine lv_iand S.1 S.2.1 dX4_cut_58 ?_
        refine lv_topi (fun v10 e10 => ?_)
        refine cW_iret S hr hk hH hS ?_ dX4_cut_59
        exact ⟨v10, rfl, hI, hP, rfl, by refine Or.inr ⟨by omega, cu_of (b := v8) ?_ q8 (by rw [e10, e9])⟩; have z1 := q7; rw [lm1] at z1; exact z1⟩
      · have j6 := t_eq c6
        refine lv_iconst (v := (-1)) S.1 S.2.1 dX4_cut_26 (by decide) ?_
        refine cW_iret S hr hk hH hS ?_ dX4_cut_27
        exact ⟨(-1), rfl, hI, hP, rfl, by exact Or.inl ⟨by decide, by omega⟩⟩
set_option maxHeartbeats 4000000 in
set_option maxRecDepth 100000 in
theorem k_X4_parcel (l : Launch) (D : va_G) (B : Nat → ClassId) (L : QL) (A : Nat → Prop) (σ : QS) (τ : Int64) (a : Int32) (b : Int32) (z : Int32)  (hI : InvC σ) : cW cntC gC l D B L A yX4_parcel wsX4_parcel 2 42 [.ref (L 0 0), .int a, .int b, .int z] σ τ (pI (fun x σ' τ' => InvC σ' ∧ Keep [0, 34, 32, 33] σ σ' ∧ τ' = τ ∧ (((x.toInt = -1 ∧ σ' 0 = σ 0 ∧ ¬ (0 ≤ a.toInt ∧ a.toInt ≤ 11 ∧ 0 ≤ b.toInt ∧ b.toInt ≤ 11 ∧ a.toInt ≠ b.toInt ∧ 1 ≤ z.toInt ∧ z.toInt ≤ 20 ∧ (σ 0 0 0).toInt < 60)) ∨ ((0 ≤ a.toInt ∧ a.toInt ≤ 11 ∧ 0 ≤ b.toInt ∧ b.toInt ≤ 11 ∧ a.toInt ≠ b.toInt ∧ 1 ≤ z.toInt ∧ z.toInt ≤ 20 ∧ (σ 0 0 0).toInt < 60) ∧ x.toInt = (σ 0 0 0).toInt ∧ (σ' 0 0 0).toInt = (σ 0 0 0).toInt + 1)) ∧ ((x.toInt = -1 ∧ σ' = σ) ∨ (x.toInt ≠ -1 ∧ pC σ' = gvA (pC σ) (σ 0 0 0).toNatClampNeg a b z))))) := by
  refine cW_of (cc := cX4_parcel) (nL := 5) (ret := (some .int)) (by decide) rfl (Nat.le_of_ble_eq_true rfl) ?_
  intro p e s m below meth c S hr hk K hH hS ls hl
  have hnX2 : ∀ w ∈ wsX20, w ∈ wsX4_parcel := fun w h => mG (tX2 w h)
  have hnX4 : ∀ w ∈ wsX40, w ∈ wsX4_parcel := fun w h => mG (tX4 w h)
  have lm1 : ((-1) : Int32).toInt = -1 := by decide
  have l0 : (0 : Int32).toInt = 0 := by decide
  have l1 : (1 : Int32).toInt = 1 := by decide
  have l20 : (20 : Int32).toInt = 20 := by decide
  have l60 : (60 : Int32).toInt = 60 := by decide
  have hl : lv_has ls 5 [(0, .ref (L 0 0)), (1, .int a), (2, .int b), (3, .int z)] := hl
  refine lv_iload_n S.1 S.2.1 dX4_parcel_0 rfl (lv_at hl 1 rfl) ?_
  refine cW_bpi (cW_S (n := 1) (As := [.int a]) (rest := []) S K hH (k_X4_isPlace l D B L A σ τ a ) gX4_parcel_X4_isPlace rfl hdS_X4_isPlace ⟨Nat.le_of_ble_eq_true rfl, Nat.le_of_ble_eq_true rfl⟩ rfl hl.1 (Nat.le_of_ble_eq_true rfl) dX4_parcel_1) hS (fun v1 H locs q1 hH hS => ?_)
  refine lv_if_eq (tgt := 29) S.1 S.2.1 dX4_parcel_4 (by decide) (fun c2 => ?_) (fun c2 => ?_)
  · have j2 := t_eq c2
    refine lv_iconst (v := (-1)) S.1 S.2.1 dX4_parcel_29 (by decide) ?_
    refine cW_iret S hr hk hH hS ?_ dX4_parcel_30
    exact ⟨(-1), rfl, by exact ⟨hI, Keep_r, rfl, Or.inl ⟨by decide, rfl, by omega⟩, Or.inl ⟨by decide, rfl⟩⟩⟩
  · have j2 := t_neq c2
    refine lv_iload_n S.1 S.2.1 dX4_parcel_7 rfl (lv_at hl 2 rfl) ?_
    refine cW_bpi (cW_S (n := 1) (As := [.int b]) (rest := []) S K hH (k_X4_isPlace l D B L A σ τ b ) gX4_parcel_X4_isPlace rfl hdS_X4_isPlace ⟨Nat.le_of_ble_eq_true rfl, Nat.le_of_ble_eq_true rfl⟩ rfl hl.1 (Nat.le_of_ble_eq_true rfl) dX4_parcel_8) hS (fun v3 H locs q3 hH hS => ?_)
    refine lv_if_eq (tgt := 29) S.1 S.2.1 dX4_parcel_11 (by decide) (fun c4 => ?_) (fun c4 => ?_)
    · have j4 := t_eq c4
      refine lv_iconst (v := (-1)) S.1 S.2.1 dX4_parcel_29 (by decide) ?_
      refine cW_iret S hr hk hH hS ?_ dX4_parcel_30
      exact ⟨(-1), rfl, by exact ⟨hI, Keep_r, rfl, Or.inl ⟨by decide, rfl, by omega⟩, Or.inl ⟨by decide, rfl⟩⟩⟩
    · have j4 := t_neq c4
      refine lv_iload_n S.1 S.2.1 dX4_parcel_14 rfl (lv_at hl 1 rfl) ?_
      refine lv_iload_n S.1 S.2.1 dX4_parcel_15 rfl (lv_at hl 2 rfl) ?_
      refine lv_icmp_eq (tgt := 29) S.1 S.2.1 dX4_parcel_16 (by decide) (fun c5 => ?_) (fun c5 => ?_)
      · have j5 := t_eq c5
        refine lv_iconst (v := (-1)) S.1 S.2.1 dX4_parcel_29 (by decide) ?_
        refine cW_iret S hr hk hH hS ?_ dX4_parcel_30
        exact ⟨(-1), rfl, by exact ⟨hI, Keep_r, rfl, Or.inl ⟨by decide, rfl, by omega⟩, Or.inl ⟨by decide, rfl⟩⟩⟩
      · have j5 := t_neq c5
        refine lv_iload_n S.1 S.2.1 dX4_parcel_19 rfl (lv_at hl 3 rfl) ?_
        refine lv_iconst (v := 1) S.1 S.2.1 dX4_parcel_20 (by decide) ?_
        refine lv_bipush (v := 20) S.1 S.2.1 dX4_parcel_21 (by decide) ?_
        refine cW_bpi (cW_S (n := 3) (As := [.int z, .int 1, .int 20]) (rest := []) S K hH (k_X4_isIn l D B L A σ τ z 1 20 ) gX4_parcel_X4_isIn rfl hdS_X4_isIn ⟨Nat.le_of_ble_eq_true rfl, Nat.le_of_ble_eq_true rfl⟩ rfl hl.1 (Nat.le_of_ble_eq_true rfl) dX4_parcel_23) hS (fun v6 H locs q6 hH hS => ?_)
        refine lv_if_ne (tgt := 31) S.1 S.2.1 dX4_parcel_26 (by decide) (fun c7 => ?_) (fun c7 => ?_)
        · have j7 := t_neq c7
          refine lv_aload_n S.1 S.2.1 dX4_parcel_31 rfl (lv_at hl 0 rfl) ?_
          refine rC_0_3 S hnX4 K hH (mG wd_155) dX4_parcel_32 ?_
          refine lv_topi (fun v8 e8 => ?_)
          have bv8 : 0 ≤ v8.toInt ∧ v8.toInt ≤ 60 := by rw [e8]; exact hI.1 0 0 0
          have fv8 : v8.toInt = (σ 0 0 0).toInt := by rw [e8]
          refine lv_bipush (v := 60) S.1 S.2.1 dX4_parcel_35 (by decide) ?_
          refine lv_icmp_lt (tgt := 42) S.1 S.2.1 dX4_parcel_37 (by decide) (fun c9 => ?_) (fun c9 => ?_)
          · have j9 := t_lt c9
            refine lv_aload_n S.1 S.2.1 dX4_parcel_42 rfl (lv_at hl 0 rfl) ?_
            refine rC_0_3 S hnX4 K hH (mG wd_155) dX4_parcel_43 ?_
            refine lv_topi (fun v10 e10 => ?_)
            have k10 : v10.toInt = v8.toInt := by rw [e10]; rw [← e8]
            have bv10 : 0 ≤ v10.toInt ∧ v10.toInt ≤ 60 := by rw [e10]; exact hI.1 0 0 0
            have fv10 : v10.toInt = (σ 0 0 0).toInt := by rw [e10]
            have g43 : v10 = σ 0 0 0 := e10
            refine lv_istore (lv' := [(4, .int v10), (0, .ref (L 0 0)), (1, .int a), (2, .int b), (3, .int z)]) S.1 S.2.1 dX4_parcel_46 hl (by decide) rfl (fun ls hl => ?_)
            refine lv_aload_n S.1 S.2.1 dX4_parcel_48 rfl (lv_at hl 1 rfl) ?_
            refine lv_iload S.1 S.2.1 dX4_parcel_49 (lv_at hl 0 rfl) ?_
            refine lv_iconst (v := 1) S.1 S.2.1 dX4_parcel_51 (by decide) ?_
            refine lv_iadd S.1 S.2.1 dX4_parcel_52 ?_
            refine lv_topi (fun v11 e11 => ?_)
            have i11 : v11.toInt = v10.toInt + (1 : Int32).toInt := i_add e11 (by omega) (by omega)
            refine pC_0_3 S hnX4 K hH hS (mG wd_155) dX4_parcel_53 (fun H locs hH hS => ?_)
            obtain ⟨σ12, eσ12⟩ : ∃ z_9 : QS, z_9 = rs σ 0 0 (fun _ => v11) := ⟨_, rfl⟩
            rw [← eσ12] at hH
            refine lv_aload_n S.1 S.2.1 dX4_parcel_56 rfl (lv_at hl 1 rfl) ?_
            refine rC_0_2 S hnX4 K hH (mG wd_154) dX4_parcel_57 ?_
            refine lv_iload S.1 S.2.1 dX4_parcel_60 (lv_at hl 0 rfl) ?_
            refine lC_1 S K hH (vin (by omega) (by omega)) dX4_parcel_62 ?_
            refine lv_iload_n S.1 S.2.1 dX4_parcel_63 rfl (lv_at hl 2 rfl) ?_
            refine lv_iload_n S.1 S.2.1 dX4_parcel_64 rfl (lv_at hl 3 rfl) ?_
            refine lv_iload_n S.1 S.2.1 dX4_parcel_65 rfl (lv_at hl 4 rfl) ?_
            refine cW_bv (cW_V (n := 3) (As := [.int a, .int b, .int z]) (rest := []) (k := 20) (i := v10.toNatClampNeg) S K hH (cl_lt (n := 60) (by omega) (by omega)) rfl rfl (k_X2_give l D B L A σ12 τ v10.toNatClampNeg a b z (cl_lt (n := 60) (by omega) (by omega))) gX4_parcel_X2_give rfl hdV_X2_give ⟨Nat.le_of_ble_eq_true rfl, Nat.le_of_ble_eq_true rfl⟩ rfl hl.1 (Nat.le_of_ble_eq_true rfl) dX4_parcel_66) hS (fun σ13 τ13 H locs q13 hH hS => ?_)
            obtain ⟨q13, hτ13⟩ := q13
            rw [hτ13] at hH
            have eg := q13
            rw [eσ12] at eg
            refine lv_iload S.1 S.2.1 dX4_parcel_69 (lv_at hl 0 rfl) ?_
            refine cW_iret S hr hk hH hS ?_ dX4_parcel_71
            exact ⟨v10, rfl, by have h9 := cl_eq (j := v10) (by omega); refine ⟨InvC_give hI eg (by omega) (by omega) (by omega) (by omega) (by omega), Keep_w eg (Keep_w rfl (Keep_w rfl (Keep_w rfl Keep_r (by decide)) (by decide)) (by decide)) (by decide), rfl, Or.inr ⟨by omega, by omega, ?_⟩, Or.inr ⟨by omega, ?_⟩⟩; rw [eg, rs_v (by decide), rs_v (by decide), rs_v (by decide), rs_self]; omega; rw [← g43]; exact gv_p (by rw [eg, rs_v (by decide), rs_v (by decide)]; exact rs_tw (rs_v (by decide))) (by rw [eg, rs_v (by decide)]; exact rs_tw (by rw [rs_v (by decide), rs_v (by decide)])) (by rw [eg]; exact rs_tw (by rw [rs_v (by decide), rs_v (by decide), rs_v (by decide)])) (fun v' hv' => by rw [eg, rs_v (by intro z9; subst z9; revert hv'; decide), rs_v (by intro z9; subst z9; revert hv'; decide), rs_v (by intro z9; subst z9; revert hv'; decide), rs_v (by intro z9; subst z9; revert hv'; decide)])⟩
          · have j9 := t_nlt c9
            refine lv_iconst (v := (-1)) S.1 S.2.1 dX4_parcel_40 (by decide) ?_
            refine cW_iret S hr hk hH hS ?_ dX4_parcel_41
            exact ⟨(-1), rfl, by exact ⟨hI, Keep_r, rfl, Or.inl ⟨by decide, rfl, by omega⟩, Or.inl ⟨by decide, rfl⟩⟩⟩
        · have j7 := t_eq c7
          refine lv_iconst (v := (-1)) S.1 S.2.1 dX4_parcel_29 (by decide) ?_
          refine cW_iret S hr hk hH hS ?_ dX4_parcel_30
          exact ⟨(-1), rfl, by exact ⟨hI, Keep_r, rfl, Or.inl ⟨by decide, rfl, by omega⟩, Or.inl ⟨by decide, rfl⟩⟩⟩
set_option maxHeartbeats 4000000 in
set_option maxRecDepth 100000 in
theorem k_X4_renewPlan (l : Launch) (D : va_G) (B : Nat → ClassId) (L : QL) (A : Nat → Prop) (σ : QS) (τ : Int64) (q : Nat) (N : Net) (hp0 : q < 60) (hI : InvC σ) (hp2 : 0 ≤ (σ 34 q 0).toInt) (hp3 : 0 ≤ (σ 32 q 0).toInt) (hp4 : NetC σ N) (hp5 : plQ σ N q) : cW cntC gC l D B L A yX4_renewPlan wsX4_renewPlan 3 77 [.ref (L 0 0), .ref (L 20 q)] σ τ (pV (fun σ' τ' => InvC σ' ∧ Keep [5, 9, 41, 42, 43] σ σ' ∧ τ' = τ ∧ rpP σ σ' N q)) := by
  refine cW_of (cc := cX4_renewPlan) (nL := 5) (ret := none) (by decide) rfl (Nat.le_of_ble_eq_true rfl) ?_
  intro p e s m below meth c S hr hk K hH hS ls hl
  have hnX0 : ∀ w ∈ wsX00, w ∈ wsX4_renewPlan := fun w h => mG (tX0 w h)
  have hnX2 : ∀ w ∈ wsX20, w ∈ wsX4_renewPlan := fun w h => mG (tX2 w h)
  have hnX3 : ∀ w ∈ wsX30, w ∈ wsX4_renewPlan := fun w h => mG (tX3 w h)
  have hnX4 : ∀ w ∈ wsX40, w ∈ wsX4_renewPlan := fun w h => mG (tX4 w h)
  have lm1 : ((-1) : Int32).toInt = -1 := by decide
  have l0 : (0 : Int32).toInt = 0 := by decide
  have l1 : (1 : Int32).toInt = 1 := by decide
  have l336 : (336 : Int32).toInt = 336 := by decide
  have l672 : (672 : Int32).toInt = 672 := by decide
  have hP : Keep [5, 9, 41, 42, 43] σ σ := Keep_r
  have hN9 := hp4.1.1
  have hw9 : 0 ≤ (σ 1 0 0).toInt ∧ (σ 1 0 0).toInt ≤ 5000 := hI.1 1 0 0
  have hp9 : (σ 34 q 0).toInt ≤ 11 := (hI.1 34 q 0).2
  have hp8 := cl_eq (j := σ 34 q 0) hp2
  have hl : lv_has ls 5 [(0, .ref (L 0 0)), (1, .ref (L 20 q))] := hl
  refine lv_aload_n S.1 S.2.1 dX4_renewPlan_0 rfl (lv_at hl 1 rfl) ?_
  refine rC_20_9 S hnX2 K hH (show q < 60 by omega) (mG wd_222) dX4_renewPlan_1 ?_
  refine lv_topi (fun v1 e1 => ?_)
  refine lv_aload_n S.1 S.2.1 dX4_renewPlan_4 rfl (lv_at hl 0 rfl) ?_
  refine rC_0_0 S hnX4 K hH (mG wd_149) dX4_renewPlan_5 ?_
  refine rC_2_2 S hnX3 K hH (mG wd_223) dX4_renewPlan_8 ?_
  refine lv_topi (fun v2 e2 => ?_)
  refine lv_icmp_ne (tgt := 18) S.1 S.2.1 dX4_renewPlan_11 (by decide) (fun c3 => ?_) (fun c3 => ?_)
  · have j3 := t_neq c3
    refine lv_iconst (v := 0) S.1 S.2.1 dX4_renewPlan_18 (by decide) ?_
    refine lv_istore_n (lv' := [(2, .int 0), (0, .ref (L 0 0)), (1, .ref (L 20 q))]) S.1 S.2.1 dX4_renewPlan_19 rfl hl (by decide) rfl (fun ls hl => ?_)
    refine lv_iload_n S.1 S.2.1 dX4_renewPlan_20 rfl (lv_at hl 0 rfl) ?_
    refine lv_if_eq (tgt := 52) S.1 S.2.1 dX4_renewPlan_21 (by decide) (fun c4 => ?_) (fun c4 => ?_)
    · have j4 := t_eq c4
      refine lv_aload_n S.1 S.2.1 dX4_renewPlan_52 rfl (lv_at hl 1 rfl) ?_
      refine rC_0_4 S hnX4 K hH (mG wd_156) dX4_renewPlan_53 ?_
      refine lv_topi (fun v5 e5 => ?_)
      have b5 : 0 ≤ v5.toInt ∧ v5.toInt ≤ 5000 := by rw [e5]; exact hI.1 1 0 0
      have f53 : v5.toInt = (σ 1 0 0).toInt := by rw [e5]
      refine lv_sipush (v := 672) S.1 S.2.1 dX4_renewPlan_56 (by decide) ?_
      refine lv_iadd S.1 S.2.1 dX4_renewPlan_59 ?_
      refine lv_topi (fun v6 e6 => ?_)
      have i6 : v6.toInt = v5.toInt + (672 : Int32).toInt := i_add e6 (by omega) (by omega)
      refine lv_istore_n (lv' := [(3, .int v6), (2, .int 0), (0, .ref (L 0 0)), (1, .ref (L 20 q))]) S.1 S.2.1 dX4_renewPlan_60 rfl hl (by decide) rfl (fun ls hl => ?_)
      refine lv_aload_n S.1 S.2.1 dX4_renewPlan_61 rfl (lv_at hl 2 rfl) ?_
      refine rC_0_0 S hnX4 K hH (mG wd_149) dX4_renewPlan_62 ?_
      refine lv_aload_n S.1 S.2.1 dX4_renewPlan_65 rfl (lv_at hl 3 rfl) ?_
      refine rC_20_2 S hnX2 K hH (show q < 60 by omega) (mG wd_226) dX4_renewPlan_66 ?_
      refine lv_topi (fun v7 e7 => ?_)
      have b7 : (-1) ≤ v7.toInt ∧ v7.toInt ≤ 11 := by rw [e7]; exact hI.1 34 q 0
      have zv7 : 0 ≤ v7.toInt := by rw [e7]; exact hp2
      refine lv_aload_n S.1 S.2.1 dX4_renewPlan_69 rfl (lv_at hl 2 rfl) ?_
      refine rC_0_4 S hnX4 K hH (mG wd_156) dX4_renewPlan_70 ?_
      refine lv_topi (fun v8 e8 => ?_)
      have b8 : 0 ≤ v8.toInt ∧ v8.toInt ≤ 5000 := by rw [e8]; exact hI.1 1 0 0
      have k8 : v8.toInt = v5.toInt := by rw [e8]; rw [← e5]
      have f70 : v8.toInt = (σ 1 0 0).toInt := by rw [e8]
      refine lv_iload_n S.1 S.2.1 dX4_renewPlan_73 rfl (lv_at hl 0 rfl) ?_
      refine lv_iconst (v := 1) S.1 S.2.1 dX4_renewPlan_74 (by decide) ?_
      refine lv_aload_n S.1 S.2.1 dX4_renewPlan_75 rfl (lv_at hl 3 rfl) ?_
      refine rC_20_0 S hnX2 K hH (show q < 60 by omega) (mG wd_227) dX4_renewPlan_76 ?_
      refine lv_topi (fun v9 e9 => ?_)
      have b9 : (-1) ≤ v9.toInt ∧ v9.toInt ≤ 11 := by rw [e9]; exact hI.1 32 q 0
      have zv9 : 0 ≤ v9.toInt := by rw [e9]; exact hp3
      refine lv_ishl S.1 S.2.1 dX4_renewPlan_79 ?_
      refine lv_topi (fun v10 e10 => ?_)
      refine cW_bi (cW_V (n := 4) (As := [.int v7, .int v8, .int v6, .int v10]) (rest := []) (k := 2) (i := 0) S K hH (by decide) rfl rfl (k_X3_soonest l D B L A σ τ v7 v8 v6 v10 (N) (by omega) (by omega) (by omega) hI (hp4.1) (hp4.2.1) (hp4.2.2.1)) gX4_renewPlan_X3_soonest rfl hdV_X3_soonest ⟨Nat.le_of_ble_eq_true rfl, Nat.le_of_ble_eq_true rfl⟩ rfl hl.1 (Nat.le_of_ble_eq_true rfl) dX4_renewPlan_80) hS (fun v11 σ11 τ11 H locs q11 hH hS => ?_)
      obtain ⟨hI, hP11, hτ11, q11⟩ := q11
      rw [hτ11] at hH
      have hP := Keep_t hP hP11 (by decide)
      have hs9 : sooQ N (σ 34 q 0).toNatClampNeg (σ 1 0 0).toInt ((σ 1 0 0).toInt + 672) (σ 32 q 0).toNatClampNeg v11 := by have z1 := (q11).2.1; rw [show v6.toInt = (σ 1 0 0).toInt + 672 by omega, show v8.toInt = (σ 1 0 0).toInt by omega, show v10 = pBI v9 by rw [e10]; rfl] at z1; have z2 := so_one hN9 (by omega) (by omega) z1; rw [e7, e9] at z2; exact z2
      refine lv_istore (lv' := [(4, .int v11), (3, .int v6), (2, .int 0), (0, .ref (L 0 0)), (1, .ref (L 20 q))]) S.1 S.2.1 dX4_renewPlan_83 hl (by decide) rfl (fun ls hl => ?_)
      refine lv_aload_n S.1 S.2.1 dX4_renewPlan_85 rfl (lv_at hl 4 rfl) ?_
      refine lv_aload_n S.1 S.2.1 dX4_renewPlan_86 rfl (lv_at hl 3 rfl) ?_
      refine rC_0_0 S hnX4 K hH (mG wd_149) dX4_renewPlan_87 ?_
      refine rC_2_2 S hnX3 K hH (mG wd_223) dX4_renewPlan_90 ?_
      refine lv_topi (fun v12 e12 => ?_)
      have k12 : v12.toInt = v2.toInt := by rw [e12, hP11 4 (by decide)]; rw [← e2]
      refine pC_20_9 S hnX2 K hH hS (show q < 60 by omega) (mG wd_222) dX4_renewPlan_93 (fun H locs hH hS => ?_)
      obtain ⟨σ13, eσ13⟩ : ∃ z_9 : QS, z_9 = rs σ11 41 q (fun _ => v12) := ⟨_, rfl⟩
      rw [← eσ13] at hH
      have hI := InvC_f eσ13 hI (by decide) (any32 _)
      have hP := Keep_w eσ13 hP (by decide)
      have y41 : σ13 41 q 0 = σ 4 0 0 := by rw [eσ13, rs_self, e12, hP11 4 (by decide)]
      have o41 : ∀ i9 : Nat, i9 ≠ q → σ13 41 i9 = σ 41 i9 := fun i9 z9 => by rw [eσ13, rs_i z9, hP11 41 (by decide)]
      refine lv_aload_n S.1 S.2.1 dX4_renewPlan_96 rfl (lv_at hl 4 rfl) ?_
      refine lv_iload S.1 S.2.1 dX4_renewPlan_97 (lv_at hl 0 rfl) ?_
      refine lv_iconst (v := (-1)) S.1 S.2.1 dX4_renewPlan_99 (by decide) ?_
      refine lv_icmp_ne (tgt := 109) S.1 S.2.1 dX4_renewPlan_100 (by decide) (fun c14 => ?_) (fun c14 => ?_)
      · have j14 := t_neq c14
        refine lv_iload S.1 S.2.1 dX4_renewPlan_109 (lv_at hl 0 rfl) ?_
        refine lv_sipush (v := 336) S.1 S.2.1 dX4_renewPlan_111 (by decide) ?_
        refine lv_isub S.1 S.2.1 dX4_renewPlan_114 ?_
        refine lv_topi (fun v15 e15 => ?_)
        have i15 : v15.toInt = v11.toInt - (336 : Int32).toInt := i_sub e15 (by omega) (by omega)
        refine pC_20_10 S hnX2 K hH hS (show q < 60 by omega) (mG wd_224) dX4_renewPlan_115 (fun H locs hH hS => ?_)
        obtain ⟨σ16, eσ16⟩ : ∃ z_9 : QS, z_9 = rs σ13 42 q (fun _ => v15) := ⟨_, rfl⟩
        rw [← eσ16] at hH
        have hI := InvC_f eσ16 hI (by decide) (any32 _)
        have hP := Keep_w eσ16 hP (by decide)
        have x41 : σ16 41 q 0 = σ 4 0 0 := by rw [eσ16, rs_v (by decide)]; exact y41
        have x42 : σ16 42 q 0 = v15 := by rw [eσ16, rs_self]
        have o42 : ∀ i9 : Nat, i9 ≠ q → σ16 41 i9 = σ 41 i9 ∧ σ16 42 i9 = σ 42 i9 ∧ σ16 43 i9 = σ 43 i9 := fun i9 z9 => ⟨by rw [eσ16, rs_v (by decide)]; exact o41 i9 z9, by rw [eσ16, rs_i z9, eσ13, rs_v (by decide), hP11 42 (by decide)], by rw [eσ16, rs_v (by decide), eσ13, rs_v (by decide), hP11 43 (by decide)]⟩
        have hh9 : (v11.toInt = -1 ∧ v15.toInt = (σ 1 0 0).toInt + 337) ∨ (v11.toInt ≠ -1 ∧ v15.toInt = v11.toInt - 336) := by omega
        refine lv_aload_n S.1 S.2.1 dX4_renewPlan_118 rfl (lv_at hl 3 rfl) ?_
        refine rC_0_4 S hnX4 K hH (mG wd_156) dX4_renewPlan_119 ?_
        refine lv_topi (fun v17 e17 => ?_)
        have b17 : 0 ≤ v17.toInt ∧ v17.toInt ≤ 5000 := by rw [e17]; exact hI.1 1 0 0
        have k17 : v17.toInt = v5.toInt := by rw [e17, eσ16, rs_v (by decide), eσ13, rs_v (by decide), hP11 1 (by decide)]; rw [← e5]
        have f119 : v17.toInt = (σ 1 0 0).toInt := by rw [e17, hP 1 (by decide)]
        refine lv_aload_n S.1 S.2.1 dX4_renewPlan_122 rfl (lv_at hl 4 rfl) ?_
        refine rC_20_10 S hnX2 K hH (show q < 60 by omega) (mG wd_224) dX4_renewPlan_123 ?_
        refine lv_topi (fun v18 e18 => ?_)
        have k18 : v18.toInt = v15.toInt := by rw [e18, eσ16, rs_self]
        have f123 : v18 = v15 := by rw [e18, eσ16, rs_self]
        refine lv_icmp_ge (tgt := 140) S.1 S.2.1 dX4_renewPlan_126 (by decide) (fun c19 => ?_) (fun c19 => ?_)
        · have j19 := t_le c19
          have hPz := hP
          refine lv_aload_n S.1 S.2.1 dX4_renewPlan_140 rfl (lv_at hl 3 rfl) ?_
          refine rC_0_0 S hnX4 K hH (mG wd_149) dX4_renewPlan_141 ?_
          refine lv_aload_n S.1 S.2.1 dX4_renewPlan_144 rfl (lv_at hl 4 rfl) ?_
          refine rC_20_0 S hnX2 K hH (show q < 60 by omega) (mG wd_227) dX4_renewPlan_145 ?_
          refine lv_topi (fun v20 e20 => ?_)
          have b20 : (-1) ≤ v20.toInt ∧ v20.toInt ≤ 11 := by rw [e20]; exact hI.1 32 q 0
          have k20 : v20.toInt = v9.toInt := by rw [e20, eσ16, rs_v (by decide), eσ13, rs_v (by decide), hP11 32 (by decide)]; rw [← e9]
          have zv20 : 0 ≤ v20.toInt := by rw [e20, hP 32 (by decide)]; exact hp3
          refine lv_aload_n S.1 S.2.1 dX4_renewPlan_148 rfl (lv_at hl 3 rfl) ?_
          refine rC_0_4 S hnX4 K hH (mG wd_156) dX4_renewPlan_149 ?_
          refine lv_topi (fun v21 e21 => ?_)
          have b21 : 0 ≤ v21.toInt ∧ v21.toInt ≤ 5000 := by rw [e21]; exact hI.1 1 0 0
          have k21 : v21.toInt = v5.toInt := by rw [e21, eσ16, rs_v (by decide), eσ13, rs_v (by decide), hP11 1 (by decide)]; rw [← e5]
          have f149 : v21.toInt = (σ 1 0 0).toInt := by rw [e21, hP 1 (by decide)]
          refine lv_iload S.1 S.2.1 dX4_renewPlan_152 (lv_at hl 0 rfl) ?_
          refine lv_iconst (v := (-1)) S.1 S.2.1 dX4_renewPlan_154 (by decide) ?_
          refine lv_aload_n S.1 S.2.1 dX4_renewPlan_155 rfl (lv_at hl 4 rfl) ?_
          refine rC_20_11 S hnX2 K hH (show q < 60 by omega) (mG wd_225) dX4_renewPlan_156 ?_
          refine cW_bv (cW_V (n := 5) (As := [.int v20, .int v21, .int v11, .int (-1), .ref (L 21 q)]) (rest := []) (k := 2) (i := 0) S K hH (by decide) rfl rfl (k_fiL_21 l D B L A σ16 τ v20 v21 v11 (-1) q (N) (show q < 60 by omega) (by omega) (by omega) (by omega) hI (RepC_k hp4.1 hP (by decide)) (by rw [hP 6 (by decide), hP 7 (by decide)]; exact hp4.2.1)) gX4_renewPlan_X3_findLatest rfl hdV_X3_findLatest ⟨Nat.le_of_ble_eq_true rfl, Nat.le_of_ble_eq_true rfl⟩ rfl hl.1 (Nat.le_of_ble_eq_true rfl) dX4_renewPlan_159) hS (fun σ22 τ22 H locs q22 hH hS => ?_)
          obtain ⟨hI, hP22, hτ22, q22⟩ := q22
          rw [hτ22] at hH
          have hP := Keep_t hP hP22 (by decide)
          refine cW_vret S hr hk hH hS ?_ dX4_renewPlan_162
          exact ⟨rfl, hI, hP, rfl, by first | exact rp_fill hs9 (by omega) hh9 (by rw [← f123]; omega) (by rw [hP9999 41 (by decide)]; exact x41) (by rw [hP9999 42 (by decide)]; exact x42) (fun j hj => by rw [(q9999).1 j hj]; decide) (fun i9 z9 => by rw [hP9999 41 (by decide), hP9999 42 (by decide), (q9999).2 i9 z9]; exact o42 i9 z9) | exact rp_find hs9 (by omega) hh9 (by rw [← f123]; omega) (by rw [hP22 41 (by decide)]; exact x41) (by rw [hP22 42 (by decide)]; exact x42) (by have z1 := (q22).1; rw [lm1, f149, e20, hPz 32 (by decide)] at z1; exact z1) (fun i9 z9 => by rw [hP22 41 (by decide), hP22 42 (by decide), (q22).2 i9 z9]; exact o42 i9 z9)⟩
        · have j19 := t_nle c19
          refine lv_aload_n S.1 S.2.1 dX4_renewPlan_129 rfl (lv_at hl 4 rfl) ?_
          refine rC_20_11 S hnX2 K hH (show q < 60 by omega) (mG wd_225) dX4_renewPlan_130 ?_
          refine lv_iconst (v := (-1)) S.1 S.2.1 dX4_renewPlan_133 (by decide) ?_
          refine cW_bv (cW_S (n := 2) (As := [.ref (L 21 q), .int (-1)]) (rest := []) S K hH (k_fill_21 l D B L A σ16 τ q (-1) (show q < 60 by omega) hI) gX4_renewPlan_J7_fill_53178 rfl hdS_J7_fill_53178 ⟨Nat.le_of_ble_eq_true rfl, Nat.le_of_ble_eq_true rfl⟩ rfl hl.1 (Nat.le_of_ble_eq_true rfl) dX4_renewPlan_134) hS (fun σ23 τ23 H locs q23 hH hS => ?_)
          obtain ⟨hI, hP23, hτ23, q23⟩ := q23
          rw [hτ23] at hH
          have hP := Keep_t hP hP23 (by decide)
          refine lv_goto (tgt := 162) S.1 S.2.1 dX4_renewPlan_137 (by decide) ?_
          refine cW_vret S hr hk hH hS ?_ dX4_renewPlan_162
          exact ⟨rfl, hI, hP, rfl, by first | exact rp_fill hs9 (by omega) hh9 (by rw [← f123]; omega) (by rw [hP23 41 (by decide)]; exact x41) (by rw [hP23 42 (by decide)]; exact x42) (fun j hj => by rw [(q23).1 j hj]; decide) (fun i9 z9 => by rw [hP23 41 (by decide), hP23 42 (by decide), (q23).2 i9 z9]; exact o42 i9 z9) | exact rp_find hs9 (by omega) hh9 (by rw [← f123]; omega) (by rw [hP22 41 (by decide)]; exact x41) (by rw [hP22 42 (by decide)]; exact x42) (by have z1 := (q22).1; rw [lm1, f149, e20, hPz 32 (by decide)] at z1; exact z1) (fun i9 z9 => by rw [hP22 41 (by decide), hP22 42 (by decide), (q22).2 i9 z9]; exact o42 i9 z9)⟩
      · have j14 := t_eq c14
        refine lv_iload_n S.1 S.2.1 dX4_renewPlan_103 rfl (lv_at hl 1 rfl) ?_
        refine lv_iconst (v := 1) S.1 S.2.1 dX4_renewPlan_104 (by decide) ?_
        refine lv_iadd S.1 S.2.1 dX4_renewPlan_105 ?_
        refine lv_topi (fun v24 e24 => ?_)
        have i24 : v24.toInt = v6.toInt + (1 : Int32).toInt := i_add e24 (by omega) (by omega)
        refine lv_goto (tgt := 111) S.1 S.2.1 dX4_renewPlan_106 (by decide) ?_
        refine lv_sipush (v := 336) S.1 S.2.1 dX4_renewPlan_111 (by decide) ?_
        refine lv_isub S.1 S.2.1 dX4_renewPlan_114 ?_
        refine lv_topi (fun v25 e25 => ?_)
        have i25 : v25.toInt = v24.toInt - (336 : Int32).toInt := i_sub e25 (by omega) (by omega)
        refine pC_20_10 S hnX2 K hH hS (show q < 60 by omega) (mG wd_224) dX4_renewPlan_115 (fun H locs hH hS => ?_)
        obtain ⟨σ26, eσ26⟩ : ∃ z_9 : QS, z_9 = rs σ13 42 q (fun _ => v25) := ⟨_, rfl⟩
        rw [← eσ26] at hH
        have hI := InvC_f eσ26 hI (by decide) (any32 _)
        have hP := Keep_w eσ26 hP (by decide)
        have x41 : σ26 41 q 0 = σ 4 0 0 := by rw [eσ26, rs_v (by decide)]; exact y41
        have x42 : σ26 42 q 0 = v25 := by rw [eσ26, rs_self]
        have o42 : ∀ i9 : Nat, i9 ≠ q → σ26 41 i9 = σ 41 i9 ∧ σ26 42 i9 = σ 42 i9 ∧ σ26 43 i9 = σ 43 i9 := fun i9 z9 => ⟨by rw [eσ26, rs_v (by decide)]; exact o41 i9 z9, by rw [eσ26, rs_i z9, eσ13, rs_v (by decide), hP11 42 (by decide)], by rw [eσ26, rs_v (by decide), eσ13, rs_v (by decide), hP11 43 (by decide)]⟩
        have hh9 : (v11.toInt = -1 ∧ v25.toInt = (σ 1 0 0).toInt + 337) ∨ (v11.toInt ≠ -1 ∧ v25.toInt = v11.toInt - 336) := by omega
        refine lv_aload_n S.1 S.2.1 dX4_renewPlan_118 rfl (lv_at hl 3 rfl) ?_
        refine rC_0_4 S hnX4 K hH (mG wd_156) dX4_renewPlan_119 ?_
        refine lv_topi (fun v27 e27 => ?_)
        have b27 : 0 ≤ v27.toInt ∧ v27.toInt ≤ 5000 := by rw [e27]; exact hI.1 1 0 0
        have k27 : v27.toInt = v5.toInt := by rw [e27, eσ26, rs_v (by decide), eσ13, rs_v (by decide), hP11 1 (by decide)]; rw [← e5]
        have f119 : v27.toInt = (σ 1 0 0).toInt := by rw [e27, hP 1 (by decide)]
        refine lv_aload_n S.1 S.2.1 dX4_renewPlan_122 rfl (lv_at hl 4 rfl) ?_
        refine rC_20_10 S hnX2 K hH (show q < 60 by omega) (mG wd_224) dX4_renewPlan_123 ?_
        refine lv_topi (fun v28 e28 => ?_)
        have k28 : v28.toInt = v25.toInt := by rw [e28, eσ26, rs_self]
        have f123 : v28 = v25 := by rw [e28, eσ26, rs_self]
        refine lv_icmp_ge (tgt := 140) S.1 S.2.1 dX4_renewPlan_126 (by decide) (fun c29 => ?_) (fun c29 => ?_)
        · have j29 := t_le c29
          have hPz := hP
          refine lv_aload_n S.1 S.2.1 dX4_renewPlan_140 rfl (lv_at hl 3 rfl) ?_
          refine rC_0_0 S hnX4 K hH (mG wd_149) dX4_renewPlan_141 ?_
          refine lv_aload_n S.1 S.2.1 dX4_renewPlan_144 rfl (lv_at hl 4 rfl) ?_
          refine rC_20_0 S hnX2 K hH (show q < 60 by omega) (mG wd_227) dX4_renewPlan_145 ?_
          refine lv_topi (fun v30 e30 => ?_)
          have b30 : (-1) ≤ v30.toInt ∧ v30.toInt ≤ 11 := by rw [e30]; exact hI.1 32 q 0
          have k30 : v30.toInt = v9.toInt := by rw [e30, eσ26, rs_v (by decide), eσ13, rs_v (by decide), hP11 32 (by decide)]; rw [← e9]
          have zv30 : 0 ≤ v30.toInt := by rw [e30, hP 32 (by decide)]; exact hp3
          refine lv_aload_n S.1 S.2.1 dX4_renewPlan_148 rfl (lv_at hl 3 rfl) ?_
          refine rC_0_4 S hnX4 K hH (mG wd_156) dX4_renewPlan_149 ?_
          refine lv_topi (fun v31 e31 => ?_)
          have b31 : 0 ≤ v31.toInt ∧ v31.toInt ≤ 5000 := by rw [e31]; exact hI.1 1 0 0
          have k31 : v31.toInt = v5.toInt := by rw [e31, eσ26, rs_v (by decide), eσ13, rs_v (by decide), hP11 1 (by decide)]; rw [← e5]
          have f149 : v31.toInt = (σ 1 0 0).toInt := by rw [e31, hP 1 (by decide)]
          refine lv_iload S.1 S.2.1 dX4_renewPlan_152 (lv_at hl 0 rfl) ?_
          refine lv_iconst (v := (-1)) S.1 S.2.1 dX4_renewPlan_154 (by decide) ?_
          refine lv_aload_n S.1 S.2.1 dX4_renewPlan_155 rfl (lv_at hl 4 rfl) ?_
          refine rC_20_11 S hnX2 K hH (show q < 60 by omega) (mG wd_225) dX4_renewPlan_156 ?_
          refine cW_bv (cW_V (n := 5) (As := [.int v30, .int v31, .int v11, .int (-1), .ref (L 21 q)]) (rest := []) (k := 2) (i := 0) S K hH (by decide) rfl rfl (k_fiL_21 l D B L A σ26 τ v30 v31 v11 (-1) q (N) (show q < 60 by omega) (by omega) (by omega) (by omega) hI (RepC_k hp4.1 hP (by decide)) (by rw [hP 6 (by decide), hP 7 (by decide)]; exact hp4.2.1)) gX4_renewPlan_X3_findLatest rfl hdV_X3_findLatest ⟨Nat.le_of_ble_eq_true rfl, Nat.le_of_ble_eq_true rfl⟩ rfl hl.1 (Nat.le_of_ble_eq_true rfl) dX4_renewPlan_159) hS (fun σ32 τ32 H locs q32 hH hS => ?_)
          obtain ⟨hI, hP32, hτ32, q32⟩ := q32
          rw [hτ32] at hH
          have hP := Keep_t hP hP32 (by decide)
          refine cW_vret S hr hk hH hS ?_ dX4_renewPlan_162
          exact ⟨rfl, hI, hP, rfl, by first | exact rp_fill hs9 (by omega) hh9 (by rw [← f123]; omega) (by rw [hP23 41 (by decide)]; exact x41) (by rw [hP23 42 (by decide)]; exact x42) (fun j hj => by rw [(q23).1 j hj]; decide) (fun i9 z9 => by rw [hP23 41 (by decide), hP23 42 (by decide), (q23).2 i9 z9]; exact o42 i9 z9) | exact rp_find hs9 (by omega) hh9 (by rw [← f123]; omega) (by rw [hP32 41 (by decide)]; exact x41) (by rw [hP32 42 (by decide)]; exact x42) (by have z1 := (q32).1; rw [lm1, f149, e30, hPz 32 (by decide)] at z1; exact z1) (fun i9 z9 => by rw [hP32 41 (by decide), hP32 42 (by decide), (q32).2 i9 z9]; exact o42 i9 z9)⟩
        · have j29 := t_nle c29
          refine lv_aload_n S.1 S.2.1 dX4_renewPlan_129 rfl (lv_at hl 4 rfl) ?_
          refine rC_20_11 S hnX2 K hH (show q < 60 by omega) (mG wd_225) dX4_renewPlan_130 ?_
          refine lv_iconst (v := (-1)) S.1 S.2.1 dX4_renewPlan_133 (by decide) ?_
          refine cW_bv (cW_S (n := 2) (As := [.ref (L 21 q), .int (-1)]) (rest := []) S K hH (k_fill_21 l D B L A σ26 τ q (-1) (show q < 60 by omega) hI) gX4_renewPlan_J7_fill_53178 rfl hdS_J7_fill_53178 ⟨Nat.le_of_ble_eq_true rfl, Nat.le_of_ble_eq_true rfl⟩ rfl hl.1 (Nat.le_of_ble_eq_true rfl) dX4_renewPlan_134) hS (fun σ33 τ33 H locs q33 hH hS => ?_)
          obtain ⟨hI, hP33, hτ33, q33⟩ := q33
          rw [hτ33] at hH
          have hP := Keep_t hP hP33 (by decide)
          refine lv_goto (tgt := 162) S.1 S.2.1 dX4_renewPlan_137 (by decide) ?_
          refine cW_vret S hr hk hH hS ?_ dX4_renewPlan_162
          exact ⟨rfl, hI, hP, rfl, by first | exact rp_fill hs9 (by omega) hh9 (by rw [← f123]; omega) (by rw [hP33 41 (by decide)]; exact x41) (by rw [hP33 42 (by decide)]; exact x42) (fun j hj => by rw [(q33).1 j hj]; decide) (fun i9 z9 => by rw [hP33 41 (by decide), hP33 42 (by decide), (q33).2 i9 z9]; exact o42 i9 z9) | exact rp_find hs9 (by omega) hh9 (by rw [← f123]; omega) (by rw [hP32 41 (by decide)]; exact x41) (by rw [hP32 42 (by decide)]; exact x42) (by have z1 := (q32).1; rw [lm1, f149, e30, hPz 32 (by decide)] at z1; exact z1) (fun i9 z9 => by rw [hP32 41 (by decide), hP32 42 (by decide), (q32).2 i9 z9]; exact o42 i9 z9)⟩
    · have j4 := t_neq c4
      exact absurd j4 (by omega)
  · have j3 := t_eq c3
    refine lv_iconst (v := 1) S.1 S.2.1 dX4_renewPlan_14 (by decide) ?_
    refine lv_goto (tgt := 19) S.1 S.2.1 dX4_renewPlan_15 (by decide) ?_
    refine lv_istore_n (lv' := [(2, .int 1), (0, .ref (L 0 0)), (1, .ref (L 20 q))]) S.1 S.2.1 dX4_renewPlan_19 rfl hl (by decide) rfl (fun ls hl => ?_)
    refine lv_iload_n S.1 S.2.1 dX4_renewPlan_20 rfl (lv_at hl 0 rfl) ?_
    refine lv_if_eq (tgt := 52) S.1 S.2.1 dX4_renewPlan_21 (by decide) (fun c34 => ?_) (fun c34 => ?_)
    · have j34 := t_eq c34
      exact absurd j34 (by omega)
    · have j34 := t_neq c34
      refine lv_aload_n S.1 S.2.1 dX4_renewPlan_24 rfl (lv_at hl 1 rfl) ?_
      refine rC_0_4 S hnX4 K hH (mG wd_156) dX4_renewPlan_25 ?_
      refine lv_topi (fun v35 e35 => ?_)
      have b35 : 0 ≤ v35.toInt ∧ v35.toInt ≤ 5000 := by rw [e35]; exact hI.1 1 0 0
      have f25 : v35.toInt = (σ 1 0 0).toInt := by rw [e35]
      refine lv_aload_n S.1 S.2.1 dX4_renewPlan_28 rfl (lv_at hl 2 rfl) ?_
      refine rC_20_10 S hnX2 K hH (show q < 60 by omega) (mG wd_224) dX4_renewPlan_29 ?_
      refine lv_topi (fun v36 e36 => ?_)
      have f29 : v36.toInt = (σ 42 q 0).toInt := by rw [e36]
      refine lv_icmp_lt (tgt := 51) S.1 S.2.1 dX4_renewPlan_32 (by decide) (fun c37 => ?_) (fun c37 => ?_)
      · have j37 := t_lt c37
        refine cW_vret S hr hk hH hS ?_ dX4_renewPlan_51
        exact ⟨rfl, hI, hP, rfl, by exact rp_known hN9 (e1.symm.trans (c3.trans e2)) hp5 (by omega) (by omega) (by omega)⟩
      · have j37 := t_nlt c37
        refine lv_aload_n S.1 S.2.1 dX4_renewPlan_35 rfl (lv_at hl 1 rfl) ?_
        refine rC_0_4 S hnX4 K hH (mG wd_156) dX4_renewPlan_36 ?_
        refine lv_topi (fun v38 e38 => ?_)
        have b38 : 0 ≤ v38.toInt ∧ v38.toInt ≤ 5000 := by rw [e38]; exact hI.1 1 0 0
        have k38 : v38.toInt = v35.toInt := by rw [e38]; rw [← e35]
        have f36 : v38.toInt = (σ 1 0 0).toInt := by rw [e38]
        refine lv_aload_n S.1 S.2.1 dX4_renewPlan_39 rfl (lv_at hl 2 rfl) ?_
        refine rC_20_11 S hnX2 K hH (show q < 60 by omega) (mG wd_225) dX4_renewPlan_40 ?_
        refine lv_aload_n S.1 S.2.1 dX4_renewPlan_43 rfl (lv_at hl 2 rfl) ?_
        refine rC_20_2 S hnX2 K hH (show q < 60 by omega) (mG wd_226) dX4_renewPlan_44 ?_
        refine lv_topi (fun v39 e39 => ?_)
        have b39 : (-1) ≤ v39.toInt ∧ v39.toInt ≤ 11 := by rw [e39]; exact hI.1 34 q 0
        have zv39 : 0 ≤ v39.toInt := by rw [e39]; exact hp2
        refine lC_21 S K hH (show q < 60 by omega) (vin (by omega) (by omega)) dX4_renewPlan_47 ?_
        refine lv_topi (fun v40 e40 => ?_)
        have f47 : v40.toInt = (σ 43 q (σ 34 q 0).toNatClampNeg).toInt := by rw [e40, e39]
        refine lv_icmp_gt (tgt := 52) S.1 S.2.1 dX4_renewPlan_48 (by decide) (fun c41 => ?_) (fun c41 => ?_)
        · have j41 := t_lt c41
          refine lv_aload_n S.1 S.2.1 dX4_renewPlan_52 rfl (lv_at hl 1 rfl) ?_
          refine rC_0_4 S hnX4 K hH (mG wd_156) dX4_renewPlan_53 ?_
          refine lv_topi (fun v42 e42 => ?_)
          have b42 : 0 ≤ v42.toInt ∧ v42.toInt ≤ 5000 := by rw [e42]; exact hI.1 1 0 0
          have k42 : v42.toInt = v35.toInt := by rw [e42]; rw [← e35]
          have f53 : v42.toInt = (σ 1 0 0).toInt := by rw [e42]
          refine lv_sipush (v := 672) S.1 S.2.1 dX4_renewPlan_56 (by decide) ?_
          refine lv_iadd S.1 S.2.1 dX4_renewPlan_59 ?_
          refine lv_topi (fun v43 e43 => ?_)
          have i43 : v43.toInt = v42.toInt + (672 : Int32).toInt := i_add e43 (by omega) (by omega)
          refine lv_istore_n (lv' := [(3, .int v43), (2, .int 1), (0, .ref (L 0 0)), (1, .ref (L 20 q))]) S.1 S.2.1 dX4_renewPlan_60 rfl hl (by decide) rfl (fun ls hl => ?_)
          refine lv_aload_n S.1 S.2.1 dX4_renewPlan_61 rfl (lv_at hl 2 rfl) ?_
          refine rC_0_0 S hnX4 K hH (mG wd_149) dX4_renewPlan_62 ?_
          refine lv_aload_n S.1 S.2.1 dX4_renewPlan_65 rfl (lv_at hl 3 rfl) ?_
          refine rC_20_2 S hnX2 K hH (show q < 60 by omega) (mG wd_226) dX4_renewPlan_66 ?_
          refine lv_topi (fun v44 e44 => ?_)
          have b44 : (-1) ≤ v44.toInt ∧ v44.toInt ≤ 11 := by rw [e44]; exact hI.1 34 q 0
          have k44 : v44.toInt = v39.toInt := by rw [e44]; rw [← e39]
          have zv44 : 0 ≤ v44.toInt := by rw [e44]; exact hp2
          refine lv_aload_n S.1 S.2.1 dX4_renewPlan_69 rfl (lv_at hl 2 rfl) ?_
          refine rC_0_4 S hnX4 K hH (mG wd_156) dX4_renewPlan_70 ?_
          refine lv_topi (fun v45 e45 => ?_)
          have b45 : 0 ≤ v45.toInt ∧ v45.toInt ≤ 5000 := by rw [e45]; exact hI.1 1 0 0
          have k45 : v45.toInt = v35.toInt := by rw [e45]; rw [← e35]
          have f70 : v45.toInt = (σ 1 0 0).toInt := by rw [e45]
          refine lv_iload_n S.1 S.2.1 dX4_renewPlan_73 rfl (lv_at hl 0 rfl) ?_
          refine lv_iconst (v := 1) S.1 S.2.1 dX4_renewPlan_74 (by decide) ?_
          refine lv_aload_n S.1 S.2.1 dX4_renewPlan_75 rfl (lv_at hl 3 rfl) ?_
          refine rC_20_0 S hnX2 K hH (show q < 60 by omega) (mG wd_227) dX4_renewPlan_76 ?_
          refine lv_topi (fun v46 e46 => ?_)
          have b46 : (-1) ≤ v46.toInt ∧ v46.toInt ≤ 11 := by rw [e46]; exact hI.1 32 q 0
          have zv46 : 0 ≤ v46.toInt := by rw [e46]; exact hp3
          refine lv_ishl S.1 S.2.1 dX4_renewPlan_79 ?_
          refine lv_topi (fun v47 e47 => ?_)
          refine cW_bi (cW_V (n := 4) (As := [.int v44, .int v45, .int v43, .int v47]) (rest := []) (k := 2) (i := 0) S K hH (by decide) rfl rfl (k_X3_soonest l D B L A σ τ v44 v45 v43 v47 (N) (by omega) (by omega) (by omega) hI (hp4.1) (hp4.2.1) (hp4.2.2.1)) gX4_renewPlan_X3_soonest rfl hdV_X3_soonest ⟨Nat.le_of_ble_eq_true rfl, Nat.le_of_ble_eq_true rfl⟩ rfl hl.1 (Nat.le_of_ble_eq_true rfl) dX4_renewPlan_80) hS (fun v48 σ48 τ48 H locs q48 hH hS => ?_)
          obtain ⟨hI, hP48, hτ48, q48⟩ := q48
          rw [hτ48] at hH
          have hP := Keep_t hP hP48 (by decide)
          have hs9 : sooQ N (σ 34 q 0).toNatClampNeg (σ 1 0 0).toInt ((σ 1 0 0).toInt + 672) (σ 32 q 0).toNatClampNeg v48 := by have z1 := (q48).2.1; rw [show v43.toInt = (σ 1 0 0).toInt + 672 by omega, show v45.toInt = (σ 1 0 0).toInt by omega, show v47 = pBI v46 by rw [e47]; rfl] at z1; have z2 := so_one hN9 (by omega) (by omega) z1; rw [e44, e46] at z2; exact z2
          refine lv_istore (lv' := [(4, .int v48), (3, .int v43), (2, .int 1), (0, .ref (L 0 0)), (1, .ref (L 20 q))]) S.1 S.2.1 dX4_renewPlan_83 hl (by decide) rfl (fun ls hl => ?_)
          refine lv_aload_n S.1 S.2.1 dX4_renewPlan_85 rfl (lv_at hl 4 rfl) ?_
          refine lv_aload_n S.1 S.2.1 dX4_renewPlan_86 rfl (lv_at hl 3 rfl) ?_
          refine rC_0_0 S hnX4 K hH (mG wd_149) dX4_renewPlan_87 ?_
          refine rC_2_2 S hnX3 K hH (mG wd_223) dX4_renewPlan_90 ?_
          refine lv_topi (fun v49 e49 => ?_)
          have k49 : v49.toInt = v2.toInt := by rw [e49, hP48 4 (by decide)]; rw [← e2]
          refine pC_20_9 S hnX2 K hH hS (show q < 60 by omega) (mG wd_222) dX4_renewPlan_93 (fun H locs hH hS => ?_)
          obtain ⟨σ50, eσ50⟩ : ∃ z_9 : QS, z_9 = rs σ48 41 q (fun _ => v49) := ⟨_, rfl⟩
          rw [← eσ50] at hH
          have hI := InvC_f eσ50 hI (by decide) (any32 _)
          have hP := Keep_w eσ50 hP (by decide)
          have y41 : σ50 41 q 0 = σ 4 0 0 := by rw [eσ50, rs_self, e49, hP48 4 (by decide)]
          have o41 : ∀ i9 : Nat, i9 ≠ q → σ50 41 i9 = σ 41 i9 := fun i9 z9 => by rw [eσ50, rs_i z9, hP48 41 (by decide)]
          refine lv_aload_n S.1 S.2.1 dX4_renewPlan_96 rfl (lv_at hl 4 rfl) ?_
          refine lv_iload S.1 S.2.1 dX4_renewPlan_97 (lv_at hl 0 rfl) ?_
          refine lv_iconst (v := (-1)) S.1 S.2.1 dX4_renewPlan_99 (by decide) ?_
          refine lv_icmp_ne (tgt := 109) S.1 S.2.1 dX4_renewPlan_100 (by decide) (fun c51 => ?_) (fun c51 => ?_)
          · have j51 := t_neq c51
            refine lv_iload S.1 S.2.1 dX4_renewPlan_109 (lv_at hl 0 rfl) ?_
            refine lv_sipush (v := 336) S.1 S.2.1 dX4_renewPlan_111 (by decide) ?_
            refine lv_isub S.1 S.2.1 dX4_renewPlan_114 ?_
            refine lv_topi (fun v52 e52 => ?_)
            have i52 : v52.toInt = v48.toInt - (336 : Int32).toInt := i_sub e52 (by omega) (by omega)
            refine pC_20_10 S hnX2 K hH hS (show q < 60 by omega) (mG wd_224) dX4_renewPlan_115 (fun H locs hH hS => ?_)
            obtain ⟨σ53, eσ53⟩ : ∃ z_9 : QS, z_9 = rs σ50 42 q (fun _ => v52) := ⟨_, rfl⟩
            rw [← eσ53] at hH
            have hI := InvC_f eσ53 hI (by decide) (any32 _)
            have hP := Keep_w eσ53 hP (by decide)
            have x41 : σ53 41 q 0 = σ 4 0 0 := by rw [eσ53, rs_v (by decide)]; exact y41
            have x42 : σ53 42 q 0 = v52 := by rw [eσ53, rs_self]
            have o42 : ∀ i9 : Nat, i9 ≠ q → σ53 41 i9 = σ 41 i9 ∧ σ53 42 i9 = σ 42 i9 ∧ σ53 43 i9 = σ 43 i9 := fun i9 z9 => ⟨by rw [eσ53, rs_v (by decide)]; exact o41 i9 z9, by rw [eσ53, rs_i z9, eσ50, rs_v (by decide), hP48 42 (by decide)], by rw [eσ53, rs_v (by decide), eσ50, rs_v (by decide), hP48 43 (by decide)]⟩
            have hh9 : (v48.toInt = -1 ∧ v52.toInt = (σ 1 0 0).toInt + 337) ∨ (v48.toInt ≠ -1 ∧ v52.toInt = v48.toInt - 336) := by omega
            refine lv_aload_n S.1 S.2.1 dX4_renewPlan_118 rfl (lv_at hl 3 rfl) ?_
            refine rC_0_4 S hnX4 K hH (mG wd_156) dX4_renewPlan_119 ?_
            refine lv_topi (fun v54 e54 => ?_)
            have b54 : 0 ≤ v54.toInt ∧ v54.toInt ≤ 5000 := by rw [e54]; exact hI.1 1 0 0
            have k54 : v54.toInt = v35.toInt := by rw [e54, eσ53, rs_v (by decide), eσ50, rs_v (by decide), hP48 1 (by decide)]; rw [← e35]
            have f119 : v54.toInt = (σ 1 0 0).toInt := by rw [e54, hP 1 (by decide)]
            refine lv_aload_n S.1 S.2.1 dX4_renewPlan_122 rfl (lv_at hl 4 rfl) ?_
            refine rC_20_10 S hnX2 K hH (show q < 60 by omega) (mG wd_224) dX4_renewPlan_123 ?_
            refine lv_topi (fun v55 e55 => ?_)
            have k55 : v55.toInt = v52.toInt := by rw [e55, eσ53, rs_self]
            have f123 : v55 = v52 := by rw [e55, eσ53, rs_self]
            refine lv_icmp_ge (tgt := 140) S.1 S.2.1 dX4_renewPlan_126 (by decide) (fun c56 => ?_) (fun c56 => ?_)
            · have j56 := t_le c56
              have hPz := hP
              refine lv_aload_n S.1 S.2.1 dX4_renewPlan_140 rfl (lv_at hl 3 rfl) ?_
              refine rC_0_0 S hnX4 K hH (mG wd_149) dX4_renewPlan_141 ?_
              refine lv_aload_n S.1 S.2.1 dX4_renewPlan_144 rfl (lv_at hl 4 rfl) ?_
              refine rC_20_0 S hnX2 K hH (show q < 60 by omega) (mG wd_227) dX4_renewPlan_145 ?_
              refine lv_topi (fun v57 e57 => ?_)
              have b57 : (-1) ≤ v57.toInt ∧ v57.toInt ≤ 11 := by rw [e57]; exact hI.1 32 q 0
              have k57 : v57.toInt = v46.toInt := by rw [e57, eσ53, rs_v (by decide), eσ50, rs_v (by decide), hP48 32 (by decide)]; rw [← e46]
              have zv57 : 0 ≤ v57.toInt := by rw [e57, hP 32 (by decide)]; exact hp3
              refine lv_aload_n S.1 S.2.1 dX4_renewPlan_148 rfl (lv_at hl 3 rfl) ?_
              refine rC_0_4 S hnX4 K hH (mG wd_156) dX4_renewPlan_149 ?_
              refine lv_topi (fun v58 e58 => ?_)
              have b58 : 0 ≤ v58.toInt ∧ v58.toInt ≤ 5000 := by rw [e58]; exact hI.1 1 0 0
              have k58 : v58.toInt = v35.toInt := by rw [e58, eσ53, rs_v (by decide), eσ50, rs_v (by decide), hP48 1 (by decide)]; rw [← e35]
              have f149 : v58.toInt = (σ 1 0 0).toInt := by rw [e58, hP 1 (by decide)]
              refine lv_iload S.1 S.2.1 dX4_renewPlan_152 (lv_at hl 0 rfl) ?_
              refine lv_iconst (v := (-1)) S.1 S.2.1 dX4_renewPlan_154 (by decide) ?_
              refine lv_aload_n S.1 S.2.1 dX4_renewPlan_155 rfl (lv_at hl 4 rfl) ?_
              refine rC_20_11 S hnX2 K hH (show q < 60 by omega) (mG wd_225) dX4_renewPlan_156 ?_
              refine cW_bv (cW_V (n := 5) (As := [.int v57, .int v58, .int v48, .int (-1), .ref (L 21 q)]) (rest := []) (k := 2) (i := 0) S K hH (by decide) rfl rfl (k_fiL_21 l D B L A σ53 τ v57 v58 v48 (-1) q (N) (show q < 60 by omega) (by omega) (by omega) (by omega) hI (RepC_k hp4.1 hP (by decide)) (by rw [hP 6 (by decide), hP 7 (by decide)]; exact hp4.2.1)) gX4_renewPlan_X3_findLatest rfl hdV_X3_findLatest ⟨Nat.le_of_ble_eq_true rfl, Nat.le_of_ble_eq_true rfl⟩ rfl hl.1 (Nat.le_of_ble_eq_true rfl) dX4_renewPlan_159) hS (fun σ59 τ59 H locs q59 hH hS => ?_)
              obtain ⟨hI, hP59, hτ59, q59⟩ := q59
              rw [hτ59] at hH
              have hP := Keep_t hP hP59 (by decide)
              refine cW_vret S hr hk hH hS ?_ dX4_renewPlan_162
              exact ⟨rfl, hI, hP, rfl, by first | exact rp_fill hs9 (by omega) hh9 (by rw [← f123]; omega) (by rw [hP33 41 (by decide)]; exact x41) (by rw [hP33 42 (by decide)]; exact x42) (fun j hj => by rw [(q33).1 j hj]; decide) (fun i9 z9 => by rw [hP33 41 (by decide), hP33 42 (by decide), (q33).2 i9 z9]; exact o42 i9 z9) | exact rp_find hs9 (by omega) hh9 (by rw [← f123]; omega) (by rw [hP59 41 (by decide)]; exact x41) (by rw [hP59 42 (by decide)]; exact x42) (by have z1 := (q59).1; rw [lm1, f149, e57, hPz 32 (by decide)] at z1; exact z1) (fun i9 z9 => by rw [hP59 41 (by decide), hP59 42 (by decide), (q59).2 i9 z9]; exact o42 i9 z9)⟩
            · have j56 := t_nle c56
              refine lv_aload_n S.1 S.2.1 dX4_renewPlan_129 rfl (lv_at hl 4 rfl) ?_
              refine rC_20_11 S hnX2 K hH (show q < 60 by omega) (mG wd_225) dX4_renewPlan_130 ?_
              refine lv_iconst (v := (-1)) S.1 S.2.1 dX4_renewPlan_133 (by decide) ?_
              refine cW_bv (cW_S (n := 2) (As := [.ref (L 21 q), .int (-1)]) (rest := []) S K hH (k_fill_21 l D B L A σ53 τ q (-1) (show q < 60 by omega) hI) gX4_renewPlan_J7_fill_53178 rfl hdS_J7_fill_53178 ⟨Nat.le_of_ble_eq_true rfl, Nat.le_of_ble_eq_true rfl⟩ rfl hl.1 (Nat.le_of_ble_eq_true rfl) dX4_renewPlan_134) hS (fun σ60 τ60 H locs q60 hH hS => ?_)
              obtain ⟨hI, hP60, hτ60, q60⟩ := q60
              rw [hτ60] at hH
              have hP := Keep_t hP hP60 (by decide)
              refine lv_goto (tgt := 162) S.1 S.2.1 dX4_renewPlan_137 (by decide) ?_
              refine cW_vret S hr hk hH hS ?_ dX4_renewPlan_162
              exact ⟨rfl, hI, hP, rfl, by first | exact rp_fill hs9 (by omega) hh9 (by rw [← f123]; omega) (by rw [hP60 41 (by decide)]; exact x41) (by rw [hP60 42 (by decide)]; exact x42) (fun j hj => by rw [(q60).1 j hj]; decide) (fun i9 z9 => by rw [hP60 41 (by decide), hP60 42 (by decide), (q60).2 i9 z9]; exact o42 i9 z9) | exact rp_find hs9 (by omega) hh9 (by rw [← f123]; omega) (by rw [hP59 41 (by decide)]; exact x41) (by rw [hP59 42 (by decide)]; exact x42) (by have z1 := (q59).1; rw [lm1, f149, e57, hPz 32 (by decide)] at z1; exact z1) (fun i9 z9 => by rw [hP59 41 (by decide), hP59 42 (by decide), (q59).2 i9 z9]; exact o42 i9 z9)⟩
          · have j51 := t_eq c51
            refine lv_iload_n S.1 S.2.1 dX4_renewPlan_103 rfl (lv_at hl 1 rfl) ?_
            refine lv_iconst (v := 1) S.1 S.2.1 dX4_renewPlan_104 (by decide) ?_
            refine lv_iadd S.1 S.2.1 dX4_renewPlan_105 ?_
            refine lv_topi (fun v61 e61 => ?_)
            have i61 : v61.toInt = v43.toInt + (1 : Int32).toInt := i_add e61 (by omega) (by omega)
            refine lv_goto (tgt := 111) S.1 S.2.1 dX4_renewPlan_106 (by decide) ?_
            refine lv_sipush (v := 336) S.1 S.2.1 dX4_renewPlan_111 (by decide) ?_
            refine lv_isub S.1 S.2.1 dX4_renewPlan_114 ?_
            refine lv_topi (fun v62 e62 => ?_)
            have i62 : v62.toInt = v61.toInt - (336 : Int32).toInt := i_sub e62 (by omega) (by omega)
            refine pC_20_10 S hnX2 K hH hS (show q < 60 by omega) (mG wd_224) dX4_renewPlan_115 (fun H locs hH hS => ?_)
            obtain ⟨σ63, eσ63⟩ : ∃ z_9 : QS, z_9 = rs σ50 42 q (fun _ => v62) := ⟨_, rfl⟩
            rw [← eσ63] at hH
            have hI := InvC_f eσ63 hI (by decide) (any32 _)
            have hP := Keep_w eσ63 hP (by decide)
            have x41 : σ63 41 q 0 = σ 4 0 0 := by rw [eσ63, rs_v (by decide)]; exact y41
            have x42 : σ63 42 q 0 = v62 := by rw [eσ63, rs_self]
            have o42 : ∀ i9 : Nat, i9 ≠ q → σ63 41 i9 = σ 41 i9 ∧ σ63 42 i9 = σ 42 i9 ∧ σ63 43 i9 = σ 43 i9 := fun i9 z9 => ⟨by rw [eσ63, rs_v (by decide)]; exact o41 i9 z9, by rw [eσ63, rs_i z9, eσ50, rs_v (by decide), hP48 42 (by decide)], by rw [eσ63, rs_v (by decide), eσ50, rs_v (by decide), hP48 43 (by decide)]⟩
            have hh9 : (v48.toInt = -1 ∧ v62.toInt = (σ 1 0 0).toInt + 337) ∨ (v48.toInt ≠ -1 ∧ v62.toInt = v48.toInt - 336) := by omega
            refine lv_aload_n S.1 S.2.1 dX4_renewPlan_118 rfl (lv_at hl 3 rfl) ?_
            refine rC_0_4 S hnX4 K hH (mG wd_156) dX4_renewPlan_119 ?_
            refine lv_topi (fun v64 e64 => ?_)
            have b64 : 0 ≤ v64.toInt ∧ v64.toInt ≤ 5000 := by rw [e64]; exact hI.1 1 0 0
            have k64 : v64.toInt = v35.toInt := by rw [e64, eσ63, rs_v (by decide), eσ50, rs_v (by decide), hP48 1 (by decide)]; rw [← e35]
            have f119 : v64.toInt = (σ 1 0 0).toInt := by rw [e64, hP 1 (by decide)]
            refine lv_aload_n S.1 S.2.1 dX4_renewPlan_122 rfl (lv_at hl 4 rfl) ?_
            refine rC_20_10 S hnX2 K hH (show q < 60 by omega) (mG wd_224) dX4_renewPlan_123 ?_
            refine lv_topi (fun v65 e65 => ?_)
            have k65 : v65.toInt = v62.toInt := by rw [e65, eσ63, rs_self]
            have f123 : v65 = v62 := by rw [e65, eσ63, rs_self]
            refine lv_icmp_ge (tgt := 140) S.1 S.2.1 dX4_renewPlan_126 (by decide) (fun c66 => ?_) (fun c66 => ?_)
            · have j66 := t_le c66
              have hPz := hP
              refine lv_aload_n S.1 S.2.1 dX4_renewPlan_140 rfl (lv_at hl 3 rfl) ?_
              refine rC_0_0 S hnX4 K hH (mG wd_149) dX4_renewPlan_141 ?_
              refine lv_aload_n S.1 S.2.1 dX4_renewPlan_144 rfl (lv_at hl 4 rfl) ?_
              refine rC_20_0 S hnX2 K hH (show q < 60 by omega) (mG wd_227) dX4_renewPlan_145 ?_
              refine lv_topi (fun v67 e67 => ?_)
              have b67 : (-1) ≤ v67.toInt ∧ v67.toInt ≤ 11 := by rw [e67]; exact hI.1 32 q 0
              have k67 : v67.toInt = v46.toInt := by rw [e67, eσ63, rs_v (by decide), eσ50, rs_v (by decide), hP48 32 (by decide)]; rw [← e46]
              have zv67 : 0 ≤ v67.toInt := by rw [e67, hP 32 (by decide)]; exact hp3
              refine lv_aload_n S.1 S.2.1 dX4_renewPlan_148 rfl (lv_at hl 3 rfl) ?_
              refine rC_0_4 S hnX4 K hH (mG wd_156) dX4_renewPlan_149 ?_
              refine lv_topi (fun v68 e68 => ?_)
              have b68 : 0 ≤ v68.toInt ∧ v68.toInt ≤ 5000 := by rw [e68]; exact hI.1 1 0 0
              have k68 : v68.toInt = v35.toInt := by rw [e68, eσ63, rs_v (by decide), eσ50, rs_v (by decide), hP48 1 (by decide)]; rw [← e35]
              have f149 : v68.toInt = (σ 1 0 0).toInt := by rw [e68, hP 1 (by decide)]
              refine lv_iload S.1 S.2.1 dX4_renewPlan_152 (lv_at hl 0 rfl) ?_
              refine lv_iconst (v := (-1)) S.1 S.2.1 dX4_renewPlan_154 (by decide) ?_
              refine lv_aload_n S.1 S.2.1 dX4_renewPlan_155 rfl (lv_at hl 4 rfl) ?_
              refine rC_20_11 S hnX2 K hH (show q < 60 by omega) (mG wd_225) dX4_renewPlan_156 ?_
              refine cW_bv (cW_V (n := 5) (As := [.int v67, .int v68, .int v48, .int (-1), .ref (L 21 q)]) (rest := []) (k := 2) (i := 0) S K hH (by decide) rfl rfl (k_fiL_21 l D B L A σ63 τ v67 v68 v48 (-1) q (N) (show q < 60 by omega) (by omega) (by omega) (by omega) hI (RepC_k hp4.1 hP (by decide)) (by rw [hP 6 (by decide), hP 7 (by decide)]; exact hp4.2.1)) gX4_renewPlan_X3_findLatest rfl hdV_X3_findLatest ⟨Nat.le_of_ble_eq_true rfl, Nat.le_of_ble_eq_true rfl⟩ rfl hl.1 (Nat.le_of_ble_eq_true rfl) dX4_renewPlan_159) hS (fun σ69 τ69 H locs q69 hH hS => ?_)
              obtain ⟨hI, hP69, hτ69, q69⟩ := q69
              rw [hτ69] at hH
              have hP := Keep_t hP hP69 (by decide)
              refine cW_vret S hr hk hH hS ?_ dX4_renewPlan_162
              exact ⟨rfl, hI, hP, rfl, by first | exact rp_fill hs9 (by omega) hh9 (by rw [← f123]; omega) (by rw [hP60 41 (by decide)]; exact x41) (by rw [hP60 42 (by decide)]; exact x42) (fun j hj => by rw [(q60).1 j hj]; decide) (fun i9 z9 => by rw [hP60 41 (by decide), hP60 42 (by decide), (q60).2 i9 z9]; exact o42 i9 z9) | exact rp_find hs9 (by omega) hh9 (by rw [← f123]; omega) (by rw [hP69 41 (by decide)]; exact x41) (by rw [hP69 42 (by decide)]; exact x42) (by have z1 := (q69).1; rw [lm1, f149, e67, hPz 32 (by decide)] at z1; exact z1) (fun i9 z9 => by rw [hP69 41 (by decide), hP69 42 (by decide), (q69).2 i9 z9]; exact o42 i9 z9)⟩
            · have j66 := t_nle c66
              refine lv_aload_n S.1 S.2.1 dX4_renewPlan_129 rfl (lv_at hl 4 rfl) ?_
              refine rC_20_11 S hnX2 K hH (show q < 60 by omega) (mG wd_225) dX4_renewPlan_130 ?_
              refine lv_iconst (v := (-1)) S.1 S.2.1 dX4_renewPlan_133 (by decide) ?_
              refine cW_bv (cW_S (n := 2) (As := [.ref (L 21 q), .int (-1)]) (rest := []) S K hH (k_fill_21 l D B L A σ63 τ q (-1) (show q < 60 by omega) hI) gX4_renewPlan_J7_fill_53178 rfl hdS_J7_fill_53178 ⟨Nat.le_of_ble_eq_true rfl, Nat.le_of_ble_eq_true rfl⟩ rfl hl.1 (Nat.le_of_ble_eq_true rfl) dX4_renewPlan_134) hS (fun σ70 τ70 H locs q70 hH hS => ?_)
              obtain ⟨hI, hP70, hτ70, q70⟩ := q70
              rw [hτ70] at hH
              have hP := Keep_t hP hP70 (by decide)
              refine lv_goto (tgt := 162) S.1 S.2.1 dX4_renewPlan_137 (by decide) ?_
              refine cW_vret S hr hk hH hS ?_ dX4_renewPlan_162
              exact ⟨rfl, hI, hP, rfl, by first | exact rp_fill hs9 (by omega) hh9 (by rw [← f123]; omega) (by rw [hP70 41 (by decide)]; exact x41) (by rw [hP70 42 (by decide)]; exact x42) (fun j hj => by rw [(q70).1 j hj]; decide) (fun i9 z9 => by rw [hP70 41 (by decide), hP70 42 (by decide), (q70).2 i9 z9]; exact o42 i9 z9) | exact rp_find hs9 (by omega) hh9 (by rw [← f123]; omega) (by rw [hP69 41 (by decide)]; exact x41) (by rw [hP69 42 (by decide)]; exact x42) (by have z1 := (q69).1; rw [lm1, f149, e67, hPz 32 (by decide)] at z1; exact z1) (fun i9 z9 => by rw [hP69 41 (by decide), hP69 42 (by decide), (q69).2 i9 z9]; exact o42 i9 z9)⟩
        · have j41 := t_nlt c41
          refine cW_vret S hr hk hH hS ?_ dX4_renewPlan_51
          exact ⟨rfl, hI, hP, rfl, by exact rp_known hN9 (e1.symm.trans (c3.trans e2)) hp5 (by omega) (by omega) (by omega)⟩
