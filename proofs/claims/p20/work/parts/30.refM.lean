set_option maxHeartbeats 4000000 in
set_option maxRecDepth 100000 in
theorem k_X5_isIn (l : Launch) (D : va_G) (B : Nat → ClassId) (L : QL) (A : Nat → Prop) (σ : QS) (τ : Int64) (value : Int32) (least : Int32) (most : Int32)   : cW cntM gM l D B L A yX5_isIn wsX5_isIn 0 0 [.int value, .int least, .int most] σ τ (pI (fun x σ' τ' => σ' = σ ∧ τ' = τ ∧ ((x.toInt = 1 ∧ least.toInt ≤ value.toInt ∧ value.toInt ≤ most.toInt) ∨ (x.toInt = 0 ∧ (value.toInt < least.toInt ∨ most.toInt < value.toInt))))) := by
  refine cW_of (cc := cX5_isIn) (nL := 3) (ret := (some .boolean)) (by decide) rfl (Nat.le_of_ble_eq_true rfl) ?_
  intro p e s m below meth c S hr hk K hH hS ls hl
  have l0 : (0 : Int32).toInt = 0 := by decide
  have l1 : (1 : Int32).toInt = 1 := by decide
  have hl : lv_has ls 3 [(0, .int value), (1, .int least), (2, .int most)] := hl
  refine lv_iload_n S.1 S.2.1 dX5_isIn_0 rfl (lv_at hl 0 rfl) ?_
  refine lv_iload_n S.1 S.2.1 dX5_isIn_1 rfl (lv_at hl 1 rfl) ?_
  refine lv_icmp_lt (tgt := 14) S.1 S.2.1 dX5_isIn_2 (by decide) (fun c1 => ?_) (fun c1 => ?_)
  · have j1 := t_lt c1
    refine lv_iconst (v := 0) S.1 S.2.1 dX5_isIn_14 (by decide) ?_
    refine cW_zret S hr hk hH hS (by decide) ?_ dX5_isIn_15
    exact ⟨0, rfl, rfl, rfl, by omega⟩
  · have j1 := t_nlt c1
    refine lv_iload_n S.1 S.2.1 dX5_isIn_5 rfl (lv_at hl 0 rfl) ?_
    refine lv_iload_n S.1 S.2.1 dX5_isIn_6 rfl (lv_at hl 2 rfl) ?_
    refine lv_icmp_gt (tgt := 14) S.1 S.2.1 dX5_isIn_7 (by decide) (fun c2 => ?_) (fun c2 => ?_)
    · have j2 := t_lt c2
      refine lv_iconst (v := 0) S.1 S.2.1 dX5_isIn_14 (by decide) ?_
      refine cW_zret S hr hk hH hS (by decide) ?_ dX5_isIn_15
      exact ⟨0, rfl, rfl, rfl, by omega⟩
    · have j2 := t_nlt c2
      refine lv_iconst (v := 1) S.1 S.2.1 dX5_isIn_10 (by decide) ?_
      refine lv_goto (tgt := 15) S.1 S.2.1 dX5_isIn_11 (by decide) ?_
      refine cW_zret S hr hk hH hS (by decide) ?_ dX5_isIn_15
      exact ⟨1, rfl, rfl, rfl, by omega⟩
set_option maxHeartbeats 4000000 in
set_option maxRecDepth 100000 in
theorem k_X5_isPlace (l : Launch) (D : va_G) (B : Nat → ClassId) (L : QL) (A : Nat → Prop) (σ : QS) (τ : Int64) (w : Int32)   : cW cntM gM l D B L A yX5_isPlace wsX5_isPlace 0 0 [.int w] σ τ (pI (fun x σ' τ' => σ' = σ ∧ τ' = τ ∧ ((x.toInt = 1 ∧ 0 ≤ w.toInt ∧ w.toInt ≤ 11) ∨ (x.toInt = 0 ∧ (w.toInt < 0 ∨ 11 < w.toInt))))) := by
  refine cW_of (cc := cX5_isPlace) (nL := 1) (ret := (some .boolean)) (by decide) rfl (Nat.le_of_ble_eq_true rfl) ?_
  intro p e s m below meth c S hr hk K hH hS ls hl
  have l0 : (0 : Int32).toInt = 0 := by decide
  have l1 : (1 : Int32).toInt = 1 := by decide
  have l12 : (12 : Int32).toInt = 12 := by decide
  have hl : lv_has ls 1 [(0, .int w)] := hl
  refine lv_iload_n S.1 S.2.1 dX5_isPlace_0 rfl (lv_at hl 0 rfl) ?_
  refine lv_if_lt (tgt := 14) S.1 S.2.1 dX5_isPlace_1 (by decide) (fun c1 => ?_) (fun c1 => ?_)
  · have j1 := t_lt c1
    refine lv_iconst (v := 0) S.1 S.2.1 dX5_isPlace_14 (by decide) ?_
    refine cW_zret S hr hk hH hS (by decide) ?_ dX5_isPlace_15
    exact ⟨0, rfl, rfl, rfl, by omega⟩
  · have j1 := t_nlt c1
    refine lv_iload_n S.1 S.2.1 dX5_isPlace_4 rfl (lv_at hl 0 rfl) ?_
    refine lv_bipush (v := 12) S.1 S.2.1 dX5_isPlace_5 (by decide) ?_
    refine lv_icmp_ge (tgt := 14) S.1 S.2.1 dX5_isPlace_7 (by decide) (fun c2 => ?_) (fun c2 => ?_)
    · have j2 := t_le c2
      refine lv_iconst (v := 0) S.1 S.2.1 dX5_isPlace_14 (by decide) ?_
      refine cW_zret S hr hk hH hS (by decide) ?_ dX5_isPlace_15
      exact ⟨0, rfl, rfl, rfl, by omega⟩
    · have j2 := t_nle c2
      refine lv_iconst (v := 1) S.1 S.2.1 dX5_isPlace_10 (by decide) ?_
      refine lv_goto (tgt := 15) S.1 S.2.1 dX5_isPlace_11 (by decide) ?_
      refine cW_zret S hr hk hH hS (by decide) ?_ dX5_isPlace_15
      exact ⟨1, rfl, rfl, rfl, by omega⟩
set_option maxHeartbeats 4000000 in
set_option maxRecDepth 100000 in
theorem k_X5_isHour (l : Launch) (D : va_G) (B : Nat → ClassId) (L : QL) (A : Nat → Prop) (σ : QS) (τ : Int64) (w : Int32)   : cW cntM gM l D B L A yX5_isHour wsX5_isHour 1 22 [.int w] σ τ (pI (fun x σ' τ' => σ' = σ ∧ τ' = τ ∧ ((x.toInt = 1 ∧ 0 ≤ w.toInt ∧ w.toInt ≤ 6000) ∨ (x.toInt = 0 ∧ (w.toInt < 0 ∨ 6000 < w.toInt))))) := by
  refine cW_of (cc := cX5_isHour) (nL := 1) (ret := (some .boolean)) (by decide) rfl (Nat.le_of_ble_eq_true rfl) ?_
  intro p e s m below meth c S hr hk K hH hS ls hl
  have l0 : (0 : Int32).toInt = 0 := by decide
  have l6000 : (6000 : Int32).toInt = 6000 := by decide
  have hl : lv_has ls 1 [(0, .int w)] := hl
  refine lv_iload_n S.1 S.2.1 dX5_isHour_0 rfl (lv_at hl 0 rfl) ?_
  refine lv_iconst (v := 0) S.1 S.2.1 dX5_isHour_1 (by decide) ?_
  refine lv_sipush (v := 6000) S.1 S.2.1 dX5_isHour_2 (by decide) ?_
  refine cW_bpi (cW_S (n := 3) (As := [.int w, .int 0, .int 6000]) (rest := []) S K hH (k_X5_isIn l D B L A σ τ w 0 6000 ) gX5_isHour_X5_isIn rfl hdS_X5_isIn ⟨Nat.le_of_ble_eq_true rfl, Nat.le_of_ble_eq_true rfl⟩ rfl hl.1 (Nat.le_of_ble_eq_true rfl) dX5_isHour_5) hS (fun v1 H locs q1 hH hS => ?_)
  refine cW_zret S hr hk hH hS (nz (by omega)) ?_ dX5_isHour_8
  exact ⟨v1, rfl, rfl, rfl, by omega⟩
set_option maxHeartbeats 4000000 in
set_option maxRecDepth 100000 in
theorem k_X5_isCart (l : Launch) (D : va_G) (B : Nat → ClassId) (L : QL) (A : Nat → Prop) (σ : QS) (τ : Int64) (n9 : Int32)  (hI : InvM σ) : cW cntM gM l D B L A yX5_isCart wsX5_isCart 0 0 [.ref (L 0 0), .int n9] σ τ (pI (fun x σ' τ' => σ' = σ ∧ τ' = τ ∧ ((x.toInt = 1 ∧ 0 ≤ n9.toInt ∧ n9.toInt ≤ 11 ∧ n9.toInt < (σ 2 0 0).toInt) ∨ (x.toInt = 0 ∧ (n9.toInt < 0 ∨ (σ 2 0 0).toInt ≤ n9.toInt))))) := by
  refine cW_of (cc := cX5_isCart) (nL := 2) (ret := (some .boolean)) (by decide) rfl (Nat.le_of_ble_eq_true rfl) ?_
  intro p e s m below meth c S hr hk K hH hS ls hl
  have hnX5 : ∀ w ∈ wsX50, w ∈ wsX5_isCart := fun w h => mG (tX5 w h)
  have l0 : (0 : Int32).toInt = 0 := by decide
  have l1 : (1 : Int32).toInt = 1 := by decide
  have hl : lv_has ls 2 [(0, .ref (L 0 0)), (1, .int n9)] := hl
  refine lv_iload_n S.1 S.2.1 dX5_isCart_0 rfl (lv_at hl 1 rfl) ?_
  refine lv_if_lt (tgt := 16) S.1 S.2.1 dX5_isCart_1 (by decide) (fun c1 => ?_) (fun c1 => ?_)
  · have j1 := t_lt c1
    refine lv_iconst (v := 0) S.1 S.2.1 dX5_isCart_16 (by decide) ?_
    refine cW_zret S hr hk hH hS (by decide) ?_ dX5_isCart_17
    exact ⟨0, rfl, rfl, rfl, by omega⟩
  · have j1 := t_nlt c1
    refine lv_iload_n S.1 S.2.1 dX5_isCart_4 rfl (lv_at hl 1 rfl) ?_
    refine lv_aload_n S.1 S.2.1 dX5_isCart_5 rfl (lv_at hl 0 rfl) ?_
    refine rM_0_2 S hnX5 K hH (mG wd_335) dX5_isCart_6 ?_
    refine lv_topi (fun v2 e2 => ?_)
    have b2 : 0 ≤ v2.toInt ∧ v2.toInt ≤ 12 := by rw [e2]; exact hI.1 2 0 0
    have fv2 : v2.toInt = (σ 2 0 0).toInt := by rw [e2]
    refine lv_icmp_ge (tgt := 16) S.1 S.2.1 dX5_isCart_9 (by decide) (fun c3 => ?_) (fun c3 => ?_)
    · have j3 := t_le c3
      refine lv_iconst (v := 0) S.1 S.2.1 dX5_isCart_16 (by decide) ?_
      refine cW_zret S hr hk hH hS (by decide) ?_ dX5_isCart_17
      exact ⟨0, rfl, rfl, rfl, by omega⟩
    · have j3 := t_nle c3
      refine lv_iconst (v := 1) S.1 S.2.1 dX5_isCart_12 (by decide) ?_
      refine lv_goto (tgt := 17) S.1 S.2.1 dX5_isCart_13 (by decide) ?_
      refine cW_zret S hr hk hH hS (by decide) ?_ dX5_isCart_17
      exact ⟨1, rfl, rfl, rfl, by omega⟩
set_option maxHeartbeats 4000000 in
set_option maxRecDepth 100000 in
theorem k_X5_isBusy (l : Launch) (D : va_G) (B : Nat → ClassId) (L : QL) (A : Nat → Prop) (σ : QS) (τ : Int64) (a : Int32)  (hI : InvM σ) : cW cntM gM l D B L A yX5_isBusy wsX5_isBusy 0 0 [.ref (L 0 0), .int a] σ τ (pI (fun x σ' τ' => σ' = σ ∧ τ' = τ ∧ (x.toInt = 0 ∨ x.toInt = 1))) := by
  refine cW_of (cc := cX5_isBusy) (nL := 3) (ret := (some .boolean)) (by decide) rfl (Nat.le_of_ble_eq_true rfl) ?_
  intro p e s m below meth c S hr hk K hH hS ls hl
  have hnX5 : ∀ w ∈ wsX50, w ∈ wsX5_isBusy := fun w h => mG (tX5 w h)
  have l0 : (0 : Int32).toInt = 0 := by decide
  have l1 : (1 : Int32).toInt = 1 := by decide
  have hl : lv_has ls 3 [(0, .ref (L 0 0)), (1, .int a)] := hl
  refine lv_iconst (v := 0) S.1 S.2.1 dX5_isBusy_0 (by decide) ?_
  refine lv_istore_n (lv' := [(2, .int 0), (0, .ref (L 0 0)), (1, .int a)]) S.1 S.2.1 dX5_isBusy_1 rfl hl (by decide) rfl (fun ls hl => ?_)
  have cut_2_1 : ∀ (n : Nat) (x2_1 : Int32)  (H : Heap) (locs : List Loc) (ls : Array Slot), (60 - x2_1.toInt).toNat < n → 0 ≤ x2_1.toInt ∧ x2_1.toInt ≤ 60 → hW cntM gM D B L σ τ H → va_S A s.heap H locs → lv_has ls 3 [(0, .ref (L 0 0)), (1, .int a), (2, .int x2_1)] → W p l e { frames := 0, cells := 0, slots := 0, locals := 0 } s m [.ref (L 0 0), .int a].toArray below meth c H locs 0 0 (MQ below (QcW cntM gM D B L A (pI (fun x σ' τ' => σ' = σ ∧ τ' = τ ∧ (x.toInt = 0 ∨ x.toInt = 1)))) [.ref (L 0 0), .int a].toArray s 0 0 A) (F0 m 2 ls []) := by
    intro n
    induction n with
    | zero => intro x2_1 H locs ls hm; exact absurd hm (Nat.not_lt_zero _)
    | succ n ih1 =>
      intro x2_1 H locs ls hm1 h1_0 hH hS hl
      refine lv_iload_n S.1 S.2.1 dX5_isBusy_2 rfl (lv_at hl 2 rfl) ?_
      refine lv_aload_n S.1 S.2.1 dX5_isBusy_3 rfl (lv_at hl 0 rfl) ?_
      refine rM_0_4 S hnX5 K hH (mG wd_336) dX5_isBusy_4 ?_
      refine lv_topi (fun v2 e2 => ?_)
      have b2 : 0 ≤ v2.toInt ∧ v2.toInt ≤ 60 := by rw [e2]; exact hI.1 4 0 0
      refine lv_icmp_ge (tgt := 28) S.1 S.2.1 dX5_isBusy_7 (by decide) (fun c3 => ?_) (fun c3 => ?_)
      · have j3 := t_le c3
        refine lv_iconst (v := 0) S.1 S.2.1 dX5_isBusy_28 (by decide) ?_
        refine cW_zret S hr hk hH hS (by decide) ?_ dX5_isBusy_29
        exact ⟨0, rfl, rfl, rfl, by omega⟩
      · have j3 := t_nle c3
        refine lv_aload_n S.1 S.2.1 dX5_isBusy_10 rfl (lv_at hl 0 rfl) ?_
        refine rM_0_21 S hnX5 K hH (mG wd_322) dX5_isBusy_11 ?_
        refine lv_iload_n S.1 S.2.1 dX5_isBusy_14 rfl (lv_at hl 2 rfl) ?_
        refine lM_21 S K hH (vin (by omega) (by omega)) dX5_isBusy_15 ?_
        refine lv_topi (fun v4 e4 => ?_)
        have b4 : (-1) ≤ v4.toInt ∧ v4.toInt ≤ 11 := by rw [e4]; exact hI.1 21 0 x2_1.toNatClampNeg
        refine lv_iload_n S.1 S.2.1 dX5_isBusy_16 rfl (lv_at hl 1 rfl) ?_
        refine lv_icmp_ne (tgt := 22) S.1 S.2.1 dX5_isBusy_17 (by decide) (fun c5 => ?_) (fun c5 => ?_)
        · have j5 := t_neq c5
          obtain ⟨v6, e6⟩ : ∃ y_9 : Int32, y_9 = x2_1 + 1 := ⟨_, rfl⟩
          have i6 : v6.toInt = x2_1.toInt + 1 := i_addc e6 (by decide) (by omega) (by omega)
          refine lv_iinc (v := v6) (lv' := [(2, .int v6), (0, .ref (L 0 0)), (1, .int a)]) S.1 S.2.1 dX5_isBusy_22 hl (k := 2) rfl (by rw [e6]; rfl) (by decide) rfl (fun ls hl => ?_)
          refine lv_goto (tgt := 2) S.1 S.2.1 dX5_isBusy_25 (by decide) ?_
          exact ih1 v6 _ _ ls (by omega) (by omega) hH hS (lv_sub hl [1, 2, 0] rfl)
        · have j5 := t_eq c5
          refine lv_iconst (v := 1) S.1 S.2.1 dX5_isBusy_20 (by decide) ?_
          refine cW_zret S hr hk hH hS (by decide) ?_ dX5_isBusy_21
          exact ⟨1, rfl, rfl, rfl, by omega⟩
  exact cut_2_1 _ 0 _ _ ls (Nat.lt_succ_self _) (by omega) hH hS (lv_sub hl [1, 2, 0] rfl)
set_option maxHeartbeats 4000000 in
set_option maxRecDepth 100000 in
theorem k_X5_forget (l : Launch) (D : va_G) (B : Nat → ClassId) (L : QL) (A : Nat → Prop) (σ : QS) (τ : Int64)   (hI : InvM σ) : cW cntM gM l D B L A yX5_forget wsX5_forget 0 0 [.ref (L 0 0)] σ τ (pV (fun σ' τ' => InvM σ' ∧ Keep [17] σ σ' ∧ τ' = τ ∧ True)) := by
  refine cW_of (cc := cX5_forget) (nL := 1) (ret := none) (by decide) rfl (Nat.le_of_ble_eq_true rfl) ?_
  intro p e s m below meth c S hr hk K hH hS ls hl
  have hnX5 : ∀ w ∈ wsX50, w ∈ wsX5_forget := fun w h => mG (tX5 w h)
  have l1 : (1 : Int32).toInt = 1 := by decide
  have hP : Keep [17] σ σ := Keep_r
  have hl : lv_has ls 1 [(0, .ref (L 0 0))] := hl
  refine lv_aload_n S.1 S.2.1 dX5_forget_0 rfl (lv_at hl 0 rfl) ?_
  refine lv_dup S.1 S.2.1 dX5_forget_1 rfl ?_
  refine rM_0_17 S hnX5 K hH (mG wd_318) dX5_forget_2 ?_
  refine lv_topi (fun v1 e1 => ?_)
  refine lv_iconst (v := 1) S.1 S.2.1 dX5_forget_5 (by decide) ?_
  refine lv_iadd S.1 S.2.1 dX5_forget_6 ?_
  refine lv_topi (fun v2 e2 => ?_)
  refine pM_0_17 S hnX5 K hH hS (mG wd_318) dX5_forget_7 (fun H locs hH hS => ?_)
  obtain ⟨σ3, eσ3⟩ : ∃ z_9 : QS, z_9 = rs σ 17 0 (fun _ => v2) := ⟨_, rfl⟩
  rw [← eσ3] at hH
  have hI := InvM_f eσ3 hI (by decide) (any32 _)
  have hP := Keep_w eσ3 hP (by decide)
  refine cW_vret S hr hk hH hS ?_ dX5_forget_10
  exact ⟨rfl, hI, hP, rfl, by trivial⟩
set_option maxHeartbeats 4000000 in
set_option maxRecDepth 100000 in
theorem k_X5_cart (l : Launch) (D : va_G) (B : Nat → ClassId) (L : QL) (A : Nat → Prop) (σ : QS) (τ : Int64) (a : Int32) (h : Int32) (r : Int32) (f : Int32) (z : Int32)  (hI : InvM σ) : cW cntM gM l D B L A yX5_cart wsX5_cart 1 22 [.ref (L 0 0), .int a, .int h, .int r, .int f, .int z] σ τ (pI (fun x σ' τ' => InvM σ' ∧ Keep [0, 5, 6, 7, 8, 9, 11, 12, 2, 17] σ σ' ∧ τ' = τ ∧ ((x.toInt = -1 ∧ σ' 2 = σ 2 ∧ ¬ (0 ≤ a.toInt ∧ a.toInt ≤ 127 ∧ 0 ≤ h.toInt ∧ h.toInt ≤ 23 ∧ 0 ≤ r.toInt ∧ r.toInt ≤ 50 ∧ 0 ≤ f.toInt ∧ f.toInt ≤ 20 ∧ 0 ≤ z.toInt ∧ z.toInt ≤ 11 ∧ (σ 2 0 0).toInt < 12)) ∨ ((0 ≤ a.toInt ∧ a.toInt ≤ 127 ∧ 0 ≤ h.toInt ∧ h.toInt ≤ 23 ∧ 0 ≤ r.toInt ∧ r.toInt ≤ 50 ∧ 0 ≤ f.toInt ∧ f.toInt ≤ 20 ∧ 0 ≤ z.toInt ∧ z.toInt ≤ 11 ∧ (σ 2 0 0).toInt < 12) ∧ x.toInt = (σ 2 0 0).toInt ∧ (σ' 2 0 0).toInt = (σ 2 0 0).toInt + 1)))) := by
  refine cW_of (cc := cX5_cart) (nL := 6) (ret := (some .int)) (by decide) rfl (Nat.le_of_ble_eq_true rfl) ?_
  intro p e s m below meth c S hr hk K hH hS ls hl
  have hnX5 : ∀ w ∈ wsX50, w ∈ wsX5_cart := fun w h => mG (tX5 w h)
  have lm1 : ((-1) : Int32).toInt = -1 := by decide
  have l0 : (0 : Int32).toInt = 0 := by decide
  have l1 : (1 : Int32).toInt = 1 := by decide
  have l6 : (6 : Int32).toInt = 6 := by decide
  have l12 : (12 : Int32).toInt = 12 := by decide
  have l20 : (20 : Int32).toInt = 20 := by decide
  have l23 : (23 : Int32).toInt = 23 := by decide
  have l50 : (50 : Int32).toInt = 50 := by decide
  have l127 : (127 : Int32).toInt = 127 := by decide
  have hP : Keep [0, 5, 6, 7, 8, 9, 11, 12, 2, 17] σ σ := Keep_r
  have hl : lv_has ls 6 [(0, .ref (L 0 0)), (1, .int a), (2, .int h), (3, .int r), (4, .int f), (5, .int z)] := hl
  refine lv_aload_n S.1 S.2.1 dX5_cart_0 rfl (lv_at hl 0 rfl) ?_
  refine lv_iconst (v := 0) S.1 S.2.1 dX5_cart_1 (by decide) ?_
  refine pM_0_0 S hnX5 K hH hS (mG wd_337) dX5_cart_2 (fun H locs hH hS => ?_)
  obtain ⟨σ1, eσ1⟩ : ∃ z_9 : QS, z_9 = rs σ 0 0 (fun _ => 0) := ⟨_, rfl⟩
  rw [← eσ1] at hH
  have hI := InvM_f eσ1 hI (by decide) (any32 _)
  have hP := Keep_w eσ1 hP (by decide)
  refine lv_aload_n S.1 S.2.1 dX5_cart_5 rfl (lv_at hl 0 rfl) ?_
  refine rM_0_2 S hnX5 K hH (mG wd_335) dX5_cart_6 ?_
  refine lv_topi (fun v2 e2 => ?_)
  have b2 : 0 ≤ v2.toInt ∧ v2.toInt ≤ 12 := by rw [e2]; exact hI.1 2 0 0
  have fv2 : v2.toInt = (σ 2 0 0).toInt := by rw [e2, eσ1, rs_v (by decide)]
  refine lv_bipush (v := 12) S.1 S.2.1 dX5_cart_9 (by decide) ?_
  refine lv_icmp_eq (tgt := 63) S.1 S.2.1 dX5_cart_11 (by decide) (fun c3 => ?_) (fun c3 => ?_)
  · have j3 := t_eq c3
    refine lv_iconst (v := (-1)) S.1 S.2.1 dX5_cart_63 (by decide) ?_
    refine cW_iret S hr hk hH hS ?_ dX5_cart_64
    exact ⟨(-1), rfl, hI, hP, rfl, by exact Or.inl ⟨by decide, by rw [eσ1, rs_v (by decide)], by omega⟩⟩
  · have j3 := t_neq c3
    refine lv_iload_n S.1 S.2.1 dX5_cart_14 rfl (lv_at hl 1 rfl) ?_
    refine lv_iconst (v := 0) S.1 S.2.1 dX5_cart_15 (by decide) ?_
    refine lv_bipush (v := 127) S.1 S.2.1 dX5_cart_16 (by decide) ?_
    refine cW_bpi (cW_S (n := 3) (As := [.int a, .int 0, .int 127]) (rest := []) S K hH (k_X5_isIn l D B L A σ1 τ a 0 127 ) gX5_cart_X5_isIn rfl hdS_X5_isIn ⟨Nat.le_of_ble_eq_true rfl, Nat.le_of_ble_eq_true rfl⟩ rfl hl.1 (Nat.le_of_ble_eq_true rfl) dX5_cart_18) hS (fun v4 H locs q4 hH hS => ?_)
    refine lv_if_eq (tgt := 63) S.1 S.2.1 dX5_cart_21 (by decide) (fun c5 => ?_) (fun c5 => ?_)
    · have j5 := t_eq c5
      refine lv_iconst (v := (-1)) S.1 S.2.1 dX5_cart_63 (by decide) ?_
      refine cW_iret S hr hk hH hS ?_ dX5_cart_64
      exact ⟨(-1), rfl, hI, hP, rfl, by exact Or.inl ⟨by decide, by rw [eσ1, rs_v (by decide)], by omega⟩⟩
    · have j5 := t_neq c5
      refine lv_iload_n S.1 S.2.1 dX5_cart_24 rfl (lv_at hl 2 rfl) ?_
      refine lv_iconst (v := 0) S.1 S.2.1 dX5_cart_25 (by decide) ?_
      refine lv_bipush (v := 23) S.1 S.2.1 dX5_cart_26 (by decide) ?_
      refine cW_bpi (cW_S (n := 3) (As := [.int h, .int 0, .int 23]) (rest := []) S K hH (k_X5_isIn l D B L A σ1 τ h 0 23 ) gX5_cart_X5_isIn rfl hdS_X5_isIn ⟨Nat.le_of_ble_eq_true rfl, Nat.le_of_ble_eq_true rfl⟩ rfl hl.1 (Nat.le_of_ble_eq_true rfl) dX5_cart_28) hS (fun v6 H locs q6 hH hS => ?_)
      refine lv_if_eq (tgt := 63) S.1 S.2.1 dX5_cart_31 (by decide) (fun c7 => ?_) (fun c7 => ?_)
      · have j7 := t_eq c7
        refine lv_iconst (v := (-1)) S.1 S.2.1 dX5_cart_63 (by decide) ?_
        refine cW_iret S hr hk hH hS ?_ dX5_cart_64
        exact ⟨(-1), rfl, hI, hP, rfl, by exact Or.inl ⟨by decide, by rw [eσ1, rs_v (by decide)], by omega⟩⟩
      · have j7 := t_neq c7
        refine lv_iload_n S.1 S.2.1 dX5_cart_34 rfl (lv_at hl 3 rfl) ?_
        refine lv_iconst (v := 0) S.1 S.2.1 dX5_cart_35 (by decide) ?_
        refine lv_bipush (v := 50) S.1 S.2.1 dX5_cart_36 (by decide) ?_
        refine cW_bpi (cW_S (n := 3) (As := [.int r, .int 0, .int 50]) (rest := []) S K hH (k_X5_isIn l D B L A σ1 τ r 0 50 ) gX5_cart_X5_isIn rfl hdS_X5_isIn ⟨Nat.le_of_ble_eq_true rfl, Nat.le_of_ble_eq_true rfl⟩ rfl hl.1 (Nat.le_of_ble_eq_true rfl) dX5_cart_38) hS (fun v8 H locs q8 hH hS => ?_)
        refine lv_if_eq (tgt := 63) S.1 S.2.1 dX5_cart_41 (by decide) (fun c9 => ?_) (fun c9 => ?_)
        · have j9 := t_eq c9
          refine lv_iconst (v := (-1)) S.1 S.2.1 dX5_cart_63 (by decide) ?_
          refine cW_iret S hr hk hH hS ?_ dX5_cart_64
          exact ⟨(-1), rfl, hI, hP, rfl, by exact Or.inl ⟨by decide, by rw [eσ1, rs_v (by decide)], by omega⟩⟩
        · have j9 := t_neq c9
          refine lv_iload S.1 S.2.1 dX5_cart_44 (lv_at hl 4 rfl) ?_
          refine lv_iconst (v := 0) S.1 S.2.1 dX5_cart_46 (by decide) ?_
          refine lv_bipush (v := 20) S.1 S.2.1 dX5_cart_47 (by decide) ?_
          refine cW_bpi (cW_S (n := 3) (As := [.int f, .int 0, .int 20]) (rest := []) S K hH (k_X5_isIn l D B L A σ1 τ f 0 20 ) gX5_cart_X5_isIn rfl hdS_X5_isIn ⟨Nat.le_of_ble_eq_true rfl, Nat.le_of_ble_eq_true rfl⟩ rfl hl.1 (Nat.le_of_ble_eq_true rfl) dX5_cart_49) hS (fun v10 H locs q10 hH hS => ?_)
          refine lv_if_eq (tgt := 63) S.1 S.2.1 dX5_cart_52 (by decide) (fun c11 => ?_) (fun c11 => ?_)
          · have j11 := t_eq c11
            refine lv_iconst (v := (-1)) S.1 S.2.1 dX5_cart_63 (by decide) ?_
            refine cW_iret S hr hk hH hS ?_ dX5_cart_64
            exact ⟨(-1), rfl, hI, hP, rfl, by exact Or.inl ⟨by decide, by rw [eσ1, rs_v (by decide)], by omega⟩⟩
          · have j11 := t_neq c11
            refine lv_iload S.1 S.2.1 dX5_cart_55 (lv_at hl 5 rfl) ?_
            refine cW_bpi (cW_S (n := 1) (As := [.int z]) (rest := []) S K hH (k_X5_isPlace l D B L A σ1 τ z ) gX5_cart_X5_isPlace rfl hdS_X5_isPlace ⟨Nat.le_of_ble_eq_true rfl, Nat.le_of_ble_eq_true rfl⟩ rfl hl.1 (Nat.le_of_ble_eq_true rfl) dX5_cart_57) hS (fun v12 H locs q12 hH hS => ?_)
            refine lv_if_ne (tgt := 65) S.1 S.2.1 dX5_cart_60 (by decide) (fun c13 => ?_) (fun c13 => ?_)
            · have j13 := t_neq c13
              refine lv_aload_n S.1 S.2.1 dX5_cart_65 rfl (lv_at hl 0 rfl) ?_
              refine rM_0_5 S hnX5 K hH (mG wd_303) dX5_cart_66 ?_
              refine lv_aload_n S.1 S.2.1 dX5_cart_69 rfl (lv_at hl 0 rfl) ?_
              refine rM_0_2 S hnX5 K hH (mG wd_335) dX5_cart_70 ?_
              refine lv_topi (fun v14 e14 => ?_)
              have b14 : 0 ≤ v14.toInt ∧ v14.toInt ≤ 12 := by rw [e14]; exact hI.1 2 0 0
              have k14 : v14.toInt = v2.toInt := by rw [e14]; rw [← e2]
              refine lv_iload_n S.1 S.2.1 dX5_cart_73 rfl (lv_at hl 1 rfl) ?_
              refine sM_5 S K hH hS (vin (by omega) (by omega)) dX5_cart_74 (fun H locs hH hS => ?_)
              obtain ⟨σ15, eσ15⟩ : ∃ z_9 : QS, z_9 = rs σ1 5 0 (upd (σ1 5 0) v14.toNatClampNeg a) := ⟨_, rfl⟩
              rw [← eσ15] at hH
              have hI := InvM_a eσ15 hI (by decide) (any32 _)
              have hP := Keep_w eσ15 hP (by decide)
              refine lv_aload_n S.1 S.2.1 dX5_cart_75 rfl (lv_at hl 0 rfl) ?_
              refine rM_0_6 S hnX5 K hH (mG wd_304) dX5_cart_76 ?_
              refine lv_aload_n S.1 S.2.1 dX5_cart_79 rfl (lv_at hl 0 rfl) ?_
              refine rM_0_2 S hnX5 K hH (mG wd_335) dX5_cart_80 ?_
              refine lv_topi (fun v16 e16 => ?_)
              have b16 : 0 ≤ v16.toInt ∧ v16.toInt ≤ 12 := by rw [e16]; exact hI.1 2 0 0
              have k16 : v16.toInt = v2.toInt := by rw [e16, eσ15, rs_v (by decide)]; rw [← e2]
              refine lv_iload_n S.1 S.2.1 dX5_cart_83 rfl (lv_at hl 2 rfl) ?_
              refine sM_6 S K hH hS (vin (by omega) (by omega)) dX5_cart_84 (fun H locs hH hS => ?_)
              obtain ⟨σ17, eσ17⟩ : ∃ z_9 : QS, z_9 = rs σ15 6 0 (upd (σ15 6 0) v16.toNatClampNeg h) := ⟨_, rfl⟩
              rw [← eσ17] at hH
              have hI := InvM_a eσ17 hI (by decide) (show (0 : Int) ≤ h.toInt ∧ h.toInt ≤ 23 by omega)
              have hP := Keep_w eσ17 hP (by decide)
              refine lv_aload_n S.1 S.2.1 dX5_cart_85 rfl (lv_at hl 0 rfl) ?_
              refine rM_0_7 S hnX5 K hH (mG wd_305) dX5_cart_86 ?_
              refine lv_aload_n S.1 S.2.1 dX5_cart_89 rfl (lv_at hl 0 rfl) ?_
              refine rM_0_2 S hnX5 K hH (mG wd_335) dX5_cart_90 ?_
              refine lv_topi (fun v18 e18 => ?_)
              have b18 : 0 ≤ v18.toInt ∧ v18.toInt ≤ 12 := by rw [e18]; exact hI.1 2 0 0
              have k18 : v18.toInt = v2.toInt := by rw [e18, eσ17, rs_v (by decide), eσ15, rs_v (by decide)]; rw [← e2]
              refine lv_iload_n S.1 S.2.1 dX5_cart_93 rfl (lv_at hl 3 rfl) ?_
              refine sM_7 S K hH hS (vin (by omega) (by omega)) dX5_cart_94 (fun H locs hH hS => ?_)
              obtain ⟨σ19, eσ19⟩ : ∃ z_9 : QS, z_9 = rs σ17 7 0 (upd (σ17 7 0) v18.toNatClampNeg r) := ⟨_, rfl⟩
              rw [← eσ19] at hH
              have hI := InvM_a eσ19 hI (by decide) (any32 _)
              have hP := Keep_w eσ19 hP (by decide)
              refine lv_aload_n S.1 S.2.1 dX5_cart_95 rfl (lv_at hl 0 rfl) ?_
              refine rM_0_8 S hnX5 K hH (mG wd_306) dX5_cart_96 ?_
              refine lv_aload_n S.1 S.2.1 dX5_cart_99 rfl (lv_at hl 0 rfl) ?_
              refine rM_0_2 S hnX5 K hH (mG wd_335) dX5_cart_100 ?_
              refine lv_topi (fun v20 e20 => ?_)
              have b20 : 0 ≤ v20.toInt ∧ v20.toInt ≤ 12 := by rw [e20]; exact hI.1 2 0 0
              have k20 : v20.toInt = v2.toInt := by rw [e20, eσ19, rs_v (by decide), eσ17, rs_v (by decide), eσ15, rs_v (by decide)]; rw [← e2]
              refine lv_iload S.1 S.2.1 dX5_cart_103 (lv_at hl 4 rfl) ?_
              refine sM_8 S K hH hS (vin (by omega) (by omega)) dX5_cart_105 (fun H locs hH hS => ?_)
              obtain ⟨σ21, eσ21⟩ : ∃ z_9 : QS, z_9 = rs σ19 8 0 (upd (σ19 8 0) v20.toNatClampNeg f) := ⟨_, rfl⟩
              rw [← eσ21] at hH
              have hI := InvM_a eσ21 hI (by decide) (any32 _)
              have hP := Keep_w eσ21 hP (by decide)
              refine lv_aload_n S.1 S.2.1 dX5_cart_106 rfl (lv_at hl 0 rfl) ?_
              refine rM_0_9 S hnX5 K hH (mG wd_307) dX5_cart_107 ?_
              refine lv_aload_n S.1 S.2.1 dX5_cart_110 rfl (lv_at hl 0 rfl) ?_
              refine rM_0_2 S hnX5 K hH (mG wd_335) dX5_cart_111 ?_
              refine lv_topi (fun v22 e22 => ?_)
              have b22 : 0 ≤ v22.toInt ∧ v22.toInt ≤ 12 := by rw [e22]; exact hI.1 2 0 0
              have k22 : v22.toInt = v2.toInt := by rw [e22, eσ21, rs_v (by decide), eσ19, rs_v (by decide), eσ17, rs_v (by decide), eσ15, rs_v (by decide)]; rw [← e2]
              refine lv_iconst (v := 1) S.1 S.2.1 dX5_cart_114 (by decide) ?_
              refine sM_9 S K hH hS (vin (by omega) (by omega)) dX5_cart_115 (fun H locs hH hS => ?_)
              obtain ⟨σ23, eσ23⟩ : ∃ z_9 : QS, z_9 = rs σ21 9 0 (upd (σ21 9 0) v22.toNatClampNeg 1) := ⟨_, rfl⟩
              rw [← eσ23] at hH
              have hI : InvM σ23 := InvM_stops eσ23 hI (by omega)
              have hP := Keep_w eσ23 hP (by decide)
              have st1 : (σ23 9 0 (v22).toNatClampNeg).toInt = 1 := by rw [eσ23, rs_self]; unfold upd; rw [if_pos rfl]; decide
              refine lv_aload_n S.1 S.2.1 dX5_cart_116 rfl (lv_at hl 0 rfl) ?_
              refine rM_0_11 S hnX5 K hH (mG wd_309) dX5_cart_117 ?_
              refine lv_bipush (v := 6) S.1 S.2.1 dX5_cart_120 (by decide) ?_
              refine lv_aload_n S.1 S.2.1 dX5_cart_122 rfl (lv_at hl 0 rfl) ?_
              refine rM_0_2 S hnX5 K hH (mG wd_335) dX5_cart_123 ?_
              refine lv_topi (fun v24 e24 => ?_)
              have b24 : 0 ≤ v24.toInt ∧ v24.toInt ≤ 12 := by rw [e24]; exact hI.1 2 0 0
              have k24 : v24.toInt = v2.toInt := by rw [e24, eσ23, rs_v (by decide), eσ21, rs_v (by decide), eσ19, rs_v (by decide), eσ17, rs_v (by decide), eσ15, rs_v (by decide)]; rw [← e2]
              refine lv_imul S.1 S.2.1 dX5_cart_126 ?_
              refine lv_topi (fun v25 e25 => ?_)
              have i25 : v25.toInt = 6 * v24.toInt := i_mulcl e25 (by decide) (by omega) (by omega)
              refine lv_iload S.1 S.2.1 dX5_cart_127 (lv_at hl 5 rfl) ?_
              refine sM_11 S K hH hS (vin (by omega) (by omega)) dX5_cart_129 (fun H locs hH hS => ?_)
              obtain ⟨σ26, eσ26⟩ : ∃ z_9 : QS, z_9 = rs σ23 11 0 (upd (σ23 11 0) v25.toNatClampNeg z) := ⟨_, rfl⟩
              rw [← eσ26] at hH
              have hI := InvM_a eσ26 hI (by decide) (show (0 : Int) ≤ z.toInt ∧ z.toInt ≤ 11 by omega)
              have hP := Keep_w eσ26 hP (by decide)
              have st1 : (σ26 9 0 (v22).toNatClampNeg).toInt = 1 := by rw [eσ26, rs_v (by decide)]; exact st1
              refine lv_aload_n S.1 S.2.1 dX5_cart_130 rfl (lv_at hl 0 rfl) ?_
              refine rM_0_12 S hnX5 K hH (mG wd_310) dX5_cart_131 ?_
              refine lv_bipush (v := 6) S.1 S.2.1 dX5_cart_134 (by decide) ?_
              refine lv_aload_n S.1 S.2.1 dX5_cart_136 rfl (lv_at hl 0 rfl) ?_
              refine rM_0_2 S hnX5 K hH (mG wd_335) dX5_cart_137 ?_
              refine lv_topi (fun v27 e27 => ?_)
              have b27 : 0 ≤ v27.toInt ∧ v27.toInt ≤ 12 := by rw [e27]; exact hI.1 2 0 0
              have k27 : v27.toInt = v2.toInt := by rw [e27, eσ26, rs_v (by decide), eσ23, rs_v (by decide), eσ21, rs_v (by decide), eσ19, rs_v (by decide), eσ17, rs_v (by decide), eσ15, rs_v (by decide)]; rw [← e2]
              refine lv_imul S.1 S.2.1 dX5_cart_140 ?_
              refine lv_topi (fun v28 e28 => ?_)
              have i28 : v28.toInt = 6 * v27.toInt := i_mulcl e28 (by decide) (by omega) (by omega)
              refine lv_iconst (v := 0) S.1 S.2.1 dX5_cart_141 (by decide) ?_
              refine sM_12 S K hH hS (vin (by omega) (by omega)) dX5_cart_142 (fun H locs hH hS => ?_)
              obtain ⟨σ29, eσ29⟩ : ∃ z_9 : QS, z_9 = rs σ26 12 0 (upd (σ26 12 0) v28.toNatClampNeg 0) := ⟨_, rfl⟩
              rw [← eσ29] at hH
              have hI := InvM_a eσ29 hI (by decide) (show (0 : Int) ≤ (0 : Int32).toInt ∧ (0 : Int32).toInt ≤ 60 by omega)
              have hP := Keep_w eσ29 hP (by decide)
              have st1 : (σ29 9 0 (v22).toNatClampNeg).toInt = 1 := by rw [eσ29, rs_v (by decide)]; exact st1
              refine lv_aload_n S.1 S.2.1 dX5_cart_143 rfl (lv_at hl 0 rfl) ?_
              refine lv_dup S.1 S.2.1 dX5_cart_144 rfl ?_
              refine rM_0_2 S hnX5 K hH (mG wd_335) dX5_cart_145 ?_
              refine lv_topi (fun v30 e30 => ?_)
              have b30 : 0 ≤ v30.toInt ∧ v30.toInt ≤ 12 := by rw [e30]; exact hI.1 2 0 0
              have k30 : v30.toInt = v2.toInt := by rw [e30, eσ29, rs_v (by decide), eσ26, rs_v (by decide), eσ23, rs_v (by decide), eσ21, rs_v (by decide), eσ19, rs_v (by decide), eσ17, rs_v (by decide), eσ15, rs_v (by decide)]; rw [← e2]
              refine lv_iconst (v := 1) S.1 S.2.1 dX5_cart_148 (by decide) ?_
              refine lv_iadd S.1 S.2.1 dX5_cart_149 ?_
              refine lv_topi (fun v31 e31 => ?_)
              have i31 : v31.toInt = v30.toInt + (1 : Int32).toInt := i_add e31 (by omega) (by omega)
              refine pM_0_2 S hnX5 K hH hS (mG wd_335) dX5_cart_150 (fun H locs hH hS => ?_)
              obtain ⟨σ32, eσ32⟩ : ∃ z_9 : QS, z_9 = rs σ29 2 0 (fun _ => v31) := ⟨_, rfl⟩
              rw [← eσ32] at hH
              have hI : InvM σ32 := InvM_carts (c := v22) eσ32 hI e30 (by omega) (by omega) (by omega) st1
              have hP := Keep_w eσ32 hP (by decide)
              refine lv_aload_n S.1 S.2.1 dX5_cart_153 rfl (lv_at hl 0 rfl) ?_
              refine cW_bv (cW_V (n := 0) (As := []) (rest := []) (k := 0) (i := 0) S K hH (by decide) rfl rfl (k_X5_forget l D B L A σ32 τ  hI) gX5_cart_X5_forget rfl hdV_X5_forget ⟨Nat.le_of_ble_eq_true rfl, Nat.le_of_ble_eq_true rfl⟩ rfl hl.1 (Nat.le_of_ble_eq_true rfl) dX5_cart_154) hS (fun σ33 τ33 H locs q33 hH hS => ?_)
              obtain ⟨hI, hP33, hτ33, q33⟩ := q33
              rw [hτ33] at hH
              have hP := Keep_t hP hP33 (by decide)
              refine lv_aload_n S.1 S.2.1 dX5_cart_157 rfl (lv_at hl 0 rfl) ?_
              refine rM_0_2 S hnX5 K hH (mG wd_335) dX5_cart_158 ?_
              refine lv_topi (fun v34 e34 => ?_)
              have b34 : 0 ≤ v34.toInt ∧ v34.toInt ≤ 12 := by rw [e34]; exact hI.1 2 0 0
              have k34 : v34.toInt = v31.toInt := by rw [e34, hP33 2 (by decide), eσ32, rs_self]
              refine lv_iconst (v := 1) S.1 S.2.1 dX5_cart_161 (by decide) ?_
              refine lv_isub S.1 S.2.1 dX5_cart_162 ?_
              refine lv_topi (fun v35 e35 => ?_)
              have i35 : v35.toInt = v34.toInt - (1 : Int32).toInt := i_sub e35 (by omega) (by omega)
              refine cW_iret S hr hk hH hS ?_ dX5_cart_163
              exact ⟨v35, rfl, hI, hP, rfl, by refine Or.inr ?_; rw [hP33 2 (by decide), eσ32, rs_self]; omega⟩
            · have j13 := t_eq c13
              refine lv_iconst (v := (-1)) S.1 S.2.1 dX5_cart_63 (by decide) ?_
              refine cW_iret S hr hk hH hS ?_ dX5_cart_64
              exact ⟨(-1), rfl, hI, hP, rfl, by exact Or.inl ⟨by decide, by rw [eσ1, rs_v (by decide)], by omega⟩⟩
set_option maxHeartbeats 4000000 in
set_option maxRecDepth 100000 in
theorem k_X5_stop (l : Launch) (D : va_G) (B : Nat → ClassId) (L : QL) (A : Nat → Prop) (σ : QS) (τ : Int64) (a : Int32) (b : Int32) (z : Int32)  (hI : InvM σ) : cW cntM gM l D B L A yX5_stop wsX5_stop 1 22 [.ref (L 0 0), .int a, .int b, .int z] σ τ (pI (fun x σ' τ' => InvM σ' ∧ Keep [0, 11, 12, 9, 17] σ σ' ∧ τ' = τ ∧ True)) := by
  refine cW_of (cc := cX5_stop) (nL := 4) (ret := (some .int)) (by decide) rfl (Nat.le_of_ble_eq_true rfl) ?_
  intro p e s m below meth c S hr hk K hH hS ls hl
  have hnX5 : ∀ w ∈ wsX50, w ∈ wsX5_stop := fun w h => mG (tX5 w h)
  have lm1 : ((-1) : Int32).toInt = -1 := by decide
  have l0 : (0 : Int32).toInt = 0 := by decide
  have l1 : (1 : Int32).toInt = 1 := by decide
  have l6 : (6 : Int32).toInt = 6 := by decide
  have l60 : (60 : Int32).toInt = 60 := by decide
  have hP : Keep [0, 11, 12, 9, 17] σ σ := Keep_r
  have hl : lv_has ls 4 [(0, .ref (L 0 0)), (1, .int a), (2, .int b), (3, .int z)] := hl
  refine lv_aload_n S.1 S.2.1 dX5_stop_0 rfl (lv_at hl 0 rfl) ?_
  refine lv_iconst (v := 0) S.1 S.2.1 dX5_stop_1 (by decide) ?_
  refine pM_0_0 S hnX5 K hH hS (mG wd_337) dX5_stop_2 (fun H locs hH hS => ?_)
  obtain ⟨σ1, eσ1⟩ : ∃ z_9 : QS, z_9 = rs σ 0 0 (fun _ => 0) := ⟨_, rfl⟩
  rw [← eσ1] at hH
  have hI := InvM_f eσ1 hI (by decide) (any32 _)
  have hP := Keep_w eσ1 hP (by decide)
  refine lv_aload_n S.1 S.2.1 dX5_stop_5 rfl (lv_at hl 0 rfl) ?_
  refine lv_iload_n S.1 S.2.1 dX5_stop_6 rfl (lv_at hl 1 rfl) ?_
  refine cW_bpi (cW_V (n := 1) (As := [.int a]) (rest := []) (k := 0) (i := 0) S K hH (by decide) rfl rfl (k_X5_isCart l D B L A σ1 τ a hI) gX5_stop_X5_isCart rfl hdV_X5_isCart ⟨Nat.le_of_ble_eq_true rfl, Nat.le_of_ble_eq_true rfl⟩ rfl hl.1 (Nat.le_of_ble_eq_true rfl) dX5_stop_7) hS (fun v2 H locs q2 hH hS => ?_)
  refine lv_if_eq (tgt := 68) S.1 S.2.1 dX5_stop_10 (by decide) (fun c3 => ?_) (fun c3 => ?_)
  · have j3 := t_eq c3
    refine lv_iconst (v := (-1)) S.1 S.2.1 dX5_stop_68 (by decide) ?_
    refine cW_iret S hr hk hH hS ?_ dX5_stop_69
    exact ⟨(-1), rfl, hI, hP, rfl, by trivial⟩
  · have j3 := t_neq c3
    refine lv_iload_n S.1 S.2.1 dX5_stop_13 rfl (lv_at hl 2 rfl) ?_
    refine cW_bpi (cW_S (n := 1) (As := [.int b]) (rest := []) S K hH (k_X5_isPlace l D B L A σ1 τ b ) gX5_stop_X5_isPlace rfl hdS_X5_isPlace ⟨Nat.le_of_ble_eq_true rfl, Nat.le_of_ble_eq_true rfl⟩ rfl hl.1 (Nat.le_of_ble_eq_true rfl) dX5_stop_14) hS (fun v4 H locs q4 hH hS => ?_)
    refine lv_if_eq (tgt := 68) S.1 S.2.1 dX5_stop_17 (by decide) (fun c5 => ?_) (fun c5 => ?_)
    · have j5 := t_eq c5
      refine lv_iconst (v := (-1)) S.1 S.2.1 dX5_stop_68 (by decide) ?_
      refine cW_iret S hr hk hH hS ?_ dX5_stop_69
      exact ⟨(-1), rfl, hI, hP, rfl, by trivial⟩
    · have j5 := t_neq c5
      refine lv_aload_n S.1 S.2.1 dX5_stop_20 rfl (lv_at hl 0 rfl) ?_
      refine rM_0_9 S hnX5 K hH (mG wd_307) dX5_stop_21 ?_
      refine lv_iload_n S.1 S.2.1 dX5_stop_24 rfl (lv_at hl 1 rfl) ?_
      refine lM_9 S K hH (vin (by omega) (by omega)) dX5_stop_25 ?_
      refine lv_topi (fun v6 e6 => ?_)
      have b6 : 0 ≤ v6.toInt ∧ v6.toInt ≤ 6 := by rw [e6]; exact hI.1 9 0 a.toNatClampNeg
      refine lv_bipush (v := 6) S.1 S.2.1 dX5_stop_26 (by decide) ?_
      refine lv_icmp_eq (tgt := 68) S.1 S.2.1 dX5_stop_28 (by decide) (fun c7 => ?_) (fun c7 => ?_)
      · have j7 := t_eq c7
        refine lv_iconst (v := (-1)) S.1 S.2.1 dX5_stop_68 (by decide) ?_
        refine cW_iret S hr hk hH hS ?_ dX5_stop_69
        exact ⟨(-1), rfl, hI, hP, rfl, by trivial⟩
      · have j7 := t_neq c7
        refine lv_aload_n S.1 S.2.1 dX5_stop_31 rfl (lv_at hl 0 rfl) ?_
        refine lv_iload_n S.1 S.2.1 dX5_stop_32 rfl (lv_at hl 1 rfl) ?_
        refine cW_bpi (cW_V (n := 1) (As := [.int a]) (rest := []) (k := 0) (i := 0) S K hH (by decide) rfl rfl (k_X5_isBusy l D B L A σ1 τ a hI) gX5_stop_X5_isBusy rfl hdV_X5_isBusy ⟨Nat.le_of_ble_eq_true rfl, Nat.le_of_ble_eq_true rfl⟩ rfl hl.1 (Nat.le_of_ble_eq_true rfl) dX5_stop_33) hS (fun v8 H locs q8 hH hS => ?_)
        refine lv_if_ne (tgt := 68) S.1 S.2.1 dX5_stop_36 (by decide) (fun c9 => ?_) (fun c9 => ?_)
        · have j9 := t_neq c9
          refine lv_iconst (v := (-1)) S.1 S.2.1 dX5_stop_68 (by decide) ?_
          refine cW_iret S hr hk hH hS ?_ dX5_stop_69
          exact ⟨(-1), rfl, hI, hP, rfl, by trivial⟩
        · have j9 := t_eq c9
          refine lv_iload_n S.1 S.2.1 dX5_stop_39 rfl (lv_at hl 3 rfl) ?_
          refine lv_aload_n S.1 S.2.1 dX5_stop_40 rfl (lv_at hl 0 rfl) ?_
          refine rM_0_12 S hnX5 K hH (mG wd_310) dX5_stop_41 ?_
          refine lv_bipush (v := 6) S.1 S.2.1 dX5_stop_44 (by decide) ?_
          refine lv_iload_n S.1 S.2.1 dX5_stop_46 rfl (lv_at hl 1 rfl) ?_
          refine lv_imul S.1 S.2.1 dX5_stop_47 ?_
          refine lv_topi (fun v10 e10 => ?_)
          have i10 : v10.toInt = 6 * a.toInt := i_mulcl e10 (by decide) (by omega) (by omega)
          refine lv_aload_n S.1 S.2.1 dX5_stop_48 rfl (lv_at hl 0 rfl) ?_
          refine rM_0_9 S hnX5 K hH (mG wd_307) dX5_stop_49 ?_
          refine lv_iload_n S.1 S.2.1 dX5_stop_52 rfl (lv_at hl 1 rfl) ?_
          refine lM_9 S K hH (vin (by omega) (by omega)) dX5_stop_53 ?_
          refine lv_topi (fun v11 e11 => ?_)
          have b11 : 0 ≤ v11.toInt ∧ v11.toInt ≤ 6 := by rw [e11]; exact hI.1 9 0 a.toNatClampNeg
          have k11 : v11.toInt = v6.toInt := by rw [e11]; rw [← e6]
          have zv11 : 1 ≤ v11.toInt := by rw [e11]; exact hI.2 _ (by have h9 := cl_eq (j := a) (by omega); omega)
          refine lv_iadd S.1 S.2.1 dX5_stop_54 ?_
          refine lv_topi (fun v12 e12 => ?_)
          have i12 : v12.toInt = v10.toInt + v11.toInt := i_add e12 (by omega) (by omega)
          refine lv_iconst (v := 1) S.1 S.2.1 dX5_stop_55 (by decide) ?_
          refine lv_isub S.1 S.2.1 dX5_stop_56 ?_
          refine lv_topi (fun v13 e13 => ?_)
          have i13 : v13.toInt = v12.toInt - (1 : Int32).toInt := i_sub e13 (by omega) (by omega)
          refine lM_12 S K hH (vin (by omega) (by omega)) dX5_stop_57 ?_
          refine lv_topi (fun v14 e14 => ?_)
          have b14 : 0 ≤ v14.toInt ∧ v14.toInt ≤ 60 := by rw [e14]; exact hI.1 12 0 v13.toNatClampNeg
          refine lv_iconst (v := 1) S.1 S.2.1 dX5_stop_58 (by decide) ?_
          refine lv_iadd S.1 S.2.1 dX5_stop_59 ?_
          refine lv_topi (fun v15 e15 => ?_)
          have i15 : v15.toInt = v14.toInt + (1 : Int32).toInt := i_add e15 (by omega) (by omega)
          refine lv_bipush (v := 60) S.1 S.2.1 dX5_stop_60 (by decide) ?_
          refine cW_bpi (cW_S (n := 3) (As := [.int z, .int v15, .int 60]) (rest := []) S K hH (k_X5_isIn l D B L A σ1 τ z v15 60 ) gX5_stop_X5_isIn rfl hdS_X5_isIn ⟨Nat.le_of_ble_eq_true rfl, Nat.le_of_ble_eq_true rfl⟩ rfl hl.1 (Nat.le_of_ble_eq_true rfl) dX5_stop_62) hS (fun v16 H locs q16 hH hS => ?_)
          refine lv_if_ne (tgt := 70) S.1 S.2.1 dX5_stop_65 (by decide) (fun c17 => ?_) (fun c17 => ?_)
          · have j17 := t_neq c17
            refine lv_aload_n S.1 S.2.1 dX5_stop_70 rfl (lv_at hl 0 rfl) ?_
            refine rM_0_11 S hnX5 K hH (mG wd_309) dX5_stop_71 ?_
            refine lv_bipush (v := 6) S.1 S.2.1 dX5_stop_74 (by decide) ?_
            refine lv_iload_n S.1 S.2.1 dX5_stop_76 rfl (lv_at hl 1 rfl) ?_
            refine lv_imul S.1 S.2.1 dX5_stop_77 ?_
            refine lv_topi (fun v18 e18 => ?_)
            have i18 : v18.toInt = 6 * a.toInt := i_mulcl e18 (by decide) (by omega) (by omega)
            refine lv_aload_n S.1 S.2.1 dX5_stop_78 rfl (lv_at hl 0 rfl) ?_
            refine rM_0_9 S hnX5 K hH (mG wd_307) dX5_stop_79 ?_
            refine lv_iload_n S.1 S.2.1 dX5_stop_82 rfl (lv_at hl 1 rfl) ?_
            refine lM_9 S K hH (vin (by omega) (by omega)) dX5_stop_83 ?_
            refine lv_topi (fun v19 e19 => ?_)
            have b19 : 0 ≤ v19.toInt ∧ v19.toInt ≤ 6 := by rw [e19]; exact hI.1 9 0 a.toNatClampNeg
            have k19 : v19.toInt = v6.toInt := by rw [e19]; rw [← e6]
            refine lv_iadd S.1 S.2.1 dX5_stop_84 ?_
            refine lv_topi (fun v20 e20 => ?_)
            have i20 : v20.toInt = v18.toInt + v19.toInt := i_add e20 (by omega) (by omega)
            refine lv_iload_n S.1 S.2.1 dX5_stop_85 rfl (lv_at hl 2 rfl) ?_
            refine sM_11 S K hH hS (vin (by omega) (by omega)) dX5_stop_86 (fun H locs hH hS => ?_)
            obtain ⟨σ21, eσ21⟩ : ∃ z_9 : QS, z_9 = rs σ1 11 0 (upd (σ1 11 0) v20.toNatClampNeg b) := ⟨_, rfl⟩
            rw [← eσ21] at hH
            have hI := InvM_a eσ21 hI (by decide) (show (0 : Int) ≤ b.toInt ∧ b.toInt ≤ 11 by omega)
            have hP := Keep_w eσ21 hP (by decide)
            refine lv_aload_n S.1 S.2.1 dX5_stop_87 rfl (lv_at hl 0 rfl) ?_
            refine rM_0_12 S hnX5 K hH (mG wd_310) dX5_stop_88 ?_
            refine lv_bipush (v := 6) S.1 S.2.1 dX5_stop_91 (by decide) ?_
            refine lv_iload_n S.1 S.2.1 dX5_stop_93 rfl (lv_at hl 1 rfl) ?_
            refine lv_imul S.1 S.2.1 dX5_stop_94 ?_
            refine lv_topi (fun v22 e22 => ?_)
            have i22 : v22.toInt = 6 * a.toInt := i_mulcl e22 (by decide) (by omega) (by omega)
            refine lv_aload_n S.1 S.2.1 dX5_stop_95 rfl (lv_at hl 0 rfl) ?_
            refine rM_0_9 S hnX5 K hH (mG wd_307) dX5_stop_96 ?_
            refine lv_iload_n S.1 S.2.1 dX5_stop_99 rfl (lv_at hl 1 rfl) ?_
            refine lM_9 S K hH (vin (by omega) (by omega)) dX5_stop_100 ?_
            refine lv_topi (fun v23 e23 => ?_)
            have b23 : 0 ≤ v23.toInt ∧ v23.toInt ≤ 6 := by rw [e23]; exact hI.1 9 0 a.toNatClampNeg
            have k23 : v23.toInt = v6.toInt := by rw [e23, eσ21, rs_v (by decide)]; rw [← e6]
            refine lv_iadd S.1 S.2.1 dX5_stop_101 ?_
            refine lv_topi (fun v24 e24 => ?_)
            have i24 : v24.toInt = v22.toInt + v23.toInt := i_add e24 (by omega) (by omega)
            refine lv_iload_n S.1 S.2.1 dX5_stop_102 rfl (lv_at hl 3 rfl) ?_
            refine sM_12 S K hH hS (vin (by omega) (by omega)) dX5_stop_103 (fun H locs hH hS => ?_)
            obtain ⟨σ25, eσ25⟩ : ∃ z_9 : QS, z_9 = rs σ21 12 0 (upd (σ21 12 0) v24.toNatClampNeg z) := ⟨_, rfl⟩
            rw [← eσ25] at hH
            have hI := InvM_a eσ25 hI (by decide) (show (0 : Int) ≤ z.toInt ∧ z.toInt ≤ 60 by omega)
            have hP := Keep_w eσ25 hP (by decide)
            refine lv_aload_n S.1 S.2.1 dX5_stop_104 rfl (lv_at hl 0 rfl) ?_
            refine rM_0_9 S hnX5 K hH (mG wd_307) dX5_stop_105 ?_
            refine lv_iload_n S.1 S.2.1 dX5_stop_108 rfl (lv_at hl 1 rfl) ?_
            refine lv_dup2_11 S.1 S.2.1 dX5_stop_109 rfl rfl ?_
            refine lM_9 S K hH (vin (by omega) (by omega)) dX5_stop_110 ?_
            refine lv_topi (fun v26 e26 => ?_)
            have b26 : 0 ≤ v26.toInt ∧ v26.toInt ≤ 6 := by rw [e26]; exact hI.1 9 0 a.toNatClampNeg
            have k26 : v26.toInt = v6.toInt := by rw [e26, eσ25, rs_v (by decide), eσ21, rs_v (by decide)]; rw [← e6]
            refine lv_iconst (v := 1) S.1 S.2.1 dX5_stop_111 (by decide) ?_
            refine lv_iadd S.1 S.2.1 dX5_stop_112 ?_
            refine lv_topi (fun v27 e27 => ?_)
            have i27 : v27.toInt = v26.toInt + (1 : Int32).toInt := i_add e27 (by omega) (by omega)
            refine sM_9 S K hH hS (vin (by omega) (by omega)) dX5_stop_113 (fun H locs hH hS => ?_)
            obtain ⟨σ28, eσ28⟩ : ∃ z_9 : QS, z_9 = rs σ25 9 0 (upd (σ25 9 0) a.toNatClampNeg v27) := ⟨_, rfl⟩
            rw [← eσ28] at hH
            have hI : InvM σ28 := InvM_stops eσ28 hI (by omega)
            have hP := Keep_w eσ28 hP (by decide)
            refine lv_aload_n S.1 S.2.1 dX5_stop_114 rfl (lv_at hl 0 rfl) ?_
            refine cW_bv (cW_V (n := 0) (As := []) (rest := []) (k := 0) (i := 0) S K hH (by decide) rfl rfl (k_X5_forget l D B L A σ28 τ  hI) gX5_stop_X5_forget rfl hdV_X5_forget ⟨Nat.le_of_ble_eq_true rfl, Nat.le_of_ble_eq_true rfl⟩ rfl hl.1 (Nat.le_of_ble_eq_true rfl) dX5_stop_115) hS (fun σ29 τ29 H locs q29 hH hS => ?_)
            obtain ⟨hI, hP29, hτ29, q29⟩ := q29
            rw [hτ29] at hH
            have hP := Keep_t hP hP29 (by decide)
            refine lv_aload_n S.1 S.2.1 dX5_stop_118 rfl (lv_at hl 0 rfl) ?_
            refine rM_0_9 S hnX5 K hH (mG wd_307) dX5_stop_119 ?_
            refine lv_iload_n S.1 S.2.1 dX5_stop_122 rfl (lv_at hl 1 rfl) ?_
            refine lM_9 S K hH (vin (by omega) (by omega)) dX5_stop_123 ?_
            refine lv_topi (fun v30 e30 => ?_)
            have b30 : 0 ≤ v30.toInt ∧ v30.toInt ≤ 6 := by rw [e30]; exact hI.1 9 0 a.toNatClampNeg
            refine cW_iret S hr hk hH hS ?_ dX5_stop_124
            exact ⟨v30, rfl, hI, hP, rfl, by trivial⟩
          · have j17 := t_eq c17
            refine lv_iconst (v := (-1)) S.1 S.2.1 dX5_stop_68 (by decide) ?_
            refine cW_iret S hr hk hH hS ?_ dX5_stop_69
            exact ⟨(-1), rfl, hI, hP, rfl, by trivial⟩
set_option maxHeartbeats 4000000 in
set_option maxRecDepth 100000 in
theorem k_X5_change (l : Launch) (D : va_G) (B : Nat → ClassId) (L : QL) (A : Nat → Prop) (σ : QS) (τ : Int64) (a : Int32) (b : Int32) (r : Int32) (f : Int32)  (hI : InvM σ) : cW cntM gM l D B L A yX5_change wsX5_change 1 22 [.ref (L 0 0), .int a, .int b, .int r, .int f] σ τ (pI (fun x σ' τ' => InvM σ' ∧ Keep [0, 5, 7, 8, 17] σ σ' ∧ τ' = τ ∧ True)) := by
  refine cW_of (cc := cX5_change) (nL := 5) (ret := (some .boolean)) (by decide) rfl (Nat.le_of_ble_eq_true rfl) ?_
  intro p e s m below meth c S hr hk K hH hS ls hl
  have hnX5 : ∀ w ∈ wsX50, w ∈ wsX5_change := fun w h => mG (tX5 w h)
  have l0 : (0 : Int32).toInt = 0 := by decide
  have l1 : (1 : Int32).toInt = 1 := by decide
  have l20 : (20 : Int32).toInt = 20 := by decide
  have l50 : (50 : Int32).toInt = 50 := by decide
  have l127 : (127 : Int32).toInt = 127 := by decide
  have hP : Keep [0, 5, 7, 8, 17] σ σ := Keep_r
  have hl : lv_has ls 5 [(0, .ref (L 0 0)), (1, .int a), (2, .int b), (3, .int r), (4, .int f)] := hl
  refine lv_aload_n S.1 S.2.1 dX5_change_0 rfl (lv_at hl 0 rfl) ?_
  refine lv_iconst (v := 0) S.1 S.2.1 dX5_change_1 (by decide) ?_
  refine pM_0_0 S hnX5 K hH hS (mG wd_337) dX5_change_2 (fun H locs hH hS => ?_)
  obtain ⟨σ1, eσ1⟩ : ∃ z_9 : QS, z_9 = rs σ 0 0 (fun _ => 0) := ⟨_, rfl⟩
  rw [← eσ1] at hH
  have hI := InvM_f eσ1 hI (by decide) (any32 _)
  have hP := Keep_w eσ1 hP (by decide)
  refine lv_aload_n S.1 S.2.1 dX5_change_5 rfl (lv_at hl 0 rfl) ?_
  refine lv_iload_n S.1 S.2.1 dX5_change_6 rfl (lv_at hl 1 rfl) ?_
  refine cW_bpi (cW_V (n := 1) (As := [.int a]) (rest := []) (k := 0) (i := 0) S K hH (by decide) rfl rfl (k_X5_isCart l D B L A σ1 τ a hI) gX5_change_X5_isCart rfl hdV_X5_isCart ⟨Nat.le_of_ble_eq_true rfl, Nat.le_of_ble_eq_true rfl⟩ rfl hl.1 (Nat.le_of_ble_eq_true rfl) dX5_change_7) hS (fun v2 H locs q2 hH hS => ?_)
  refine lv_if_eq (tgt := 52) S.1 S.2.1 dX5_change_10 (by decide) (fun c3 => ?_) (fun c3 => ?_)
  · have j3 := t_eq c3
    refine lv_iconst (v := 0) S.1 S.2.1 dX5_change_52 (by decide) ?_
    refine cW_zret S hr hk hH hS (by decide) ?_ dX5_change_53
    exact ⟨0, rfl, hI, hP, rfl, by trivial⟩
  · have j3 := t_neq c3
    refine lv_iload_n S.1 S.2.1 dX5_change_13 rfl (lv_at hl 2 rfl) ?_
    refine lv_iconst (v := 0) S.1 S.2.1 dX5_change_14 (by decide) ?_
    refine lv_bipush (v := 127) S.1 S.2.1 dX5_change_15 (by decide) ?_
    refine cW_bpi (cW_S (n := 3) (As := [.int b, .int 0, .int 127]) (rest := []) S K hH (k_X5_isIn l D B L A σ1 τ b 0 127 ) gX5_change_X5_isIn rfl hdS_X5_isIn ⟨Nat.le_of_ble_eq_true rfl, Nat.le_of_ble_eq_true rfl⟩ rfl hl.1 (Nat.le_of_ble_eq_true rfl) dX5_change_17) hS (fun v4 H locs q4 hH hS => ?_)
    refine lv_if_eq (tgt := 52) S.1 S.2.1 dX5_change_20 (by decide) (fun c5 => ?_) (fun c5 => ?_)
    · have j5 := t_eq c5
      refine lv_iconst (v := 0) S.1 S.2.1 dX5_change_52 (by decide) ?_
      refine cW_zret S hr hk hH hS (by decide) ?_ dX5_change_53
      exact ⟨0, rfl, hI, hP, rfl, by trivial⟩
    · have j5 := t_neq c5
      refine lv_iload_n S.1 S.2.1 dX5_change_23 rfl (lv_at hl 3 rfl) ?_
      refine lv_iconst (v := 0) S.1 S.2.1 dX5_change_24 (by decide) ?_
      refine lv_bipush (v := 50) S.1 S.2.1 dX5_change_25 (by decide) ?_
      refine cW_bpi (cW_S (n := 3) (As := [.int r, .int 0, .int 50]) (rest := []) S K hH (k_X5_isIn l D B L A σ1 τ r 0 50 ) gX5_change_X5_isIn rfl hdS_X5_isIn ⟨Nat.le_of_ble_eq_true rfl, Nat.le_of_ble_eq_true rfl⟩ rfl hl.1 (Nat.le_of_ble_eq_true rfl) dX5_change_27) hS (fun v6 H locs q6 hH hS => ?_)
      refine lv_if_eq (tgt := 52) S.1 S.2.1 dX5_change_30 (by decide) (fun c7 => ?_) (fun c7 => ?_)
      · have j7 := t_eq c7
        refine lv_iconst (v := 0) S.1 S.2.1 dX5_change_52 (by decide) ?_
        refine cW_zret S hr hk hH hS (by decide) ?_ dX5_change_53
        exact ⟨0, rfl, hI, hP, rfl, by trivial⟩
      · have j7 := t_neq c7
        refine lv_iload S.1 S.2.1 dX5_change_33 (lv_at hl 4 rfl) ?_
        refine lv_iconst (v := 0) S.1 S.2.1 dX5_change_35 (by decide) ?_
        refine lv_bipush (v := 20) S.1 S.2.1 dX5_change_36 (by decide) ?_
        refine cW_bpi (cW_S (n := 3) (As := [.int f, .int 0, .int 20]) (rest := []) S K hH (k_X5_isIn l D B L A σ1 τ f 0 20 ) gX5_change_X5_isIn rfl hdS_X5_isIn ⟨Nat.le_of_ble_eq_true rfl, Nat.le_of_ble_eq_true rfl⟩ rfl hl.1 (Nat.le_of_ble_eq_true rfl) dX5_change_38) hS (fun v8 H locs q8 hH hS => ?_)
        refine lv_if_eq (tgt := 52) S.1 S.2.1 dX5_change_41 (by decide) (fun c9 => ?_) (fun c9 => ?_)
        · have j9 := t_eq c9
          refine lv_iconst (v := 0) S.1 S.2.1 dX5_change_52 (by decide) ?_
          refine cW_zret S hr hk hH hS (by decide) ?_ dX5_change_53
          exact ⟨0, rfl, hI, hP, rfl, by trivial⟩
        · have j9 := t_neq c9
          refine lv_aload_n S.1 S.2.1 dX5_change_44 rfl (lv_at hl 0 rfl) ?_
          refine lv_iload_n S.1 S.2.1 dX5_change_45 rfl (lv_at hl 1 rfl) ?_
          refine cW_bpi (cW_V (n := 1) (As := [.int a]) (rest := []) (k := 0) (i := 0) S K hH (by decide) rfl rfl (k_X5_isBusy l D B L A σ1 τ a hI) gX5_change_X5_isBusy rfl hdV_X5_isBusy ⟨Nat.le_of_ble_eq_true rfl, Nat.le_of_ble_eq_true rfl⟩ rfl hl.1 (Nat.le_of_ble_eq_true rfl) dX5_change_46) hS (fun v10 H locs q10 hH hS => ?_)
          refine lv_if_eq (tgt := 54) S.1 S.2.1 dX5_change_49 (by decide) (fun c11 => ?_) (fun c11 => ?_)
          · have j11 := t_eq c11
            refine lv_aload_n S.1 S.2.1 dX5_change_54 rfl (lv_at hl 0 rfl) ?_
            refine rM_0_5 S hnX5 K hH (mG wd_303) dX5_change_55 ?_
            refine lv_iload_n S.1 S.2.1 dX5_change_58 rfl (lv_at hl 1 rfl) ?_
            refine lv_iload_n S.1 S.2.1 dX5_change_59 rfl (lv_at hl 2 rfl) ?_
            refine sM_5 S K hH hS (vin (by omega) (by omega)) dX5_change_60 (fun H locs hH hS => ?_)
            obtain ⟨σ12, eσ12⟩ : ∃ z_9 : QS, z_9 = rs σ1 5 0 (upd (σ1 5 0) a.toNatClampNeg b) := ⟨_, rfl⟩
            rw [← eσ12] at hH
            have hI := InvM_a eσ12 hI (by decide) (any32 _)
            have hP := Keep_w eσ12 hP (by decide)
            refine lv_aload_n S.1 S.2.1 dX5_change_61 rfl (lv_at hl 0 rfl) ?_
            refine rM_0_7 S hnX5 K hH (mG wd_305) dX5_change_62 ?_
            refine lv_iload_n S.1 S.2.1 dX5_change_65 rfl (lv_at hl 1 rfl) ?_
            refine lv_iload_n S.1 S.2.1 dX5_change_66 rfl (lv_at hl 3 rfl) ?_
            refine sM_7 S K hH hS (vin (by omega) (by omega)) dX5_change_67 (fun H locs hH hS => ?_)
            obtain ⟨σ13, eσ13⟩ : ∃ z_9 : QS, z_9 = rs σ12 7 0 (upd (σ12 7 0) a.toNatClampNeg r) := ⟨_, rfl⟩
            rw [← eσ13] at hH
            have hI := InvM_a eσ13 hI (by decide) (any32 _)
            have hP := Keep_w eσ13 hP (by decide)
            refine lv_aload_n S.1 S.2.1 dX5_change_68 rfl (lv_at hl 0 rfl) ?_
            refine rM_0_8 S hnX5 K hH (mG wd_306) dX5_change_69 ?_
            refine lv_iload_n S.1 S.2.1 dX5_change_72 rfl (lv_at hl 1 rfl) ?_
            refine lv_iload S.1 S.2.1 dX5_change_73 (lv_at hl 4 rfl) ?_
            refine sM_8 S K hH hS (vin (by omega) (by omega)) dX5_change_75 (fun H locs hH hS => ?_)
            obtain ⟨σ14, eσ14⟩ : ∃ z_9 : QS, z_9 = rs σ13 8 0 (upd (σ13 8 0) a.toNatClampNeg f) := ⟨_, rfl⟩
            rw [← eσ14] at hH
            have hI := InvM_a eσ14 hI (by decide) (any32 _)
            have hP := Keep_w eσ14 hP (by decide)
            refine lv_aload_n S.1 S.2.1 dX5_change_76 rfl (lv_at hl 0 rfl) ?_
            refine cW_bv (cW_V (n := 0) (As := []) (rest := []) (k := 0) (i := 0) S K hH (by decide) rfl rfl (k_X5_forget l D B L A σ14 τ  hI) gX5_change_X5_forget rfl hdV_X5_forget ⟨Nat.le_of_ble_eq_true rfl, Nat.le_of_ble_eq_true rfl⟩ rfl hl.1 (Nat.le_of_ble_eq_true rfl) dX5_change_77) hS (fun σ15 τ15 H locs q15 hH hS => ?_)
            obtain ⟨hI, hP15, hτ15, q15⟩ := q15
            rw [hτ15] at hH
            have hP := Keep_t hP hP15 (by decide)
            refine lv_iconst (v := 1) S.1 S.2.1 dX5_change_80 (by decide) ?_
            refine cW_zret S hr hk hH hS (by decide) ?_ dX5_change_81
            exact ⟨1, rfl, hI, hP, rfl, by trivial⟩
          · have j11 := t_neq c11
            refine lv_iconst (v := 0) S.1 S.2.1 dX5_change_52 (by decide) ?_
            refine cW_zret S hr hk hH hS (by decide) ?_ dX5_change_53
            exact ⟨0, rfl, hI, hP, rfl, by trivial⟩
set_option maxHeartbeats 4000000 in
set_option maxRecDepth 100000 in
theorem k_X5_snow (l : Launch) (D : va_G) (B : Nat → ClassId) (L : QL) (A : Nat → Prop) (σ : QS) (τ : Int64) (a : Int32) (b : Int32)  (hI : InvM σ) : cW cntM gM l D B L A yX5_snow wsX5_snow 1 22 [.ref (L 0 0), .int a, .int b] σ τ (pI (fun x σ' τ' => InvM σ' ∧ Keep [0, 13, 3, 17] σ σ' ∧ τ' = τ ∧ ((x.toInt = 0 ∧ σ' 13 = σ 13 ∧ σ' 3 = σ 3 ∧ ¬ (0 ≤ a.toInt ∧ a.toInt < (σ 2 0 0).toInt ∧ (σ 1 0 0).toInt / 24 + 1 ≤ b.toInt ∧ b.toInt ≤ 300 ∧ (σ 3 0 0).toInt ≠ 100 ∧ σ 13 0 (301 * a.toNatClampNeg + b.toNatClampNeg) = 0)) ∨ (x.toInt = 1 ∧ (0 ≤ a.toInt ∧ a.toInt < (σ 2 0 0).toInt ∧ (σ 1 0 0).toInt / 24 + 1 ≤ b.toInt ∧ b.toInt ≤ 300 ∧ (σ 3 0 0).toInt ≠ 100 ∧ σ 13 0 (301 * a.toNatClampNeg + b.toNatClampNeg) = 0) ∧ (σ' 3 0 0).toInt = (σ 3 0 0).toInt + 1 ∧ σ' 13 = rs σ 13 0 (upd (σ 13 0) (301 * a.toNatClampNeg + b.toNatClampNeg) 1) 13)))) := by
  refine cW_of (cc := cX5_snow) (nL := 3) (ret := (some .boolean)) (by decide) rfl (Nat.le_of_ble_eq_true rfl) ?_
  intro p e s m below meth c S hr hk K hH hS ls hl
  have hnX5 : ∀ w ∈ wsX50, w ∈ wsX5_snow := fun w h => mG (tX5 w h)
  have l0 : (0 : Int32).toInt = 0 := by decide
  have l1 : (1 : Int32).toInt = 1 := by decide
  have l24 : (24 : Int32).toInt = 24 := by decide
  have l100 : (100 : Int32).toInt = 100 := by decide
  have l300 : (300 : Int32).toInt = 300 := by decide
  have l301 : (301 : Int32).toInt = 301 := by decide
  have hP : Keep [0, 13, 3, 17] σ σ := Keep_r
  have hl : lv_has ls 3 [(0, .ref (L 0 0)), (1, .int a), (2, .int b)] := hl
  refine lv_aload_n S.1 S.2.1 dX5_snow_0 rfl (lv_at hl 0 rfl) ?_
  refine lv_iconst (v := 0) S.1 S.2.1 dX5_snow_1 (by decide) ?_
  refine pM_0_0 S hnX5 K hH hS (mG wd_337) dX5_snow_2 (fun H locs hH hS => ?_)
  obtain ⟨σ1, eσ1⟩ : ∃ z_9 : QS, z_9 = rs σ 0 0 (fun _ => 0) := ⟨_, rfl⟩
  rw [← eσ1] at hH
  have hI := InvM_f eσ1 hI (by decide) (any32 _)
  have hP := Keep_w eσ1 hP (by decide)
  have gz2 : (σ1 2 0 0).toInt = (σ 2 0 0).toInt := by rw [eσ1, rs_v (by decide)]
  have h13 : σ1 13 = σ 13 := by rw [eσ1, rs_v (by decide)]
  refine lv_aload_n S.1 S.2.1 dX5_snow_5 rfl (lv_at hl 0 rfl) ?_
  refine lv_iload_n S.1 S.2.1 dX5_snow_6 rfl (lv_at hl 1 rfl) ?_
  refine cW_bpi (cW_V (n := 1) (As := [.int a]) (rest := []) (k := 0) (i := 0) S K hH (by decide) rfl rfl (k_X5_isCart l D B L A σ1 τ a hI) gX5_snow_X5_isCart rfl hdV_X5_isCart ⟨Nat.le_of_ble_eq_true rfl, Nat.le_of_ble_eq_true rfl⟩ rfl hl.1 (Nat.le_of_ble_eq_true rfl) dX5_snow_7) hS (fun v2 H locs q2 hH hS => ?_)
  refine lv_if_eq (tgt := 56) S.1 S.2.1 dX5_snow_10 (by decide) (fun c3 => ?_) (fun c3 => ?_)
  · have j3 := t_eq c3
    refine lv_iconst (v := 0) S.1 S.2.1 dX5_snow_56 (by decide) ?_
    refine cW_zret S hr hk hH hS (by decide) ?_ dX5_snow_57
    exact ⟨0, rfl, hI, hP, rfl, by refine Or.inl ⟨by decide, by rw [eσ1, rs_v (by decide)], by rw [eσ1, rs_v (by decide)], fun h9 => ?_⟩; obtain ⟨g1, g2, g3, g4, g5, g6⟩ := h9; first | omega | exact absurd (f43.trans g6) (by assumption)⟩
  · have j3 := t_neq c3
    refine lv_iload_n S.1 S.2.1 dX5_snow_13 rfl (lv_at hl 2 rfl) ?_
    refine lv_aload_n S.1 S.2.1 dX5_snow_14 rfl (lv_at hl 0 rfl) ?_
    refine rM_0_1 S hnX5 K hH (mG wd_352) dX5_snow_15 ?_
    refine lv_topi (fun v4 e4 => ?_)
    have b4 : 0 ≤ v4.toInt ∧ v4.toInt ≤ 5000 := by rw [e4]; exact hI.1 1 0 0
    have fv4 : v4.toInt = (σ 1 0 0).toInt := by rw [e4, eσ1, rs_v (by decide)]
    refine lv_bipush (v := 24) S.1 S.2.1 dX5_snow_18 (by decide) ?_
    refine lv_idiv S.1 S.2.1 dX5_snow_20 (by decide) ?_
    refine lv_topi (fun v5 e5 => ?_)
    have i5 : v5.toInt = v4.toInt / 24 := i_div e5 (by decide) (by decide) (by omega)
    refine lv_iconst (v := 1) S.1 S.2.1 dX5_snow_21 (by decide) ?_
    refine lv_iadd S.1 S.2.1 dX5_snow_22 ?_
    refine lv_topi (fun v6 e6 => ?_)
    have i6 : v6.toInt = v5.toInt + (1 : Int32).toInt := i_add e6 (by omega) (by omega)
    refine lv_sipush (v := 300) S.1 S.2.1 dX5_snow_23 (by decide) ?_
    refine cW_bpi (cW_S (n := 3) (As := [.int b, .int v6, .int 300]) (rest := []) S K hH (k_X5_isIn l D B L A σ1 τ b v6 300 ) gX5_snow_X5_isIn rfl hdS_X5_isIn ⟨Nat.le_of_ble_eq_true rfl, Nat.le_of_ble_eq_true rfl⟩ rfl hl.1 (Nat.le_of_ble_eq_true rfl) dX5_snow_26) hS (fun v7 H locs q7 hH hS => ?_)
    refine lv_if_eq (tgt := 56) S.1 S.2.1 dX5_snow_29 (by decide) (fun c8 => ?_) (fun c8 => ?_)
    · have j8 := t_eq c8
      refine lv_iconst (v := 0) S.1 S.2.1 dX5_snow_56 (by decide) ?_
      refine cW_zret S hr hk hH hS (by decide) ?_ dX5_snow_57
      exact ⟨0, rfl, hI, hP, rfl, by refine Or.inl ⟨by decide, by rw [eσ1, rs_v (by decide)], by rw [eσ1, rs_v (by decide)], fun h9 => ?_⟩; obtain ⟨g1, g2, g3, g4, g5, g6⟩ := h9; first | omega | exact absurd (f43.trans g6) (by assumption)⟩
    · have j8 := t_neq c8
      refine lv_aload_n S.1 S.2.1 dX5_snow_32 rfl (lv_at hl 0 rfl) ?_
      refine rM_0_13 S hnX5 K hH (mG wd_312) dX5_snow_33 ?_
      refine lv_sipush (v := 301) S.1 S.2.1 dX5_snow_36 (by decide) ?_
      refine lv_iload_n S.1 S.2.1 dX5_snow_39 rfl (lv_at hl 1 rfl) ?_
      refine lv_imul S.1 S.2.1 dX5_snow_40 ?_
      refine lv_topi (fun v9 e9 => ?_)
      have i9 : v9.toInt = 301 * a.toInt := i_mulcl e9 (by decide) (by omega) (by omega)
      refine lv_iload_n S.1 S.2.1 dX5_snow_41 rfl (lv_at hl 2 rfl) ?_
      refine lv_iadd S.1 S.2.1 dX5_snow_42 ?_
      refine lv_topi (fun v10 e10 => ?_)
      have i10 : v10.toInt = v9.toInt + b.toInt := i_add e10 (by omega) (by omega)
      refine lM_13 S K hH (vin (by omega) (by omega)) dX5_snow_43 ?_
      refine lv_topi (fun v11 e11 => ?_)
      have f43 : v11 = σ 13 0 (301 * a.toNatClampNeg + b.toNatClampNeg) := by rw [e11, eσ1, rs_v (by decide), ix301 i9 i10 (by omega) (by omega)]
      refine lv_if_ne (tgt := 56) S.1 S.2.1 dX5_snow_44 (by decide) (fun c12 => ?_) (fun c12 => ?_)
      · have j12 := t_neq c12
        refine lv_iconst (v := 0) S.1 S.2.1 dX5_snow_56 (by decide) ?_
        refine cW_zret S hr hk hH hS (by decide) ?_ dX5_snow_57
        exact ⟨0, rfl, hI, hP, rfl, by refine Or.inl ⟨by decide, by rw [eσ1, rs_v (by decide)], by rw [eσ1, rs_v (by decide)], fun h9 => ?_⟩; obtain ⟨g1, g2, g3, g4, g5, g6⟩ := h9; first | omega | exact absurd (f43.trans g6) (by assumption)⟩
      · have j12 := t_eq c12
        refine lv_aload_n S.1 S.2.1 dX5_snow_47 rfl (lv_at hl 0 rfl) ?_
        refine rM_0_3 S hnX5 K hH (mG wd_353) dX5_snow_48 ?_
        refine lv_topi (fun v13 e13 => ?_)
        have b13 : 0 ≤ v13.toInt ∧ v13.toInt ≤ 100 := by rw [e13]; exact hI.1 3 0 0
        have fv13 : v13.toInt = (σ 3 0 0).toInt := by rw [e13, eσ1, rs_v (by decide)]
        refine lv_bipush (v := 100) S.1 S.2.1 dX5_snow_51 (by decide) ?_
        refine lv_icmp_ne (tgt := 58) S.1 S.2.1 dX5_snow_53 (by decide) (fun c14 => ?_) (fun c14 => ?_)
        · have j14 := t_neq c14
          refine lv_aload_n S.1 S.2.1 dX5_snow_58 rfl (lv_at hl 0 rfl) ?_
          refine rM_0_13 S hnX5 K hH (mG wd_312) dX5_snow_59 ?_
          refine lv_sipush (v := 301) S.1 S.2.1 dX5_snow_62 (by decide) ?_
          refine lv_iload_n S.1 S.2.1 dX5_snow_65 rfl (lv_at hl 1 rfl) ?_
          refine lv_imul S.1 S.2.1 dX5_snow_66 ?_
          refine lv_topi (fun v15 e15 => ?_)
          have i15 : v15.toInt = 301 * a.toInt := i_mulcl e15 (by decide) (by omega) (by omega)
          refine lv_iload_n S.1 S.2.1 dX5_snow_67 rfl (lv_at hl 2 rfl) ?_
          refine lv_iadd S.1 S.2.1 dX5_snow_68 ?_
          refine lv_topi (fun v16 e16 => ?_)
          have i16 : v16.toInt = v15.toInt + b.toInt := i_add e16 (by omega) (by omega)
          refine lv_iconst (v := 1) S.1 S.2.1 dX5_snow_69 (by decide) ?_
          refine sM_13 S K hH hS (vin (by omega) (by omega)) dX5_snow_70 (fun H locs hH hS => ?_)
          obtain ⟨σ17, eσ17⟩ : ∃ z_9 : QS, z_9 = rs σ1 13 0 (upd (σ1 13 0) v16.toNatClampNeg (vp_nar .boolean 1)) := ⟨_, rfl⟩
          rw [← eσ17] at hH
          have hI := InvM_a eσ17 hI (by decide) (any32 _)
          have hP := Keep_w eσ17 hP (by decide)
          refine lv_aload_n S.1 S.2.1 dX5_snow_71 rfl (lv_at hl 0 rfl) ?_
          refine lv_dup S.1 S.2.1 dX5_snow_72 rfl ?_
          refine rM_0_3 S hnX5 K hH (mG wd_353) dX5_snow_73 ?_
          refine lv_topi (fun v18 e18 => ?_)
          have b18 : 0 ≤ v18.toInt ∧ v18.toInt ≤ 100 := by rw [e18]; exact hI.1 3 0 0
          have k18 : v18.toInt = v13.toInt := by rw [e18, eσ17, rs_v (by decide)]; rw [← e13]
          refine lv_iconst (v := 1) S.1 S.2.1 dX5_snow_76 (by decide) ?_
          refine lv_iadd S.1 S.2.1 dX5_snow_77 ?_
          refine lv_topi (fun v19 e19 => ?_)
          have i19 : v19.toInt = v18.toInt + (1 : Int32).toInt := i_add e19 (by omega) (by omega)
          refine pM_0_3 S hnX5 K hH hS (mG wd_353) dX5_snow_78 (fun H locs hH hS => ?_)
          obtain ⟨σ20, eσ20⟩ : ∃ z_9 : QS, z_9 = rs σ17 3 0 (fun _ => v19) := ⟨_, rfl⟩
          rw [← eσ20] at hH
          have hI := InvM_f eσ20 hI (by decide) (show (0 : Int) ≤ v19.toInt ∧ v19.toInt ≤ 100 by omega)
          have hP := Keep_w eσ20 hP (by decide)
          refine lv_aload_n S.1 S.2.1 dX5_snow_81 rfl (lv_at hl 0 rfl) ?_
          refine cW_bv (cW_V (n := 0) (As := []) (rest := []) (k := 0) (i := 0) S K hH (by decide) rfl rfl (k_X5_forget l D B L A σ20 τ  hI) gX5_snow_X5_forget rfl hdV_X5_forget ⟨Nat.le_of_ble_eq_true rfl, Nat.le_of_ble_eq_true rfl⟩ rfl hl.1 (Nat.le_of_ble_eq_true rfl) dX5_snow_82) hS (fun σ21 τ21 H locs q21 hH hS => ?_)
          obtain ⟨hI, hP21, hτ21, q21⟩ := q21
          rw [hτ21] at hH
          have hP := Keep_t hP hP21 (by decide)
          refine lv_iconst (v := 1) S.1 S.2.1 dX5_snow_85 (by decide) ?_
          refine cW_zret S hr hk hH hS (by decide) ?_ dX5_snow_86
          exact ⟨1, rfl, hI, hP, rfl, by refine Or.inr ⟨by decide, ⟨by omega, by omega, by omega, by omega, by omega, ?_⟩, by rw [hP21 3 (by decide), eσ20, rs_self]; omega, ?_⟩; exact (f43).symm.trans (by assumption); rw [hP21 13 (by decide), eσ20, rs_v (by decide), eσ17, rs_tw h13, h13, ix301 i15 i16 (by omega) (by omega)]; try rfl⟩
        · have j14 := t_eq c14
          refine lv_iconst (v := 0) S.1 S.2.1 dX5_snow_56 (by decide) ?_
          refine cW_zret S hr hk hH hS (by decide) ?_ dX5_snow_57
          exact ⟨0, rfl, hI, hP, rfl, by refine Or.inl ⟨by decide, by rw [eσ1, rs_v (by decide)], by rw [eσ1, rs_v (by decide)], fun h9 => ?_⟩; obtain ⟨g1, g2, g3, g4, g5, g6⟩ := h9; first | omega | exact absurd (f43.trans g6) (by assumption)⟩
set_option maxHeartbeats 4000000 in
set_option maxRecDepth 100000 in
theorem k_X5_isRun (l : Launch) (D : va_G) (B : Nat → ClassId) (L : QL) (A : Nat → Prop) (σ : QS) (τ : Int64) (c9 : Int32) (d : Int32)  (hp0 : 0 ≤ c9.toInt ∧ c9.toInt ≤ 11) (hp1 : 0 ≤ d.toInt ∧ d.toInt ≤ 300) : cW cntM gM l D B L A yX5_isRun wsX5_isRun 0 0 [.ref (L 0 0), .int c9, .int d] σ τ (pI (fun x σ' τ' => σ' = σ ∧ τ' = τ ∧ (x.toInt = 0 ∨ x.toInt = 1))) := by
  refine cW_of (cc := cX5_isRun) (nL := 3) (ret := (some .boolean)) (by decide) rfl (Nat.le_of_ble_eq_true rfl) ?_
  intro p e s m below meth c S hr hk K hH hS ls hl
  have hnX5 : ∀ w ∈ wsX50, w ∈ wsX5_isRun := fun w h => mG (tX5 w h)
  have l0 : (0 : Int32).toInt = 0 := by decide
  have l1 : (1 : Int32).toInt = 1 := by decide
  have l7 : (7 : Int32).toInt = 7 := by decide
  have l301 : (301 : Int32).toInt = 301 := by decide
  have hl : lv_has ls 3 [(0, .ref (L 0 0)), (1, .int c9), (2, .int d)] := hl
  refine lv_aload_n S.1 S.2.1 dX5_isRun_0 rfl (lv_at hl 0 rfl) ?_
  refine rM_0_5 S hnX5 K hH (mG wd_303) dX5_isRun_1 ?_
  refine lv_iload_n S.1 S.2.1 dX5_isRun_4 rfl (lv_at hl 1 rfl) ?_
  refine lM_5 S K hH (vin (by omega) (by omega)) dX5_isRun_5 ?_
  refine lv_topi (fun v1 e1 => ?_)
  refine lv_iload_n S.1 S.2.1 dX5_isRun_6 rfl (lv_at hl 2 rfl) ?_
  refine lv_bipush (v := 7) S.1 S.2.1 dX5_isRun_7 (by decide) ?_
  refine lv_irem S.1 S.2.1 dX5_isRun_9 (by decide) ?_
  refine lv_topi (fun v2 e2 => ?_)
  have i2 : v2.toInt = d.toInt % 7 := i_rem e2 (by decide) (by decide) (by omega)
  refine lv_ishr S.1 S.2.1 dX5_isRun_10 ?_
  refine lv_topi (fun v3 e3 => ?_)
  refine lv_iconst (v := 1) S.1 S.2.1 dX5_isRun_11 (by decide) ?_
  refine lv_iand S.1 S.2.1 dX5_isRun_12 ?_
  refine lv_topi (fun v4 e4 => ?_)
  have i4 : 0 ≤ v4.toInt ∧ v4.toInt ≤ (1 : Int32).toInt := i_andr e4 (by omega)
  refine lv_iconst (v := 1) S.1 S.2.1 dX5_isRun_13 (by decide) ?_
  refine lv_icmp_ne (tgt := 36) S.1 S.2.1 dX5_isRun_14 (by decide) (fun c5 => ?_) (fun c5 => ?_)
  · have j5 := t_neq c5
    refine lv_iconst (v := 0) S.1 S.2.1 dX5_isRun_36 (by decide) ?_
    refine cW_zret S hr hk hH hS (by decide) ?_ dX5_isRun_37
    exact ⟨0, rfl, rfl, rfl, by omega⟩
  · have j5 := t_eq c5
    refine lv_aload_n S.1 S.2.1 dX5_isRun_17 rfl (lv_at hl 0 rfl) ?_
    refine rM_0_13 S hnX5 K hH (mG wd_312) dX5_isRun_18 ?_
    refine lv_sipush (v := 301) S.1 S.2.1 dX5_isRun_21 (by decide) ?_
    refine lv_iload_n S.1 S.2.1 dX5_isRun_24 rfl (lv_at hl 1 rfl) ?_
    refine lv_imul S.1 S.2.1 dX5_isRun_25 ?_
    refine lv_topi (fun v6 e6 => ?_)
    have i6 : v6.toInt = 301 * c9.toInt := i_mulcl e6 (by decide) (by omega) (by omega)
    refine lv_iload_n S.1 S.2.1 dX5_isRun_26 rfl (lv_at hl 2 rfl) ?_
    refine lv_iadd S.1 S.2.1 dX5_isRun_27 ?_
    refine lv_topi (fun v7 e7 => ?_)
    have i7 : v7.toInt = v6.toInt + d.toInt := i_add e7 (by omega) (by omega)
    refine lM_13 S K hH (vin (by omega) (by omega)) dX5_isRun_28 ?_
    refine lv_topi (fun v8 e8 => ?_)
    refine lv_if_ne (tgt := 36) S.1 S.2.1 dX5_isRun_29 (by decide) (fun c9 => ?_) (fun c9 => ?_)
    · have j9 := t_neq c9
      refine lv_iconst (v := 0) S.1 S.2.1 dX5_isRun_36 (by decide) ?_
      refine cW_zret S hr hk hH hS (by decide) ?_ dX5_isRun_37
      exact ⟨0, rfl, rfl, rfl, by omega⟩
    · have j9 := t_eq c9
      refine lv_iconst (v := 1) S.1 S.2.1 dX5_isRun_32 (by decide) ?_
      refine lv_goto (tgt := 37) S.1 S.2.1 dX5_isRun_33 (by decide) ?_
      refine cW_zret S hr hk hH hS (by decide) ?_ dX5_isRun_37
      exact ⟨1, rfl, rfl, rfl, by omega⟩
set_option maxHeartbeats 4000000 in
set_option maxRecDepth 100000 in
theorem k_X5_runs (l : Launch) (D : va_G) (B : Nat → ClassId) (L : QL) (A : Nat → Prop) (σ : QS) (τ : Int64) (a : Int32) (b : Int32)  (hI : InvM σ) : cW cntM gM l D B L A yX5_runs wsX5_runs 1 22 [.ref (L 0 0), .int a, .int b] σ τ (pI (fun x σ' τ' => InvM σ' ∧ Keep [0] σ σ' ∧ τ' = τ ∧ True)) := by
  refine cW_of (cc := cX5_runs) (nL := 3) (ret := (some .int)) (by decide) rfl (Nat.le_of_ble_eq_true rfl) ?_
  intro p e s m below meth c S hr hk K hH hS ls hl
  have hnX5 : ∀ w ∈ wsX50, w ∈ wsX5_runs := fun w h => mG (tX5 w h)
  have lm1 : ((-1) : Int32).toInt = -1 := by decide
  have l0 : (0 : Int32).toInt = 0 := by decide
  have l1 : (1 : Int32).toInt = 1 := by decide
  have l300 : (300 : Int32).toInt = 300 := by decide
  have hP : Keep [0] σ σ := Keep_r
  have hl : lv_has ls 3 [(0, .ref (L 0 0)), (1, .int a), (2, .int b)] := hl
  refine lv_aload_n S.1 S.2.1 dX5_runs_0 rfl (lv_at hl 0 rfl) ?_
  refine lv_iconst (v := 0) S.1 S.2.1 dX5_runs_1 (by decide) ?_
  refine pM_0_0 S hnX5 K hH hS (mG wd_337) dX5_runs_2 (fun H locs hH hS => ?_)
  obtain ⟨σ1, eσ1⟩ : ∃ z_9 : QS, z_9 = rs σ 0 0 (fun _ => 0) := ⟨_, rfl⟩
  rw [← eσ1] at hH
  have hI := InvM_f eσ1 hI (by decide) (any32 _)
  have hP := Keep_w eσ1 hP (by decide)
  refine lv_aload_n S.1 S.2.1 dX5_runs_5 rfl (lv_at hl 0 rfl) ?_
  refine lv_iload_n S.1 S.2.1 dX5_runs_6 rfl (lv_at hl 1 rfl) ?_
  refine cW_bpi (cW_V (n := 1) (As := [.int a]) (rest := []) (k := 0) (i := 0) S K hH (by decide) rfl rfl (k_X5_isCart l D B L A σ1 τ a hI) gX5_runs_X5_isCart rfl hdV_X5_isCart ⟨Nat.le_of_ble_eq_true rfl, Nat.le_of_ble_eq_true rfl⟩ rfl hl.1 (Nat.le_of_ble_eq_true rfl) dX5_runs_7) hS (fun v2 H locs q2 hH hS => ?_)
  refine lv_if_eq (tgt := 41) S.1 S.2.1 dX5_runs_10 (by decide) (fun c3 => ?_) (fun c3 => ?_)
  · have j3 := t_eq c3
    refine lv_iconst (v := (-1)) S.1 S.2.1 dX5_runs_41 (by decide) ?_
    refine cW_iret S hr hk hH hS ?_ dX5_runs_42
    exact ⟨(-1), rfl, hI, hP, rfl, by trivial⟩
  · have j3 := t_neq c3
    refine lv_iload_n S.1 S.2.1 dX5_runs_13 rfl (lv_at hl 2 rfl) ?_
    refine lv_iconst (v := 0) S.1 S.2.1 dX5_runs_14 (by decide) ?_
    refine lv_sipush (v := 300) S.1 S.2.1 dX5_runs_15 (by decide) ?_
    refine cW_bpi (cW_S (n := 3) (As := [.int b, .int 0, .int 300]) (rest := []) S K hH (k_X5_isIn l D B L A σ1 τ b 0 300 ) gX5_runs_X5_isIn rfl hdS_X5_isIn ⟨Nat.le_of_ble_eq_true rfl, Nat.le_of_ble_eq_true rfl⟩ rfl hl.1 (Nat.le_of_ble_eq_true rfl) dX5_runs_18) hS (fun v4 H locs q4 hH hS => ?_)
    refine lv_if_eq (tgt := 41) S.1 S.2.1 dX5_runs_21 (by decide) (fun c5 => ?_) (fun c5 => ?_)
    · have j5 := t_eq c5
      refine lv_iconst (v := (-1)) S.1 S.2.1 dX5_runs_41 (by decide) ?_
      refine cW_iret S hr hk hH hS ?_ dX5_runs_42
      exact ⟨(-1), rfl, hI, hP, rfl, by trivial⟩
    · have j5 := t_neq c5
      refine lv_aload_n S.1 S.2.1 dX5_runs_24 rfl (lv_at hl 0 rfl) ?_
      refine lv_iload_n S.1 S.2.1 dX5_runs_25 rfl (lv_at hl 1 rfl) ?_
      refine lv_iload_n S.1 S.2.1 dX5_runs_26 rfl (lv_at hl 2 rfl) ?_
      refine cW_bpi (cW_V (n := 2) (As := [.int a, .int b]) (rest := []) (k := 0) (i := 0) S K hH (by decide) rfl rfl (k_X5_isRun l D B L A σ1 τ a b (by omega) (by omega)) gX5_runs_X5_isRun rfl hdV_X5_isRun ⟨Nat.le_of_ble_eq_true rfl, Nat.le_of_ble_eq_true rfl⟩ rfl hl.1 (Nat.le_of_ble_eq_true rfl) dX5_runs_27) hS (fun v6 H locs q6 hH hS => ?_)
      refine lv_if_eq (tgt := 37) S.1 S.2.1 dX5_runs_30 (by decide) (fun c7 => ?_) (fun c7 => ?_)
      · have j7 := t_eq c7
        refine lv_iconst (v := 0) S.1 S.2.1 dX5_runs_37 (by decide) ?_
        refine lv_goto (tgt := 42) S.1 S.2.1 dX5_runs_38 (by decide) ?_
        refine cW_iret S hr hk hH hS ?_ dX5_runs_42
        exact ⟨0, rfl, hI, hP, rfl, by trivial⟩
      · have j7 := t_neq c7
        refine lv_iconst (v := 1) S.1 S.2.1 dX5_runs_33 (by decide) ?_
        refine lv_goto (tgt := 42) S.1 S.2.1 dX5_runs_34 (by decide) ?_
        refine cW_iret S hr hk hH hS ?_ dX5_runs_42
        exact ⟨1, rfl, hI, hP, rfl, by trivial⟩
set_option maxHeartbeats 4000000 in
set_option maxRecDepth 100000 in
theorem k_X5_hourOf (l : Launch) (D : va_G) (B : Nat → ClassId) (L : QL) (A : Nat → Prop) (σ : QS) (τ : Int64) (c9 : Int32) (d : Int32) (t : Int32)  (hp0 : 0 ≤ c9.toInt ∧ c9.toInt ≤ 11) (hp1 : 0 ≤ d.toInt ∧ d.toInt ≤ 300) (hp2 : 0 ≤ t.toInt ∧ t.toInt ≤ 5) (hI : InvM σ) : cW cntM gM l D B L A yX5_hourOf wsX5_hourOf 0 0 [.ref (L 0 0), .int c9, .int d, .int t] σ τ (pI (fun x σ' τ' => σ' = σ ∧ τ' = τ ∧ 24 * d.toInt ≤ x.toInt ∧ x.toInt ≤ 24 * d.toInt + 83)) := by
  refine cW_of (cc := cX5_hourOf) (nL := 4) (ret := (some .int)) (by decide) rfl (Nat.le_of_ble_eq_true rfl) ?_
  intro p e s m below meth c S hr hk K hH hS ls hl
  have hnX5 : ∀ w ∈ wsX50, w ∈ wsX5_hourOf := fun w h => mG (tX5 w h)
  have l6 : (6 : Int32).toInt = 6 := by decide
  have l24 : (24 : Int32).toInt = 24 := by decide
  have hl : lv_has ls 4 [(0, .ref (L 0 0)), (1, .int c9), (2, .int d), (3, .int t)] := hl
  refine lv_bipush (v := 24) S.1 S.2.1 dX5_hourOf_0 (by decide) ?_
  refine lv_iload_n S.1 S.2.1 dX5_hourOf_2 rfl (lv_at hl 2 rfl) ?_
  refine lv_imul S.1 S.2.1 dX5_hourOf_3 ?_
  refine lv_topi (fun v1 e1 => ?_)
  have i1 : v1.toInt = 24 * d.toInt := i_mulcl e1 (by decide) (by omega) (by omega)
  refine lv_aload_n S.1 S.2.1 dX5_hourOf_4 rfl (lv_at hl 0 rfl) ?_
  refine rM_0_6 S hnX5 K hH (mG wd_304) dX5_hourOf_5 ?_
  refine lv_iload_n S.1 S.2.1 dX5_hourOf_8 rfl (lv_at hl 1 rfl) ?_
  refine lM_6 S K hH (vin (by omega) (by omega)) dX5_hourOf_9 ?_
  refine lv_topi (fun v2 e2 => ?_)
  have b2 : 0 ≤ v2.toInt ∧ v2.toInt ≤ 23 := by rw [e2]; exact hI.1 6 0 c9.toNatClampNeg
  refine lv_iadd S.1 S.2.1 dX5_hourOf_10 ?_
  refine lv_topi (fun v3 e3 => ?_)
  have i3 : v3.toInt = v1.toInt + v2.toInt := i_add e3 (by omega) (by omega)
  refine lv_aload_n S.1 S.2.1 dX5_hourOf_11 rfl (lv_at hl 0 rfl) ?_
  refine rM_0_12 S hnX5 K hH (mG wd_310) dX5_hourOf_12 ?_
  refine lv_bipush (v := 6) S.1 S.2.1 dX5_hourOf_15 (by decide) ?_
  refine lv_iload_n S.1 S.2.1 dX5_hourOf_17 rfl (lv_at hl 1 rfl) ?_
  refine lv_imul S.1 S.2.1 dX5_hourOf_18 ?_
  refine lv_topi (fun v4 e4 => ?_)
  have i4 : v4.toInt = 6 * c9.toInt := i_mulcl e4 (by decide) (by omega) (by omega)
  refine lv_iload_n S.1 S.2.1 dX5_hourOf_19 rfl (lv_at hl 3 rfl) ?_
  refine lv_iadd S.1 S.2.1 dX5_hourOf_20 ?_
  refine lv_topi (fun v5 e5 => ?_)
  have i5 : v5.toInt = v4.toInt + t.toInt := i_add e5 (by omega) (by omega)
  refine lM_12 S K hH (vin (by omega) (by omega)) dX5_hourOf_21 ?_
  refine lv_topi (fun v6 e6 => ?_)
  have b6 : 0 ≤ v6.toInt ∧ v6.toInt ≤ 60 := by rw [e6]; exact hI.1 12 0 v5.toNatClampNeg
  refine lv_iadd S.1 S.2.1 dX5_hourOf_22 ?_
  refine lv_topi (fun v7 e7 => ?_)
  have i7 : v7.toInt = v3.toInt + v6.toInt := i_add e7 (by omega) (by omega)
  refine cW_iret S hr hk hH hS ?_ dX5_hourOf_23
  exact ⟨v7, rfl, rfl, rfl, by omega⟩
set_option maxHeartbeats 4000000 in
set_option maxRecDepth 100000 in
theorem k_X5_find (l : Launch) (D : va_G) (B : Nat → ClassId) (L : QL) (A : Nat → Prop) (σ : QS) (τ : Int64) (f : Int32) (a : Int32) (w9 : Int32)  (hp0 : 0 ≤ f.toInt ∧ f.toInt ≤ 11) (hp1 : 0 ≤ a.toInt ∧ a.toInt ≤ 6399) (hI : InvM σ) : cW cntM gM l D B L A yX5_find wsX5_find 1 23 [.ref (L 0 0), .int f, .int a, .int w9] σ τ (pV (fun σ' τ' => InvM σ' ∧ Keep [16] σ σ' ∧ τ' = τ ∧ True)) := by
  refine cW_of (cc := cX5_find) (nL := 11) (ret := none) (by decide) rfl (Nat.le_of_ble_eq_true rfl) ?_
  intro p e s m below meth c S hr hk K hH hS ls hl
  have hnX5 : ∀ w ∈ wsX50, w ∈ wsX5_find := fun w h => mG (tX5 w h)
  have l0 : (0 : Int32).toInt = 0 := by decide
  have l1 : (1 : Int32).toInt = 1 := by decide
  have l4 : (4 : Int32).toInt = 4 := by decide
  have l6 : (6 : Int32).toInt = 6 := by decide
  have l12 : (12 : Int32).toInt = 12 := by decide
  have l24 : (24 : Int32).toInt = 24 := by decide
  have l300 : (300 : Int32).toInt = 300 := by decide
  have l336 : (336 : Int32).toInt = 336 := by decide
  have l1000000 : (1000000 : Int32).toInt = 1000000 := by decide
  have hP : Keep [16] σ σ := Keep_r
  have hl : lv_has ls 11 [(0, .ref (L 0 0)), (1, .int f), (2, .int a), (3, .int w9)] := hl
  refine lv_iconst (v := 0) S.1 S.2.1 dX5_find_0 (by decide) ?_
  refine lv_istore (lv' := [(4, .int 0), (0, .ref (L 0 0)), (1, .int f), (2, .int a), (3, .int w9)]) S.1 S.2.1 dX5_find_1 hl (by decide) rfl (fun ls hl => ?_)
  have cut_3_1 : ∀ (n : Nat) (x4_1 : Int32) (σ_1 : QS) (H : Heap) (locs : List Loc) (ls : Array Slot), (12 - x4_1.toInt).toNat < n → 0 ≤ x4_1.toInt ∧ x4_1.toInt ≤ 12 → InvM σ_1 → Keep [16] σ σ_1 → hW cntM gM D B L σ_1 τ H → va_S A s.heap H locs → lv_has ls 11 [(0, .ref (L 0 0)), (1, .int f), (2, .int a), (3, .int w9), (4, .int x4_1)] → W p l e { frames := 1, cells := 0, slots := 0, locals := 23 } s m [.ref (L 0 0), .int f, .int a, .int w9].toArray below meth c H locs 0 0 (MQ below (QcW cntM gM D B L A (pV (fun σ' τ' => InvM σ' ∧ Keep [16] σ σ' ∧ τ' = τ ∧ True))) [.ref (L 0 0), .int f, .int a, .int w9].toArray s 0 0 A) (F0 m 3 ls []) := by
    intro n
    induction n with
    | zero => intro x4_1 σ_1 H locs ls hm; exact absurd hm (Nat.not_lt_zero _)
    | succ n ih1 =>
      intro x4_1 σ_1 H locs ls hm1 h1_0 hI hP hH hS hl
      refine lv_iload S.1 S.2.1 dX5_find_3 (lv_at hl 4 rfl) ?_
      refine lv_bipush (v := 12) S.1 S.2.1 dX5_find_5 (by decide) ?_
      refine lv_icmp_ge (tgt := 35) S.1 S.2.1 dX5_find_7 (by decide) (fun c2 => ?_) (fun c2 => ?_)
      · have j2 := t_le c2
        refine lv_iconst (v := 1) S.1 S.2.1 dX5_find_35 (by decide) ?_
        refine lv_istore (lv' := [(4, .int 1), (0, .ref (L 0 0)), (1, .int f), (2, .int a), (3, .int w9)]) S.1 S.2.1 dX5_find_36 hl (by decide) rfl (fun ls hl => ?_)
        have cut_38_3 : ∀ (n : Nat) (x4_3 : Int32) (σ_3 : QS) (H : Heap) (locs : List Loc) (ls : Array Slot), (2 * sumS σ_3 + x4_3.toInt).toNat < n → 0 ≤ x4_3.toInt ∧ x4_3.toInt ≤ 1 → InvM σ_3 → Keep [16] σ σ_3 → hW cntM gM D B L σ_3 τ H → va_S A s.heap H locs → lv_has ls 11 [(0, .ref (L 0 0)), (1, .int f), (2, .int a), (3, .int w9), (4, .int x4_3)] → W p l e { frames := 1, cells := 0, slots := 0, locals := 23 } s m [.ref (L 0 0), .int f, .int a, .int w9].toArray below meth c H locs 0 0 (MQ below (QcW cntM gM D B L A (pV (fun σ' τ' => InvM σ' ∧ Keep [16] σ σ' ∧ τ' = τ ∧ True))) [.ref (L 0 0), .int f, .int a, .int w9].toArray s 0 0 A) (F0 m 38 ls []) := by
          intro n
          induction n with
          | zero => intro x4_3 σ_3 H locs ls hm; exact absurd hm (Nat.not_lt_zero _)
          | succ n ih3 =>
            intro x4_3 σ_3 H locs ls hm3 h3_0 hI hP hH hS hl
            refine lv_iload S.1 S.2.1 dX5_find_38 (lv_at hl 4 rfl) ?_
            refine lv_if_eq (tgt := 243) S.1 S.2.1 dX5_find_40 (by decide) (fun c4 => ?_) (fun c4 => ?_)
            · have j4 := t_eq c4
              refine cW_vret S hr hk hH hS ?_ dX5_find_243
              exact ⟨rfl, hI, hP, rfl, by trivial⟩
            · have j4 := t_neq c4
              refine lv_iconst (v := 0) S.1 S.2.1 dX5_find_43 (by decide) ?_
              refine lv_istore (lv' := [(4, .int 0), (0, .ref (L 0 0)), (1, .int f), (2, .int a), (3, .int w9)]) S.1 S.2.1 dX5_find_44 hl (by decide) rfl (fun ls hl => ?_)
              refine lv_iconst (v := 0) S.1 S.2.1 dX5_find_46 (by decide) ?_
              refine lv_istore (lv' := [(5, .int 0), (4, .int 0), (0, .ref (L 0 0)), (1, .int f), (2, .int a), (3, .int w9)]) S.1 S.2.1 dX5_find_47 hl (by decide) rfl (fun ls hl => ?_)
              have cut_49_5 : ∀ (n : Nat) (x4_5 : Int32) (x5_5 : Int32) (σ_5 : QS) (H : Heap) (locs : List Loc) (ls : Array Slot), (12 - x5_5.toInt).toNat < n → 0 ≤ x4_5.toInt ∧ x4_5.toInt ≤ 1 → 0 ≤ x5_5.toInt ∧ x5_5.toInt ≤ 12 → (sumS σ_5 + x4_5.toInt ≤ sumS σ_3) → InvM σ_5 → Keep [16] σ σ_5 → hW cntM gM D B L σ_5 τ H → va_S A s.heap H locs → lv_has ls 11 [(0, .ref (L 0 0)), (1, .int f), (2, .int a), (3, .int w9), (4, .int x4_5), (5, .int x5_5)] → W p l e { frames := 1, cells := 0, slots := 0, locals := 23 } s m [.ref (L 0 0), .int f, .int a, .int w9].toArray below meth c H locs 0 0 (MQ below (QcW cntM gM D B L A (pV (fun σ' τ' => InvM σ' ∧ Keep [16] σ σ' ∧ τ' = τ ∧ True))) [.ref (L 0 0), .int f, .int a, .int w9].toArray s 0 0 A) (F0 m 49 ls []) := by
                intro n
                induction n with
                | zero => intro x4_5 x5_5 σ_5 H locs ls hm; exact absurd hm (Nat.not_lt_zero _)
                | succ n ih5 =>
                  intro x4_5 x5_5 σ_5 H locs ls hm5 h5_0 h5_1 w5_0 hI hP hH hS hl
                  refine lv_iload S.1 S.2.1 dX5_find_49 (lv_at hl 5 rfl) ?_
                  refine lv_aload_n S.1 S.2.1 dX5_find_51 rfl (lv_at hl 0 rfl) ?_
                  refine rM_0_2 S hnX5 K hH (mG wd_335) dX5_find_52 ?_
                  refine lv_topi (fun v6 e6 => ?_)
                  have b6 : 0 ≤ v6.toInt ∧ v6.toInt ≤ 12 := by rw [e6]; exact hI.1 2 0 0
                  refine lv_icmp_ge (tgt := 240) S.1 S.2.1 dX5_find_55 (by decide) (fun c7 => ?_) (fun c7 => ?_)
                  · have j7 := t_le c7
                    refine lv_goto (tgt := 38) S.1 S.2.1 dX5_find_240 (by decide) ?_
                    exact ih3 x4_5 σ_5 _ _ ls (by have h9 := sumS_nn hI; omega) (by omega) hI hP hH hS (lv_sub hl [0, 1, 2, 3, 4] rfl)
                  · have j7 := t_nle c7
                    refine lv_iload S.1 S.2.1 dX5_find_58 (lv_at hl 5 rfl) ?_
                    refine lv_iload_n S.1 S.2.1 dX5_find_60 rfl (lv_at hl 3 rfl) ?_
                    refine lv_icmp_ne (tgt := 67) S.1 S.2.1 dX5_find_61 (by decide) (fun c8 => ?_) (fun c8 => ?_)
                    · have j8 := t_neq c8
                      refine lv_iconst (v := 0) S.1 S.2.1 dX5_find_67 (by decide) ?_
                      refine lv_iload_n S.1 S.2.1 dX5_find_68 rfl (lv_at hl 2 rfl) ?_
                      refine lv_bipush (v := 24) S.1 S.2.1 dX5_find_69 (by decide) ?_
                      refine lv_idiv S.1 S.2.1 dX5_find_71 (by decide) ?_
                      refine lv_topi (fun v9 e9 => ?_)
                      have i9 : v9.toInt = a.toInt / 24 := i_div e9 (by decide) (by decide) (by omega)
                      refine lv_iconst (v := 4) S.1 S.2.1 dX5_find_72 (by decide) ?_
                      refine lv_isub S.1 S.2.1 dX5_find_73 ?_
                      refine lv_topi (fun v10 e10 => ?_)
                      have i10 : v10.toInt = v9.toInt - (4 : Int32).toInt := i_sub e10 (by omega) (by omega)
                      refine va_mmax S.1 S.2.1 (by rw [S.2.2.1]; exact hl.1.symm) S.2.2.2.1 (S.2.2.2.2 (.methodLink RX5 138 Lib.Math.max.name) (mG wd_358)) (S.2.2.2.2 (.static Lib.Math.max.name) (mG wd_135)) (S.2.2.2.2 (.initialized "java/lang/Math") (mG wd_41)) (S.2.2.2.2 (.code Lib.Math.max.name Lib.Math.max.code 2 (some .int)) (mG wd_643)) (Nat.le_of_ble_eq_true rfl) (Nat.le_of_ble_eq_true rfl) (Nat.zero_le _) (Nat.zero_le _) dX5_find_74 ?_
                      refine lv_topi (fun v11 e11 => ?_)
                      have i11 : (v11.toInt = (0 : Int32).toInt ∨ v11.toInt = v10.toInt) ∧ (0 : Int32).toInt ≤ v11.toInt ∧ v10.toInt ≤ v11.toInt := i_mmax e11
                      refine lv_istore (lv' := [(6, .int v11), (0, .ref (L 0 0)), (1, .int f), (2, .int a), (3, .int w9), (4, .int x4_5), (5, .int x5_5)]) S.1 S.2.1 dX5_find_77 hl (by decide) rfl (fun ls hl => ?_)
                      have cut_79_12 : ∀ (n : Nat) (x4_12 : Int32) (x6_12 : Int32) (σ_12 : QS) (H : Heap) (locs : List Loc) (ls : Array Slot), (301 - x6_12.toInt).toNat < n → 0 ≤ x4_12.toInt ∧ x4_12.toInt ≤ 1 → 0 ≤ x6_12.toInt ∧ x6_12.toInt ≤ 301 → (sumS σ_12 + x4_12.toInt ≤ sumS σ_3) → InvM σ_12 → Keep [16] σ σ_12 → hW cntM gM D B L σ_12 τ H → va_S A s.heap H locs → lv_has ls 11 [(0, .ref (L 0 0)), (1, .int f), (2, .int a), (3, .int w9), (4, .int x4_12), (5, .int x5_5), (6, .int x6_12)] → W p l e { frames := 1, cells := 0, slots := 0, locals := 23 } s m [.ref (L 0 0), .int f, .int a, .int w9].toArray below meth c H locs 0 0 (MQ below (QcW cntM gM D B L A (pV (fun σ' τ' => InvM σ' ∧ Keep [16] σ σ' ∧ τ' = τ ∧ True))) [.ref (L 0 0), .int f, .int a, .int w9].toArray s 0 0 A) (F0 m 79 ls []) := by
                        intro n
                        induction n with
                        | zero => intro x4_12 x6_12 σ_12 H locs ls hm; exact absurd hm (Nat.not_lt_zero _)
                        | succ n ih12 =>
                          intro x4_12 x6_12 σ_12 H locs ls hm12 h12_0 h12_1 w12_0 hI hP hH hS hl
                          refine lv_bipush (v := 24) S.1 S.2.1 dX5_find_79 (by decide) ?_
                          refine lv_iload S.1 S.2.1 dX5_find_81 (lv_at hl 6 rfl) ?_
                          refine lv_imul S.1 S.2.1 dX5_find_83 ?_
                          refine lv_topi (fun v13 e13 => ?_)
                          have i13 : v13.toInt = 24 * x6_12.toInt := i_mulcl e13 (by decide) (by omega) (by omega)
                          refine lv_iload_n S.1 S.2.1 dX5_find_84 rfl (lv_at hl 2 rfl) ?_
                          refine lv_sipush (v := 336) S.1 S.2.1 dX5_find_85 (by decide) ?_
                          refine lv_iadd S.1 S.2.1 dX5_find_88 ?_
                          refine lv_topi (fun v14 e14 => ?_)
                          have i14 : v14.toInt = a.toInt + (336 : Int32).toInt := i_add e14 (by omega) (by omega)
                          refine lv_icmp_gt (tgt := 234) S.1 S.2.1 dX5_find_89 (by decide) (fun c15 => ?_) (fun c15 => ?_)
                          · have j15 := t_lt c15
                            obtain ⟨v16, e16⟩ : ∃ y_9 : Int32, y_9 = x5_5 + 1 := ⟨_, rfl⟩
                            have i16 : v16.toInt = x5_5.toInt + 1 := i_addc e16 (by decide) (by omega) (by omega)
                            refine lv_iinc (v := v16) (lv' := [(5, .int v16), (0, .ref (L 0 0)), (1, .int f), (2, .int a), (3, .int w9), (4, .int x4_12), (6, .int x6_12)]) S.1 S.2.1 dX5_find_234 hl (k := 5) rfl (by rw [e16]; rfl) (by decide) rfl (fun ls hl => ?_)
                            refine lv_goto (tgt := 49) S.1 S.2.1 dX5_find_237 (by decide) ?_
                            exact ih5 x4_12 v16 σ_12 _ _ ls (by omega) (by omega) (by omega) (by omega) hI hP hH hS (lv_sub hl [1, 2, 3, 4, 5, 0] rfl)
                          · have j15 := t_nlt c15
                            refine lv_iload S.1 S.2.1 dX5_find_92 (lv_at hl 6 rfl) ?_
                            refine lv_sipush (v := 300) S.1 S.2.1 dX5_find_94 (by decide) ?_
                            refine lv_icmp_gt (tgt := 234) S.1 S.2.1 dX5_find_97 (by decide) (fun c17 => ?_) (fun c17 => ?_)
                            · have j17 := t_lt c17
                              obtain ⟨v18, e18⟩ : ∃ y_9 : Int32, y_9 = x5_5 + 1 := ⟨_, rfl⟩
                              have i18 : v18.toInt = x5_5.toInt + 1 := i_addc e18 (by decide) (by omega) (by omega)
                              refine lv_iinc (v := v18) (lv' := [(5, .int v18), (0, .ref (L 0 0)), (1, .int f), (2, .int a), (3, .int w9), (4, .int x4_12), (6, .int x6_12)]) S.1 S.2.1 dX5_find_234 hl (k := 5) rfl (by rw [e18]; rfl) (by decide) rfl (fun ls hl => ?_)
                              refine lv_goto (tgt := 49) S.1 S.2.1 dX5_find_237 (by decide) ?_
                              exact ih5 x4_12 v18 σ_12 _ _ ls (by omega) (by omega) (by omega) (by omega) hI hP hH hS (lv_sub hl [1, 2, 3, 4, 5, 0] rfl)
                            · have j17 := t_nlt c17
                              refine lv_aload_n S.1 S.2.1 dX5_find_100 rfl (lv_at hl 0 rfl) ?_
                              refine lv_iload S.1 S.2.1 dX5_find_101 (lv_at hl 5 rfl) ?_
                              refine lv_iload S.1 S.2.1 dX5_find_103 (lv_at hl 6 rfl) ?_
                              refine cW_bpi (cW_V (n := 2) (As := [.int x5_5, .int x6_12]) (rest := []) (k := 0) (i := 0) S K hH (by decide) rfl rfl (k_X5_isRun l D B L A σ_12 τ x5_5 x6_12 (by omega) (by omega)) gX5_find_X5_isRun rfl hdV_X5_isRun ⟨Nat.le_of_ble_eq_true rfl, Nat.le_of_ble_eq_true rfl⟩ rfl hl.1 (Nat.le_of_ble_eq_true rfl) dX5_find_105) hS (fun v19 H locs q19 hH hS => ?_)
                              refine lv_if_ne (tgt := 114) S.1 S.2.1 dX5_find_108 (by decide) (fun c20 => ?_) (fun c20 => ?_)
                              · have j20 := t_neq c20
                                refine lv_iconst (v := 0) S.1 S.2.1 dX5_find_114 (by decide) ?_
                                refine lv_istore (lv' := [(7, .int 0), (0, .ref (L 0 0)), (1, .int f), (2, .int a), (3, .int w9), (4, .int x4_12), (5, .int x5_5), (6, .int x6_12)]) S.1 S.2.1 dX5_find_115 hl (by decide) rfl (fun ls hl => ?_)
                                refine lv_iconst (v := 0) S.1 S.2.1 dX5_find_117 (by decide) ?_
                                refine lv_istore (lv' := [(8, .int 0), (7, .int 0), (0, .ref (L 0 0)), (1, .int f), (2, .int a), (3, .int w9), (4, .int x4_12), (5, .int x5_5), (6, .int x6_12)]) S.1 S.2.1 dX5_find_118 hl (by decide) rfl (fun ls hl => ?_)
                                have cut_120_21 : ∀ (n : Nat) (x4_21 : Int32) (x7_21 : Int32) (x8_21 : Int32) (σ_21 : QS) (H : Heap) (locs : List Loc) (ls : Array Slot), (6 - x8_21.toInt).toNat < n → 0 ≤ x4_21.toInt ∧ x4_21.toInt ≤ 1 → 0 ≤ x7_21.toInt ∧ x7_21.toInt ≤ 1 → 0 ≤ x8_21.toInt ∧ x8_21.toInt ≤ 6 → (sumS σ_21 + x4_21.toInt ≤ sumS σ_3) → InvM σ_21 → Keep [16] σ σ_21 → hW cntM gM D B L σ_21 τ H → va_S A s.heap H locs → lv_has ls 11 [(0, .ref (L 0 0)), (1, .int f), (2, .int a), (3, .int w9), (4, .int x4_21), (5, .int x5_5), (6, .int x6_12), (7, .int x7_21), (8, .int x8_21)] → W p l e { frames := 1, cells := 0, slots := 0, locals := 23 } s m [.ref (L 0 0), .int f, .int a, .int w9].toArray below meth c H locs 0 0 (MQ below (QcW cntM gM D B L A (pV (fun σ' τ' => InvM σ' ∧ Keep [16] σ σ' ∧ τ' = τ ∧ True))) [.ref (L 0 0), .int f, .int a, .int w9].toArray s 0 0 A) (F0 m 120 ls []) := by
                                  intro n
                                  induction n with
                                  | zero => intro x4_21 x7_21 x8_21 σ_21 H locs ls hm; exact absurd hm (Nat.not_lt_zero _)
                                  | succ n ih21 =>
                                    intro x4_21 x7_21 x8_21 σ_21 H locs ls hm21 h21_0 h21_1 h21_2 w21_0 hI hP hH hS hl
                                    refine lv_iload S.1 S.2.1 dX5_find_120 (lv_at hl 8 rfl) ?_
                                    refine lv_aload_n S.1 S.2.1 dX5_find_122 rfl (lv_at hl 0 rfl) ?_
                                    refine rM_0_9 S hnX5 K hH (mG wd_307) dX5_find_123 ?_
                                    refine lv_iload S.1 S.2.1 dX5_find_126 (lv_at hl 5 rfl) ?_
                                    refine lM_9 S K hH (vin (by omega) (by omega)) dX5_find_128 ?_
                                    refine lv_topi (fun v22 e22 => ?_)
                                    have b22 : 0 ≤ v22.toInt ∧ v22.toInt ≤ 6 := by rw [e22]; exact hI.1 9 0 x5_5.toNatClampNeg
                                    refine lv_icmp_ge (tgt := 228) S.1 S.2.1 dX5_find_129 (by decide) (fun c23 => ?_) (fun c23 => ?_)
                                    · have j23 := t_le c23
                                      obtain ⟨v24, e24⟩ : ∃ y_9 : Int32, y_9 = x6_12 + 1 := ⟨_, rfl⟩
                                      have i24 : v24.toInt = x6_12.toInt + 1 := i_addc e24 (by decide) (by omega) (by omega)
                                      refine lv_iinc (v := v24) (lv' := [(6, .int v24), (0, .ref (L 0 0)), (1, .int f), (2, .int a), (3, .int w9), (4, .int x4_21), (5, .int x5_5), (7, .int x7_21), (8, .int x8_21)]) S.1 S.2.1 dX5_find_228 hl (k := 6) rfl (by rw [e24]; rfl) (by decide) rfl (fun ls hl => ?_)
                                      refine lv_goto (tgt := 79) S.1 S.2.1 dX5_find_231 (by decide) ?_
                                      exact ih12 x4_21 v24 σ_21 _ _ ls (by omega) (by omega) (by omega) (by omega) hI hP hH hS (lv_sub hl [1, 2, 3, 4, 5, 6, 0] rfl)
                                    · have j23 := t_nle c23
                                      refine lv_aload_n S.1 S.2.1 dX5_find_132 rfl (lv_at hl 0 rfl) ?_
                                      refine lv_iload S.1 S.2.1 dX5_find_133 (lv_at hl 5 rfl) ?_
                                      refine lv_iload S.1 S.2.1 dX5_find_135 (lv_at hl 6 rfl) ?_
                                      refine lv_iload S.1 S.2.1 dX5_find_137 (lv_at hl 8 rfl) ?_
                                      refine cW_bpi (cW_V (n := 3) (As := [.int x5_5, .int x6_12, .int x8_21]) (rest := []) (k := 0) (i := 0) S K hH (by decide) rfl rfl (k_X5_hourOf l D B L A σ_21 τ x5_5 x6_12 x8_21 (by omega) (by omega) (by omega) hI) gX5_find_X5_hourOf rfl hdV_X5_hourOf ⟨Nat.le_of_ble_eq_true rfl, Nat.le_of_ble_eq_true rfl⟩ rfl hl.1 (Nat.le_of_ble_eq_true rfl) dX5_find_139) hS (fun v25 H locs q25 hH hS => ?_)
                                      refine lv_istore (lv' := [(9, .int v25), (0, .ref (L 0 0)), (1, .int f), (2, .int a), (3, .int w9), (4, .int x4_21), (5, .int x5_5), (6, .int x6_12), (7, .int x7_21), (8, .int x8_21)]) S.1 S.2.1 dX5_find_142 hl (by decide) rfl (fun ls hl => ?_)
                                      refine lv_aload_n S.1 S.2.1 dX5_find_144 rfl (lv_at hl 1 rfl) ?_
                                      refine rM_0_11 S hnX5 K hH (mG wd_309) dX5_find_145 ?_
                                      refine lv_bipush (v := 6) S.1 S.2.1 dX5_find_148 (by decide) ?_
                                      refine lv_iload S.1 S.2.1 dX5_find_150 (lv_at hl 6 rfl) ?_
                                      refine lv_imul S.1 S.2.1 dX5_find_152 ?_
                                      refine lv_topi (fun v26 e26 => ?_)
                                      have i26 : v26.toInt = 6 * x5_5.toInt := i_mulcl e26 (by decide) (by omega) (by omega)
                                      refine lv_iload S.1 S.2.1 dX5_find_153 (lv_at hl 9 rfl) ?_
                                      refine lv_iadd S.1 S.2.1 dX5_find_155 ?_
                                      refine lv_topi (fun v27 e27 => ?_)
                                      have i27 : v27.toInt = v26.toInt + x8_21.toInt := i_add e27 (by omega) (by omega)
                                      refine lM_11 S K hH (vin (by omega) (by omega)) dX5_find_156 ?_
                                      refine lv_topi (fun v28 e28 => ?_)
                                      have b28 : 0 ≤ v28.toInt ∧ v28.toInt ≤ 11 := by rw [e28]; exact hI.1 11 0 v27.toNatClampNeg
                                      refine lv_istore (lv' := [(10, .int v28), (9, .int v25), (0, .ref (L 0 0)), (1, .int f), (2, .int a), (3, .int w9), (4, .int x4_21), (5, .int x5_5), (6, .int x6_12), (7, .int x7_21), (8, .int x8_21)]) S.1 S.2.1 dX5_find_157 hl (by decide) rfl (fun ls hl => ?_)
                                      refine lv_iload S.1 S.2.1 dX5_find_159 (lv_at hl 9 rfl) ?_
                                      refine lv_if_eq (tgt := 198) S.1 S.2.1 dX5_find_161 (by decide) (fun c29 => ?_) (fun c29 => ?_)
                                      · have j29 := t_eq c29
                                        refine lv_iload S.1 S.2.1 dX5_find_198 (lv_at hl 9 rfl) ?_
                                        refine lv_if_ne (tgt := 215) S.1 S.2.1 dX5_find_200 (by decide) (fun c30 => ?_) (fun c30 => ?_)
                                        · have j30 := t_neq c30
                                          exact absurd j30 (by omega)
                                        · have j30 := t_eq c30
                                          refine lv_iload S.1 S.2.1 dX5_find_203 (lv_at hl 1 rfl) ?_
                                          refine lv_aload_n S.1 S.2.1 dX5_find_205 rfl (lv_at hl 2 rfl) ?_
                                          refine rM_0_16 S hnX5 K hH (mG wd_317) dX5_find_206 ?_
                                          refine lv_iload S.1 S.2.1 dX5_find_209 (lv_at hl 0 rfl) ?_
                                          refine lM_16 S K hH (vin (by omega) (by omega)) dX5_find_211 ?_
                                          refine lv_topi (fun v31 e31 => ?_)
                                          have b31 : 0 ≤ v31.toInt ∧ v31.toInt ≤ 1000000 := by rw [e31]; exact hI.1 16 0 v28.toNatClampNeg
                                          refine lv_icmp_lt (tgt := 219) S.1 S.2.1 dX5_find_212 (by decide) (fun c32 => ?_) (fun c32 => ?_)
                                          · have j32 := t_lt c32
                                            refine lv_iconst (v := 0) S.1 S.2.1 dX5_find_219 (by decide) ?_
                                            refine lv_istore (lv' := [(7, .int 0), (10, .int v28), (9, .int v25), (0, .ref (L 0 0)), (1, .int f), (2, .int a), (3, .int w9), (4, .int x4_21), (5, .int x5_5), (6, .int x6_12), (8, .int x8_21)]) S.1 S.2.1 dX5_find_220 hl (by decide) rfl (fun ls hl => ?_)
                                            obtain ⟨v33, e33⟩ : ∃ y_9 : Int32, y_9 = x8_21 + 1 := ⟨_, rfl⟩
                                            have i33 : v33.toInt = x8_21.toInt + 1 := i_addc e33 (by decide) (by omega) (by omega)
                                            refine lv_iinc (v := v33) (lv' := [(8, .int v33), (7, .int 0), (10, .int v28), (9, .int v25), (0, .ref (L 0 0)), (1, .int f), (2, .int a), (3, .int w9), (4, .int x4_21), (5, .int x5_5), (6, .int x6_12)]) S.1 S.2.1 dX5_find_222 hl (k := 10) rfl (by rw [e33]; rfl) (by decide) rfl (fun ls hl => ?_)
                                            refine lv_goto (tgt := 120) S.1 S.2.1 dX5_find_225 (by decide) ?_
                                            exact ih21 x4_21 0 v33 σ_21 _ _ ls (by omega) (by omega) (by omega) (by omega) (by omega) hI hP hH hS (lv_sub hl [4, 5, 6, 7, 8, 9, 10, 1, 0] rfl)
                                          · have j32 := t_nlt c32
                                            refine lv_iconst (v := 1) S.1 S.2.1 dX5_find_215 (by decide) ?_
                                            refine lv_goto (tgt := 220) S.1 S.2.1 dX5_find_216 (by decide) ?_
                                            refine lv_istore (lv' := [(7, .int 1), (10, .int v28), (9, .int v25), (0, .ref (L 0 0)), (1, .int f), (2, .int a), (3, .int w9), (4, .int x4_21), (5, .int x5_5), (6, .int x6_12), (8, .int x8_21)]) S.1 S.2.1 dX5_find_220 hl (by decide) rfl (fun ls hl => ?_)
                                            obtain ⟨v34, e34⟩ : ∃ y_9 : Int32, y_9 = x8_21 + 1 := ⟨_, rfl⟩
                                            have i34 : v34.toInt = x8_21.toInt + 1 := i_addc e34 (by decide) (by omega) (by omega)
                                            refine lv_iinc (v := v34) (lv' := [(8, .int v34), (7, .int 1), (10, .int v28), (9, .int v25), (0, .ref (L 0 0)), (1, .int f), (2, .int a), (3, .int w9), (4, .int x4_21), (5, .int x5_5), (6, .int x6_12)]) S.1 S.2.1 dX5_find_222 hl (k := 10) rfl (by rw [e34]; rfl) (by decide) rfl (fun ls hl => ?_)
                                            refine lv_goto (tgt := 120) S.1 S.2.1 dX5_find_225 (by decide) ?_
                                            exact ih21 x4_21 1 v34 σ_21 _ _ ls (by omega) (by omega) (by omega) (by omega) (by omega) hI hP hH hS (lv_sub hl [4, 5, 6, 7, 8, 9, 10, 1, 0] rfl)
                                      · have j29 := t_neq c29
                                        refine lv_iload S.1 S.2.1 dX5_find_164 (lv_at hl 1 rfl) ?_
                                        refine lv_iload_n S.1 S.2.1 dX5_find_166 rfl (lv_at hl 4 rfl) ?_
                                        refine lv_sipush (v := 336) S.1 S.2.1 dX5_find_167 (by decide) ?_
                                        refine lv_iadd S.1 S.2.1 dX5_find_170 ?_
                                        refine lv_topi (fun v35 e35 => ?_)
                                        have i35 : v35.toInt = a.toInt + (336 : Int32).toInt := i_add e35 (by omega) (by omega)
                                        refine lv_icmp_gt (tgt := 198) S.1 S.2.1 dX5_find_171 (by decide) (fun c36 => ?_) (fun c36 => ?_)
                                        · have j36 := t_lt c36
                                          refine lv_iload S.1 S.2.1 dX5_find_198 (lv_at hl 9 rfl) ?_
                                          refine lv_if_ne (tgt := 215) S.1 S.2.1 dX5_find_200 (by decide) (fun c37 => ?_) (fun c37 => ?_)
                                          · have j37 := t_neq c37
                                            refine lv_iconst (v := 1) S.1 S.2.1 dX5_find_215 (by decide) ?_
                                            refine lv_goto (tgt := 220) S.1 S.2.1 dX5_find_216 (by decide) ?_
                                            refine lv_istore (lv' := [(7, .int 1), (10, .int v28), (9, .int v25), (0, .ref (L 0 0)), (1, .int f), (2, .int a), (3, .int w9), (4, .int x4_21), (5, .int x5_5), (6, .int x6_12), (8, .int x8_21)]) S.1 S.2.1 dX5_find_220 hl (by decide) rfl (fun ls hl => ?_)
                                            obtain ⟨v38, e38⟩ : ∃ y_9 : Int32, y_9 = x8_21 + 1 := ⟨_, rfl⟩
                                            have i38 : v38.toInt = x8_21.toInt + 1 := i_addc e38 (by decide) (by omega) (by omega)
                                            refine lv_iinc (v := v38) (lv' := [(8, .int v38), (7, .int 1), (10, .int v28), (9, .int v25), (0, .ref (L 0 0)), (1, .int f), (2, .int a), (3, .int w9), (4, .int x4_21), (5, .int x5_5), (6, .int x6_12)]) S.1 S.2.1 dX5_find_222 hl (k := 10) rfl (by rw [e38]; rfl) (by decide) rfl (fun ls hl => ?_)
                                            refine lv_goto (tgt := 120) S.1 S.2.1 dX5_find_225 (by decide) ?_
                                            exact ih21 x4_21 1 v38 σ_21 _ _ ls (by omega) (by omega) (by omega) (by omega) (by omega) hI hP hH hS (lv_sub hl [4, 5, 6, 7, 8, 9, 10, 1, 0] rfl)
                                          · have j37 := t_eq c37
                                            exact absurd j37 (by omega)
                                        · have j36 := t_nlt c36
                                          refine lv_iload S.1 S.2.1 dX5_find_174 (lv_at hl 1 rfl) ?_
                                          refine lv_aload_n S.1 S.2.1 dX5_find_176 rfl (lv_at hl 2 rfl) ?_
                                          refine rM_0_16 S hnX5 K hH (mG wd_317) dX5_find_177 ?_
                                          refine lv_iload S.1 S.2.1 dX5_find_180 (lv_at hl 0 rfl) ?_
                                          refine lM_16 S K hH (vin (by omega) (by omega)) dX5_find_182 ?_
                                          refine lv_topi (fun v39 e39 => ?_)
                                          have b39 : 0 ≤ v39.toInt ∧ v39.toInt ≤ 1000000 := by rw [e39]; exact hI.1 16 0 v28.toNatClampNeg
                                          refine lv_icmp_ge (tgt := 198) S.1 S.2.1 dX5_find_183 (by decide) (fun c40 => ?_) (fun c40 => ?_)
                                          · have j40 := t_le c40
                                            refine lv_iload S.1 S.2.1 dX5_find_198 (lv_at hl 9 rfl) ?_
                                            refine lv_if_ne (tgt := 215) S.1 S.2.1 dX5_find_200 (by decide) (fun c41 => ?_) (fun c41 => ?_)
                                            · have j41 := t_neq c41
                                              refine lv_iconst (v := 1) S.1 S.2.1 dX5_find_215 (by decide) ?_
                                              refine lv_goto (tgt := 220) S.1 S.2.1 dX5_find_216 (by decide) ?_
                                              refine lv_istore (lv' := [(7, .int 1), (10, .int v28), (9, .int v25), (0, .ref (L 0 0)), (1, .int f), (2, .int a), (3, .int w9), (4, .int x4_21), (5, .int x5_5), (6, .int x6_12), (8, .int x8_21)]) S.1 S.2.1 dX5_find_220 hl (by decide) rfl (fun ls hl => ?_)
                                              obtain ⟨v42, e42⟩ : ∃ y_9 : Int32, y_9 = x8_21 + 1 := ⟨_, rfl⟩
                                              have i42 : v42.toInt = x8_21.toInt + 1 := i_addc e42 (by decide) (by omega) (by omega)
                                              refine lv_iinc (v := v42) (lv' := [(8, .int v42), (7, .int 1), (10, .int v28), (9, .int v25), (0, .ref (L 0 0)), (1, .int f), (2, .int a), (3, .int w9), (4, .int x4_21), (5, .int x5_5), (6, .int x6_12)]) S.1 S.2.1 dX5_find_222 hl (k := 10) rfl (by rw [e42]; rfl) (by decide) rfl (fun ls hl => ?_)
                                              refine lv_goto (tgt := 120) S.1 S.2.1 dX5_find_225 (by decide) ?_
                                              exact ih21 x4_21 1 v42 σ_21 _ _ ls (by omega) (by omega) (by omega) (by omega) (by omega) hI hP hH hS (lv_sub hl [4, 5, 6, 7, 8, 9, 10, 1, 0] rfl)
                                            · have j41 := t_eq c41
                                              exact absurd j41 (by omega)
                                          · have j40 := t_nle c40
                                            refine lv_aload_n S.1 S.2.1 dX5_find_186 rfl (lv_at hl 2 rfl) ?_
                                            refine rM_0_16 S hnX5 K hH (mG wd_317) dX5_find_187 ?_
                                            refine lv_iload S.1 S.2.1 dX5_find_190 (lv_at hl 0 rfl) ?_
                                            refine lv_iload S.1 S.2.1 dX5_find_192 (lv_at hl 1 rfl) ?_
                                            refine sM_16 S K hH hS (vin (by omega) (by omega)) dX5_find_194 (fun H locs hH hS => ?_)
                                            obtain ⟨σ43, eσ43⟩ : ∃ z_9 : QS, z_9 = rs σ_21 16 0 (upd (σ_21 16 0) v28.toNatClampNeg v25) := ⟨_, rfl⟩
                                            rw [← eσ43] at hH
                                            have hI := InvM_a eσ43 hI (by decide) (show (0 : Int) ≤ v25.toInt ∧ v25.toInt ≤ 1000000 by omega)
                                            have hP := Keep_w eσ43 hP (by decide)
                                            have hs9 := sumS_w eσ43 e39 (by omega) (by omega)
                                            refine lv_iconst (v := 1) S.1 S.2.1 dX5_find_195 (by decide) ?_
                                            refine lv_istore (lv' := [(4, .int 1), (10, .int v28), (9, .int v25), (0, .ref (L 0 0)), (1, .int f), (2, .int a), (3, .int w9), (5, .int x5_5), (6, .int x6_12), (7, .int x7_21), (8, .int x8_21)]) S.1 S.2.1 dX5_find_196 hl (by decide) rfl (fun ls hl => ?_)
                                            refine lv_iload S.1 S.2.1 dX5_find_198 (lv_at hl 9 rfl) ?_
                                            refine lv_if_ne (tgt := 215) S.1 S.2.1 dX5_find_200 (by decide) (fun c44 => ?_) (fun c44 => ?_)
                                            · have j44 := t_neq c44
                                              refine lv_iconst (v := 1) S.1 S.2.1 dX5_find_215 (by decide) ?_
                                              refine lv_goto (tgt := 220) S.1 S.2.1 dX5_find_216 (by decide) ?_
                                              refine lv_istore (lv' := [(7, .int 1), (4, .int 1), (10, .int v28), (9, .int v25), (0, .ref (L 0 0)), (1, .int f), (2, .int a), (3, .int w9), (5, .int x5_5), (6, .int x6_12), (8, .int x8_21)]) S.1 S.2.1 dX5_find_220 hl (by decide) rfl (fun ls hl => ?_)
                                              obtain ⟨v45, e45⟩ : ∃ y_9 : Int32, y_9 = x8_21 + 1 := ⟨_, rfl⟩
                                              have i45 : v45.toInt = x8_21.toInt + 1 := i_addc e45 (by decide) (by omega) (by omega)
                                              refine lv_iinc (v := v45) (lv' := [(8, .int v45), (7, .int 1), (4, .int 1), (10, .int v28), (9, .int v25), (0, .ref (L 0 0)), (1, .int f), (2, .int a), (3, .int w9), (5, .int x5_5), (6, .int x6_12)]) S.1 S.2.1 dX5_find_222 hl (k := 10) rfl (by rw [e45]; rfl) (by decide) rfl (fun ls hl => ?_)
                                              refine lv_goto (tgt := 120) S.1 S.2.1 dX5_find_225 (by decide) ?_
                                              exact ih21 1 1 v45 σ43 _ _ ls (by omega) (by omega) (by omega) (by omega) (by omega) hI hP hH hS (lv_sub hl [5, 6, 7, 8, 2, 9, 10, 1, 0] rfl)
                                            · have j44 := t_eq c44
                                              exact absurd j44 (by omega)
                                exact cut_120_21 _ x4_12 0 0 σ_12 _ _ ls (Nat.lt_succ_self _) (by omega) (by omega) (by omega) (by omega) hI hP hH hS (lv_sub hl [2, 3, 4, 5, 6, 7, 8, 1, 0] rfl)
                              · have j20 := t_eq c20
                                refine lv_goto (tgt := 228) S.1 S.2.1 dX5_find_111 (by decide) ?_
                                obtain ⟨v46, e46⟩ : ∃ y_9 : Int32, y_9 = x6_12 + 1 := ⟨_, rfl⟩
                                have i46 : v46.toInt = x6_12.toInt + 1 := i_addc e46 (by decide) (by omega) (by omega)
                                refine lv_iinc (v := v46) (lv' := [(6, .int v46), (0, .ref (L 0 0)), (1, .int f), (2, .int a), (3, .int w9), (4, .int x4_12), (5, .int x5_5)]) S.1 S.2.1 dX5_find_228 hl (k := 6) rfl (by rw [e46]; rfl) (by decide) rfl (fun ls hl => ?_)
                                refine lv_goto (tgt := 79) S.1 S.2.1 dX5_find_231 (by decide) ?_
                                exact ih12 x4_12 v46 σ_12 _ _ ls (by omega) (by omega) (by omega) (by omega) hI hP hH hS (lv_sub hl [1, 2, 3, 4, 5, 6, 0] rfl)
                      exact cut_79_12 _ x4_5 v11 σ_5 _ _ ls (Nat.lt_succ_self _) (by omega) (by omega) (by omega) hI hP hH hS (lv_sub hl [1, 2, 3, 4, 5, 6, 0] rfl)
                    · have j8 := t_eq c8
                      refine lv_goto (tgt := 234) S.1 S.2.1 dX5_find_64 (by decide) ?_
                      obtain ⟨v47, e47⟩ : ∃ y_9 : Int32, y_9 = x5_5 + 1 := ⟨_, rfl⟩
                      have i47 : v47.toInt = x5_5.toInt + 1 := i_addc e47 (by decide) (by omega) (by omega)
                      refine lv_iinc (v := v47) (lv' := [(5, .int v47), (0, .ref (L 0 0)), (1, .int f), (2, .int a), (3, .int w9), (4, .int x4_5)]) S.1 S.2.1 dX5_find_234 hl (k := 5) rfl (by rw [e47]; rfl) (by decide) rfl (fun ls hl => ?_)
                      refine lv_goto (tgt := 49) S.1 S.2.1 dX5_find_237 (by decide) ?_
                      exact ih5 x4_5 v47 σ_5 _ _ ls (by omega) (by omega) (by omega) (by omega) hI hP hH hS (lv_sub hl [1, 2, 3, 4, 5, 0] rfl)
              exact cut_49_5 _ 0 0 σ_3 _ _ ls (Nat.lt_succ_self _) (by omega) (by omega) (by omega) hI hP hH hS (lv_sub hl [2, 3, 4, 5, 1, 0] rfl)
        exact cut_38_3 _ 1 σ_1 _ _ ls (Nat.lt_succ_self _) (by omega) hI hP hH hS (lv_sub hl [1, 2, 3, 4, 0] rfl)
      · have j2 := t_nle c2
        refine lv_aload_n S.1 S.2.1 dX5_find_10 rfl (lv_at hl 0 rfl) ?_
        refine rM_0_16 S hnX5 K hH (mG wd_317) dX5_find_11 ?_
        refine lv_iload S.1 S.2.1 dX5_find_14 (lv_at hl 4 rfl) ?_
        refine lv_iload S.1 S.2.1 dX5_find_16 (lv_at hl 4 rfl) ?_
        refine lv_iload_n S.1 S.2.1 dX5_find_18 rfl (lv_at hl 1 rfl) ?_
        refine lv_icmp_ne (tgt := 26) S.1 S.2.1 dX5_find_19 (by decide) (fun c48 => ?_) (fun c48 => ?_)
        · have j48 := t_neq c48
          refine lv_ldc (v := 1000000) S.1 S.2.1 S.2.2.2.1 (S.2.2.2.2 (.constant RX5 137 (1000000)) (mG wd_357)) dX5_find_26 ?_
          refine sM_16 S K hH hS (vin (by omega) (by omega)) dX5_find_28 (fun H locs hH hS => ?_)
          obtain ⟨σ49, eσ49⟩ : ∃ z_9 : QS, z_9 = rs σ_1 16 0 (upd (σ_1 16 0) x4_1.toNatClampNeg 1000000) := ⟨_, rfl⟩
          rw [← eσ49] at hH
          have hI := InvM_a eσ49 hI (by decide) (show (0 : Int) ≤ (1000000 : Int32).toInt ∧ (1000000 : Int32).toInt ≤ 1000000 by omega)
          have hP := Keep_w eσ49 hP (by decide)
          obtain ⟨v50, e50⟩ : ∃ y_9 : Int32, y_9 = x4_1 + 1 := ⟨_, rfl⟩
          have i50 : v50.toInt = x4_1.toInt + 1 := i_addc e50 (by decide) (by omega) (by omega)
          refine lv_iinc (v := v50) (lv' := [(4, .int v50), (0, .ref (L 0 0)), (1, .int f), (2, .int a), (3, .int w9)]) S.1 S.2.1 dX5_find_29 hl (k := 4) rfl (by rw [e50]; rfl) (by decide) rfl (fun ls hl => ?_)
          refine lv_goto (tgt := 3) S.1 S.2.1 dX5_find_32 (by decide) ?_
          exact ih1 v50 σ49 _ _ ls (by omega) (by omega) hI hP hH hS (lv_sub hl [1, 2, 3, 4, 0] rfl)
        · have j48 := t_eq c48
          refine lv_iload_n S.1 S.2.1 dX5_find_22 rfl (lv_at hl 2 rfl) ?_
          refine lv_goto (tgt := 28) S.1 S.2.1 dX5_find_23 (by decide) ?_
          refine sM_16 S K hH hS (vin (by omega) (by omega)) dX5_find_28 (fun H locs hH hS => ?_)
          obtain ⟨σ51, eσ51⟩ : ∃ z_9 : QS, z_9 = rs σ_1 16 0 (upd (σ_1 16 0) x4_1.toNatClampNeg a) := ⟨_, rfl⟩
          rw [← eσ51] at hH
          have hI := InvM_a eσ51 hI (by decide) (show (0 : Int) ≤ a.toInt ∧ a.toInt ≤ 1000000 by omega)
          have hP := Keep_w eσ51 hP (by decide)
          obtain ⟨v52, e52⟩ : ∃ y_9 : Int32, y_9 = x4_1 + 1 := ⟨_, rfl⟩
          have i52 : v52.toInt = x4_1.toInt + 1 := i_addc e52 (by decide) (by omega) (by omega)
          refine lv_iinc (v := v52) (lv' := [(4, .int v52), (0, .ref (L 0 0)), (1, .int f), (2, .int a), (3, .int w9)]) S.1 S.2.1 dX5_find_29 hl (k := 4) rfl (by rw [e52]; rfl) (by decide) rfl (fun ls hl => ?_)
          refine lv_goto (tgt := 3) S.1 S.2.1 dX5_find_32 (by decide) ?_
          exact ih1 v52 σ51 _ _ ls (by omega) (by omega) hI hP hH hS (lv_sub hl [1, 2, 3, 4, 0] rfl)
  exact cut_3_1 _ 0 σ _ _ ls (Nat.lt_succ_self _) (by omega) hI hP hH hS (lv_sub hl [1, 2, 3, 4, 0] rfl)
set_option maxHeartbeats 4000000 in
set_option maxRecDepth 100000 in
theorem k_X5_soonOf (l : Launch) (D : va_G) (B : Nat → ClassId) (L : QL) (A : Nat → Prop) (σ : QS) (τ : Int64) (f : Int32) (a : Int32) (t : Int32)  (hp0 : 0 ≤ f.toInt ∧ f.toInt ≤ 11) (hp1 : 0 ≤ a.toInt ∧ a.toInt ≤ 6399) (hp2 : 0 ≤ t.toInt ∧ t.toInt ≤ 11) (hI : InvM σ) : cW cntM gM l D B L A yX5_soonOf wsX5_soonOf 2 53 [.ref (L 0 0), .int f, .int a, .int t] σ τ (pI (fun x σ' τ' => InvM σ' ∧ Keep [14, 15, 16] σ σ' ∧ τ' = τ ∧ True)) := by
  refine cW_of (cc := cX5_soonOf) (nL := 6) (ret := (some .int)) (by decide) rfl (Nat.le_of_ble_eq_true rfl) ?_
  intro p e s m below meth c S hr hk K hH hS ls hl
  have hnX5 : ∀ w ∈ wsX50, w ∈ wsX5_soonOf := fun w h => mG (tX5 w h)
  have lm1 : ((-1) : Int32).toInt = -1 := by decide
  have l0 : (0 : Int32).toInt = 0 := by decide
  have l1 : (1 : Int32).toInt = 1 := by decide
  have l12 : (12 : Int32).toInt = 12 := by decide
  have l6400 : (6400 : Int32).toInt = 6400 := by decide
  have hP : Keep [14, 15, 16] σ σ := Keep_r
  have hl : lv_has ls 6 [(0, .ref (L 0 0)), (1, .int f), (2, .int a), (3, .int t)] := hl
  refine lv_sipush (v := 6400) S.1 S.2.1 dX5_soonOf_0 (by decide) ?_
  refine lv_iload_n S.1 S.2.1 dX5_soonOf_3 rfl (lv_at hl 1 rfl) ?_
  refine lv_imul S.1 S.2.1 dX5_soonOf_4 ?_
  refine lv_topi (fun v1 e1 => ?_)
  have i1 : v1.toInt = 6400 * f.toInt := i_mulcl e1 (by decide) (by omega) (by omega)
  refine lv_iload_n S.1 S.2.1 dX5_soonOf_5 rfl (lv_at hl 2 rfl) ?_
  refine lv_iadd S.1 S.2.1 dX5_soonOf_6 ?_
  refine lv_topi (fun v2 e2 => ?_)
  have i2 : v2.toInt = v1.toInt + a.toInt := i_add e2 (by omega) (by omega)
  refine lv_istore (lv' := [(4, .int v2), (0, .ref (L 0 0)), (1, .int f), (2, .int a), (3, .int t)]) S.1 S.2.1 dX5_soonOf_7 hl (by decide) rfl (fun ls hl => ?_)
  refine lv_aload_n S.1 S.2.1 dX5_soonOf_9 rfl (lv_at hl 1 rfl) ?_
  refine rM_0_15 S hnX5 K hH (mG wd_316) dX5_soonOf_10 ?_
  refine lv_iload S.1 S.2.1 dX5_soonOf_13 (lv_at hl 0 rfl) ?_
  refine lM_15 S K hH (vin (by omega) (by omega)) dX5_soonOf_15 ?_
  refine lv_topi (fun v3 e3 => ?_)
  refine lv_aload_n S.1 S.2.1 dX5_soonOf_16 rfl (lv_at hl 1 rfl) ?_
  refine rM_0_17 S hnX5 K hH (mG wd_318) dX5_soonOf_17 ?_
  refine lv_topi (fun v4 e4 => ?_)
  refine lv_icmp_eq (tgt := 77) S.1 S.2.1 dX5_soonOf_20 (by decide) (fun c5 => ?_) (fun c5 => ?_)
  · have j5 := t_eq c5
    refine lv_aload_n S.1 S.2.1 dX5_soonOf_77 rfl (lv_at hl 1 rfl) ?_
    refine rM_0_14 S hnX5 K hH (mG wd_314) dX5_soonOf_78 ?_
    refine lv_bipush (v := 12) S.1 S.2.1 dX5_soonOf_81 (by decide) ?_
    refine lv_iload S.1 S.2.1 dX5_soonOf_83 (lv_at hl 0 rfl) ?_
    refine lv_imul S.1 S.2.1 dX5_soonOf_85 ?_
    refine lv_topi (fun v6 e6 => ?_)
    have i6 : v6.toInt = 12 * v2.toInt := i_mulcl e6 (by decide) (by omega) (by omega)
    refine lv_iload_n S.1 S.2.1 dX5_soonOf_86 rfl (lv_at hl 4 rfl) ?_
    refine lv_iadd S.1 S.2.1 dX5_soonOf_87 ?_
    refine lv_topi (fun v7 e7 => ?_)
    have i7 : v7.toInt = v6.toInt + t.toInt := i_add e7 (by omega) (by omega)
    refine lM_14 S K hH (vin (by omega) (by omega)) dX5_soonOf_88 ?_
    refine lv_topi (fun v8 e8 => ?_)
    refine cW_iret S hr hk hH hS ?_ dX5_soonOf_89
    exact ⟨v8, rfl, hI, hP, rfl, by trivial⟩
  · have j5 := t_neq c5
    refine lv_aload_n S.1 S.2.1 dX5_soonOf_23 rfl (lv_at hl 1 rfl) ?_
    refine lv_iload_n S.1 S.2.1 dX5_soonOf_24 rfl (lv_at hl 2 rfl) ?_
    refine lv_iload_n S.1 S.2.1 dX5_soonOf_25 rfl (lv_at hl 3 rfl) ?_
    refine lv_iconst (v := (-1)) S.1 S.2.1 dX5_soonOf_26 (by decide) ?_
    refine cW_bv (cW_V (n := 3) (As := [.int f, .int a, .int (-1)]) (rest := []) (k := 0) (i := 0) S K hH (by decide) rfl rfl (k_X5_find l D B L A σ τ f a (-1) (by omega) (by omega) hI) gX5_soonOf_X5_find rfl hdV_X5_find ⟨Nat.le_of_ble_eq_true rfl, Nat.le_of_ble_eq_true rfl⟩ rfl hl.1 (Nat.le_of_ble_eq_true rfl) dX5_soonOf_27) hS (fun σ9 τ9 H locs q9 hH hS => ?_)
    obtain ⟨hI, hP9, hτ9, q9⟩ := q9
    rw [hτ9] at hH
    have hP := Keep_t hP hP9 (by decide)
    refine lv_iconst (v := 0) S.1 S.2.1 dX5_soonOf_30 (by decide) ?_
    refine lv_istore (lv' := [(5, .int 0), (4, .int v2), (0, .ref (L 0 0)), (1, .int f), (2, .int a), (3, .int t)]) S.1 S.2.1 dX5_soonOf_31 hl (by decide) rfl (fun ls hl => ?_)
    have cut_33_10 : ∀ (n : Nat) (x5_10 : Int32) (σ_10 : QS) (H : Heap) (locs : List Loc) (ls : Array Slot), (12 - x5_10.toInt).toNat < n → 0 ≤ x5_10.toInt ∧ x5_10.toInt ≤ 12 → InvM σ_10 → Keep [14, 15, 16] σ σ_10 → hW cntM gM D B L σ_10 τ H → va_S A s.heap H locs → lv_has ls 6 [(0, .ref (L 0 0)), (3, .int t), (4, .int v2), (5, .int x5_10)] → W p l e { frames := 2, cells := 0, slots := 0, locals := 53 } s m [.ref (L 0 0), .int f, .int a, .int t].toArray below meth c H locs 0 0 (MQ below (QcW cntM gM D B L A (pI (fun x σ' τ' => InvM σ' ∧ Keep [14, 15, 16] σ σ' ∧ τ' = τ ∧ True))) [.ref (L 0 0), .int f, .int a, .int t].toArray s 0 0 A) (F0 m 33 ls []) := by
      intro n
      induction n with
      | zero => intro x5_10 σ_10 H locs ls hm; exact absurd hm (Nat.not_lt_zero _)
      | succ n ih10 =>
        intro x5_10 σ_10 H locs ls hm10 h10_0 hI hP hH hS hl
        refine lv_iload S.1 S.2.1 dX5_soonOf_33 (lv_at hl 3 rfl) ?_
        refine lv_bipush (v := 12) S.1 S.2.1 dX5_soonOf_35 (by decide) ?_
        refine lv_icmp_ge (tgt := 66) S.1 S.2.1 dX5_soonOf_37 (by decide) (fun c11 => ?_) (fun c11 => ?_)
        · have j11 := t_le c11
          refine lv_aload_n S.1 S.2.1 dX5_soonOf_66 rfl (lv_at hl 0 rfl) ?_
          refine rM_0_15 S hnX5 K hH (mG wd_316) dX5_soonOf_67 ?_
          refine lv_iload S.1 S.2.1 dX5_soonOf_70 (lv_at hl 2 rfl) ?_
          refine lv_aload_n S.1 S.2.1 dX5_soonOf_72 rfl (lv_at hl 0 rfl) ?_
          refine rM_0_17 S hnX5 K hH (mG wd_318) dX5_soonOf_73 ?_
          refine lv_topi (fun v12 e12 => ?_)
          refine sM_15 S K hH hS (vin (by omega) (by omega)) dX5_soonOf_76 (fun H locs hH hS => ?_)
          obtain ⟨σ13, eσ13⟩ : ∃ z_9 : QS, z_9 = rs σ_10 15 0 (upd (σ_10 15 0) v2.toNatClampNeg v12) := ⟨_, rfl⟩
          rw [← eσ13] at hH
          have hI := InvM_a eσ13 hI (by decide) (any32 _)
          have hP := Keep_w eσ13 hP (by decide)
          refine lv_aload_n S.1 S.2.1 dX5_soonOf_77 rfl (lv_at hl 0 rfl) ?_
          refine rM_0_14 S hnX5 K hH (mG wd_314) dX5_soonOf_78 ?_
          refine lv_bipush (v := 12) S.1 S.2.1 dX5_soonOf_81 (by decide) ?_
          refine lv_iload S.1 S.2.1 dX5_soonOf_83 (lv_at hl 2 rfl) ?_
          refine lv_imul S.1 S.2.1 dX5_soonOf_85 ?_
          refine lv_topi (fun v14 e14 => ?_)
          have i14 : v14.toInt = 12 * v2.toInt := i_mulcl e14 (by decide) (by omega) (by omega)
          refine lv_iload_n S.1 S.2.1 dX5_soonOf_86 rfl (lv_at hl 1 rfl) ?_
          refine lv_iadd S.1 S.2.1 dX5_soonOf_87 ?_
          refine lv_topi (fun v15 e15 => ?_)
          have i15 : v15.toInt = v14.toInt + t.toInt := i_add e15 (by omega) (by omega)
          refine lM_14 S K hH (vin (by omega) (by omega)) dX5_soonOf_88 ?_
          refine lv_topi (fun v16 e16 => ?_)
          refine cW_iret S hr hk hH hS ?_ dX5_soonOf_89
          exact ⟨v16, rfl, hI, hP, rfl, by trivial⟩
        · have j11 := t_nle c11
          refine lv_aload_n S.1 S.2.1 dX5_soonOf_40 rfl (lv_at hl 0 rfl) ?_
          refine rM_0_14 S hnX5 K hH (mG wd_314) dX5_soonOf_41 ?_
          refine lv_bipush (v := 12) S.1 S.2.1 dX5_soonOf_44 (by decide) ?_
          refine lv_iload S.1 S.2.1 dX5_soonOf_46 (lv_at hl 2 rfl) ?_
          refine lv_imul S.1 S.2.1 dX5_soonOf_48 ?_
          refine lv_topi (fun v17 e17 => ?_)
          have i17 : v17.toInt = 12 * v2.toInt := i_mulcl e17 (by decide) (by omega) (by omega)
          refine lv_iload S.1 S.2.1 dX5_soonOf_49 (lv_at hl 3 rfl) ?_
          refine lv_iadd S.1 S.2.1 dX5_soonOf_51 ?_
          refine lv_topi (fun v18 e18 => ?_)
          have i18 : v18.toInt = v17.toInt + x5_10.toInt := i_add e18 (by omega) (by omega)
          refine lv_aload_n S.1 S.2.1 dX5_soonOf_52 rfl (lv_at hl 0 rfl) ?_
          refine rM_0_16 S hnX5 K hH (mG wd_317) dX5_soonOf_53 ?_
          refine lv_iload S.1 S.2.1 dX5_soonOf_56 (lv_at hl 3 rfl) ?_
          refine lM_16 S K hH (vin (by omega) (by omega)) dX5_soonOf_58 ?_
          refine lv_topi (fun v19 e19 => ?_)
          have b19 : 0 ≤ v19.toInt ∧ v19.toInt ≤ 1000000 := by rw [e19]; exact hI.1 16 0 x5_10.toNatClampNeg
          refine sM_14 S K hH hS (vin (by omega) (by omega)) dX5_soonOf_59 (fun H locs hH hS => ?_)
          obtain ⟨σ20, eσ20⟩ : ∃ z_9 : QS, z_9 = rs σ_10 14 0 (upd (σ_10 14 0) v18.toNatClampNeg v19) := ⟨_, rfl⟩
          rw [← eσ20] at hH
          have hI := InvM_a eσ20 hI (by decide) (any32 _)
          have hP := Keep_w eσ20 hP (by decide)
          obtain ⟨v21, e21⟩ : ∃ y_9 : Int32, y_9 = x5_10 + 1 := ⟨_, rfl⟩
          have i21 : v21.toInt = x5_10.toInt + 1 := i_addc e21 (by decide) (by omega) (by omega)
          refine lv_iinc (v := v21) (lv' := [(5, .int v21), (0, .ref (L 0 0)), (3, .int t), (4, .int v2)]) S.1 S.2.1 dX5_soonOf_60 hl (k := 3) rfl (by rw [e21]; rfl) (by decide) rfl (fun ls hl => ?_)
          refine lv_goto (tgt := 33) S.1 S.2.1 dX5_soonOf_63 (by decide) ?_
          exact ih10 v21 σ20 _ _ ls (by omega) (by omega) hI hP hH hS (lv_sub hl [1, 2, 3, 0] rfl)
    exact cut_33_10 _ 0 σ9 _ _ ls (Nat.lt_succ_self _) (by omega) hI hP hH hS (lv_sub hl [2, 5, 1, 0] rfl)
set_option maxHeartbeats 4000000 in
set_option maxRecDepth 100000 in
theorem k_X5_soon (l : Launch) (D : va_G) (B : Nat → ClassId) (L : QL) (A : Nat → Prop) (σ : QS) (τ : Int64) (f : Int32) (a : Int32) (t : Int32)  (hI : InvM σ) : cW cntM gM l D B L A yX5_soon wsX5_soon 3 78 [.ref (L 0 0), .int f, .int a, .int t] σ τ (pI (fun x σ' τ' => InvM σ' ∧ Keep [0, 14, 15, 16] σ σ' ∧ τ' = τ ∧ True)) := by
  refine cW_of (cc := cX5_soon) (nL := 5) (ret := (some .int)) (by decide) rfl (Nat.le_of_ble_eq_true rfl) ?_
  intro p e s m below meth c S hr hk K hH hS ls hl
  have hnX5 : ∀ w ∈ wsX50, w ∈ wsX5_soon := fun w h => mG (tX5 w h)
  have lm1 : ((-1) : Int32).toInt = -1 := by decide
  have l0 : (0 : Int32).toInt = 0 := by decide
  have l1000000 : (1000000 : Int32).toInt = 1000000 := by decide
  have hP : Keep [0, 14, 15, 16] σ σ := Keep_r
  have hl : lv_has ls 5 [(0, .ref (L 0 0)), (1, .int f), (2, .int a), (3, .int t)] := hl
  refine lv_aload_n S.1 S.2.1 dX5_soon_0 rfl (lv_at hl 0 rfl) ?_
  refine lv_iconst (v := 0) S.1 S.2.1 dX5_soon_1 (by decide) ?_
  refine pM_0_0 S hnX5 K hH hS (mG wd_337) dX5_soon_2 (fun H locs hH hS => ?_)
  obtain ⟨σ1, eσ1⟩ : ∃ z_9 : QS, z_9 = rs σ 0 0 (fun _ => 0) := ⟨_, rfl⟩
  rw [← eσ1] at hH
  have hI := InvM_f eσ1 hI (by decide) (any32 _)
  have hP := Keep_w eσ1 hP (by decide)
  refine lv_iload_n S.1 S.2.1 dX5_soon_5 rfl (lv_at hl 1 rfl) ?_
  refine cW_bpi (cW_S (n := 1) (As := [.int f]) (rest := []) S K hH (k_X5_isPlace l D B L A σ1 τ f ) gX5_soon_X5_isPlace rfl hdS_X5_isPlace ⟨Nat.le_of_ble_eq_true rfl, Nat.le_of_ble_eq_true rfl⟩ rfl hl.1 (Nat.le_of_ble_eq_true rfl) dX5_soon_6) hS (fun v2 H locs q2 hH hS => ?_)
  refine lv_if_eq (tgt := 26) S.1 S.2.1 dX5_soon_9 (by decide) (fun c3 => ?_) (fun c3 => ?_)
  · have j3 := t_eq c3
    refine lv_iconst (v := (-1)) S.1 S.2.1 dX5_soon_26 (by decide) ?_
    refine cW_iret S hr hk hH hS ?_ dX5_soon_27
    exact ⟨(-1), rfl, hI, hP, rfl, by trivial⟩
  · have j3 := t_neq c3
    refine lv_iload_n S.1 S.2.1 dX5_soon_12 rfl (lv_at hl 2 rfl) ?_
    refine cW_bpi (cW_S (n := 1) (As := [.int a]) (rest := []) S K hH (k_X5_isHour l D B L A σ1 τ a ) gX5_soon_X5_isHour rfl hdS_X5_isHour ⟨Nat.le_of_ble_eq_true rfl, Nat.le_of_ble_eq_true rfl⟩ rfl hl.1 (Nat.le_of_ble_eq_true rfl) dX5_soon_13) hS (fun v4 H locs q4 hH hS => ?_)
    refine lv_if_eq (tgt := 26) S.1 S.2.1 dX5_soon_16 (by decide) (fun c5 => ?_) (fun c5 => ?_)
    · have j5 := t_eq c5
      refine lv_iconst (v := (-1)) S.1 S.2.1 dX5_soon_26 (by decide) ?_
      refine cW_iret S hr hk hH hS ?_ dX5_soon_27
      exact ⟨(-1), rfl, hI, hP, rfl, by trivial⟩
    · have j5 := t_neq c5
      refine lv_iload_n S.1 S.2.1 dX5_soon_19 rfl (lv_at hl 3 rfl) ?_
      refine cW_bpi (cW_S (n := 1) (As := [.int t]) (rest := []) S K hH (k_X5_isPlace l D B L A σ1 τ t ) gX5_soon_X5_isPlace rfl hdS_X5_isPlace ⟨Nat.le_of_ble_eq_true rfl, Nat.le_of_ble_eq_true rfl⟩ rfl hl.1 (Nat.le_of_ble_eq_true rfl) dX5_soon_20) hS (fun v6 H locs q6 hH hS => ?_)
      refine lv_if_ne (tgt := 28) S.1 S.2.1 dX5_soon_23 (by decide) (fun c7 => ?_) (fun c7 => ?_)
      · have j7 := t_neq c7
        refine lv_aload_n S.1 S.2.1 dX5_soon_28 rfl (lv_at hl 0 rfl) ?_
        refine lv_iload_n S.1 S.2.1 dX5_soon_29 rfl (lv_at hl 1 rfl) ?_
        refine lv_iload_n S.1 S.2.1 dX5_soon_30 rfl (lv_at hl 2 rfl) ?_
        refine lv_iload_n S.1 S.2.1 dX5_soon_31 rfl (lv_at hl 3 rfl) ?_
        refine cW_bi (cW_V (n := 3) (As := [.int f, .int a, .int t]) (rest := []) (k := 0) (i := 0) S K hH (by decide) rfl rfl (k_X5_soonOf l D B L A σ1 τ f a t (by omega) (by omega) (by omega) hI) gX5_soon_X5_soonOf rfl hdV_X5_soonOf ⟨Nat.le_of_ble_eq_true rfl, Nat.le_of_ble_eq_true rfl⟩ rfl hl.1 (Nat.le_of_ble_eq_true rfl) dX5_soon_32) hS (fun v8 σ8 τ8 H locs q8 hH hS => ?_)
        obtain ⟨hI, hP8, hτ8, q8⟩ := q8
        rw [hτ8] at hH
        have hP := Keep_t hP hP8 (by decide)
        refine lv_istore (lv' := [(4, .int v8), (0, .ref (L 0 0)), (1, .int f), (2, .int a), (3, .int t)]) S.1 S.2.1 dX5_soon_35 hl (by decide) rfl (fun ls hl => ?_)
        refine lv_iload S.1 S.2.1 dX5_soon_37 (lv_at hl 0 rfl) ?_
        refine lv_ldc (v := 1000000) S.1 S.2.1 S.2.2.2.1 (S.2.2.2.2 (.constant RX5 137 (1000000)) (mG wd_357)) dX5_soon_39 ?_
        refine lv_icmp_ne (tgt := 48) S.1 S.2.1 dX5_soon_41 (by decide) (fun c9 => ?_) (fun c9 => ?_)
        · have j9 := t_neq c9
          refine lv_iload S.1 S.2.1 dX5_soon_48 (lv_at hl 0 rfl) ?_
          refine cW_iret S hr hk hH hS ?_ dX5_soon_50
          exact ⟨v8, rfl, hI, hP, rfl, by trivial⟩
        · have j9 := t_eq c9
          refine lv_iconst (v := (-1)) S.1 S.2.1 dX5_soon_44 (by decide) ?_
          refine lv_goto (tgt := 50) S.1 S.2.1 dX5_soon_45 (by decide) ?_
          refine cW_iret S hr hk hH hS ?_ dX5_soon_50
          exact ⟨(-1), rfl, hI, hP, rfl, by trivial⟩
      · have j7 := t_eq c7
        refine lv_iconst (v := (-1)) S.1 S.2.1 dX5_soon_26 (by decide) ?_
        refine cW_iret S hr hk hH hS ?_ dX5_soon_27
        exact ⟨(-1), rfl, hI, hP, rfl, by trivial⟩
set_option maxHeartbeats 4000000 in
set_option maxRecDepth 100000 in
theorem k_X5_reach (l : Launch) (D : va_G) (B : Nat → ClassId) (L : QL) (A : Nat → Prop) (σ : QS) (τ : Int64) (f : Int32) (a : Int32) (t : Int32)  (hI : InvM σ) : cW cntM gM l D B L A yX5_reach wsX5_reach 3 78 [.ref (L 0 0), .int f, .int a, .int t] σ τ (pI (fun x σ' τ' => InvM σ' ∧ Keep [0, 14, 15, 16] σ σ' ∧ τ' = τ ∧ True)) := by
  refine cW_of (cc := cX5_reach) (nL := 6) (ret := (some .int)) (by decide) rfl (Nat.le_of_ble_eq_true rfl) ?_
  intro p e s m below meth c S hr hk K hH hS ls hl
  have hnX5 : ∀ w ∈ wsX50, w ∈ wsX5_reach := fun w h => mG (tX5 w h)
  have lm1 : ((-1) : Int32).toInt = -1 := by decide
  have l0 : (0 : Int32).toInt = 0 := by decide
  have l1 : (1 : Int32).toInt = 1 := by decide
  have l12 : (12 : Int32).toInt = 12 := by decide
  have hP : Keep [0, 14, 15, 16] σ σ := Keep_r
  have hl : lv_has ls 6 [(0, .ref (L 0 0)), (1, .int f), (2, .int a), (3, .int t)] := hl
  refine lv_aload_n S.1 S.2.1 dX5_reach_0 rfl (lv_at hl 0 rfl) ?_
  refine lv_iconst (v := 0) S.1 S.2.1 dX5_reach_1 (by decide) ?_
  refine pM_0_0 S hnX5 K hH hS (mG wd_337) dX5_reach_2 (fun H locs hH hS => ?_)
  obtain ⟨σ1, eσ1⟩ : ∃ z_9 : QS, z_9 = rs σ 0 0 (fun _ => 0) := ⟨_, rfl⟩
  rw [← eσ1] at hH
  have hI := InvM_f eσ1 hI (by decide) (any32 _)
  have hP := Keep_w eσ1 hP (by decide)
  refine lv_iload_n S.1 S.2.1 dX5_reach_5 rfl (lv_at hl 1 rfl) ?_
  refine cW_bpi (cW_S (n := 1) (As := [.int f]) (rest := []) S K hH (k_X5_isPlace l D B L A σ1 τ f ) gX5_reach_X5_isPlace rfl hdS_X5_isPlace ⟨Nat.le_of_ble_eq_true rfl, Nat.le_of_ble_eq_true rfl⟩ rfl hl.1 (Nat.le_of_ble_eq_true rfl) dX5_reach_6) hS (fun v2 H locs q2 hH hS => ?_)
  refine lv_if_eq (tgt := 31) S.1 S.2.1 dX5_reach_9 (by decide) (fun c3 => ?_) (fun c3 => ?_)
  · have j3 := t_eq c3
    refine lv_iconst (v := (-1)) S.1 S.2.1 dX5_reach_31 (by decide) ?_
    refine cW_iret S hr hk hH hS ?_ dX5_reach_32
    exact ⟨(-1), rfl, hI, hP, rfl, by trivial⟩
  · have j3 := t_neq c3
    refine lv_iload_n S.1 S.2.1 dX5_reach_12 rfl (lv_at hl 2 rfl) ?_
    refine cW_bpi (cW_S (n := 1) (As := [.int a]) (rest := []) S K hH (k_X5_isHour l D B L A σ1 τ a ) gX5_reach_X5_isHour rfl hdS_X5_isHour ⟨Nat.le_of_ble_eq_true rfl, Nat.le_of_ble_eq_true rfl⟩ rfl hl.1 (Nat.le_of_ble_eq_true rfl) dX5_reach_13) hS (fun v4 H locs q4 hH hS => ?_)
    refine lv_if_eq (tgt := 31) S.1 S.2.1 dX5_reach_16 (by decide) (fun c5 => ?_) (fun c5 => ?_)
    · have j5 := t_eq c5
      refine lv_iconst (v := (-1)) S.1 S.2.1 dX5_reach_31 (by decide) ?_
      refine cW_iret S hr hk hH hS ?_ dX5_reach_32
      exact ⟨(-1), rfl, hI, hP, rfl, by trivial⟩
    · have j5 := t_neq c5
      refine lv_iload_n S.1 S.2.1 dX5_reach_19 rfl (lv_at hl 3 rfl) ?_
      refine cW_bpi (cW_S (n := 1) (As := [.int t]) (rest := []) S K hH (k_X5_isHour l D B L A σ1 τ t ) gX5_reach_X5_isHour rfl hdS_X5_isHour ⟨Nat.le_of_ble_eq_true rfl, Nat.le_of_ble_eq_true rfl⟩ rfl hl.1 (Nat.le_of_ble_eq_true rfl) dX5_reach_20) hS (fun v6 H locs q6 hH hS => ?_)
      refine lv_if_eq (tgt := 31) S.1 S.2.1 dX5_reach_23 (by decide) (fun c7 => ?_) (fun c7 => ?_)
      · have j7 := t_eq c7
        refine lv_iconst (v := (-1)) S.1 S.2.1 dX5_reach_31 (by decide) ?_
        refine cW_iret S hr hk hH hS ?_ dX5_reach_32
        exact ⟨(-1), rfl, hI, hP, rfl, by trivial⟩
      · have j7 := t_neq c7
        refine lv_iload_n S.1 S.2.1 dX5_reach_26 rfl (lv_at hl 3 rfl) ?_
        refine lv_iload_n S.1 S.2.1 dX5_reach_27 rfl (lv_at hl 2 rfl) ?_
        refine lv_icmp_ge (tgt := 33) S.1 S.2.1 dX5_reach_28 (by decide) (fun c8 => ?_) (fun c8 => ?_)
        · have j8 := t_le c8
          refine lv_iconst (v := 0) S.1 S.2.1 dX5_reach_33 (by decide) ?_
          refine lv_istore (lv' := [(4, .int 0), (0, .ref (L 0 0)), (1, .int f), (2, .int a), (3, .int t)]) S.1 S.2.1 dX5_reach_34 hl (by decide) rfl (fun ls hl => ?_)
          refine lv_iconst (v := 0) S.1 S.2.1 dX5_reach_36 (by decide) ?_
          refine lv_istore (lv' := [(5, .int 0), (4, .int 0), (0, .ref (L 0 0)), (1, .int f), (2, .int a), (3, .int t)]) S.1 S.2.1 dX5_reach_37 hl (by decide) rfl (fun ls hl => ?_)
          have cut_39_9 : ∀ (n : Nat) (x4_9 : Int32) (x5_9 : Int32) (σ_9 : QS) (H : Heap) (locs : List Loc) (ls : Array Slot), (12 - x5_9.toInt).toNat < n → 0 ≤ x5_9.toInt ∧ x5_9.toInt ≤ 12 → InvM σ_9 → Keep [0, 14, 15, 16] σ σ_9 → hW cntM gM D B L σ_9 τ H → va_S A s.heap H locs → lv_has ls 6 [(0, .ref (L 0 0)), (1, .int f), (2, .int a), (3, .int t), (4, .int x4_9), (5, .int x5_9)] → W p l e { frames := 3, cells := 0, slots := 0, locals := 78 } s m [.ref (L 0 0), .int f, .int a, .int t].toArray below meth c H locs 0 0 (MQ below (QcW cntM gM D B L A (pI (fun x σ' τ' => InvM σ' ∧ Keep [0, 14, 15, 16] σ σ' ∧ τ' = τ ∧ True))) [.ref (L 0 0), .int f, .int a, .int t].toArray s 0 0 A) (F0 m 39 ls []) := by
            intro n
            induction n with
            | zero => intro x4_9 x5_9 σ_9 H locs ls hm; exact absurd hm (Nat.not_lt_zero _)
            | succ n ih9 =>
              intro x4_9 x5_9 σ_9 H locs ls hm9 h9_0 hI hP hH hS hl
              refine lv_iload S.1 S.2.1 dX5_reach_39 (lv_at hl 5 rfl) ?_
              refine lv_bipush (v := 12) S.1 S.2.1 dX5_reach_41 (by decide) ?_
              refine lv_icmp_ge (tgt := 73) S.1 S.2.1 dX5_reach_43 (by decide) (fun c10 => ?_) (fun c10 => ?_)
              · have j10 := t_le c10
                refine lv_iload S.1 S.2.1 dX5_reach_73 (lv_at hl 4 rfl) ?_
                refine cW_iret S hr hk hH hS ?_ dX5_reach_75
                exact ⟨x4_9, rfl, hI, hP, rfl, by trivial⟩
              · have j10 := t_nle c10
                refine lv_aload_n S.1 S.2.1 dX5_reach_46 rfl (lv_at hl 0 rfl) ?_
                refine lv_iload_n S.1 S.2.1 dX5_reach_47 rfl (lv_at hl 1 rfl) ?_
                refine lv_iload_n S.1 S.2.1 dX5_reach_48 rfl (lv_at hl 2 rfl) ?_
                refine lv_iload S.1 S.2.1 dX5_reach_49 (lv_at hl 5 rfl) ?_
                refine cW_bi (cW_V (n := 3) (As := [.int f, .int a, .int x5_9]) (rest := []) (k := 0) (i := 0) S K hH (by decide) rfl rfl (k_X5_soonOf l D B L A σ_9 τ f a x5_9 (by omega) (by omega) (by omega) hI) gX5_reach_X5_soonOf rfl hdV_X5_soonOf ⟨Nat.le_of_ble_eq_true rfl, Nat.le_of_ble_eq_true rfl⟩ rfl hl.1 (Nat.le_of_ble_eq_true rfl) dX5_reach_51) hS (fun v11 σ11 τ11 H locs q11 hH hS => ?_)
                obtain ⟨hI, hP11, hτ11, q11⟩ := q11
                rw [hτ11] at hH
                have hP := Keep_t hP hP11 (by decide)
                refine lv_iload_n S.1 S.2.1 dX5_reach_54 rfl (lv_at hl 3 rfl) ?_
                refine lv_icmp_gt (tgt := 67) S.1 S.2.1 dX5_reach_55 (by decide) (fun c12 => ?_) (fun c12 => ?_)
                · have j12 := t_lt c12
                  obtain ⟨v13, e13⟩ : ∃ y_9 : Int32, y_9 = x5_9 + 1 := ⟨_, rfl⟩
                  have i13 : v13.toInt = x5_9.toInt + 1 := i_addc e13 (by decide) (by omega) (by omega)
                  refine lv_iinc (v := v13) (lv' := [(5, .int v13), (0, .ref (L 0 0)), (1, .int f), (2, .int a), (3, .int t), (4, .int x4_9)]) S.1 S.2.1 dX5_reach_67 hl (k := 5) rfl (by rw [e13]; rfl) (by decide) rfl (fun ls hl => ?_)
                  refine lv_goto (tgt := 39) S.1 S.2.1 dX5_reach_70 (by decide) ?_
                  exact ih9 x4_9 v13 σ11 _ _ ls (by omega) (by omega) hI hP hH hS (lv_sub hl [1, 2, 3, 4, 5, 0] rfl)
                · have j12 := t_nlt c12
                  refine lv_iload S.1 S.2.1 dX5_reach_58 (lv_at hl 4 rfl) ?_
                  refine lv_iconst (v := 1) S.1 S.2.1 dX5_reach_60 (by decide) ?_
                  refine lv_iload S.1 S.2.1 dX5_reach_61 (lv_at hl 5 rfl) ?_
                  refine lv_ishl S.1 S.2.1 dX5_reach_63 ?_
                  refine lv_topi (fun v14 e14 => ?_)
                  refine lv_ior S.1 S.2.1 dX5_reach_64 ?_
                  refine lv_topi (fun v15 e15 => ?_)
                  refine lv_istore (lv' := [(4, .int v15), (0, .ref (L 0 0)), (1, .int f), (2, .int a), (3, .int t), (5, .int x5_9)]) S.1 S.2.1 dX5_reach_65 hl (by decide) rfl (fun ls hl => ?_)
                  obtain ⟨v16, e16⟩ : ∃ y_9 : Int32, y_9 = x5_9 + 1 := ⟨_, rfl⟩
                  have i16 : v16.toInt = x5_9.toInt + 1 := i_addc e16 (by decide) (by omega) (by omega)
                  refine lv_iinc (v := v16) (lv' := [(5, .int v16), (4, .int v15), (0, .ref (L 0 0)), (1, .int f), (2, .int a), (3, .int t)]) S.1 S.2.1 dX5_reach_67 hl (k := 5) rfl (by rw [e16]; rfl) (by decide) rfl (fun ls hl => ?_)
                  refine lv_goto (tgt := 39) S.1 S.2.1 dX5_reach_70 (by decide) ?_
                  exact ih9 v15 v16 σ11 _ _ ls (by omega) (by omega) hI hP hH hS (lv_sub hl [2, 3, 4, 5, 1, 0] rfl)
          exact cut_39_9 _ 0 0 σ1 _ _ ls (Nat.lt_succ_self _) (by omega) hI hP hH hS (lv_sub hl [2, 3, 4, 5, 1, 0] rfl)
        · have j8 := t_nle c8
          refine lv_iconst (v := (-1)) S.1 S.2.1 dX5_reach_31 (by decide) ?_
          refine cW_iret S hr hk hH hS ?_ dX5_reach_32
          exact ⟨(-1), rfl, hI, hP, rfl, by trivial⟩
set_option maxHeartbeats 4000000 in
set_option maxRecDepth 100000 in
theorem k_X5_cut (l : Launch) (D : va_G) (B : Nat → ClassId) (L : QL) (A : Nat → Prop) (σ : QS) (τ : Int64) (f : Int32) (a : Int32) (t : Int32)  (hI : InvM σ) : cW cntM gM l D B L A yX5_cut wsX5_cut 3 78 [.ref (L 0 0), .int f, .int a, .int t] σ τ (pI (fun x σ' τ' => InvM σ' ∧ Keep [0, 14, 15, 16] σ σ' ∧ τ' = τ ∧ True)) := by
  refine cW_of (cc := cX5_cut) (nL := 6) (ret := (some .int)) (by decide) rfl (Nat.le_of_ble_eq_true rfl) ?_
  intro p e s m below meth c S hr hk K hH hS ls hl
  have hnX5 : ∀ w ∈ wsX50, w ∈ wsX5_cut := fun w h => mG (tX5 w h)
  have lm1 : ((-1) : Int32).toInt = -1 := by decide
  have l0 : (0 : Int32).toInt = 0 := by decide
  have l1 : (1 : Int32).toInt = 1 := by decide
  have l12 : (12 : Int32).toInt = 12 := by decide
  have l1000000 : (1000000 : Int32).toInt = 1000000 := by decide
  have hP : Keep [0, 14, 15, 16] σ σ := Keep_r
  have hl : lv_has ls 6 [(0, .ref (L 0 0)), (1, .int f), (2, .int a), (3, .int t)] := hl
  refine lv_aload_n S.1 S.2.1 dX5_cut_0 rfl (lv_at hl 0 rfl) ?_
  refine lv_iconst (v := 0) S.1 S.2.1 dX5_cut_1 (by decide) ?_
  refine pM_0_0 S hnX5 K hH hS (mG wd_337) dX5_cut_2 (fun H locs hH hS => ?_)
  obtain ⟨σ1, eσ1⟩ : ∃ z_9 : QS, z_9 = rs σ 0 0 (fun _ => 0) := ⟨_, rfl⟩
  rw [← eσ1] at hH
  have hI := InvM_f eσ1 hI (by decide) (any32 _)
  have hP := Keep_w eσ1 hP (by decide)
  refine lv_aload_n S.1 S.2.1 dX5_cut_5 rfl (lv_at hl 0 rfl) ?_
  refine lv_iload_n S.1 S.2.1 dX5_cut_6 rfl (lv_at hl 1 rfl) ?_
  refine cW_bpi (cW_V (n := 1) (As := [.int f]) (rest := []) (k := 0) (i := 0) S K hH (by decide) rfl rfl (k_X5_isCart l D B L A σ1 τ f hI) gX5_cut_X5_isCart rfl hdV_X5_isCart ⟨Nat.le_of_ble_eq_true rfl, Nat.le_of_ble_eq_true rfl⟩ rfl hl.1 (Nat.le_of_ble_eq_true rfl) dX5_cut_7) hS (fun v2 H locs q2 hH hS => ?_)
  refine lv_if_eq (tgt := 27) S.1 S.2.1 dX5_cut_10 (by decide) (fun c3 => ?_) (fun c3 => ?_)
  · have j3 := t_eq c3
    refine lv_iconst (v := (-1)) S.1 S.2.1 dX5_cut_27 (by decide) ?_
    refine cW_iret S hr hk hH hS ?_ dX5_cut_28
    exact ⟨(-1), rfl, hI, hP, rfl, by trivial⟩
  · have j3 := t_neq c3
    refine lv_iload_n S.1 S.2.1 dX5_cut_13 rfl (lv_at hl 2 rfl) ?_
    refine cW_bpi (cW_S (n := 1) (As := [.int a]) (rest := []) S K hH (k_X5_isHour l D B L A σ1 τ a ) gX5_cut_X5_isHour rfl hdS_X5_isHour ⟨Nat.le_of_ble_eq_true rfl, Nat.le_of_ble_eq_true rfl⟩ rfl hl.1 (Nat.le_of_ble_eq_true rfl) dX5_cut_14) hS (fun v4 H locs q4 hH hS => ?_)
    refine lv_if_eq (tgt := 27) S.1 S.2.1 dX5_cut_17 (by decide) (fun c5 => ?_) (fun c5 => ?_)
    · have j5 := t_eq c5
      refine lv_iconst (v := (-1)) S.1 S.2.1 dX5_cut_27 (by decide) ?_
      refine cW_iret S hr hk hH hS ?_ dX5_cut_28
      exact ⟨(-1), rfl, hI, hP, rfl, by trivial⟩
    · have j5 := t_neq c5
      refine lv_iload_n S.1 S.2.1 dX5_cut_20 rfl (lv_at hl 3 rfl) ?_
      refine cW_bpi (cW_S (n := 1) (As := [.int t]) (rest := []) S K hH (k_X5_isPlace l D B L A σ1 τ t ) gX5_cut_X5_isPlace rfl hdS_X5_isPlace ⟨Nat.le_of_ble_eq_true rfl, Nat.le_of_ble_eq_true rfl⟩ rfl hl.1 (Nat.le_of_ble_eq_true rfl) dX5_cut_21) hS (fun v6 H locs q6 hH hS => ?_)
      refine lv_if_ne (tgt := 29) S.1 S.2.1 dX5_cut_24 (by decide) (fun c7 => ?_) (fun c7 => ?_)
      · have j7 := t_neq c7
        refine lv_iconst (v := 0) S.1 S.2.1 dX5_cut_29 (by decide) ?_
        refine lv_istore (lv' := [(4, .int 0), (0, .ref (L 0 0)), (1, .int f), (2, .int a), (3, .int t)]) S.1 S.2.1 dX5_cut_30 hl (by decide) rfl (fun ls hl => ?_)
        refine lv_iconst (v := 0) S.1 S.2.1 dX5_cut_32 (by decide) ?_
        refine lv_istore (lv' := [(5, .int 0), (4, .int 0), (0, .ref (L 0 0)), (1, .int f), (2, .int a), (3, .int t)]) S.1 S.2.1 dX5_cut_33 hl (by decide) rfl (fun ls hl => ?_)
        have cut_35_8 : ∀ (n : Nat) (x4_8 : Int32) (x5_8 : Int32) (σ_8 : QS) (H : Heap) (locs : List Loc) (ls : Array Slot), (12 - x5_8.toInt).toNat < n → 0 ≤ x5_8.toInt ∧ x5_8.toInt ≤ 12 → InvM σ_8 → Keep [0, 14, 15, 16] σ σ_8 → hW cntM gM D B L σ_8 τ H → va_S A s.heap H locs → lv_has ls 6 [(0, .ref (L 0 0)), (1, .int f), (2, .int a), (3, .int t), (4, .int x4_8), (5, .int x5_8)] → W p l e { frames := 3, cells := 0, slots := 0, locals := 78 } s m [.ref (L 0 0), .int f, .int a, .int t].toArray below meth c H locs 0 0 (MQ below (QcW cntM gM D B L A (pI (fun x σ' τ' => InvM σ' ∧ Keep [0, 14, 15, 16] σ σ' ∧ τ' = τ ∧ True))) [.ref (L 0 0), .int f, .int a, .int t].toArray s 0 0 A) (F0 m 35 ls []) := by
          intro n
          induction n with
          | zero => intro x4_8 x5_8 σ_8 H locs ls hm; exact absurd hm (Nat.not_lt_zero _)
          | succ n ih8 =>
            intro x4_8 x5_8 σ_8 H locs ls hm8 h8_0 hI hP hH hS hl
            refine lv_iload S.1 S.2.1 dX5_cut_35 (lv_at hl 5 rfl) ?_
            refine lv_bipush (v := 12) S.1 S.2.1 dX5_cut_37 (by decide) ?_
            refine lv_icmp_ge (tgt := 92) S.1 S.2.1 dX5_cut_39 (by decide) (fun c9 => ?_) (fun c9 => ?_)
            · have j9 := t_le c9
              refine lv_iload S.1 S.2.1 dX5_cut_92 (lv_at hl 4 rfl) ?_
              refine cW_iret S hr hk hH hS ?_ dX5_cut_94
              exact ⟨x4_8, rfl, hI, hP, rfl, by trivial⟩
            · have j9 := t_nle c9
              refine lv_aload_n S.1 S.2.1 dX5_cut_42 rfl (lv_at hl 0 rfl) ?_
              refine lv_iload S.1 S.2.1 dX5_cut_43 (lv_at hl 5 rfl) ?_
              refine lv_iload_n S.1 S.2.1 dX5_cut_45 rfl (lv_at hl 2 rfl) ?_
              refine lv_iload_n S.1 S.2.1 dX5_cut_46 rfl (lv_at hl 3 rfl) ?_
              refine cW_bi (cW_V (n := 3) (As := [.int x5_8, .int a, .int t]) (rest := []) (k := 0) (i := 0) S K hH (by decide) rfl rfl (k_X5_soonOf l D B L A σ_8 τ x5_8 a t (by omega) (by omega) (by omega) hI) gX5_cut_X5_soonOf rfl hdV_X5_soonOf ⟨Nat.le_of_ble_eq_true rfl, Nat.le_of_ble_eq_true rfl⟩ rfl hl.1 (Nat.le_of_ble_eq_true rfl) dX5_cut_47) hS (fun v10 σ10 τ10 H locs q10 hH hS => ?_)
              obtain ⟨hI, hP10, hτ10, q10⟩ := q10
              rw [hτ10] at hH
              have hP := Keep_t hP hP10 (by decide)
              refine lv_ldc (v := 1000000) S.1 S.2.1 S.2.2.2.1 (S.2.2.2.2 (.constant RX5 137 (1000000)) (mG wd_357)) dX5_cut_50 ?_
              refine lv_icmp_ne (tgt := 58) S.1 S.2.1 dX5_cut_52 (by decide) (fun c11 => ?_) (fun c11 => ?_)
              · have j11 := t_neq c11
                refine lv_aload_n S.1 S.2.1 dX5_cut_58 rfl (lv_at hl 0 rfl) ?_
                refine lv_iload S.1 S.2.1 dX5_cut_59 (lv_at hl 5 rfl) ?_
                refine lv_iload_n S.1 S.2.1 dX5_cut_61 rfl (lv_at hl 2 rfl) ?_
                refine lv_iload_n S.1 S.2.1 dX5_cut_62 rfl (lv_at hl 1 rfl) ?_
                refine cW_bv (cW_V (n := 3) (As := [.int x5_8, .int a, .int f]) (rest := []) (k := 0) (i := 0) S K hH (by decide) rfl rfl (k_X5_find l D B L A σ10 τ x5_8 a f (by omega) (by omega) hI) gX5_cut_X5_find rfl hdV_X5_find ⟨Nat.le_of_ble_eq_true rfl, Nat.le_of_ble_eq_true rfl⟩ rfl hl.1 (Nat.le_of_ble_eq_true rfl) dX5_cut_63) hS (fun σ12 τ12 H locs q12 hH hS => ?_)
                obtain ⟨hI, hP12, hτ12, q12⟩ := q12
                rw [hτ12] at hH
                have hP := Keep_t hP hP12 (by decide)
                refine lv_aload_n S.1 S.2.1 dX5_cut_66 rfl (lv_at hl 0 rfl) ?_
                refine rM_0_16 S hnX5 K hH (mG wd_317) dX5_cut_67 ?_
                refine lv_iload_n S.1 S.2.1 dX5_cut_70 rfl (lv_at hl 3 rfl) ?_
                refine lM_16 S K hH (vin (by omega) (by omega)) dX5_cut_71 ?_
                refine lv_topi (fun v13 e13 => ?_)
                have b13 : 0 ≤ v13.toInt ∧ v13.toInt ≤ 1000000 := by rw [e13]; exact hI.1 16 0 t.toNatClampNeg
                refine lv_ldc (v := 1000000) S.1 S.2.1 S.2.2.2.1 (S.2.2.2.2 (.constant RX5 137 (1000000)) (mG wd_357)) dX5_cut_72 ?_
                refine lv_icmp_ne (tgt := 86) S.1 S.2.1 dX5_cut_74 (by decide) (fun c14 => ?_) (fun c14 => ?_)
                · have j14 := t_neq c14
                  obtain ⟨v15, e15⟩ : ∃ y_9 : Int32, y_9 = x5_8 + 1 := ⟨_, rfl⟩
                  have i15 : v15.toInt = x5_8.toInt + 1 := i_addc e15 (by decide) (by omega) (by omega)
                  refine lv_iinc (v := v15) (lv' := [(5, .int v15), (0, .ref (L 0 0)), (1, .int f), (2, .int a), (3, .int t), (4, .int x4_8)]) S.1 S.2.1 dX5_cut_86 hl (k := 5) rfl (by rw [e15]; rfl) (by decide) rfl (fun ls hl => ?_)
                  refine lv_goto (tgt := 35) S.1 S.2.1 dX5_cut_89 (by decide) ?_
                  exact ih8 x4_8 v15 σ12 _ _ ls (by omega) (by omega) hI hP hH hS (lv_sub hl [1, 2, 3, 4, 5, 0] rfl)
                · have j14 := t_eq c14
                  refine lv_iload S.1 S.2.1 dX5_cut_77 (lv_at hl 4 rfl) ?_
                  refine lv_iconst (v := 1) S.1 S.2.1 dX5_cut_79 (by decide) ?_
                  refine lv_iload S.1 S.2.1 dX5_cut_80 (lv_at hl 5 rfl) ?_
                  refine lv_ishl S.1 S.2.1 dX5_cut_82 ?_
                  refine lv_topi (fun v16 e16 => ?_)
                  refine lv_ior S.1 S.2.1 dX5_cut_83 ?_
                  refine lv_topi (fun v17 e17 => ?_)
                  refine lv_istore (lv' := [(4, .int v17), (0, .ref (L 0 0)), (1, .int f), (2, .int a), (3, .int t), (5, .int x5_8)]) S.1 S.2.1 dX5_cut_84 hl (by decide) rfl (fun ls hl => ?_)
                  obtain ⟨v18, e18⟩ : ∃ y_9 : Int32, y_9 = x5_8 + 1 := ⟨_, rfl⟩
                  have i18 : v18.toInt = x5_8.toInt + 1 := i_addc e18 (by decide) (by omega) (by omega)
                  refine lv_iinc (v := v18) (lv' := [(5, .int v18), (4, .int v17), (0, .ref (L 0 0)), (1, .int f), (2, .int a), (3, .int t)]) S.1 S.2.1 dX5_cut_86 hl (k := 5) rfl (by rw [e18]; rfl) (by decide) rfl (fun ls hl => ?_)
                  refine lv_goto (tgt := 35) S.1 S.2.1 dX5_cut_89 (by decide) ?_
                  exact ih8 v17 v18 σ12 _ _ ls (by omega) (by omega) hI hP hH hS (lv_sub hl [2, 3, 4, 5, 1, 0] rfl)
              · have j11 := t_eq c11
                refine lv_goto (tgt := 86) S.1 S.2.1 dX5_cut_55 (by decide) ?_
                obtain ⟨v19, e19⟩ : ∃ y_9 : Int32, y_9 = x5_8 + 1 := ⟨_, rfl⟩
                have i19 : v19.toInt = x5_8.toInt + 1 := i_addc e19 (by decide) (by omega) (by omega)
                refine lv_iinc (v := v19) (lv' := [(5, .int v19), (0, .ref (L 0 0)), (1, .int f), (2, .int a), (3, .int t), (4, .int x4_8)]) S.1 S.2.1 dX5_cut_86 hl (k := 5) rfl (by rw [e19]; rfl) (by decide) rfl (fun ls hl => ?_)
                refine lv_goto (tgt := 35) S.1 S.2.1 dX5_cut_89 (by decide) ?_
                exact ih8 x4_8 v19 σ10 _ _ ls (by omega) (by omega) hI hP hH hS (lv_sub hl [1, 2, 3, 4, 5, 0] rfl)
        exact cut_35_8 _ 0 0 σ1 _ _ ls (Nat.lt_succ_self _) (by omega) hI hP hH hS (lv_sub hl [2, 3, 4, 5, 1, 0] rfl)
      · have j7 := t_eq c7
        refine lv_iconst (v := (-1)) S.1 S.2.1 dX5_cut_27 (by decide) ?_
        refine cW_iret S hr hk hH hS ?_ dX5_cut_28
        exact ⟨(-1), rfl, hI, hP, rfl, by trivial⟩
set_option maxHeartbeats 4000000 in
set_option maxRecDepth 100000 in
theorem k_X5_parcel (l : Launch) (D : va_G) (B : Nat → ClassId) (L : QL) (A : Nat → Prop) (σ : QS) (τ : Int64) (a : Int32) (b : Int32) (z : Int32)  (hI : InvM σ) : cW cntM gM l D B L A yX5_parcel wsX5_parcel 1 22 [.ref (L 0 0), .int a, .int b, .int z] σ τ (pI (fun x σ' τ' => InvM σ' ∧ Keep [0, 18, 19, 20, 21, 22, 23, 25, 4] σ σ' ∧ τ' = τ ∧ ((x.toInt = -1 ∧ σ' 4 = σ 4 ∧ ¬ (0 ≤ a.toInt ∧ a.toInt ≤ 11 ∧ 0 ≤ b.toInt ∧ b.toInt ≤ 11 ∧ a.toInt ≠ b.toInt ∧ 1 ≤ z.toInt ∧ z.toInt ≤ 20 ∧ (σ 4 0 0).toInt < 60)) ∨ ((0 ≤ a.toInt ∧ a.toInt ≤ 11 ∧ 0 ≤ b.toInt ∧ b.toInt ≤ 11 ∧ a.toInt ≠ b.toInt ∧ 1 ≤ z.toInt ∧ z.toInt ≤ 20 ∧ (σ 4 0 0).toInt < 60) ∧ x.toInt = (σ 4 0 0).toInt ∧ (σ' 4 0 0).toInt = (σ 4 0 0).toInt + 1)))) := by
  refine cW_of (cc := cX5_parcel) (nL := 4) (ret := (some .int)) (by decide) rfl (Nat.le_of_ble_eq_true rfl) ?_
  intro p e s m below meth c S hr hk K hH hS ls hl
  have hnX5 : ∀ w ∈ wsX50, w ∈ wsX5_parcel := fun w h => mG (tX5 w h)
  have lm1 : ((-1) : Int32).toInt = -1 := by decide
  have l0 : (0 : Int32).toInt = 0 := by decide
  have l1 : (1 : Int32).toInt = 1 := by decide
  have l20 : (20 : Int32).toInt = 20 := by decide
  have l60 : (60 : Int32).toInt = 60 := by decide
  have hP : Keep [0, 18, 19, 20, 21, 22, 23, 25, 4] σ σ := Keep_r
  have hl : lv_has ls 4 [(0, .ref (L 0 0)), (1, .int a), (2, .int b), (3, .int z)] := hl
  refine lv_aload_n S.1 S.2.1 dX5_parcel_0 rfl (lv_at hl 0 rfl) ?_
  refine lv_iconst (v := 0) S.1 S.2.1 dX5_parcel_1 (by decide) ?_
  refine pM_0_0 S hnX5 K hH hS (mG wd_337) dX5_parcel_2 (fun H locs hH hS => ?_)
  obtain ⟨σ1, eσ1⟩ : ∃ z_9 : QS, z_9 = rs σ 0 0 (fun _ => 0) := ⟨_, rfl⟩
  rw [← eσ1] at hH
  have hI := InvM_f eσ1 hI (by decide) (any32 _)
  have hP := Keep_w eσ1 hP (by decide)
  refine lv_aload_n S.1 S.2.1 dX5_parcel_5 rfl (lv_at hl 0 rfl) ?_
  refine rM_0_4 S hnX5 K hH (mG wd_336) dX5_parcel_6 ?_
  refine lv_topi (fun v2 e2 => ?_)
  have b2 : 0 ≤ v2.toInt ∧ v2.toInt ≤ 60 := by rw [e2]; exact hI.1 4 0 0
  have fv2 : v2.toInt = (σ 4 0 0).toInt := by rw [e2, eσ1, rs_v (by decide)]
  refine lv_bipush (v := 60) S.1 S.2.1 dX5_parcel_9 (by decide) ?_
  refine lv_icmp_eq (tgt := 43) S.1 S.2.1 dX5_parcel_11 (by decide) (fun c3 => ?_) (fun c3 => ?_)
  · have j3 := t_eq c3
    refine lv_iconst (v := (-1)) S.1 S.2.1 dX5_parcel_43 (by decide) ?_
    refine cW_iret S hr hk hH hS ?_ dX5_parcel_44
    exact ⟨(-1), rfl, hI, hP, rfl, by exact Or.inl ⟨by decide, by rw [eσ1, rs_v (by decide)], by omega⟩⟩
  · have j3 := t_neq c3
    refine lv_iload_n S.1 S.2.1 dX5_parcel_14 rfl (lv_at hl 1 rfl) ?_
    refine cW_bpi (cW_S (n := 1) (As := [.int a]) (rest := []) S K hH (k_X5_isPlace l D B L A σ1 τ a ) gX5_parcel_X5_isPlace rfl hdS_X5_isPlace ⟨Nat.le_of_ble_eq_true rfl, Nat.le_of_ble_eq_true rfl⟩ rfl hl.1 (Nat.le_of_ble_eq_true rfl) dX5_parcel_15) hS (fun v4 H locs q4 hH hS => ?_)
    refine lv_if_eq (tgt := 43) S.1 S.2.1 dX5_parcel_18 (by decide) (fun c5 => ?_) (fun c5 => ?_)
    · have j5 := t_eq c5
      refine lv_iconst (v := (-1)) S.1 S.2.1 dX5_parcel_43 (by decide) ?_
      refine cW_iret S hr hk hH hS ?_ dX5_parcel_44
      exact ⟨(-1), rfl, hI, hP, rfl, by exact Or.inl ⟨by decide, by rw [eσ1, rs_v (by decide)], by omega⟩⟩
    · have j5 := t_neq c5
      refine lv_iload_n S.1 S.2.1 dX5_parcel_21 rfl (lv_at hl 2 rfl) ?_
      refine cW_bpi (cW_S (n := 1) (As := [.int b]) (rest := []) S K hH (k_X5_isPlace l D B L A σ1 τ b ) gX5_parcel_X5_isPlace rfl hdS_X5_isPlace ⟨Nat.le_of_ble_eq_true rfl, Nat.le_of_ble_eq_true rfl⟩ rfl hl.1 (Nat.le_of_ble_eq_true rfl) dX5_parcel_22) hS (fun v6 H locs q6 hH hS => ?_)
      refine lv_if_eq (tgt := 43) S.1 S.2.1 dX5_parcel_25 (by decide) (fun c7 => ?_) (fun c7 => ?_)
      · have j7 := t_eq c7
        refine lv_iconst (v := (-1)) S.1 S.2.1 dX5_parcel_43 (by decide) ?_
        refine cW_iret S hr hk hH hS ?_ dX5_parcel_44
        exact ⟨(-1), rfl, hI, hP, rfl, by exact Or.inl ⟨by decide, by rw [eσ1, rs_v (by decide)], by omega⟩⟩
      · have j7 := t_neq c7
        refine lv_iload_n S.1 S.2.1 dX5_parcel_28 rfl (lv_at hl 1 rfl) ?_
        refine lv_iload_n S.1 S.2.1 dX5_parcel_29 rfl (lv_at hl 2 rfl) ?_
        refine lv_icmp_eq (tgt := 43) S.1 S.2.1 dX5_parcel_30 (by decide) (fun c8 => ?_) (fun c8 => ?_)
        · have j8 := t_eq c8
          refine lv_iconst (v := (-1)) S.1 S.2.1 dX5_parcel_43 (by decide) ?_
          refine cW_iret S hr hk hH hS ?_ dX5_parcel_44
          exact ⟨(-1), rfl, hI, hP, rfl, by exact Or.inl ⟨by decide, by rw [eσ1, rs_v (by decide)], by omega⟩⟩
        · have j8 := t_neq c8
          refine lv_iload_n S.1 S.2.1 dX5_parcel_33 rfl (lv_at hl 3 rfl) ?_
          refine lv_iconst (v := 1) S.1 S.2.1 dX5_parcel_34 (by decide) ?_
          refine lv_bipush (v := 20) S.1 S.2.1 dX5_parcel_35 (by decide) ?_
          refine cW_bpi (cW_S (n := 3) (As := [.int z, .int 1, .int 20]) (rest := []) S K hH (k_X5_isIn l D B L A σ1 τ z 1 20 ) gX5_parcel_X5_isIn rfl hdS_X5_isIn ⟨Nat.le_of_ble_eq_true rfl, Nat.le_of_ble_eq_true rfl⟩ rfl hl.1 (Nat.le_of_ble_eq_true rfl) dX5_parcel_37) hS (fun v9 H locs q9 hH hS => ?_)
          refine lv_if_ne (tgt := 45) S.1 S.2.1 dX5_parcel_40 (by decide) (fun c10 => ?_) (fun c10 => ?_)
          · have j10 := t_neq c10
            refine lv_aload_n S.1 S.2.1 dX5_parcel_45 rfl (lv_at hl 0 rfl) ?_
            refine rM_0_18 S hnX5 K hH (mG wd_319) dX5_parcel_46 ?_
            refine lv_aload_n S.1 S.2.1 dX5_parcel_49 rfl (lv_at hl 0 rfl) ?_
            refine rM_0_4 S hnX5 K hH (mG wd_336) dX5_parcel_50 ?_
            refine lv_topi (fun v11 e11 => ?_)
            have b11 : 0 ≤ v11.toInt ∧ v11.toInt ≤ 60 := by rw [e11]; exact hI.1 4 0 0
            have k11 : v11.toInt = v2.toInt := by rw [e11]; rw [← e2]
            refine lv_iload_n S.1 S.2.1 dX5_parcel_53 rfl (lv_at hl 2 rfl) ?_
            refine sM_18 S K hH hS (vin (by omega) (by omega)) dX5_parcel_54 (fun H locs hH hS => ?_)
            obtain ⟨σ12, eσ12⟩ : ∃ z_9 : QS, z_9 = rs σ1 18 0 (upd (σ1 18 0) v11.toNatClampNeg b) := ⟨_, rfl⟩
            rw [← eσ12] at hH
            have hI := InvM_a eσ12 hI (by decide) (show (0 : Int) ≤ b.toInt ∧ b.toInt ≤ 11 by omega)
            have hP := Keep_w eσ12 hP (by decide)
            refine lv_aload_n S.1 S.2.1 dX5_parcel_55 rfl (lv_at hl 0 rfl) ?_
            refine rM_0_19 S hnX5 K hH (mG wd_320) dX5_parcel_56 ?_
            refine lv_aload_n S.1 S.2.1 dX5_parcel_59 rfl (lv_at hl 0 rfl) ?_
            refine rM_0_4 S hnX5 K hH (mG wd_336) dX5_parcel_60 ?_
            refine lv_topi (fun v13 e13 => ?_)
            have b13 : 0 ≤ v13.toInt ∧ v13.toInt ≤ 60 := by rw [e13]; exact hI.1 4 0 0
            have k13 : v13.toInt = v2.toInt := by rw [e13, eσ12, rs_v (by decide)]; rw [← e2]
            refine lv_iload_n S.1 S.2.1 dX5_parcel_63 rfl (lv_at hl 3 rfl) ?_
            refine sM_19 S K hH hS (vin (by omega) (by omega)) dX5_parcel_64 (fun H locs hH hS => ?_)
            obtain ⟨σ14, eσ14⟩ : ∃ z_9 : QS, z_9 = rs σ12 19 0 (upd (σ12 19 0) v13.toNatClampNeg z) := ⟨_, rfl⟩
            rw [← eσ14] at hH
            have hI := InvM_a eσ14 hI (by decide) (any32 _)
            have hP := Keep_w eσ14 hP (by decide)
            refine lv_aload_n S.1 S.2.1 dX5_parcel_65 rfl (lv_at hl 0 rfl) ?_
            refine rM_0_20 S hnX5 K hH (mG wd_321) dX5_parcel_66 ?_
            refine lv_aload_n S.1 S.2.1 dX5_parcel_69 rfl (lv_at hl 0 rfl) ?_
            refine rM_0_4 S hnX5 K hH (mG wd_336) dX5_parcel_70 ?_
            refine lv_topi (fun v15 e15 => ?_)
            have b15 : 0 ≤ v15.toInt ∧ v15.toInt ≤ 60 := by rw [e15]; exact hI.1 4 0 0
            have k15 : v15.toInt = v2.toInt := by rw [e15, eσ14, rs_v (by decide), eσ12, rs_v (by decide)]; rw [← e2]
            refine lv_iload_n S.1 S.2.1 dX5_parcel_73 rfl (lv_at hl 1 rfl) ?_
            refine sM_20 S K hH hS (vin (by omega) (by omega)) dX5_parcel_74 (fun H locs hH hS => ?_)
            obtain ⟨σ16, eσ16⟩ : ∃ z_9 : QS, z_9 = rs σ14 20 0 (upd (σ14 20 0) v15.toNatClampNeg a) := ⟨_, rfl⟩
            rw [← eσ16] at hH
            have hI := InvM_a eσ16 hI (by decide) (show ((-1) : Int) ≤ a.toInt ∧ a.toInt ≤ 11 by omega)
            have hP := Keep_w eσ16 hP (by decide)
            refine lv_aload_n S.1 S.2.1 dX5_parcel_75 rfl (lv_at hl 0 rfl) ?_
            refine rM_0_21 S hnX5 K hH (mG wd_322) dX5_parcel_76 ?_
            refine lv_aload_n S.1 S.2.1 dX5_parcel_79 rfl (lv_at hl 0 rfl) ?_
            refine rM_0_4 S hnX5 K hH (mG wd_336) dX5_parcel_80 ?_
            refine lv_topi (fun v17 e17 => ?_)
            have b17 : 0 ≤ v17.toInt ∧ v17.toInt ≤ 60 := by rw [e17]; exact hI.1 4 0 0
            have k17 : v17.toInt = v2.toInt := by rw [e17, eσ16, rs_v (by decide), eσ14, rs_v (by decide), eσ12, rs_v (by decide)]; rw [← e2]
            refine lv_iconst (v := (-1)) S.1 S.2.1 dX5_parcel_83 (by decide) ?_
            refine sM_21 S K hH hS (vin (by omega) (by omega)) dX5_parcel_84 (fun H locs hH hS => ?_)
            obtain ⟨σ18, eσ18⟩ : ∃ z_9 : QS, z_9 = rs σ16 21 0 (upd (σ16 21 0) v17.toNatClampNeg (-1)) := ⟨_, rfl⟩
            rw [← eσ18] at hH
            have hI := InvM_a eσ18 hI (by decide) (show ((-1) : Int) ≤ (-1 : Int32).toInt ∧ (-1 : Int32).toInt ≤ 11 by omega)
            have hP := Keep_w eσ18 hP (by decide)
            refine lv_aload_n S.1 S.2.1 dX5_parcel_85 rfl (lv_at hl 0 rfl) ?_
            refine rM_0_22 S hnX5 K hH (mG wd_323) dX5_parcel_86 ?_
            refine lv_aload_n S.1 S.2.1 dX5_parcel_89 rfl (lv_at hl 0 rfl) ?_
            refine rM_0_4 S hnX5 K hH (mG wd_336) dX5_parcel_90 ?_
            refine lv_topi (fun v19 e19 => ?_)
            have b19 : 0 ≤ v19.toInt ∧ v19.toInt ≤ 60 := by rw [e19]; exact hI.1 4 0 0
            have k19 : v19.toInt = v2.toInt := by rw [e19, eσ18, rs_v (by decide), eσ16, rs_v (by decide), eσ14, rs_v (by decide), eσ12, rs_v (by decide)]; rw [← e2]
            refine lv_iconst (v := (-1)) S.1 S.2.1 dX5_parcel_93 (by decide) ?_
            refine sM_22 S K hH hS (vin (by omega) (by omega)) dX5_parcel_94 (fun H locs hH hS => ?_)
            obtain ⟨σ20, eσ20⟩ : ∃ z_9 : QS, z_9 = rs σ18 22 0 (upd (σ18 22 0) v19.toNatClampNeg (-1)) := ⟨_, rfl⟩
            rw [← eσ20] at hH
            have hI := InvM_a eσ20 hI (by decide) (any32 _)
            have hP := Keep_w eσ20 hP (by decide)
            refine lv_aload_n S.1 S.2.1 dX5_parcel_95 rfl (lv_at hl 0 rfl) ?_
            refine rM_0_23 S hnX5 K hH (mG wd_324) dX5_parcel_96 ?_
            refine lv_aload_n S.1 S.2.1 dX5_parcel_99 rfl (lv_at hl 0 rfl) ?_
            refine rM_0_4 S hnX5 K hH (mG wd_336) dX5_parcel_100 ?_
            refine lv_topi (fun v21 e21 => ?_)
            have b21 : 0 ≤ v21.toInt ∧ v21.toInt ≤ 60 := by rw [e21]; exact hI.1 4 0 0
            have k21 : v21.toInt = v2.toInt := by rw [e21, eσ20, rs_v (by decide), eσ18, rs_v (by decide), eσ16, rs_v (by decide), eσ14, rs_v (by decide), eσ12, rs_v (by decide)]; rw [← e2]
            refine lv_iconst (v := (-1)) S.1 S.2.1 dX5_parcel_103 (by decide) ?_
            refine sM_23 S K hH hS (vin (by omega) (by omega)) dX5_parcel_104 (fun H locs hH hS => ?_)
            obtain ⟨σ22, eσ22⟩ : ∃ z_9 : QS, z_9 = rs σ20 23 0 (upd (σ20 23 0) v21.toNatClampNeg (-1)) := ⟨_, rfl⟩
            rw [← eσ22] at hH
            have hI := InvM_a eσ22 hI (by decide) (any32 _)
            have hP := Keep_w eσ22 hP (by decide)
            refine lv_aload_n S.1 S.2.1 dX5_parcel_105 rfl (lv_at hl 0 rfl) ?_
            refine rM_0_25 S hnX5 K hH (mG wd_326) dX5_parcel_106 ?_
            refine lv_aload_n S.1 S.2.1 dX5_parcel_109 rfl (lv_at hl 0 rfl) ?_
            refine rM_0_4 S hnX5 K hH (mG wd_336) dX5_parcel_110 ?_
            refine lv_topi (fun v23 e23 => ?_)
            have b23 : 0 ≤ v23.toInt ∧ v23.toInt ≤ 60 := by rw [e23]; exact hI.1 4 0 0
            have k23 : v23.toInt = v2.toInt := by rw [e23, eσ22, rs_v (by decide), eσ20, rs_v (by decide), eσ18, rs_v (by decide), eσ16, rs_v (by decide), eσ14, rs_v (by decide), eσ12, rs_v (by decide)]; rw [← e2]
            refine lv_iconst (v := (-1)) S.1 S.2.1 dX5_parcel_113 (by decide) ?_
            refine sM_25 S K hH hS (vin (by omega) (by omega)) dX5_parcel_114 (fun H locs hH hS => ?_)
            obtain ⟨σ24, eσ24⟩ : ∃ z_9 : QS, z_9 = rs σ22 25 0 (upd (σ22 25 0) v23.toNatClampNeg (-1)) := ⟨_, rfl⟩
            rw [← eσ24] at hH
            have hI := InvM_a eσ24 hI (by decide) (any32 _)
            have hP := Keep_w eσ24 hP (by decide)
            refine lv_aload_n S.1 S.2.1 dX5_parcel_115 rfl (lv_at hl 0 rfl) ?_
            refine lv_dup S.1 S.2.1 dX5_parcel_116 rfl ?_
            refine rM_0_4 S hnX5 K hH (mG wd_336) dX5_parcel_117 ?_
            refine lv_topi (fun v25 e25 => ?_)
            have b25 : 0 ≤ v25.toInt ∧ v25.toInt ≤ 60 := by rw [e25]; exact hI.1 4 0 0
            have k25 : v25.toInt = v2.toInt := by rw [e25, eσ24, rs_v (by decide), eσ22, rs_v (by decide), eσ20, rs_v (by decide), eσ18, rs_v (by decide), eσ16, rs_v (by decide), eσ14, rs_v (by decide), eσ12, rs_v (by decide)]; rw [← e2]
            refine lv_iconst (v := 1) S.1 S.2.1 dX5_parcel_120 (by decide) ?_
            refine lv_iadd S.1 S.2.1 dX5_parcel_121 ?_
            refine lv_topi (fun v26 e26 => ?_)
            have i26 : v26.toInt = v25.toInt + (1 : Int32).toInt := i_add e26 (by omega) (by omega)
            refine pM_0_4 S hnX5 K hH hS (mG wd_336) dX5_parcel_122 (fun H locs hH hS => ?_)
            obtain ⟨σ27, eσ27⟩ : ∃ z_9 : QS, z_9 = rs σ24 4 0 (fun _ => v26) := ⟨_, rfl⟩
            rw [← eσ27] at hH
            have hI := InvM_f eσ27 hI (by decide) (show (0 : Int) ≤ v26.toInt ∧ v26.toInt ≤ 60 by omega)
            have hP := Keep_w eσ27 hP (by decide)
            refine lv_aload_n S.1 S.2.1 dX5_parcel_125 rfl (lv_at hl 0 rfl) ?_
            refine rM_0_4 S hnX5 K hH (mG wd_336) dX5_parcel_126 ?_
            refine lv_topi (fun v28 e28 => ?_)
            have b28 : 0 ≤ v28.toInt ∧ v28.toInt ≤ 60 := by rw [e28]; exact hI.1 4 0 0
            have k28 : v28.toInt = v26.toInt := by rw [e28, eσ27, rs_self]
            refine lv_iconst (v := 1) S.1 S.2.1 dX5_parcel_129 (by decide) ?_
            refine lv_isub S.1 S.2.1 dX5_parcel_130 ?_
            refine lv_topi (fun v29 e29 => ?_)
            have i29 : v29.toInt = v28.toInt - (1 : Int32).toInt := i_sub e29 (by omega) (by omega)
            refine cW_iret S hr hk hH hS ?_ dX5_parcel_131
            exact ⟨v29, rfl, hI, hP, rfl, by refine Or.inr ?_; rw [eσ27, rs_self]; omega⟩
          · have j10 := t_eq c10
            refine lv_iconst (v := (-1)) S.1 S.2.1 dX5_parcel_43 (by decide) ?_
            refine cW_iret S hr hk hH hS ?_ dX5_parcel_44
            exact ⟨(-1), rfl, hI, hP, rfl, by exact Or.inl ⟨by decide, by rw [eσ1, rs_v (by decide)], by omega⟩⟩
set_option maxHeartbeats 4000000 in
set_option maxRecDepth 100000 in
theorem k_X5_roomLeft (l : Launch) (D : va_G) (B : Nat → ClassId) (L : QL) (A : Nat → Prop) (σ : QS) (τ : Int64) (c9 : Int32) (d : Int32)  (hp0 : 0 ≤ c9.toInt ∧ c9.toInt ≤ 11) (hI : InvM σ) : cW cntM gM l D B L A yX5_roomLeft wsX5_roomLeft 0 0 [.ref (L 0 0), .int c9, .int d] σ τ (pI (fun x σ' τ' => σ' = σ ∧ τ' = τ ∧ True)) := by
  refine cW_of (cc := cX5_roomLeft) (nL := 5) (ret := (some .int)) (by decide) rfl (Nat.le_of_ble_eq_true rfl) ?_
  intro p e s m below meth c S hr hk K hH hS ls hl
  have hnX5 : ∀ w ∈ wsX50, w ∈ wsX5_roomLeft := fun w h => mG (tX5 w h)
  have l0 : (0 : Int32).toInt = 0 := by decide
  have l1 : (1 : Int32).toInt = 1 := by decide
  have hl : lv_has ls 5 [(0, .ref (L 0 0)), (1, .int c9), (2, .int d)] := hl
  refine lv_aload_n S.1 S.2.1 dX5_roomLeft_0 rfl (lv_at hl 0 rfl) ?_
  refine rM_0_7 S hnX5 K hH (mG wd_305) dX5_roomLeft_1 ?_
  refine lv_iload_n S.1 S.2.1 dX5_roomLeft_4 rfl (lv_at hl 1 rfl) ?_
  refine lM_7 S K hH (vin (by omega) (by omega)) dX5_roomLeft_5 ?_
  refine lv_topi (fun v1 e1 => ?_)
  refine lv_istore_n (lv' := [(3, .int v1), (0, .ref (L 0 0)), (1, .int c9), (2, .int d)]) S.1 S.2.1 dX5_roomLeft_6 rfl hl (by decide) rfl (fun ls hl => ?_)
  refine lv_iconst (v := 0) S.1 S.2.1 dX5_roomLeft_7 (by decide) ?_
  refine lv_istore (lv' := [(4, .int 0), (3, .int v1), (0, .ref (L 0 0)), (1, .int c9), (2, .int d)]) S.1 S.2.1 dX5_roomLeft_8 hl (by decide) rfl (fun ls hl => ?_)
  have cut_10_2 : ∀ (n : Nat) (x3_2 : Int32) (x4_2 : Int32)  (H : Heap) (locs : List Loc) (ls : Array Slot), (60 - x4_2.toInt).toNat < n → 0 ≤ x4_2.toInt ∧ x4_2.toInt ≤ 60 → hW cntM gM D B L σ τ H → va_S A s.heap H locs → lv_has ls 5 [(0, .ref (L 0 0)), (1, .int c9), (2, .int d), (3, .int x3_2), (4, .int x4_2)] → W p l e { frames := 0, cells := 0, slots := 0, locals := 0 } s m [.ref (L 0 0), .int c9, .int d].toArray below meth c H locs 0 0 (MQ below (QcW cntM gM D B L A (pI (fun x σ' τ' => σ' = σ ∧ τ' = τ ∧ True))) [.ref (L 0 0), .int c9, .int d].toArray s 0 0 A) (F0 m 10 ls []) := by
    intro n
    induction n with
    | zero => intro x3_2 x4_2 H locs ls hm; exact absurd hm (Nat.not_lt_zero _)
    | succ n ih2 =>
      intro x3_2 x4_2 H locs ls hm2 h2_0 hH hS hl
      refine lv_iload S.1 S.2.1 dX5_roomLeft_10 (lv_at hl 4 rfl) ?_
      refine lv_aload_n S.1 S.2.1 dX5_roomLeft_12 rfl (lv_at hl 0 rfl) ?_
      refine rM_0_4 S hnX5 K hH (mG wd_336) dX5_roomLeft_13 ?_
      refine lv_topi (fun v3 e3 => ?_)
      have b3 : 0 ≤ v3.toInt ∧ v3.toInt ≤ 60 := by rw [e3]; exact hI.1 4 0 0
      refine lv_icmp_ge (tgt := 61) S.1 S.2.1 dX5_roomLeft_16 (by decide) (fun c4 => ?_) (fun c4 => ?_)
      · have j4 := t_le c4
        refine lv_iload_n S.1 S.2.1 dX5_roomLeft_61 rfl (lv_at hl 3 rfl) ?_
        refine cW_iret S hr hk hH hS ?_ dX5_roomLeft_62
        exact ⟨x3_2, rfl, rfl, rfl, by trivial⟩
      · have j4 := t_nle c4
        refine lv_iload_n S.1 S.2.1 dX5_roomLeft_19 rfl (lv_at hl 3 rfl) ?_
        refine lv_aload_n S.1 S.2.1 dX5_roomLeft_20 rfl (lv_at hl 0 rfl) ?_
        refine rM_0_21 S hnX5 K hH (mG wd_322) dX5_roomLeft_21 ?_
        refine lv_iload S.1 S.2.1 dX5_roomLeft_24 (lv_at hl 4 rfl) ?_
        refine lM_21 S K hH (vin (by omega) (by omega)) dX5_roomLeft_26 ?_
        refine lv_topi (fun v5 e5 => ?_)
        have b5 : (-1) ≤ v5.toInt ∧ v5.toInt ≤ 11 := by rw [e5]; exact hI.1 21 0 x4_2.toNatClampNeg
        refine lv_iload_n S.1 S.2.1 dX5_roomLeft_27 rfl (lv_at hl 1 rfl) ?_
        refine lv_icmp_ne (tgt := 52) S.1 S.2.1 dX5_roomLeft_28 (by decide) (fun c6 => ?_) (fun c6 => ?_)
        · have j6 := t_neq c6
          refine lv_iconst (v := 0) S.1 S.2.1 dX5_roomLeft_52 (by decide) ?_
          refine lv_isub S.1 S.2.1 dX5_roomLeft_53 ?_
          have y7 := any32 x3_2
          refine lv_topi (fun v8 e8 => ?_)
          have i8 : v8.toInt = x3_2.toInt - (0 : Int32).toInt := i_sub e8 (by omega) (by omega)
          refine lv_istore_n (lv' := [(3, .int v8), (0, .ref (L 0 0)), (1, .int c9), (2, .int d), (4, .int x4_2)]) S.1 S.2.1 dX5_roomLeft_54 rfl hl (by decide) rfl (fun ls hl => ?_)
          obtain ⟨v9, e9⟩ : ∃ y_9 : Int32, y_9 = x4_2 + 1 := ⟨_, rfl⟩
          have i9 : v9.toInt = x4_2.toInt + 1 := i_addc e9 (by decide) (by omega) (by omega)
          refine lv_iinc (v := v9) (lv' := [(4, .int v9), (3, .int v8), (0, .ref (L 0 0)), (1, .int c9), (2, .int d)]) S.1 S.2.1 dX5_roomLeft_55 hl (k := 4) rfl (by rw [e9]; rfl) (by decide) rfl (fun ls hl => ?_)
          refine lv_goto (tgt := 10) S.1 S.2.1 dX5_roomLeft_58 (by decide) ?_
          exact ih2 v8 v9 _ _ ls (by omega) (by omega) hH hS (lv_sub hl [2, 3, 4, 1, 0] rfl)
        · have j6 := t_eq c6
          refine lv_aload_n S.1 S.2.1 dX5_roomLeft_31 rfl (lv_at hl 0 rfl) ?_
          refine rM_0_22 S hnX5 K hH (mG wd_323) dX5_roomLeft_32 ?_
          refine lv_iload S.1 S.2.1 dX5_roomLeft_35 (lv_at hl 4 rfl) ?_
          refine lM_22 S K hH (vin (by omega) (by omega)) dX5_roomLeft_37 ?_
          refine lv_topi (fun v10 e10 => ?_)
          refine lv_iload_n S.1 S.2.1 dX5_roomLeft_38 rfl (lv_at hl 2 rfl) ?_
          refine lv_icmp_ne (tgt := 52) S.1 S.2.1 dX5_roomLeft_39 (by decide) (fun c11 => ?_) (fun c11 => ?_)
          · have j11 := t_neq c11
            refine lv_iconst (v := 0) S.1 S.2.1 dX5_roomLeft_52 (by decide) ?_
            refine lv_isub S.1 S.2.1 dX5_roomLeft_53 ?_
            have y12 := any32 x3_2
            refine lv_topi (fun v13 e13 => ?_)
            have i13 : v13.toInt = x3_2.toInt - (0 : Int32).toInt := i_sub e13 (by omega) (by omega)
            refine lv_istore_n (lv' := [(3, .int v13), (0, .ref (L 0 0)), (1, .int c9), (2, .int d), (4, .int x4_2)]) S.1 S.2.1 dX5_roomLeft_54 rfl hl (by decide) rfl (fun ls hl => ?_)
            obtain ⟨v14, e14⟩ : ∃ y_9 : Int32, y_9 = x4_2 + 1 := ⟨_, rfl⟩
            have i14 : v14.toInt = x4_2.toInt + 1 := i_addc e14 (by decide) (by omega) (by omega)
            refine lv_iinc (v := v14) (lv' := [(4, .int v14), (3, .int v13), (0, .ref (L 0 0)), (1, .int c9), (2, .int d)]) S.1 S.2.1 dX5_roomLeft_55 hl (k := 4) rfl (by rw [e14]; rfl) (by decide) rfl (fun ls hl => ?_)
            refine lv_goto (tgt := 10) S.1 S.2.1 dX5_roomLeft_58 (by decide) ?_
            exact ih2 v13 v14 _ _ ls (by omega) (by omega) hH hS (lv_sub hl [2, 3, 4, 1, 0] rfl)
          · have j11 := t_eq c11
            refine lv_aload_n S.1 S.2.1 dX5_roomLeft_42 rfl (lv_at hl 0 rfl) ?_
            refine rM_0_19 S hnX5 K hH (mG wd_320) dX5_roomLeft_43 ?_
            refine lv_iload S.1 S.2.1 dX5_roomLeft_46 (lv_at hl 4 rfl) ?_
            refine lM_19 S K hH (vin (by omega) (by omega)) dX5_roomLeft_48 ?_
            refine lv_topi (fun v15 e15 => ?_)
            refine lv_goto (tgt := 53) S.1 S.2.1 dX5_roomLeft_49 (by decide) ?_
            refine lv_isub S.1 S.2.1 dX5_roomLeft_53 ?_
            refine lv_topi (fun v16 e16 => ?_)
            refine lv_istore_n (lv' := [(3, .int v16), (0, .ref (L 0 0)), (1, .int c9), (2, .int d), (4, .int x4_2)]) S.1 S.2.1 dX5_roomLeft_54 rfl hl (by decide) rfl (fun ls hl => ?_)
            obtain ⟨v17, e17⟩ : ∃ y_9 : Int32, y_9 = x4_2 + 1 := ⟨_, rfl⟩
            have i17 : v17.toInt = x4_2.toInt + 1 := i_addc e17 (by decide) (by omega) (by omega)
            refine lv_iinc (v := v17) (lv' := [(4, .int v17), (3, .int v16), (0, .ref (L 0 0)), (1, .int c9), (2, .int d)]) S.1 S.2.1 dX5_roomLeft_55 hl (k := 4) rfl (by rw [e17]; rfl) (by decide) rfl (fun ls hl => ?_)
            refine lv_goto (tgt := 10) S.1 S.2.1 dX5_roomLeft_58 (by decide) ?_
            exact ih2 v16 v17 _ _ ls (by omega) (by omega) hH hS (lv_sub hl [2, 3, 4, 1, 0] rfl)
  exact cut_10_2 _ v1 0 _ _ ls (Nat.lt_succ_self _) (by omega) hH hS (lv_sub hl [2, 3, 4, 1, 0] rfl)
set_option maxHeartbeats 4000000 in
set_option maxRecDepth 100000 in
theorem k_X5_seeks (l : Launch) (D : va_G) (B : Nat → ClassId) (L : QL) (A : Nat → Prop) (σ : QS) (τ : Int64) (k : Int32)  (hp0 : 0 ≤ k.toInt ∧ k.toInt ≤ 59) (hI : InvM σ) (hp2 : 0 ≤ (σ 20 0 k.toNatClampNeg).toInt) : cW cntM gM l D B L A yX5_seeks wsX5_seeks 3 78 [.ref (L 0 0), .int k] σ τ (pV (fun σ' τ' => InvM σ' ∧ Keep [14, 15, 16, 20, 21, 22, 23, 24, 26] σ σ' ∧ τ' = τ ∧ True)) := by
  refine cW_of (cc := cX5_seeks) (nL := 7) (ret := none) (by decide) rfl (Nat.le_of_ble_eq_true rfl) ?_
  intro p e s m below meth c S hr hk K hH hS ls hl
  have hnX5 : ∀ w ∈ wsX50, w ∈ wsX5_seeks := fun w h => mG (tX5 w h)
  have lm1 : ((-1) : Int32).toInt = -1 := by decide
  have l0 : (0 : Int32).toInt = 0 := by decide
  have l1 : (1 : Int32).toInt = 1 := by decide
  have l4 : (4 : Int32).toInt = 4 := by decide
  have l6 : (6 : Int32).toInt = 6 := by decide
  have l24 : (24 : Int32).toInt = 24 := by decide
  have l1000000 : (1000000 : Int32).toInt = 1000000 := by decide
  have hP : Keep [14, 15, 16, 20, 21, 22, 23, 24, 26] σ σ := Keep_r
  have hl : lv_has ls 7 [(0, .ref (L 0 0)), (1, .int k)] := hl
  refine lv_aload_n S.1 S.2.1 dX5_seeks_0 rfl (lv_at hl 0 rfl) ?_
  refine lv_aload_n S.1 S.2.1 dX5_seeks_1 rfl (lv_at hl 0 rfl) ?_
  refine rM_0_20 S hnX5 K hH (mG wd_321) dX5_seeks_2 ?_
  refine lv_iload_n S.1 S.2.1 dX5_seeks_5 rfl (lv_at hl 1 rfl) ?_
  refine lM_20 S K hH (vin (by omega) (by omega)) dX5_seeks_6 ?_
  refine lv_topi (fun v1 e1 => ?_)
  have b1 : (-1) ≤ v1.toInt ∧ v1.toInt ≤ 11 := by rw [e1]; exact hI.1 20 0 k.toNatClampNeg
  have zv1 : 0 ≤ v1.toInt := by rw [e1]; exact hp2
  refine lv_aload_n S.1 S.2.1 dX5_seeks_7 rfl (lv_at hl 0 rfl) ?_
  refine rM_0_1 S hnX5 K hH (mG wd_352) dX5_seeks_8 ?_
  refine lv_topi (fun v2 e2 => ?_)
  have b2 : 0 ≤ v2.toInt ∧ v2.toInt ≤ 5000 := by rw [e2]; exact hI.1 1 0 0
  refine lv_aload_n S.1 S.2.1 dX5_seeks_11 rfl (lv_at hl 0 rfl) ?_
  refine rM_0_18 S hnX5 K hH (mG wd_319) dX5_seeks_12 ?_
  refine lv_iload_n S.1 S.2.1 dX5_seeks_15 rfl (lv_at hl 1 rfl) ?_
  refine lM_18 S K hH (vin (by omega) (by omega)) dX5_seeks_16 ?_
  refine lv_topi (fun v3 e3 => ?_)
  have b3 : 0 ≤ v3.toInt ∧ v3.toInt ≤ 11 := by rw [e3]; exact hI.1 18 0 k.toNatClampNeg
  refine cW_bi (cW_V (n := 3) (As := [.int v1, .int v2, .int v3]) (rest := []) (k := 0) (i := 0) S K hH (by decide) rfl rfl (k_X5_soonOf l D B L A σ τ v1 v2 v3 (by omega) (by omega) (by omega) hI) gX5_seeks_X5_soonOf rfl hdV_X5_soonOf ⟨Nat.le_of_ble_eq_true rfl, Nat.le_of_ble_eq_true rfl⟩ rfl hl.1 (Nat.le_of_ble_eq_true rfl) dX5_seeks_17) hS (fun v4 σ4 τ4 H locs q4 hH hS => ?_)
  obtain ⟨hI, hP4, hτ4, q4⟩ := q4
  rw [hτ4] at hH
  have hP := Keep_t hP hP4 (by decide)
  refine lv_istore_n (lv' := [(2, .int v4), (0, .ref (L 0 0)), (1, .int k)]) S.1 S.2.1 dX5_seeks_20 rfl hl (by decide) rfl (fun ls hl => ?_)
  refine lv_iload_n S.1 S.2.1 dX5_seeks_21 rfl (lv_at hl 0 rfl) ?_
  refine lv_ldc (v := 1000000) S.1 S.2.1 S.2.2.2.1 (S.2.2.2.2 (.constant RX5 137 (1000000)) (mG wd_357)) dX5_seeks_22 ?_
  refine lv_icmp_ne (tgt := 28) S.1 S.2.1 dX5_seeks_24 (by decide) (fun c5 => ?_) (fun c5 => ?_)
  · have j5 := t_neq c5
    refine lv_iconst (v := 0) S.1 S.2.1 dX5_seeks_28 (by decide) ?_
    refine lv_istore_n (lv' := [(3, .int 0), (2, .int v4), (0, .ref (L 0 0)), (1, .int k)]) S.1 S.2.1 dX5_seeks_29 rfl hl (by decide) rfl (fun ls hl => ?_)
    have cut_30_6 : ∀ (n : Nat) (x3_6 : Int32) (σ_6 : QS) (H : Heap) (locs : List Loc) (ls : Array Slot), (12 - x3_6.toInt).toNat < n → 0 ≤ x3_6.toInt ∧ x3_6.toInt ≤ 12 → InvM σ_6 → Keep [14, 15, 16, 20, 21, 22, 23, 24, 26] σ σ_6 → hW cntM gM D B L σ_6 τ H → va_S A s.heap H locs → lv_has ls 7 [(0, .ref (L 0 0)), (1, .int k), (2, .int v4), (3, .int x3_6)] → W p l e { frames := 3, cells := 0, slots := 0, locals := 78 } s m [.ref (L 0 0), .int k].toArray below meth c H locs 0 0 (MQ below (QcW cntM gM D B L A (pV (fun σ' τ' => InvM σ' ∧ Keep [14, 15, 16, 20, 21, 22, 23, 24, 26] σ σ' ∧ τ' = τ ∧ True))) [.ref (L 0 0), .int k].toArray s 0 0 A) (F0 m 30 ls []) := by
      intro n
      induction n with
      | zero => intro x3_6 σ_6 H locs ls hm; exact absurd hm (Nat.not_lt_zero _)
      | succ n ih6 =>
        intro x3_6 σ_6 H locs ls hm6 h6_0 hI hP hH hS hl
        refine lv_iload_n S.1 S.2.1 dX5_seeks_30 rfl (lv_at hl 3 rfl) ?_
        refine lv_aload_n S.1 S.2.1 dX5_seeks_31 rfl (lv_at hl 0 rfl) ?_
        refine rM_0_2 S hnX5 K hH (mG wd_335) dX5_seeks_32 ?_
        refine lv_topi (fun v7 e7 => ?_)
        have b7 : 0 ≤ v7.toInt ∧ v7.toInt ≤ 12 := by rw [e7]; exact hI.1 2 0 0
        refine lv_icmp_ge (tgt := 308) S.1 S.2.1 dX5_seeks_35 (by decide) (fun c8 => ?_) (fun c8 => ?_)
        · have j8 := t_le c8
          refine cW_vret S hr hk hH hS ?_ dX5_seeks_308
          exact ⟨rfl, hI, hP, rfl, by trivial⟩
        · have j8 := t_nle c8
          refine lv_iconst (v := 0) S.1 S.2.1 dX5_seeks_38 (by decide) ?_
          refine lv_aload_n S.1 S.2.1 dX5_seeks_39 rfl (lv_at hl 0 rfl) ?_
          refine rM_0_1 S hnX5 K hH (mG wd_352) dX5_seeks_40 ?_
          refine lv_topi (fun v9 e9 => ?_)
          have b9 : 0 ≤ v9.toInt ∧ v9.toInt ≤ 5000 := by rw [e9]; exact hI.1 1 0 0
          refine lv_bipush (v := 24) S.1 S.2.1 dX5_seeks_43 (by decide) ?_
          refine lv_idiv S.1 S.2.1 dX5_seeks_45 (by decide) ?_
          refine lv_topi (fun v10 e10 => ?_)
          have i10 : v10.toInt = v9.toInt / 24 := i_div e10 (by decide) (by decide) (by omega)
          refine lv_iconst (v := 4) S.1 S.2.1 dX5_seeks_46 (by decide) ?_
          refine lv_isub S.1 S.2.1 dX5_seeks_47 ?_
          refine lv_topi (fun v11 e11 => ?_)
          have i11 : v11.toInt = v10.toInt - (4 : Int32).toInt := i_sub e11 (by omega) (by omega)
          refine va_mmax S.1 S.2.1 (by rw [S.2.2.1]; exact hl.1.symm) S.2.2.2.1 (S.2.2.2.2 (.methodLink RX5 138 Lib.Math.max.name) (mG wd_358)) (S.2.2.2.2 (.static Lib.Math.max.name) (mG wd_135)) (S.2.2.2.2 (.initialized "java/lang/Math") (mG wd_41)) (S.2.2.2.2 (.code Lib.Math.max.name Lib.Math.max.code 2 (some .int)) (mG wd_643)) (Nat.le_of_ble_eq_true rfl) (Nat.le_of_ble_eq_true rfl) (Nat.zero_le _) (Nat.zero_le _) dX5_seeks_48 ?_
          refine lv_topi (fun v12 e12 => ?_)
          have i12 : (v12.toInt = (0 : Int32).toInt ∨ v12.toInt = v11.toInt) ∧ (0 : Int32).toInt ≤ v12.toInt ∧ v11.toInt ≤ v12.toInt := i_mmax e12
          refine lv_istore (lv' := [(4, .int v12), (0, .ref (L 0 0)), (1, .int k), (2, .int v4), (3, .int x3_6)]) S.1 S.2.1 dX5_seeks_51 hl (by decide) rfl (fun ls hl => ?_)
          have cut_53_13 : ∀ (n : Nat) (x4_13 : Int32) (σ_13 : QS) (H : Heap) (locs : List Loc) (ls : Array Slot), (209 - x4_13.toInt).toNat < n → 0 ≤ x4_13.toInt ∧ x4_13.toInt ≤ 209 → InvM σ_13 → Keep [14, 15, 16, 20, 21, 22, 23, 24, 26] σ σ_13 → hW cntM gM D B L σ_13 τ H → va_S A s.heap H locs → lv_has ls 7 [(0, .ref (L 0 0)), (1, .int k), (2, .int v4), (3, .int x3_6), (4, .int x4_13)] → W p l e { frames := 3, cells := 0, slots := 0, locals := 78 } s m [.ref (L 0 0), .int k].toArray below meth c H locs 0 0 (MQ below (QcW cntM gM D B L A (pV (fun σ' τ' => InvM σ' ∧ Keep [14, 15, 16, 20, 21, 22, 23, 24, 26] σ σ' ∧ τ' = τ ∧ True))) [.ref (L 0 0), .int k].toArray s 0 0 A) (F0 m 53 ls []) := by
            intro n
            induction n with
            | zero => intro x4_13 σ_13 H locs ls hm; exact absurd hm (Nat.not_lt_zero _)
            | succ n ih13 =>
              intro x4_13 σ_13 H locs ls hm13 h13_0 hI hP hH hS hl
              refine lv_bipush (v := 24) S.1 S.2.1 dX5_seeks_53 (by decide) ?_
              refine lv_iload S.1 S.2.1 dX5_seeks_55 (lv_at hl 4 rfl) ?_
              refine lv_imul S.1 S.2.1 dX5_seeks_57 ?_
              refine lv_topi (fun v14 e14 => ?_)
              have i14 : v14.toInt = 24 * x4_13.toInt := i_mulcl e14 (by decide) (by omega) (by omega)
              refine lv_aload_n S.1 S.2.1 dX5_seeks_58 rfl (lv_at hl 0 rfl) ?_
              refine rM_0_1 S hnX5 K hH (mG wd_352) dX5_seeks_59 ?_
              refine lv_topi (fun v15 e15 => ?_)
              have b15 : 0 ≤ v15.toInt ∧ v15.toInt ≤ 5000 := by rw [e15]; exact hI.1 1 0 0
              refine lv_icmp_gt (tgt := 302) S.1 S.2.1 dX5_seeks_62 (by decide) (fun c16 => ?_) (fun c16 => ?_)
              · have j16 := t_lt c16
                obtain ⟨v17, e17⟩ : ∃ y_9 : Int32, y_9 = x3_6 + 1 := ⟨_, rfl⟩
                have i17 : v17.toInt = x3_6.toInt + 1 := i_addc e17 (by decide) (by omega) (by omega)
                refine lv_iinc (v := v17) (lv' := [(3, .int v17), (0, .ref (L 0 0)), (1, .int k), (2, .int v4), (4, .int x4_13)]) S.1 S.2.1 dX5_seeks_302 hl (k := 3) rfl (by rw [e17]; rfl) (by decide) rfl (fun ls hl => ?_)
                refine lv_goto (tgt := 30) S.1 S.2.1 dX5_seeks_305 (by decide) ?_
                exact ih6 v17 σ_13 _ _ ls (by omega) (by omega) hI hP hH hS (lv_sub hl [1, 2, 3, 0] rfl)
              · have j16 := t_nlt c16
                refine lv_aload_n S.1 S.2.1 dX5_seeks_65 rfl (lv_at hl 0 rfl) ?_
                refine lv_iload_n S.1 S.2.1 dX5_seeks_66 rfl (lv_at hl 3 rfl) ?_
                refine lv_iload S.1 S.2.1 dX5_seeks_67 (lv_at hl 4 rfl) ?_
                refine cW_bpi (cW_V (n := 2) (As := [.int x3_6, .int x4_13]) (rest := []) (k := 0) (i := 0) S K hH (by decide) rfl rfl (k_X5_isRun l D B L A σ_13 τ x3_6 x4_13 (by omega) (by omega)) gX5_seeks_X5_isRun rfl hdV_X5_isRun ⟨Nat.le_of_ble_eq_true rfl, Nat.le_of_ble_eq_true rfl⟩ rfl hl.1 (Nat.le_of_ble_eq_true rfl) dX5_seeks_69) hS (fun v18 H locs q18 hH hS => ?_)
                refine lv_if_eq (tgt := 296) S.1 S.2.1 dX5_seeks_72 (by decide) (fun c19 => ?_) (fun c19 => ?_)
                · have j19 := t_eq c19
                  obtain ⟨v20, e20⟩ : ∃ y_9 : Int32, y_9 = x4_13 + 1 := ⟨_, rfl⟩
                  have i20 : v20.toInt = x4_13.toInt + 1 := i_addc e20 (by decide) (by omega) (by omega)
                  refine lv_iinc (v := v20) (lv' := [(4, .int v20), (0, .ref (L 0 0)), (1, .int k), (2, .int v4), (3, .int x3_6)]) S.1 S.2.1 dX5_seeks_296 hl (k := 4) rfl (by rw [e20]; rfl) (by decide) rfl (fun ls hl => ?_)
                  refine lv_goto (tgt := 53) S.1 S.2.1 dX5_seeks_299 (by decide) ?_
                  exact ih13 v20 σ_13 _ _ ls (by omega) (by omega) hI hP hH hS (lv_sub hl [1, 2, 3, 4, 0] rfl)
                · have j19 := t_neq c19
                  refine lv_aload_n S.1 S.2.1 dX5_seeks_75 rfl (lv_at hl 0 rfl) ?_
                  refine lv_iload_n S.1 S.2.1 dX5_seeks_76 rfl (lv_at hl 3 rfl) ?_
                  refine lv_iload S.1 S.2.1 dX5_seeks_77 (lv_at hl 4 rfl) ?_
                  refine cW_bpi (cW_V (n := 2) (As := [.int x3_6, .int x4_13]) (rest := []) (k := 0) (i := 0) S K hH (by decide) rfl rfl (k_X5_roomLeft l D B L A σ_13 τ x3_6 x4_13 (by omega) hI) gX5_seeks_X5_roomLeft rfl hdV_X5_roomLeft ⟨Nat.le_of_ble_eq_true rfl, Nat.le_of_ble_eq_true rfl⟩ rfl hl.1 (Nat.le_of_ble_eq_true rfl) dX5_seeks_79) hS (fun v21 H locs q21 hH hS => ?_)
                  refine lv_aload_n S.1 S.2.1 dX5_seeks_82 rfl (lv_at hl 0 rfl) ?_
                  refine rM_0_19 S hnX5 K hH (mG wd_320) dX5_seeks_83 ?_
                  refine lv_iload_n S.1 S.2.1 dX5_seeks_86 rfl (lv_at hl 1 rfl) ?_
                  refine lM_19 S K hH (vin (by omega) (by omega)) dX5_seeks_87 ?_
                  refine lv_topi (fun v22 e22 => ?_)
                  refine lv_icmp_ge (tgt := 94) S.1 S.2.1 dX5_seeks_88 (by decide) (fun c23 => ?_) (fun c23 => ?_)
                  · have j23 := t_le c23
                    refine lv_iconst (v := (-1)) S.1 S.2.1 dX5_seeks_94 (by decide) ?_
                    refine lv_istore (lv' := [(5, .int (-1)), (0, .ref (L 0 0)), (1, .int k), (2, .int v4), (3, .int x3_6), (4, .int x4_13)]) S.1 S.2.1 dX5_seeks_95 hl (by decide) rfl (fun ls hl => ?_)
                    refine lv_iconst (v := 0) S.1 S.2.1 dX5_seeks_97 (by decide) ?_
                    refine lv_istore (lv' := [(6, .int 0), (5, .int (-1)), (0, .ref (L 0 0)), (1, .int k), (2, .int v4), (3, .int x3_6), (4, .int x4_13)]) S.1 S.2.1 dX5_seeks_98 hl (by decide) rfl (fun ls hl => ?_)
                    have cut_100_24 : ∀ (n : Nat) (x5_24 : Int32) (x6_24 : Int32) (σ_24 : QS) (H : Heap) (locs : List Loc) (ls : Array Slot), (6 - x6_24.toInt).toNat < n → -1 ≤ x5_24.toInt ∧ x5_24.toInt ≤ 5 → 0 ≤ x6_24.toInt ∧ x6_24.toInt ≤ 6 → InvM σ_24 → Keep [14, 15, 16, 20, 21, 22, 23, 24, 26] σ σ_24 → hW cntM gM D B L σ_24 τ H → va_S A s.heap H locs → lv_has ls 7 [(0, .ref (L 0 0)), (1, .int k), (2, .int v4), (3, .int x3_6), (4, .int x4_13), (5, .int x5_24), (6, .int x6_24)] → W p l e { frames := 3, cells := 0, slots := 0, locals := 78 } s m [.ref (L 0 0), .int k].toArray below meth c H locs 0 0 (MQ below (QcW cntM gM D B L A (pV (fun σ' τ' => InvM σ' ∧ Keep [14, 15, 16, 20, 21, 22, 23, 24, 26] σ σ' ∧ τ' = τ ∧ True))) [.ref (L 0 0), .int k].toArray s 0 0 A) (F0 m 100 ls []) := by
                      intro n
                      induction n with
                      | zero => intro x5_24 x6_24 σ_24 H locs ls hm; exact absurd hm (Nat.not_lt_zero _)
                      | succ n ih24 =>
                        intro x5_24 x6_24 σ_24 H locs ls hm24 h24_0 h24_1 hI hP hH hS hl
                        refine lv_iload S.1 S.2.1 dX5_seeks_100 (lv_at hl 6 rfl) ?_
                        refine lv_aload_n S.1 S.2.1 dX5_seeks_102 rfl (lv_at hl 0 rfl) ?_
                        refine rM_0_9 S hnX5 K hH (mG wd_307) dX5_seeks_103 ?_
                        refine lv_iload_n S.1 S.2.1 dX5_seeks_106 rfl (lv_at hl 3 rfl) ?_
                        refine lM_9 S K hH (vin (by omega) (by omega)) dX5_seeks_107 ?_
                        refine lv_topi (fun v25 e25 => ?_)
                        have b25 : 0 ≤ v25.toInt ∧ v25.toInt ≤ 6 := by rw [e25]; exact hI.1 9 0 x3_6.toNatClampNeg
                        refine lv_iconst (v := 1) S.1 S.2.1 dX5_seeks_108 (by decide) ?_
                        refine lv_isub S.1 S.2.1 dX5_seeks_109 ?_
                        refine lv_topi (fun v26 e26 => ?_)
                        have i26 : v26.toInt = v25.toInt - (1 : Int32).toInt := i_sub e26 (by omega) (by omega)
                        refine lv_icmp_ge (tgt := 160) S.1 S.2.1 dX5_seeks_110 (by decide) (fun c27 => ?_) (fun c27 => ?_)
                        · have j27 := t_le c27
                          refine lv_iload S.1 S.2.1 dX5_seeks_160 (lv_at hl 5 rfl) ?_
                          refine lv_iconst (v := (-1)) S.1 S.2.1 dX5_seeks_162 (by decide) ?_
                          refine lv_icmp_ne (tgt := 169) S.1 S.2.1 dX5_seeks_163 (by decide) (fun c28 => ?_) (fun c28 => ?_)
                          · have j28 := t_neq c28
                            refine lv_aload_n S.1 S.2.1 dX5_seeks_169 rfl (lv_at hl 0 rfl) ?_
                            refine rM_0_9 S hnX5 K hH (mG wd_307) dX5_seeks_170 ?_
                            refine lv_iload_n S.1 S.2.1 dX5_seeks_173 rfl (lv_at hl 3 rfl) ?_
                            refine lM_9 S K hH (vin (by omega) (by omega)) dX5_seeks_174 ?_
                            refine lv_topi (fun v29 e29 => ?_)
                            have b29 : 0 ≤ v29.toInt ∧ v29.toInt ≤ 6 := by rw [e29]; exact hI.1 9 0 x3_6.toNatClampNeg
                            have k29 : v29.toInt = v25.toInt := by rw [e29]; rw [← e25]
                            refine lv_iconst (v := 1) S.1 S.2.1 dX5_seeks_175 (by decide) ?_
                            refine lv_isub S.1 S.2.1 dX5_seeks_176 ?_
                            refine lv_topi (fun v30 e30 => ?_)
                            have i30 : v30.toInt = v29.toInt - (1 : Int32).toInt := i_sub e30 (by omega) (by omega)
                            refine lv_istore (lv' := [(6, .int v30), (0, .ref (L 0 0)), (1, .int k), (2, .int v4), (3, .int x3_6), (4, .int x4_13), (5, .int x5_24)]) S.1 S.2.1 dX5_seeks_177 hl (by decide) rfl (fun ls hl => ?_)
                            have cut_179_31 : ∀ (n : Nat) (x6_31 : Int32) (σ_31 : QS) (H : Heap) (locs : List Loc) (ls : Array Slot), (x6_31.toInt + 1).toNat < n → -1 ≤ x6_31.toInt ∧ x6_31.toInt ≤ 5 → InvM σ_31 → Keep [14, 15, 16, 20, 21, 22, 23, 24, 26] σ σ_31 → hW cntM gM D B L σ_31 τ H → va_S A s.heap H locs → lv_has ls 7 [(0, .ref (L 0 0)), (1, .int k), (2, .int v4), (3, .int x3_6), (4, .int x4_13), (5, .int x5_24), (6, .int x6_31)] → W p l e { frames := 3, cells := 0, slots := 0, locals := 78 } s m [.ref (L 0 0), .int k].toArray below meth c H locs 0 0 (MQ below (QcW cntM gM D B L A (pV (fun σ' τ' => InvM σ' ∧ Keep [14, 15, 16, 20, 21, 22, 23, 24, 26] σ σ' ∧ τ' = τ ∧ True))) [.ref (L 0 0), .int k].toArray s 0 0 A) (F0 m 179 ls []) := by
                              intro n
                              induction n with
                              | zero => intro x6_31 σ_31 H locs ls hm; exact absurd hm (Nat.not_lt_zero _)
                              | succ n ih31 =>
                                intro x6_31 σ_31 H locs ls hm31 h31_0 hI hP hH hS hl
                                refine lv_iload S.1 S.2.1 dX5_seeks_179 (lv_at hl 6 rfl) ?_
                                refine lv_iload S.1 S.2.1 dX5_seeks_181 (lv_at hl 5 rfl) ?_
                                refine lv_icmp_le (tgt := 296) S.1 S.2.1 dX5_seeks_183 (by decide) (fun c32 => ?_) (fun c32 => ?_)
                                · have j32 := t_le c32
                                  obtain ⟨v33, e33⟩ : ∃ y_9 : Int32, y_9 = x4_13 + 1 := ⟨_, rfl⟩
                                  have i33 : v33.toInt = x4_13.toInt + 1 := i_addc e33 (by decide) (by omega) (by omega)
                                  refine lv_iinc (v := v33) (lv' := [(4, .int v33), (0, .ref (L 0 0)), (1, .int k), (2, .int v4), (3, .int x3_6), (5, .int x5_24), (6, .int x6_31)]) S.1 S.2.1 dX5_seeks_296 hl (k := 4) rfl (by rw [e33]; rfl) (by decide) rfl (fun ls hl => ?_)
                                  refine lv_goto (tgt := 53) S.1 S.2.1 dX5_seeks_299 (by decide) ?_
                                  exact ih13 v33 σ_31 _ _ ls (by omega) (by omega) hI hP hH hS (lv_sub hl [1, 2, 3, 4, 0] rfl)
                                · have j32 := t_nle c32
                                  refine lv_aload_n S.1 S.2.1 dX5_seeks_186 rfl (lv_at hl 0 rfl) ?_
                                  refine lv_aload_n S.1 S.2.1 dX5_seeks_187 rfl (lv_at hl 0 rfl) ?_
                                  refine rM_0_11 S hnX5 K hH (mG wd_309) dX5_seeks_188 ?_
                                  refine lv_bipush (v := 6) S.1 S.2.1 dX5_seeks_191 (by decide) ?_
                                  refine lv_iload_n S.1 S.2.1 dX5_seeks_193 rfl (lv_at hl 3 rfl) ?_
                                  refine lv_imul S.1 S.2.1 dX5_seeks_194 ?_
                                  refine lv_topi (fun v34 e34 => ?_)
                                  have i34 : v34.toInt = 6 * x3_6.toInt := i_mulcl e34 (by decide) (by omega) (by omega)
                                  refine lv_iload S.1 S.2.1 dX5_seeks_195 (lv_at hl 6 rfl) ?_
                                  refine lv_iadd S.1 S.2.1 dX5_seeks_197 ?_
                                  refine lv_topi (fun v35 e35 => ?_)
                                  have i35 : v35.toInt = v34.toInt + x6_31.toInt := i_add e35 (by omega) (by omega)
                                  refine lM_11 S K hH (vin (by omega) (by omega)) dX5_seeks_198 ?_
                                  refine lv_topi (fun v36 e36 => ?_)
                                  have b36 : 0 ≤ v36.toInt ∧ v36.toInt ≤ 11 := by rw [e36]; exact hI.1 11 0 v35.toNatClampNeg
                                  refine lv_aload_n S.1 S.2.1 dX5_seeks_199 rfl (lv_at hl 0 rfl) ?_
                                  refine lv_iload_n S.1 S.2.1 dX5_seeks_200 rfl (lv_at hl 3 rfl) ?_
                                  refine lv_iload S.1 S.2.1 dX5_seeks_201 (lv_at hl 4 rfl) ?_
                                  refine lv_iload S.1 S.2.1 dX5_seeks_203 (lv_at hl 6 rfl) ?_
                                  refine cW_bpi (cW_V (n := 3) (As := [.int x3_6, .int x4_13, .int x6_31]) (rest := [.int v36, .ref (L 0 0)]) (k := 0) (i := 0) S K hH (by decide) rfl rfl (k_X5_hourOf l D B L A σ_31 τ x3_6 x4_13 x6_31 (by omega) (by omega) (by omega) hI) gX5_seeks_X5_hourOf rfl hdV_X5_hourOf ⟨Nat.le_of_ble_eq_true rfl, Nat.le_of_ble_eq_true rfl⟩ rfl hl.1 (Nat.le_of_ble_eq_true rfl) dX5_seeks_205) hS (fun v37 H locs q37 hH hS => ?_)
                                  refine lv_aload_n S.1 S.2.1 dX5_seeks_208 rfl (lv_at hl 0 rfl) ?_
                                  refine rM_0_18 S hnX5 K hH (mG wd_319) dX5_seeks_209 ?_
                                  refine lv_iload_n S.1 S.2.1 dX5_seeks_212 rfl (lv_at hl 1 rfl) ?_
                                  refine lM_18 S K hH (vin (by omega) (by omega)) dX5_seeks_213 ?_
                                  refine lv_topi (fun v38 e38 => ?_)
                                  have b38 : 0 ≤ v38.toInt ∧ v38.toInt ≤ 11 := by rw [e38]; exact hI.1 18 0 k.toNatClampNeg
                                  refine cW_bi (cW_V (n := 3) (As := [.int v36, .int v37, .int v38]) (rest := []) (k := 0) (i := 0) S K hH (by decide) rfl rfl (k_X5_soonOf l D B L A σ_31 τ v36 v37 v38 (by omega) (by omega) (by omega) hI) gX5_seeks_X5_soonOf rfl hdV_X5_soonOf ⟨Nat.le_of_ble_eq_true rfl, Nat.le_of_ble_eq_true rfl⟩ rfl hl.1 (Nat.le_of_ble_eq_true rfl) dX5_seeks_214) hS (fun v39 σ39 τ39 H locs q39 hH hS => ?_)
                                  obtain ⟨hI, hP39, hτ39, q39⟩ := q39
                                  rw [hτ39] at hH
                                  have hP := Keep_t hP hP39 (by decide)
                                  refine lv_iload_n S.1 S.2.1 dX5_seeks_217 rfl (lv_at hl 2 rfl) ?_
                                  refine lv_icmp_eq (tgt := 224) S.1 S.2.1 dX5_seeks_218 (by decide) (fun c40 => ?_) (fun c40 => ?_)
                                  · have j40 := t_eq c40
                                    refine lv_aload_n S.1 S.2.1 dX5_seeks_224 rfl (lv_at hl 0 rfl) ?_
                                    refine rM_0_20 S hnX5 K hH (mG wd_321) dX5_seeks_225 ?_
                                    refine lv_iload_n S.1 S.2.1 dX5_seeks_228 rfl (lv_at hl 1 rfl) ?_
                                    refine lv_iconst (v := (-1)) S.1 S.2.1 dX5_seeks_229 (by decide) ?_
                                    refine sM_20 S K hH hS (vin (by omega) (by omega)) dX5_seeks_230 (fun H locs hH hS => ?_)
                                    obtain ⟨σ41, eσ41⟩ : ∃ z_9 : QS, z_9 = rs σ39 20 0 (upd (σ39 20 0) k.toNatClampNeg (-1)) := ⟨_, rfl⟩
                                    rw [← eσ41] at hH
                                    have hI := InvM_a eσ41 hI (by decide) (show ((-1) : Int) ≤ (-1 : Int32).toInt ∧ (-1 : Int32).toInt ≤ 11 by omega)
                                    have hP := Keep_w eσ41 hP (by decide)
                                    refine lv_aload_n S.1 S.2.1 dX5_seeks_231 rfl (lv_at hl 0 rfl) ?_
                                    refine rM_0_21 S hnX5 K hH (mG wd_322) dX5_seeks_232 ?_
                                    refine lv_iload_n S.1 S.2.1 dX5_seeks_235 rfl (lv_at hl 1 rfl) ?_
                                    refine lv_iload_n S.1 S.2.1 dX5_seeks_236 rfl (lv_at hl 3 rfl) ?_
                                    refine sM_21 S K hH hS (vin (by omega) (by omega)) dX5_seeks_237 (fun H locs hH hS => ?_)
                                    obtain ⟨σ42, eσ42⟩ : ∃ z_9 : QS, z_9 = rs σ41 21 0 (upd (σ41 21 0) k.toNatClampNeg x3_6) := ⟨_, rfl⟩
                                    rw [← eσ42] at hH
                                    have hI := InvM_a eσ42 hI (by decide) (show ((-1) : Int) ≤ x3_6.toInt ∧ x3_6.toInt ≤ 11 by omega)
                                    have hP := Keep_w eσ42 hP (by decide)
                                    refine lv_aload_n S.1 S.2.1 dX5_seeks_238 rfl (lv_at hl 0 rfl) ?_
                                    refine rM_0_22 S hnX5 K hH (mG wd_323) dX5_seeks_239 ?_
                                    refine lv_iload_n S.1 S.2.1 dX5_seeks_242 rfl (lv_at hl 1 rfl) ?_
                                    refine lv_iload S.1 S.2.1 dX5_seeks_243 (lv_at hl 4 rfl) ?_
                                    refine sM_22 S K hH hS (vin (by omega) (by omega)) dX5_seeks_245 (fun H locs hH hS => ?_)
                                    obtain ⟨σ43, eσ43⟩ : ∃ z_9 : QS, z_9 = rs σ42 22 0 (upd (σ42 22 0) k.toNatClampNeg x4_13) := ⟨_, rfl⟩
                                    rw [← eσ43] at hH
                                    have hI := InvM_a eσ43 hI (by decide) (any32 _)
                                    have hP := Keep_w eσ43 hP (by decide)
                                    refine lv_aload_n S.1 S.2.1 dX5_seeks_246 rfl (lv_at hl 0 rfl) ?_
                                    refine rM_0_23 S hnX5 K hH (mG wd_324) dX5_seeks_247 ?_
                                    refine lv_iload_n S.1 S.2.1 dX5_seeks_250 rfl (lv_at hl 1 rfl) ?_
                                    refine lv_aload_n S.1 S.2.1 dX5_seeks_251 rfl (lv_at hl 0 rfl) ?_
                                    refine lv_iload_n S.1 S.2.1 dX5_seeks_252 rfl (lv_at hl 3 rfl) ?_
                                    refine lv_iload S.1 S.2.1 dX5_seeks_253 (lv_at hl 4 rfl) ?_
                                    refine lv_iload S.1 S.2.1 dX5_seeks_255 (lv_at hl 6 rfl) ?_
                                    refine cW_bpi (cW_V (n := 3) (As := [.int x3_6, .int x4_13, .int x6_31]) (rest := [.int k, .ref (L 23 0)]) (k := 0) (i := 0) S K hH (by decide) rfl rfl (k_X5_hourOf l D B L A σ43 τ x3_6 x4_13 x6_31 (by omega) (by omega) (by omega) hI) gX5_seeks_X5_hourOf rfl hdV_X5_hourOf ⟨Nat.le_of_ble_eq_true rfl, Nat.le_of_ble_eq_true rfl⟩ rfl hl.1 (Nat.le_of_ble_eq_true rfl) dX5_seeks_257) hS (fun v44 H locs q44 hH hS => ?_)
                                    refine sM_23 S K hH hS (vin (by omega) (by omega)) dX5_seeks_260 (fun H locs hH hS => ?_)
                                    obtain ⟨σ45, eσ45⟩ : ∃ z_9 : QS, z_9 = rs σ43 23 0 (upd (σ43 23 0) k.toNatClampNeg v44) := ⟨_, rfl⟩
                                    rw [← eσ45] at hH
                                    have hI := InvM_a eσ45 hI (by decide) (any32 _)
                                    have hP := Keep_w eσ45 hP (by decide)
                                    refine lv_aload_n S.1 S.2.1 dX5_seeks_261 rfl (lv_at hl 0 rfl) ?_
                                    refine rM_0_24 S hnX5 K hH (mG wd_325) dX5_seeks_262 ?_
                                    refine lv_iload_n S.1 S.2.1 dX5_seeks_265 rfl (lv_at hl 1 rfl) ?_
                                    refine lv_aload_n S.1 S.2.1 dX5_seeks_266 rfl (lv_at hl 0 rfl) ?_
                                    refine rM_0_11 S hnX5 K hH (mG wd_309) dX5_seeks_267 ?_
                                    refine lv_bipush (v := 6) S.1 S.2.1 dX5_seeks_270 (by decide) ?_
                                    refine lv_iload_n S.1 S.2.1 dX5_seeks_272 rfl (lv_at hl 3 rfl) ?_
                                    refine lv_imul S.1 S.2.1 dX5_seeks_273 ?_
                                    refine lv_topi (fun v46 e46 => ?_)
                                    have i46 : v46.toInt = 6 * x3_6.toInt := i_mulcl e46 (by decide) (by omega) (by omega)
                                    refine lv_iload S.1 S.2.1 dX5_seeks_274 (lv_at hl 6 rfl) ?_
                                    refine lv_iadd S.1 S.2.1 dX5_seeks_276 ?_
                                    refine lv_topi (fun v47 e47 => ?_)
                                    have i47 : v47.toInt = v46.toInt + x6_31.toInt := i_add e47 (by omega) (by omega)
                                    refine lM_11 S K hH (vin (by omega) (by omega)) dX5_seeks_277 ?_
                                    refine lv_topi (fun v48 e48 => ?_)
                                    have b48 : 0 ≤ v48.toInt ∧ v48.toInt ≤ 11 := by rw [e48]; exact hI.1 11 0 v47.toNatClampNeg
                                    refine sM_24 S K hH hS (vin (by omega) (by omega)) dX5_seeks_278 (fun H locs hH hS => ?_)
                                    obtain ⟨σ49, eσ49⟩ : ∃ z_9 : QS, z_9 = rs σ45 24 0 (upd (σ45 24 0) k.toNatClampNeg v48) := ⟨_, rfl⟩
                                    rw [← eσ49] at hH
                                    have hI := InvM_a eσ49 hI (by decide) (show (0 : Int) ≤ v48.toInt ∧ v48.toInt ≤ 11 by omega)
                                    have hP := Keep_w eσ49 hP (by decide)
                                    refine lv_aload_n S.1 S.2.1 dX5_seeks_279 rfl (lv_at hl 0 rfl) ?_
                                    refine rM_0_26 S hnX5 K hH (mG wd_327) dX5_seeks_280 ?_
                                    refine lv_iload_n S.1 S.2.1 dX5_seeks_283 rfl (lv_at hl 1 rfl) ?_
                                    refine lv_dup2_11 S.1 S.2.1 dX5_seeks_284 rfl rfl ?_
                                    refine lM_26 S K hH (vin (by omega) (by omega)) dX5_seeks_285 ?_
                                    refine lv_topi (fun v50 e50 => ?_)
                                    refine lv_iconst (v := 1) S.1 S.2.1 dX5_seeks_286 (by decide) ?_
                                    refine lv_iadd S.1 S.2.1 dX5_seeks_287 ?_
                                    refine lv_topi (fun v51 e51 => ?_)
                                    refine sM_26 S K hH hS (vin (by omega) (by omega)) dX5_seeks_288 (fun H locs hH hS => ?_)
                                    obtain ⟨σ52, eσ52⟩ : ∃ z_9 : QS, z_9 = rs σ49 26 0 (upd (σ49 26 0) k.toNatClampNeg v51) := ⟨_, rfl⟩
                                    rw [← eσ52] at hH
                                    have hI := InvM_a eσ52 hI (by decide) (any32 _)
                                    have hP := Keep_w eσ52 hP (by decide)
                                    refine cW_vret S hr hk hH hS ?_ dX5_seeks_289
                                    exact ⟨rfl, hI, hP, rfl, by trivial⟩
                                  · have j40 := t_neq c40
                                    refine lv_goto (tgt := 290) S.1 S.2.1 dX5_seeks_221 (by decide) ?_
                                    obtain ⟨v53, e53⟩ : ∃ y_9 : Int32, y_9 = x6_31 + (-1) := ⟨_, rfl⟩
                                    have i53 : v53.toInt = x6_31.toInt + (-1) := i_addc e53 (by decide) (by omega) (by omega)
                                    refine lv_iinc (v := v53) (lv' := [(6, .int v53), (0, .ref (L 0 0)), (1, .int k), (2, .int v4), (3, .int x3_6), (4, .int x4_13), (5, .int x5_24)]) S.1 S.2.1 dX5_seeks_290 hl (k := 6) rfl (by rw [e53]; rfl) (by decide) rfl (fun ls hl => ?_)
                                    refine lv_goto (tgt := 179) S.1 S.2.1 dX5_seeks_293 (by decide) ?_
                                    exact ih31 v53 σ39 _ _ ls (by omega) (by omega) hI hP hH hS (lv_sub hl [1, 2, 3, 4, 5, 6, 0] rfl)
                            exact cut_179_31 _ v30 σ_24 _ _ ls (Nat.lt_succ_self _) (by omega) hI hP hH hS (lv_sub hl [1, 2, 3, 4, 5, 6, 0] rfl)
                          · have j28 := t_eq c28
                            refine lv_goto (tgt := 296) S.1 S.2.1 dX5_seeks_166 (by decide) ?_
                            obtain ⟨v54, e54⟩ : ∃ y_9 : Int32, y_9 = x4_13 + 1 := ⟨_, rfl⟩
                            have i54 : v54.toInt = x4_13.toInt + 1 := i_addc e54 (by decide) (by omega) (by omega)
                            refine lv_iinc (v := v54) (lv' := [(4, .int v54), (0, .ref (L 0 0)), (1, .int k), (2, .int v4), (3, .int x3_6), (5, .int x5_24), (6, .int x6_24)]) S.1 S.2.1 dX5_seeks_296 hl (k := 4) rfl (by rw [e54]; rfl) (by decide) rfl (fun ls hl => ?_)
                            refine lv_goto (tgt := 53) S.1 S.2.1 dX5_seeks_299 (by decide) ?_
                            exact ih13 v54 σ_24 _ _ ls (by omega) (by omega) hI hP hH hS (lv_sub hl [1, 2, 3, 4, 0] rfl)
                        · have j27 := t_nle c27
                          refine lv_aload_n S.1 S.2.1 dX5_seeks_113 rfl (lv_at hl 0 rfl) ?_
                          refine rM_0_11 S hnX5 K hH (mG wd_309) dX5_seeks_114 ?_
                          refine lv_bipush (v := 6) S.1 S.2.1 dX5_seeks_117 (by decide) ?_
                          refine lv_iload_n S.1 S.2.1 dX5_seeks_119 rfl (lv_at hl 3 rfl) ?_
                          refine lv_imul S.1 S.2.1 dX5_seeks_120 ?_
                          refine lv_topi (fun v55 e55 => ?_)
                          have i55 : v55.toInt = 6 * x3_6.toInt := i_mulcl e55 (by decide) (by omega) (by omega)
                          refine lv_iload S.1 S.2.1 dX5_seeks_121 (lv_at hl 6 rfl) ?_
                          refine lv_iadd S.1 S.2.1 dX5_seeks_123 ?_
                          refine lv_topi (fun v56 e56 => ?_)
                          have i56 : v56.toInt = v55.toInt + x6_24.toInt := i_add e56 (by omega) (by omega)
                          refine lM_11 S K hH (vin (by omega) (by omega)) dX5_seeks_124 ?_
                          refine lv_topi (fun v57 e57 => ?_)
                          have b57 : 0 ≤ v57.toInt ∧ v57.toInt ≤ 11 := by rw [e57]; exact hI.1 11 0 v56.toNatClampNeg
                          refine lv_aload_n S.1 S.2.1 dX5_seeks_125 rfl (lv_at hl 0 rfl) ?_
                          refine rM_0_20 S hnX5 K hH (mG wd_321) dX5_seeks_126 ?_
                          refine lv_iload_n S.1 S.2.1 dX5_seeks_129 rfl (lv_at hl 1 rfl) ?_
                          refine lM_20 S K hH (vin (by omega) (by omega)) dX5_seeks_130 ?_
                          refine lv_topi (fun v58 e58 => ?_)
                          have b58 : (-1) ≤ v58.toInt ∧ v58.toInt ≤ 11 := by rw [e58]; exact hI.1 20 0 k.toNatClampNeg
                          refine lv_icmp_ne (tgt := 154) S.1 S.2.1 dX5_seeks_131 (by decide) (fun c59 => ?_) (fun c59 => ?_)
                          · have j59 := t_neq c59
                            obtain ⟨v60, e60⟩ : ∃ y_9 : Int32, y_9 = x6_24 + 1 := ⟨_, rfl⟩
                            have i60 : v60.toInt = x6_24.toInt + 1 := i_addc e60 (by decide) (by omega) (by omega)
                            refine lv_iinc (v := v60) (lv' := [(6, .int v60), (0, .ref (L 0 0)), (1, .int k), (2, .int v4), (3, .int x3_6), (4, .int x4_13), (5, .int x5_24)]) S.1 S.2.1 dX5_seeks_154 hl (k := 6) rfl (by rw [e60]; rfl) (by decide) rfl (fun ls hl => ?_)
                            refine lv_goto (tgt := 100) S.1 S.2.1 dX5_seeks_157 (by decide) ?_
                            exact ih24 x5_24 v60 σ_24 _ _ ls (by omega) (by omega) (by omega) hI hP hH hS (lv_sub hl [1, 2, 3, 4, 5, 6, 0] rfl)
                          · have j59 := t_eq c59
                            refine lv_aload_n S.1 S.2.1 dX5_seeks_134 rfl (lv_at hl 0 rfl) ?_
                            refine lv_iload_n S.1 S.2.1 dX5_seeks_135 rfl (lv_at hl 3 rfl) ?_
                            refine lv_iload S.1 S.2.1 dX5_seeks_136 (lv_at hl 4 rfl) ?_
                            refine lv_iload S.1 S.2.1 dX5_seeks_138 (lv_at hl 6 rfl) ?_
                            refine cW_bpi (cW_V (n := 3) (As := [.int x3_6, .int x4_13, .int x6_24]) (rest := []) (k := 0) (i := 0) S K hH (by decide) rfl rfl (k_X5_hourOf l D B L A σ_24 τ x3_6 x4_13 x6_24 (by omega) (by omega) (by omega) hI) gX5_seeks_X5_hourOf rfl hdV_X5_hourOf ⟨Nat.le_of_ble_eq_true rfl, Nat.le_of_ble_eq_true rfl⟩ rfl hl.1 (Nat.le_of_ble_eq_true rfl) dX5_seeks_140) hS (fun v61 H locs q61 hH hS => ?_)
                            refine lv_aload_n S.1 S.2.1 dX5_seeks_143 rfl (lv_at hl 0 rfl) ?_
                            refine rM_0_1 S hnX5 K hH (mG wd_352) dX5_seeks_144 ?_
                            refine lv_topi (fun v62 e62 => ?_)
                            have b62 : 0 ≤ v62.toInt ∧ v62.toInt ≤ 5000 := by rw [e62]; exact hI.1 1 0 0
                            refine lv_icmp_ne (tgt := 154) S.1 S.2.1 dX5_seeks_147 (by decide) (fun c63 => ?_) (fun c63 => ?_)
                            · have j63 := t_neq c63
                              obtain ⟨v64, e64⟩ : ∃ y_9 : Int32, y_9 = x6_24 + 1 := ⟨_, rfl⟩
                              have i64 : v64.toInt = x6_24.toInt + 1 := i_addc e64 (by decide) (by omega) (by omega)
                              refine lv_iinc (v := v64) (lv' := [(6, .int v64), (0, .ref (L 0 0)), (1, .int k), (2, .int v4), (3, .int x3_6), (4, .int x4_13), (5, .int x5_24)]) S.1 S.2.1 dX5_seeks_154 hl (k := 6) rfl (by rw [e64]; rfl) (by decide) rfl (fun ls hl => ?_)
                              refine lv_goto (tgt := 100) S.1 S.2.1 dX5_seeks_157 (by decide) ?_
                              exact ih24 x5_24 v64 σ_24 _ _ ls (by omega) (by omega) (by omega) hI hP hH hS (lv_sub hl [1, 2, 3, 4, 5, 6, 0] rfl)
                            · have j63 := t_eq c63
                              refine lv_iload S.1 S.2.1 dX5_seeks_150 (lv_at hl 6 rfl) ?_
                              refine lv_istore (lv' := [(5, .int x6_24), (0, .ref (L 0 0)), (1, .int k), (2, .int v4), (3, .int x3_6), (4, .int x4_13), (6, .int x6_24)]) S.1 S.2.1 dX5_seeks_152 hl (by decide) rfl (fun ls hl => ?_)
                              obtain ⟨v65, e65⟩ : ∃ y_9 : Int32, y_9 = x6_24 + 1 := ⟨_, rfl⟩
                              have i65 : v65.toInt = x6_24.toInt + 1 := i_addc e65 (by decide) (by omega) (by omega)
                              refine lv_iinc (v := v65) (lv' := [(6, .int v65), (5, .int x6_24), (0, .ref (L 0 0)), (1, .int k), (2, .int v4), (3, .int x3_6), (4, .int x4_13)]) S.1 S.2.1 dX5_seeks_154 hl (k := 6) rfl (by rw [e65]; rfl) (by decide) rfl (fun ls hl => ?_)
                              refine lv_goto (tgt := 100) S.1 S.2.1 dX5_seeks_157 (by decide) ?_
                              exact ih24 x6_24 v65 σ_24 _ _ ls (by omega) (by omega) (by omega) hI hP hH hS (lv_sub hl [2, 3, 4, 5, 6, 1, 0] rfl)
                    exact cut_100_24 _ (-1) 0 σ_13 _ _ ls (Nat.lt_succ_self _) (by omega) (by omega) hI hP hH hS (lv_sub hl [2, 3, 4, 5, 6, 1, 0] rfl)
                  · have j23 := t_nle c23
                    refine lv_goto (tgt := 296) S.1 S.2.1 dX5_seeks_91 (by decide) ?_
                    obtain ⟨v66, e66⟩ : ∃ y_9 : Int32, y_9 = x4_13 + 1 := ⟨_, rfl⟩
                    have i66 : v66.toInt = x4_13.toInt + 1 := i_addc e66 (by decide) (by omega) (by omega)
                    refine lv_iinc (v := v66) (lv' := [(4, .int v66), (0, .ref (L 0 0)), (1, .int k), (2, .int v4), (3, .int x3_6)]) S.1 S.2.1 dX5_seeks_296 hl (k := 4) rfl (by rw [e66]; rfl) (by decide) rfl (fun ls hl => ?_)
                    refine lv_goto (tgt := 53) S.1 S.2.1 dX5_seeks_299 (by decide) ?_
                    exact ih13 v66 σ_13 _ _ ls (by omega) (by omega) hI hP hH hS (lv_sub hl [1, 2, 3, 4, 0] rfl)
          exact cut_53_13 _ v12 σ_6 _ _ ls (Nat.lt_succ_self _) (by omega) hI hP hH hS (lv_sub hl [1, 2, 3, 4, 0] rfl)
    exact cut_30_6 _ 0 σ4 _ _ ls (Nat.lt_succ_self _) (by omega) hI hP hH hS (lv_sub hl [2, 3, 1, 0] rfl)
  · have j5 := t_eq c5
    refine cW_vret S hr hk hH hS ?_ dX5_seeks_27
    exact ⟨rfl, hI, hP, rfl, by trivial⟩
set_option maxHeartbeats 4000000 in
set_option maxRecDepth 100000 in
theorem k_X5_goesBy (l : Launch) (D : va_G) (B : Nat → ClassId) (L : QL) (A : Nat → Prop) (σ : QS) (τ : Int64)   (hI : InvM σ) (hp1 : (σ 1 0 0).toInt ≤ 4999) : cW cntM gM l D B L A yX5_goesBy wsX5_goesBy 4 104 [.ref (L 0 0)] σ τ (pV (fun σ' τ' => InvM σ' ∧ Keep [1, 10, 25, 14, 15, 16, 20, 21, 22, 23, 24, 26] σ σ' ∧ τ' = τ ∧ (σ' 1 0 0).toInt = (σ 1 0 0).toInt + 1)) := by
  refine cW_of (cc := cX5_goesBy) (nL := 2) (ret := none) (by decide) rfl (Nat.le_of_ble_eq_true rfl) ?_
  intro p e s m below meth c S hr hk K hH hS ls hl
  have hnX5 : ∀ w ∈ wsX50, w ∈ wsX5_goesBy := fun w h => mG (tX5 w h)
  have lm1 : ((-1) : Int32).toInt = -1 := by decide
  have l0 : (0 : Int32).toInt = 0 := by decide
  have l1 : (1 : Int32).toInt = 1 := by decide
  have hP : Keep [1, 10, 25, 14, 15, 16, 20, 21, 22, 23, 24, 26] σ σ := Keep_r
  have hl : lv_has ls 2 [(0, .ref (L 0 0))] := hl
  refine lv_aload_n S.1 S.2.1 dX5_goesBy_0 rfl (lv_at hl 0 rfl) ?_
  refine lv_dup S.1 S.2.1 dX5_goesBy_1 rfl ?_
  refine rM_0_1 S hnX5 K hH (mG wd_352) dX5_goesBy_2 ?_
  refine lv_topi (fun v1 e1 => ?_)
  have b1 : 0 ≤ v1.toInt ∧ v1.toInt ≤ 5000 := by rw [e1]; exact hI.1 1 0 0
  have fv1 : v1.toInt = (σ 1 0 0).toInt := by rw [e1]
  refine lv_iconst (v := 1) S.1 S.2.1 dX5_goesBy_5 (by decide) ?_
  refine lv_iadd S.1 S.2.1 dX5_goesBy_6 ?_
  refine lv_topi (fun v2 e2 => ?_)
  have i2 : v2.toInt = v1.toInt + (1 : Int32).toInt := i_add e2 (by omega) (by omega)
  refine pM_0_1 S hnX5 K hH hS (mG wd_352) dX5_goesBy_7 (fun H locs hH hS => ?_)
  obtain ⟨σ3, eσ3⟩ : ∃ z_9 : QS, z_9 = rs σ 1 0 (fun _ => v2) := ⟨_, rfl⟩
  rw [← eσ3] at hH
  have hI := InvM_f eσ3 hI (by decide) (show (0 : Int) ≤ v2.toInt ∧ v2.toInt ≤ 5000 by omega)
  have hP := Keep_w eσ3 hP (by decide)
  refine lv_iconst (v := 0) S.1 S.2.1 dX5_goesBy_10 (by decide) ?_
  refine lv_istore_n (lv' := [(1, .int 0), (0, .ref (L 0 0))]) S.1 S.2.1 dX5_goesBy_11 rfl hl (by decide) rfl (fun ls hl => ?_)
  have cut_12_4 : ∀ (n : Nat) (x1_4 : Int32) (σ_4 : QS) (H : Heap) (locs : List Loc) (ls : Array Slot), (60 - x1_4.toInt).toNat < n → 0 ≤ x1_4.toInt ∧ x1_4.toInt ≤ 60 → ((σ_4 1 0 0).toInt = (σ 1 0 0).toInt + 1) → InvM σ_4 → Keep [1, 10, 25, 14, 15, 16, 20, 21, 22, 23, 24, 26] σ σ_4 → hW cntM gM D B L σ_4 τ H → va_S A s.heap H locs → lv_has ls 2 [(0, .ref (L 0 0)), (1, .int x1_4)] → W p l e { frames := 4, cells := 0, slots := 0, locals := 104 } s m [.ref (L 0 0)].toArray below meth c H locs 0 0 (MQ below (QcW cntM gM D B L A (pV (fun σ' τ' => InvM σ' ∧ Keep [1, 10, 25, 14, 15, 16, 20, 21, 22, 23, 24, 26] σ σ' ∧ τ' = τ ∧ (σ' 1 0 0).toInt = (σ 1 0 0).toInt + 1))) [.ref (L 0 0)].toArray s 0 0 A) (F0 m 12 ls []) := by
    intro n
    induction n with
    | zero => intro x1_4 σ_4 H locs ls hm; exact absurd hm (Nat.not_lt_zero _)
    | succ n ih4 =>
      intro x1_4 σ_4 H locs ls hm4 h4_0 hnow hI hP hH hS hl
      refine lv_iload_n S.1 S.2.1 dX5_goesBy_12 rfl (lv_at hl 1 rfl) ?_
      refine lv_aload_n S.1 S.2.1 dX5_goesBy_13 rfl (lv_at hl 0 rfl) ?_
      refine rM_0_4 S hnX5 K hH (mG wd_336) dX5_goesBy_14 ?_
      refine lv_topi (fun v5 e5 => ?_)
      have b5 : 0 ≤ v5.toInt ∧ v5.toInt ≤ 60 := by rw [e5]; exact hI.1 4 0 0
      refine lv_icmp_ge (tgt := 142) S.1 S.2.1 dX5_goesBy_17 (by decide) (fun c6 => ?_) (fun c6 => ?_)
      · have j6 := t_le c6
        refine lv_iconst (v := 0) S.1 S.2.1 dX5_goesBy_142 (by decide) ?_
        refine lv_istore_n (lv' := [(1, .int 0), (0, .ref (L 0 0))]) S.1 S.2.1 dX5_goesBy_143 rfl hl (by decide) rfl (fun ls hl => ?_)
        have cut_144_7 : ∀ (n : Nat) (x1_7 : Int32) (σ_7 : QS) (H : Heap) (locs : List Loc) (ls : Array Slot), (60 - x1_7.toInt).toNat < n → 0 ≤ x1_7.toInt ∧ x1_7.toInt ≤ 60 → ((σ_7 1 0 0).toInt = (σ 1 0 0).toInt + 1) → InvM σ_7 → Keep [1, 10, 25, 14, 15, 16, 20, 21, 22, 23, 24, 26] σ σ_7 → hW cntM gM D B L σ_7 τ H → va_S A s.heap H locs → lv_has ls 2 [(0, .ref (L 0 0)), (1, .int x1_7)] → W p l e { frames := 4, cells := 0, slots := 0, locals := 104 } s m [.ref (L 0 0)].toArray below meth c H locs 0 0 (MQ below (QcW cntM gM D B L A (pV (fun σ' τ' => InvM σ' ∧ Keep [1, 10, 25, 14, 15, 16, 20, 21, 22, 23, 24, 26] σ σ' ∧ τ' = τ ∧ (σ' 1 0 0).toInt = (σ 1 0 0).toInt + 1))) [.ref (L 0 0)].toArray s 0 0 A) (F0 m 144 ls []) := by
          intro n
          induction n with
          | zero => intro x1_7 σ_7 H locs ls hm; exact absurd hm (Nat.not_lt_zero _)
          | succ n ih7 =>
            intro x1_7 σ_7 H locs ls hm7 h7_0 hnow hI hP hH hS hl
            refine lv_iload_n S.1 S.2.1 dX5_goesBy_144 rfl (lv_at hl 1 rfl) ?_
            refine lv_aload_n S.1 S.2.1 dX5_goesBy_145 rfl (lv_at hl 0 rfl) ?_
            refine rM_0_4 S hnX5 K hH (mG wd_336) dX5_goesBy_146 ?_
            refine lv_topi (fun v8 e8 => ?_)
            have b8 : 0 ≤ v8.toInt ∧ v8.toInt ≤ 60 := by rw [e8]; exact hI.1 4 0 0
            refine lv_icmp_ge (tgt := 183) S.1 S.2.1 dX5_goesBy_149 (by decide) (fun c9 => ?_) (fun c9 => ?_)
            · have j9 := t_le c9
              refine cW_vret S hr hk hH hS ?_ dX5_goesBy_183
              exact ⟨rfl, hI, hP, rfl, by exact hnow⟩
            · have j9 := t_nle c9
              refine lv_aload_n S.1 S.2.1 dX5_goesBy_152 rfl (lv_at hl 0 rfl) ?_
              refine rM_0_20 S hnX5 K hH (mG wd_321) dX5_goesBy_153 ?_
              refine lv_iload_n S.1 S.2.1 dX5_goesBy_156 rfl (lv_at hl 1 rfl) ?_
              refine lM_20 S K hH (vin (by omega) (by omega)) dX5_goesBy_157 ?_
              refine lv_topi (fun v10 e10 => ?_)
              have b10 : (-1) ≤ v10.toInt ∧ v10.toInt ≤ 11 := by rw [e10]; exact hI.1 20 0 x1_7.toNatClampNeg
              refine lv_iconst (v := (-1)) S.1 S.2.1 dX5_goesBy_158 (by decide) ?_
              refine lv_icmp_eq (tgt := 177) S.1 S.2.1 dX5_goesBy_159 (by decide) (fun c11 => ?_) (fun c11 => ?_)
              · have j11 := t_eq c11
                obtain ⟨v12, e12⟩ : ∃ y_9 : Int32, y_9 = x1_7 + 1 := ⟨_, rfl⟩
                have i12 : v12.toInt = x1_7.toInt + 1 := i_addc e12 (by decide) (by omega) (by omega)
                refine lv_iinc (v := v12) (lv' := [(1, .int v12), (0, .ref (L 0 0))]) S.1 S.2.1 dX5_goesBy_177 hl (k := 1) rfl (by rw [e12]; rfl) (by decide) rfl (fun ls hl => ?_)
                refine lv_goto (tgt := 144) S.1 S.2.1 dX5_goesBy_180 (by decide) ?_
                exact ih7 v12 σ_7 _ _ ls (by omega) (by omega) (by skip; exact hnow) hI hP hH hS (lv_sub hl [1, 0] rfl)
              · have j11 := t_neq c11
                refine lv_aload_n S.1 S.2.1 dX5_goesBy_162 rfl (lv_at hl 0 rfl) ?_
                refine rM_0_25 S hnX5 K hH (mG wd_326) dX5_goesBy_163 ?_
                refine lv_iload_n S.1 S.2.1 dX5_goesBy_166 rfl (lv_at hl 1 rfl) ?_
                refine lM_25 S K hH (vin (by omega) (by omega)) dX5_goesBy_167 ?_
                refine lv_topi (fun v13 e13 => ?_)
                refine lv_iconst (v := (-1)) S.1 S.2.1 dX5_goesBy_168 (by decide) ?_
                refine lv_icmp_ne (tgt := 177) S.1 S.2.1 dX5_goesBy_169 (by decide) (fun c14 => ?_) (fun c14 => ?_)
                · have j14 := t_neq c14
                  obtain ⟨v15, e15⟩ : ∃ y_9 : Int32, y_9 = x1_7 + 1 := ⟨_, rfl⟩
                  have i15 : v15.toInt = x1_7.toInt + 1 := i_addc e15 (by decide) (by omega) (by omega)
                  refine lv_iinc (v := v15) (lv' := [(1, .int v15), (0, .ref (L 0 0))]) S.1 S.2.1 dX5_goesBy_177 hl (k := 1) rfl (by rw [e15]; rfl) (by decide) rfl (fun ls hl => ?_)
                  refine lv_goto (tgt := 144) S.1 S.2.1 dX5_goesBy_180 (by decide) ?_
                  exact ih7 v15 σ_7 _ _ ls (by omega) (by omega) (by skip; exact hnow) hI hP hH hS (lv_sub hl [1, 0] rfl)
                · have j14 := t_eq c14
                  refine lv_aload_n S.1 S.2.1 dX5_goesBy_172 rfl (lv_at hl 0 rfl) ?_
                  refine lv_iload_n S.1 S.2.1 dX5_goesBy_173 rfl (lv_at hl 1 rfl) ?_
                  refine cW_bv (cW_V (n := 1) (As := [.int x1_7]) (rest := []) (k := 0) (i := 0) S K hH (by decide) rfl rfl (k_X5_seeks l D B L A σ_7 τ x1_7 (by omega) hI (by rw [← e10]; omega)) gX5_goesBy_X5_seeks rfl hdV_X5_seeks ⟨Nat.le_of_ble_eq_true rfl, Nat.le_of_ble_eq_true rfl⟩ rfl hl.1 (Nat.le_of_ble_eq_true rfl) dX5_goesBy_174) hS (fun σ16 τ16 H locs q16 hH hS => ?_)
                  obtain ⟨hI, hP16, hτ16, q16⟩ := q16
                  rw [hτ16] at hH
                  have hP := Keep_t hP hP16 (by decide)
                  obtain ⟨v17, e17⟩ : ∃ y_9 : Int32, y_9 = x1_7 + 1 := ⟨_, rfl⟩
                  have i17 : v17.toInt = x1_7.toInt + 1 := i_addc e17 (by decide) (by omega) (by omega)
                  refine lv_iinc (v := v17) (lv' := [(1, .int v17), (0, .ref (L 0 0))]) S.1 S.2.1 dX5_goesBy_177 hl (k := 1) rfl (by rw [e17]; rfl) (by decide) rfl (fun ls hl => ?_)
                  refine lv_goto (tgt := 144) S.1 S.2.1 dX5_goesBy_180 (by decide) ?_
                  exact ih7 v17 σ16 _ _ ls (by omega) (by omega) (by rw [hP16 1 (by decide)]; exact hnow) hI hP hH hS (lv_sub hl [1, 0] rfl)
        exact cut_144_7 _ 0 σ_4 _ _ ls (Nat.lt_succ_self _) (by omega) (by exact hnow) hI hP hH hS (lv_sub hl [1, 0] rfl)
      · have j6 := t_nle c6
        refine lv_aload_n S.1 S.2.1 dX5_goesBy_20 rfl (lv_at hl 0 rfl) ?_
        refine rM_0_21 S hnX5 K hH (mG wd_322) dX5_goesBy_21 ?_
        refine lv_iload_n S.1 S.2.1 dX5_goesBy_24 rfl (lv_at hl 1 rfl) ?_
        refine lM_21 S K hH (vin (by omega) (by omega)) dX5_goesBy_25 ?_
        refine lv_topi (fun v18 e18 => ?_)
        have b18 : (-1) ≤ v18.toInt ∧ v18.toInt ≤ 11 := by rw [e18]; exact hI.1 21 0 x1_4.toNatClampNeg
        refine lv_iconst (v := (-1)) S.1 S.2.1 dX5_goesBy_26 (by decide) ?_
        refine lv_icmp_eq (tgt := 136) S.1 S.2.1 dX5_goesBy_27 (by decide) (fun c19 => ?_) (fun c19 => ?_)
        · have j19 := t_eq c19
          obtain ⟨v20, e20⟩ : ∃ y_9 : Int32, y_9 = x1_4 + 1 := ⟨_, rfl⟩
          have i20 : v20.toInt = x1_4.toInt + 1 := i_addc e20 (by decide) (by omega) (by omega)
          refine lv_iinc (v := v20) (lv' := [(1, .int v20), (0, .ref (L 0 0))]) S.1 S.2.1 dX5_goesBy_136 hl (k := 1) rfl (by rw [e20]; rfl) (by decide) rfl (fun ls hl => ?_)
          refine lv_goto (tgt := 12) S.1 S.2.1 dX5_goesBy_139 (by decide) ?_
          exact ih4 v20 σ_4 _ _ ls (by omega) (by omega) (by skip; exact hnow) hI hP hH hS (lv_sub hl [1, 0] rfl)
        · have j19 := t_neq c19
          refine lv_aload_n S.1 S.2.1 dX5_goesBy_30 rfl (lv_at hl 0 rfl) ?_
          refine rM_0_23 S hnX5 K hH (mG wd_324) dX5_goesBy_31 ?_
          refine lv_iload_n S.1 S.2.1 dX5_goesBy_34 rfl (lv_at hl 1 rfl) ?_
          refine lM_23 S K hH (vin (by omega) (by omega)) dX5_goesBy_35 ?_
          refine lv_topi (fun v21 e21 => ?_)
          refine lv_aload_n S.1 S.2.1 dX5_goesBy_36 rfl (lv_at hl 0 rfl) ?_
          refine rM_0_1 S hnX5 K hH (mG wd_352) dX5_goesBy_37 ?_
          refine lv_topi (fun v22 e22 => ?_)
          have b22 : 0 ≤ v22.toInt ∧ v22.toInt ≤ 5000 := by rw [e22]; exact hI.1 1 0 0
          have k22 : v22.toInt = (σ_4 1 0 0).toInt := by rw [e22]
          refine lv_icmp_eq (tgt := 46) S.1 S.2.1 dX5_goesBy_40 (by decide) (fun c23 => ?_) (fun c23 => ?_)
          · have j23 := t_eq c23
            refine lv_aload_n S.1 S.2.1 dX5_goesBy_46 rfl (lv_at hl 0 rfl) ?_
            refine rM_0_10 S hnX5 K hH (mG wd_308) dX5_goesBy_47 ?_
            refine lv_aload_n S.1 S.2.1 dX5_goesBy_50 rfl (lv_at hl 0 rfl) ?_
            refine rM_0_21 S hnX5 K hH (mG wd_322) dX5_goesBy_51 ?_
            refine lv_iload_n S.1 S.2.1 dX5_goesBy_54 rfl (lv_at hl 1 rfl) ?_
            refine lM_21 S K hH (vin (by omega) (by omega)) dX5_goesBy_55 ?_
            refine lv_topi (fun v24 e24 => ?_)
            have b24 : (-1) ≤ v24.toInt ∧ v24.toInt ≤ 11 := by rw [e24]; exact hI.1 21 0 x1_4.toNatClampNeg
            have k24 : v24.toInt = v18.toInt := by rw [e24]; rw [← e18]
            refine lv_dup2_11 S.1 S.2.1 dX5_goesBy_56 rfl rfl ?_
            refine lM_10 S K hH (vin (by omega) (by omega)) dX5_goesBy_57 ?_
            refine lv_topi (fun v25 e25 => ?_)
            refine lv_aload_n S.1 S.2.1 dX5_goesBy_58 rfl (lv_at hl 0 rfl) ?_
            refine rM_0_19 S hnX5 K hH (mG wd_320) dX5_goesBy_59 ?_
            refine lv_iload_n S.1 S.2.1 dX5_goesBy_62 rfl (lv_at hl 1 rfl) ?_
            refine lM_19 S K hH (vin (by omega) (by omega)) dX5_goesBy_63 ?_
            refine lv_topi (fun v26 e26 => ?_)
            refine lv_aload_n S.1 S.2.1 dX5_goesBy_64 rfl (lv_at hl 0 rfl) ?_
            refine rM_0_8 S hnX5 K hH (mG wd_306) dX5_goesBy_65 ?_
            refine lv_aload_n S.1 S.2.1 dX5_goesBy_68 rfl (lv_at hl 0 rfl) ?_
            refine rM_0_21 S hnX5 K hH (mG wd_322) dX5_goesBy_69 ?_
            refine lv_iload_n S.1 S.2.1 dX5_goesBy_72 rfl (lv_at hl 1 rfl) ?_
            refine lM_21 S K hH (vin (by omega) (by omega)) dX5_goesBy_73 ?_
            refine lv_topi (fun v27 e27 => ?_)
            have b27 : (-1) ≤ v27.toInt ∧ v27.toInt ≤ 11 := by rw [e27]; exact hI.1 21 0 x1_4.toNatClampNeg
            have k27 : v27.toInt = v18.toInt := by rw [e27]; rw [← e18]
            refine lM_8 S K hH (vin (by omega) (by omega)) dX5_goesBy_74 ?_
            refine lv_topi (fun v28 e28 => ?_)
            refine lv_imul S.1 S.2.1 dX5_goesBy_75 ?_
            refine lv_topi (fun v29 e29 => ?_)
            refine lv_iadd S.1 S.2.1 dX5_goesBy_76 ?_
            refine lv_topi (fun v30 e30 => ?_)
            refine sM_10 S K hH hS (vin (by omega) (by omega)) dX5_goesBy_77 (fun H locs hH hS => ?_)
            obtain ⟨σ31, eσ31⟩ : ∃ z_9 : QS, z_9 = rs σ_4 10 0 (upd (σ_4 10 0) v24.toNatClampNeg v30) := ⟨_, rfl⟩
            rw [← eσ31] at hH
            have hI := InvM_a eσ31 hI (by decide) (any32 _)
            have hP := Keep_w eσ31 hP (by decide)
            refine lv_aload_n S.1 S.2.1 dX5_goesBy_78 rfl (lv_at hl 0 rfl) ?_
            refine rM_0_20 S hnX5 K hH (mG wd_321) dX5_goesBy_79 ?_
            refine lv_iload_n S.1 S.2.1 dX5_goesBy_82 rfl (lv_at hl 1 rfl) ?_
            refine lv_aload_n S.1 S.2.1 dX5_goesBy_83 rfl (lv_at hl 0 rfl) ?_
            refine rM_0_24 S hnX5 K hH (mG wd_325) dX5_goesBy_84 ?_
            refine lv_iload_n S.1 S.2.1 dX5_goesBy_87 rfl (lv_at hl 1 rfl) ?_
            refine lM_24 S K hH (vin (by omega) (by omega)) dX5_goesBy_88 ?_
            refine lv_topi (fun v32 e32 => ?_)
            have b32 : 0 ≤ v32.toInt ∧ v32.toInt ≤ 11 := by rw [e32]; exact hI.1 24 0 x1_4.toNatClampNeg
            refine sM_20 S K hH hS (vin (by omega) (by omega)) dX5_goesBy_89 (fun H locs hH hS => ?_)
            obtain ⟨σ33, eσ33⟩ : ∃ z_9 : QS, z_9 = rs σ31 20 0 (upd (σ31 20 0) x1_4.toNatClampNeg v32) := ⟨_, rfl⟩
            rw [← eσ33] at hH
            have hI := InvM_a eσ33 hI (by decide) (show ((-1) : Int) ≤ v32.toInt ∧ v32.toInt ≤ 11 by omega)
            have hP := Keep_w eσ33 hP (by decide)
            refine lv_aload_n S.1 S.2.1 dX5_goesBy_90 rfl (lv_at hl 0 rfl) ?_
            refine rM_0_21 S hnX5 K hH (mG wd_322) dX5_goesBy_91 ?_
            refine lv_iload_n S.1 S.2.1 dX5_goesBy_94 rfl (lv_at hl 1 rfl) ?_
            refine lv_iconst (v := (-1)) S.1 S.2.1 dX5_goesBy_95 (by decide) ?_
            refine sM_21 S K hH hS (vin (by omega) (by omega)) dX5_goesBy_96 (fun H locs hH hS => ?_)
            obtain ⟨σ34, eσ34⟩ : ∃ z_9 : QS, z_9 = rs σ33 21 0 (upd (σ33 21 0) x1_4.toNatClampNeg (-1)) := ⟨_, rfl⟩
            rw [← eσ34] at hH
            have hI := InvM_a eσ34 hI (by decide) (show ((-1) : Int) ≤ (-1 : Int32).toInt ∧ (-1 : Int32).toInt ≤ 11 by omega)
            have hP := Keep_w eσ34 hP (by decide)
            refine lv_aload_n S.1 S.2.1 dX5_goesBy_97 rfl (lv_at hl 0 rfl) ?_
            refine rM_0_22 S hnX5 K hH (mG wd_323) dX5_goesBy_98 ?_
            refine lv_iload_n S.1 S.2.1 dX5_goesBy_101 rfl (lv_at hl 1 rfl) ?_
            refine lv_iconst (v := (-1)) S.1 S.2.1 dX5_goesBy_102 (by decide) ?_
            refine sM_22 S K hH hS (vin (by omega) (by omega)) dX5_goesBy_103 (fun H locs hH hS => ?_)
            obtain ⟨σ35, eσ35⟩ : ∃ z_9 : QS, z_9 = rs σ34 22 0 (upd (σ34 22 0) x1_4.toNatClampNeg (-1)) := ⟨_, rfl⟩
            rw [← eσ35] at hH
            have hI := InvM_a eσ35 hI (by decide) (any32 _)
            have hP := Keep_w eσ35 hP (by decide)
            refine lv_aload_n S.1 S.2.1 dX5_goesBy_104 rfl (lv_at hl 0 rfl) ?_
            refine rM_0_23 S hnX5 K hH (mG wd_324) dX5_goesBy_105 ?_
            refine lv_iload_n S.1 S.2.1 dX5_goesBy_108 rfl (lv_at hl 1 rfl) ?_
            refine lv_iconst (v := (-1)) S.1 S.2.1 dX5_goesBy_109 (by decide) ?_
            refine sM_23 S K hH hS (vin (by omega) (by omega)) dX5_goesBy_110 (fun H locs hH hS => ?_)
            obtain ⟨σ36, eσ36⟩ : ∃ z_9 : QS, z_9 = rs σ35 23 0 (upd (σ35 23 0) x1_4.toNatClampNeg (-1)) := ⟨_, rfl⟩
            rw [← eσ36] at hH
            have hI := InvM_a eσ36 hI (by decide) (any32 _)
            have hP := Keep_w eσ36 hP (by decide)
            refine lv_aload_n S.1 S.2.1 dX5_goesBy_111 rfl (lv_at hl 0 rfl) ?_
            refine rM_0_20 S hnX5 K hH (mG wd_321) dX5_goesBy_112 ?_
            refine lv_iload_n S.1 S.2.1 dX5_goesBy_115 rfl (lv_at hl 1 rfl) ?_
            refine lM_20 S K hH (vin (by omega) (by omega)) dX5_goesBy_116 ?_
            refine lv_topi (fun v37 e37 => ?_)
            have b37 : (-1) ≤ v37.toInt ∧ v37.toInt ≤ 11 := by rw [e37]; exact hI.1 20 0 x1_4.toNatClampNeg
            refine lv_aload_n S.1 S.2.1 dX5_goesBy_117 rfl (lv_at hl 0 rfl) ?_
            refine rM_0_18 S hnX5 K hH (mG wd_319) dX5_goesBy_118 ?_
            refine lv_iload_n S.1 S.2.1 dX5_goesBy_121 rfl (lv_at hl 1 rfl) ?_
            refine lM_18 S K hH (vin (by omega) (by omega)) dX5_goesBy_122 ?_
            refine lv_topi (fun v38 e38 => ?_)
            have b38 : 0 ≤ v38.toInt ∧ v38.toInt ≤ 11 := by rw [e38]; exact hI.1 18 0 x1_4.toNatClampNeg
            refine lv_icmp_ne (tgt := 136) S.1 S.2.1 dX5_goesBy_123 (by decide) (fun c39 => ?_) (fun c39 => ?_)
            · have j39 := t_neq c39
              obtain ⟨v40, e40⟩ : ∃ y_9 : Int32, y_9 = x1_4 + 1 := ⟨_, rfl⟩
              have i40 : v40.toInt = x1_4.toInt + 1 := i_addc e40 (by decide) (by omega) (by omega)
              refine lv_iinc (v := v40) (lv' := [(1, .int v40), (0, .ref (L 0 0))]) S.1 S.2.1 dX5_goesBy_136 hl (k := 1) rfl (by rw [e40]; rfl) (by decide) rfl (fun ls hl => ?_)
              refine lv_goto (tgt := 12) S.1 S.2.1 dX5_goesBy_139 (by decide) ?_
              exact ih4 v40 σ36 _ _ ls (by omega) (by omega) (by rw [eσ36, rs_v (by decide), eσ35, rs_v (by decide), eσ34, rs_v (by decide), eσ33, rs_v (by decide), eσ31, rs_v (by decide)]; exact hnow) hI hP hH hS (lv_sub hl [1, 0] rfl)
            · have j39 := t_eq c39
              refine lv_aload_n S.1 S.2.1 dX5_goesBy_126 rfl (lv_at hl 0 rfl) ?_
              refine rM_0_25 S hnX5 K hH (mG wd_326) dX5_goesBy_127 ?_
              refine lv_iload_n S.1 S.2.1 dX5_goesBy_130 rfl (lv_at hl 1 rfl) ?_
              refine lv_aload_n S.1 S.2.1 dX5_goesBy_131 rfl (lv_at hl 0 rfl) ?_
              refine rM_0_1 S hnX5 K hH (mG wd_352) dX5_goesBy_132 ?_
              refine lv_topi (fun v41 e41 => ?_)
              have b41 : 0 ≤ v41.toInt ∧ v41.toInt ≤ 5000 := by rw [e41]; exact hI.1 1 0 0
              have k41 : v41.toInt = (σ_4 1 0 0).toInt := by rw [e41, eσ36, rs_v (by decide), eσ35, rs_v (by decide), eσ34, rs_v (by decide), eσ33, rs_v (by decide), eσ31, rs_v (by decide)]
              refine sM_25 S K hH hS (vin (by omega) (by omega)) dX5_goesBy_135 (fun H locs hH hS => ?_)
              obtain ⟨σ42, eσ42⟩ : ∃ z_9 : QS, z_9 = rs σ36 25 0 (upd (σ36 25 0) x1_4.toNatClampNeg v41) := ⟨_, rfl⟩
              rw [← eσ42] at hH
              have hI := InvM_a eσ42 hI (by decide) (any32 _)
              have hP := Keep_w eσ42 hP (by decide)
              obtain ⟨v43, e43⟩ : ∃ y_9 : Int32, y_9 = x1_4 + 1 := ⟨_, rfl⟩
              have i43 : v43.toInt = x1_4.toInt + 1 := i_addc e43 (by decide) (by omega) (by omega)
              refine lv_iinc (v := v43) (lv' := [(1, .int v43), (0, .ref (L 0 0))]) S.1 S.2.1 dX5_goesBy_136 hl (k := 1) rfl (by rw [e43]; rfl) (by decide) rfl (fun ls hl => ?_)
              refine lv_goto (tgt := 12) S.1 S.2.1 dX5_goesBy_139 (by decide) ?_
              exact ih4 v43 σ42 _ _ ls (by omega) (by omega) (by rw [eσ42, rs_v (by decide), eσ36, rs_v (by decide), eσ35, rs_v (by decide), eσ34, rs_v (by decide), eσ33, rs_v (by decide), eσ31, rs_v (by decide)]; exact hnow) hI hP hH hS (lv_sub hl [1, 0] rfl)
          · have j23 := t_neq c23
            refine lv_goto (tgt := 136) S.1 S.2.1 dX5_goesBy_43 (by decide) ?_
            obtain ⟨v44, e44⟩ : ∃ y_9 : Int32, y_9 = x1_4 + 1 := ⟨_, rfl⟩
            have i44 : v44.toInt = x1_4.toInt + 1 := i_addc e44 (by decide) (by omega) (by omega)
            refine lv_iinc (v := v44) (lv' := [(1, .int v44), (0, .ref (L 0 0))]) S.1 S.2.1 dX5_goesBy_136 hl (k := 1) rfl (by rw [e44]; rfl) (by decide) rfl (fun ls hl => ?_)
            refine lv_goto (tgt := 12) S.1 S.2.1 dX5_goesBy_139 (by decide) ?_
            exact ih4 v44 σ_4 _ _ ls (by omega) (by omega) (by skip; exact hnow) hI hP hH hS (lv_sub hl [1, 0] rfl)
  exact cut_12_4 _ 0 σ3 _ _ ls (Nat.lt_succ_self _) (by omega) (by rw [eσ3, rs_self]; omega) hI hP hH hS (lv_sub hl [1, 0] rfl)
set_option maxHeartbeats 4000000 in
set_option maxRecDepth 100000 in
theorem k_X5_tick (l : Launch) (D : va_G) (B : Nat → ClassId) (L : QL) (A : Nat → Prop) (σ : QS) (τ : Int64) (n9 : Int32)  (hI : InvM σ) : cW cntM gM l D B L A yX5_tick wsX5_tick 5 125 [.ref (L 0 0), .int n9] σ τ (pI (fun x σ' τ' => InvM σ' ∧ Keep [0, 1, 10, 25, 14, 15, 16, 20, 21, 22, 23, 24, 26] σ σ' ∧ τ' = τ ∧ ((x.toInt = -1 ∧ σ' 1 = σ 1 ∧ ¬ (0 ≤ n9.toInt ∧ n9.toInt ≤ 500 ∧ n9.toInt + (σ 1 0 0).toInt ≤ 5000)) ∨ ((0 ≤ n9.toInt ∧ n9.toInt ≤ 500 ∧ n9.toInt + (σ 1 0 0).toInt ≤ 5000) ∧ x.toInt = (σ 1 0 0).toInt + n9.toInt ∧ (σ' 1 0 0).toInt = (σ 1 0 0).toInt + n9.toInt)))) := by
  refine cW_of (cc := cX5_tick) (nL := 3) (ret := (some .int)) (by decide) rfl (Nat.le_of_ble_eq_true rfl) ?_
  intro p e s m below meth c S hr hk K hH hS ls hl
  have hnX5 : ∀ w ∈ wsX50, w ∈ wsX5_tick := fun w h => mG (tX5 w h)
  have lm1 : ((-1) : Int32).toInt = -1 := by decide
  have l0 : (0 : Int32).toInt = 0 := by decide
  have l1 : (1 : Int32).toInt = 1 := by decide
  have l500 : (500 : Int32).toInt = 500 := by decide
  have l5000 : (5000 : Int32).toInt = 5000 := by decide
  have hP : Keep [0, 1, 10, 25, 14, 15, 16, 20, 21, 22, 23, 24, 26] σ σ := Keep_r
  have hl : lv_has ls 3 [(0, .ref (L 0 0)), (1, .int n9)] := hl
  refine lv_aload_n S.1 S.2.1 dX5_tick_0 rfl (lv_at hl 0 rfl) ?_
  refine lv_iconst (v := 0) S.1 S.2.1 dX5_tick_1 (by decide) ?_
  refine pM_0_0 S hnX5 K hH hS (mG wd_337) dX5_tick_2 (fun H locs hH hS => ?_)
  obtain ⟨σ1, eσ1⟩ : ∃ z_9 : QS, z_9 = rs σ 0 0 (fun _ => 0) := ⟨_, rfl⟩
  rw [← eσ1] at hH
  have hI := InvM_f eσ1 hI (by decide) (any32 _)
  have hP := Keep_w eσ1 hP (by decide)
  refine lv_iload_n S.1 S.2.1 dX5_tick_5 rfl (lv_at hl 1 rfl) ?_
  refine lv_iconst (v := 0) S.1 S.2.1 dX5_tick_6 (by decide) ?_
  refine lv_sipush (v := 500) S.1 S.2.1 dX5_tick_7 (by decide) ?_
  refine cW_bpi (cW_S (n := 3) (As := [.int n9, .int 0, .int 500]) (rest := []) S K hH (k_X5_isIn l D B L A σ1 τ n9 0 500 ) gX5_tick_X5_isIn rfl hdS_X5_isIn ⟨Nat.le_of_ble_eq_true rfl, Nat.le_of_ble_eq_true rfl⟩ rfl hl.1 (Nat.le_of_ble_eq_true rfl) dX5_tick_10) hS (fun v2 H locs q2 hH hS => ?_)
  refine lv_if_eq (tgt := 28) S.1 S.2.1 dX5_tick_13 (by decide) (fun c3 => ?_) (fun c3 => ?_)
  · have j3 := t_eq c3
    refine lv_iconst (v := (-1)) S.1 S.2.1 dX5_tick_28 (by decide) ?_
    refine cW_iret S hr hk hH hS ?_ dX5_tick_29
    exact ⟨(-1), rfl, hI, hP, rfl, by exact Or.inl ⟨by decide, by rw [eσ1, rs_v (by decide)], by omega⟩⟩
  · have j3 := t_neq c3
    refine lv_aload_n S.1 S.2.1 dX5_tick_16 rfl (lv_at hl 0 rfl) ?_
    refine rM_0_1 S hnX5 K hH (mG wd_352) dX5_tick_17 ?_
    refine lv_topi (fun v4 e4 => ?_)
    have b4 : 0 ≤ v4.toInt ∧ v4.toInt ≤ 5000 := by rw [e4]; exact hI.1 1 0 0
    have fv4 : v4.toInt = (σ 1 0 0).toInt := by rw [e4, eσ1, rs_v (by decide)]
    refine lv_iload_n S.1 S.2.1 dX5_tick_20 rfl (lv_at hl 1 rfl) ?_
    refine lv_iadd S.1 S.2.1 dX5_tick_21 ?_
    refine lv_topi (fun v5 e5 => ?_)
    have i5 : v5.toInt = v4.toInt + n9.toInt := i_add e5 (by omega) (by omega)
    refine lv_sipush (v := 5000) S.1 S.2.1 dX5_tick_22 (by decide) ?_
    refine lv_icmp_le (tgt := 30) S.1 S.2.1 dX5_tick_25 (by decide) (fun c6 => ?_) (fun c6 => ?_)
    · have j6 := t_le c6
      refine lv_iconst (v := 0) S.1 S.2.1 dX5_tick_30 (by decide) ?_
      refine lv_istore_n (lv' := [(2, .int 0), (0, .ref (L 0 0)), (1, .int n9)]) S.1 S.2.1 dX5_tick_31 rfl hl (by decide) rfl (fun ls hl => ?_)
      have cut_32_7 : ∀ (n : Nat) (x2_7 : Int32) (σ_7 : QS) (H : Heap) (locs : List Loc) (ls : Array Slot), (500 - x2_7.toInt).toNat < n → 0 ≤ x2_7.toInt ∧ x2_7.toInt ≤ 500 → ((σ_7 1 0 0).toInt = (σ 1 0 0).toInt + x2_7.toInt) → (x2_7.toInt ≤ n9.toInt) → InvM σ_7 → Keep [0, 1, 10, 25, 14, 15, 16, 20, 21, 22, 23, 24, 26] σ σ_7 → hW cntM gM D B L σ_7 τ H → va_S A s.heap H locs → lv_has ls 3 [(0, .ref (L 0 0)), (1, .int n9), (2, .int x2_7)] → W p l e { frames := 5, cells := 0, slots := 0, locals := 125 } s m [.ref (L 0 0), .int n9].toArray below meth c H locs 0 0 (MQ below (QcW cntM gM D B L A (pI (fun x σ' τ' => InvM σ' ∧ Keep [0, 1, 10, 25, 14, 15, 16, 20, 21, 22, 23, 24, 26] σ σ' ∧ τ' = τ ∧ ((x.toInt = -1 ∧ σ' 1 = σ 1 ∧ ¬ (0 ≤ n9.toInt ∧ n9.toInt ≤ 500 ∧ n9.toInt + (σ 1 0 0).toInt ≤ 5000)) ∨ ((0 ≤ n9.toInt ∧ n9.toInt ≤ 500 ∧ n9.toInt + (σ 1 0 0).toInt ≤ 5000) ∧ x.toInt = (σ 1 0 0).toInt + n9.toInt ∧ (σ' 1 0 0).toInt = (σ 1 0 0).toInt + n9.toInt))))) [.ref (L 0 0), .int n9].toArray s 0 0 A) (F0 m 32 ls []) := by
        intro n
        induction n with
        | zero => intro x2_7 σ_7 H locs ls hm; exact absurd hm (Nat.not_lt_zero _)
        | succ n ih7 =>
          intro x2_7 σ_7 H locs ls hm7 h7_0 hnow hle hI hP hH hS hl
          refine lv_iload_n S.1 S.2.1 dX5_tick_32 rfl (lv_at hl 2 rfl) ?_
          refine lv_iload_n S.1 S.2.1 dX5_tick_33 rfl (lv_at hl 1 rfl) ?_
          refine lv_icmp_ge (tgt := 47) S.1 S.2.1 dX5_tick_34 (by decide) (fun c8 => ?_) (fun c8 => ?_)
          · have j8 := t_le c8
            refine lv_aload_n S.1 S.2.1 dX5_tick_47 rfl (lv_at hl 0 rfl) ?_
            refine rM_0_1 S hnX5 K hH (mG wd_352) dX5_tick_48 ?_
            refine lv_topi (fun v9 e9 => ?_)
            have b9 : 0 ≤ v9.toInt ∧ v9.toInt ≤ 5000 := by rw [e9]; exact hI.1 1 0 0
            have fv9 : v9.toInt = (σ_7 1 0 0).toInt := by rw [e9]
            refine cW_iret S hr hk hH hS ?_ dX5_tick_51
            exact ⟨v9, rfl, hI, hP, rfl, by omega⟩
          · have j8 := t_nle c8
            refine lv_aload_n S.1 S.2.1 dX5_tick_37 rfl (lv_at hl 0 rfl) ?_
            refine cW_bv (cW_V (n := 0) (As := []) (rest := []) (k := 0) (i := 0) S K hH (by decide) rfl rfl (k_X5_goesBy l D B L A σ_7 τ  hI (by omega)) gX5_tick_X5_goesBy rfl hdV_X5_goesBy ⟨Nat.le_of_ble_eq_true rfl, Nat.le_of_ble_eq_true rfl⟩ rfl hl.1 (Nat.le_of_ble_eq_true rfl) dX5_tick_38) hS (fun σ10 τ10 H locs q10 hH hS => ?_)
            obtain ⟨hI, hP10, hτ10, q10⟩ := q10
            rw [hτ10] at hH
            have hP := Keep_t hP hP10 (by decide)
            obtain ⟨v11, e11⟩ : ∃ y_9 : Int32, y_9 = x2_7 + 1 := ⟨_, rfl⟩
            have i11 : v11.toInt = x2_7.toInt + 1 := i_addc e11 (by decide) (by omega) (by omega)
            refine lv_iinc (v := v11) (lv' := [(2, .int v11), (0, .ref (L 0 0)), (1, .int n9)]) S.1 S.2.1 dX5_tick_41 hl (k := 2) rfl (by rw [e11]; rfl) (by decide) rfl (fun ls hl => ?_)
            refine lv_goto (tgt := 32) S.1 S.2.1 dX5_tick_44 (by decide) ?_
            exact ih7 v11 σ10 _ _ ls (by omega) (by omega) (by omega) (by omega) hI hP hH hS (lv_sub hl [1, 2, 0] rfl)
      exact cut_32_7 _ 0 σ1 _ _ ls (Nat.lt_succ_self _) (by omega) (by rw [eσ1, rs_v (by decide)]; omega) (by omega) hI hP hH hS (lv_sub hl [1, 2, 0] rfl)
    · have j6 := t_nle c6
      refine lv_iconst (v := (-1)) S.1 S.2.1 dX5_tick_28 (by decide) ?_
      refine cW_iret S hr hk hH hS ?_ dX5_tick_29
      exact ⟨(-1), rfl, hI, hP, rfl, by exact Or.inl ⟨by decide, by rw [eσ1, rs_v (by decide)], by omega⟩⟩
set_option maxHeartbeats 4000000 in
set_option maxRecDepth 100000 in
theorem k_X5_told (l : Launch) (D : va_G) (B : Nat → ClassId) (L : QL) (A : Nat → Prop) (σ : QS) (τ : Int64) (a : Int32) (b : Int32)  (hI : InvM σ) : cW cntM gM l D B L A yX5_told wsX5_told 1 22 [.ref (L 0 0), .int a, .int b] σ τ (pI (fun x σ' τ' => InvM σ' ∧ Keep [0] σ σ' ∧ τ' = τ ∧ True)) := by
  refine cW_of (cc := cX5_told) (nL := 3) (ret := (some .int)) (by decide) rfl (Nat.le_of_ble_eq_true rfl) ?_
  intro p e s m below meth c S hr hk K hH hS ls hl
  have hnX5 : ∀ w ∈ wsX50, w ∈ wsX5_told := fun w h => mG (tX5 w h)
  have l0 : (0 : Int32).toInt = 0 := by decide
  have l1 : (1 : Int32).toInt = 1 := by decide
  have l7 : (7 : Int32).toInt = 7 := by decide
  have hP : Keep [0] σ σ := Keep_r
  have hl : lv_has ls 3 [(0, .ref (L 0 0)), (1, .int a), (2, .int b)] := hl
  refine lv_aload_n S.1 S.2.1 dX5_told_0 rfl (lv_at hl 0 rfl) ?_
  refine lv_iload_n S.1 S.2.1 dX5_told_1 rfl (lv_at hl 1 rfl) ?_
  refine lv_if_lt (tgt := 23) S.1 S.2.1 dX5_told_2 (by decide) (fun c1 => ?_) (fun c1 => ?_)
  · have j1 := t_lt c1
    refine lv_iconst (v := 1) S.1 S.2.1 dX5_told_23 (by decide) ?_
    refine lv_goto (tgt := 28) S.1 S.2.1 dX5_told_24 (by decide) ?_
    refine pM_0_0 S hnX5 K hH hS (mG wd_337) dX5_told_28 (fun H locs hH hS => ?_)
    obtain ⟨σ2, eσ2⟩ : ∃ z_9 : QS, z_9 = rs σ 0 0 (fun _ => 1) := ⟨_, rfl⟩
    rw [← eσ2] at hH
    have hI := InvM_f eσ2 hI (by decide) (any32 _)
    have hP := Keep_w eσ2 hP (by decide)
    refine lv_aload_n S.1 S.2.1 dX5_told_31 rfl (lv_at hl 0 rfl) ?_
    refine rM_0_0 S hnX5 K hH (mG wd_337) dX5_told_32 ?_
    refine lv_topi (fun v3 e3 => ?_)
    have k3 : v3.toInt = (1 : Int32).toInt := by rw [e3, eσ2, rs_self]
    refine lv_if_le (tgt := 40) S.1 S.2.1 dX5_told_35 (by decide) (fun c4 => ?_) (fun c4 => ?_)
    · have j4 := t_le c4
      exact absurd j4 (by omega)
    · have j4 := t_nle c4
      refine lv_iconst (v := 0) S.1 S.2.1 dX5_told_38 (by decide) ?_
      refine cW_iret S hr hk hH hS ?_ dX5_told_39
      exact ⟨0, rfl, hI, hP, rfl, by trivial⟩
  · have j1 := t_nlt c1
    refine lv_iload_n S.1 S.2.1 dX5_told_5 rfl (lv_at hl 1 rfl) ?_
    refine lv_aload_n S.1 S.2.1 dX5_told_6 rfl (lv_at hl 0 rfl) ?_
    refine rM_0_4 S hnX5 K hH (mG wd_336) dX5_told_7 ?_
    refine lv_topi (fun v5 e5 => ?_)
    have b5 : 0 ≤ v5.toInt ∧ v5.toInt ≤ 60 := by rw [e5]; exact hI.1 4 0 0
    refine lv_icmp_ge (tgt := 23) S.1 S.2.1 dX5_told_10 (by decide) (fun c6 => ?_) (fun c6 => ?_)
    · have j6 := t_le c6
      refine lv_iconst (v := 1) S.1 S.2.1 dX5_told_23 (by decide) ?_
      refine lv_goto (tgt := 28) S.1 S.2.1 dX5_told_24 (by decide) ?_
      refine pM_0_0 S hnX5 K hH hS (mG wd_337) dX5_told_28 (fun H locs hH hS => ?_)
      obtain ⟨σ7, eσ7⟩ : ∃ z_9 : QS, z_9 = rs σ 0 0 (fun _ => 1) := ⟨_, rfl⟩
      rw [← eσ7] at hH
      have hI := InvM_f eσ7 hI (by decide) (any32 _)
      have hP := Keep_w eσ7 hP (by decide)
      refine lv_aload_n S.1 S.2.1 dX5_told_31 rfl (lv_at hl 0 rfl) ?_
      refine rM_0_0 S hnX5 K hH (mG wd_337) dX5_told_32 ?_
      refine lv_topi (fun v8 e8 => ?_)
      have k8 : v8.toInt = (1 : Int32).toInt := by rw [e8, eσ7, rs_self]
      refine lv_if_le (tgt := 40) S.1 S.2.1 dX5_told_35 (by decide) (fun c9 => ?_) (fun c9 => ?_)
      · have j9 := t_le c9
        exact absurd j9 (by omega)
      · have j9 := t_nle c9
        refine lv_iconst (v := 0) S.1 S.2.1 dX5_told_38 (by decide) ?_
        refine cW_iret S hr hk hH hS ?_ dX5_told_39
        exact ⟨0, rfl, hI, hP, rfl, by trivial⟩
    · have j6 := t_nle c6
      refine lv_iload_n S.1 S.2.1 dX5_told_13 rfl (lv_at hl 2 rfl) ?_
      refine lv_iconst (v := 0) S.1 S.2.1 dX5_told_14 (by decide) ?_
      refine lv_bipush (v := 7) S.1 S.2.1 dX5_told_15 (by decide) ?_
      refine cW_bpi (cW_S (n := 3) (As := [.int b, .int 0, .int 7]) (rest := [.ref (L 0 0)]) S K hH (k_X5_isIn l D B L A σ τ b 0 7 ) gX5_told_X5_isIn rfl hdS_X5_isIn ⟨Nat.le_of_ble_eq_true rfl, Nat.le_of_ble_eq_true rfl⟩ rfl hl.1 (Nat.le_of_ble_eq_true rfl) dX5_told_17) hS (fun v10 H locs q10 hH hS => ?_)
      refine lv_if_ne (tgt := 27) S.1 S.2.1 dX5_told_20 (by decide) (fun c11 => ?_) (fun c11 => ?_)
      · have j11 := t_neq c11
        refine lv_iconst (v := 0) S.1 S.2.1 dX5_told_27 (by decide) ?_
        refine pM_0_0 S hnX5 K hH hS (mG wd_337) dX5_told_28 (fun H locs hH hS => ?_)
        obtain ⟨σ12, eσ12⟩ : ∃ z_9 : QS, z_9 = rs σ 0 0 (fun _ => 0) := ⟨_, rfl⟩
        rw [← eσ12] at hH
        have hI := InvM_f eσ12 hI (by decide) (any32 _)
        have hP := Keep_w eσ12 hP (by decide)
        refine lv_aload_n S.1 S.2.1 dX5_told_31 rfl (lv_at hl 0 rfl) ?_
        refine rM_0_0 S hnX5 K hH (mG wd_337) dX5_told_32 ?_
        refine lv_topi (fun v13 e13 => ?_)
        have k13 : v13.toInt = (0 : Int32).toInt := by rw [e13, eσ12, rs_self]
        refine lv_if_le (tgt := 40) S.1 S.2.1 dX5_told_35 (by decide) (fun c14 => ?_) (fun c14 => ?_)
        · have j14 := t_le c14
          refine lv_iload_n S.1 S.2.1 dX5_told_40 rfl (lv_at hl 2 rfl) ?_
          rcases sw_in b 0 6 with c15 | ⟨c15, d15⟩
          · refine lv_tableOut (tgt := 133) S.1 S.2.1 dX5_told_41 c15 (by decide) ?_
            refine lv_aload_n S.1 S.2.1 dX5_told_133 rfl (lv_at hl 0 rfl) ?_
            refine rM_0_26 S hnX5 K hH (mG wd_327) dX5_told_134 ?_
            refine lv_iload_n S.1 S.2.1 dX5_told_137 rfl (lv_at hl 1 rfl) ?_
            refine lM_26 S K hH (vin (by omega) (by omega)) dX5_told_138 ?_
            refine lv_topi (fun v16 e16 => ?_)
            refine cW_iret S hr hk hH hS ?_ dX5_told_139
            exact ⟨v16, rfl, hI, hP, rfl, by trivial⟩
          · rcases (show b.toInt = 0 ∨ b.toInt = 1 ∨ b.toInt = 2 ∨ b.toInt = 3 ∨ b.toInt = 4 ∨ b.toInt = 5 ∨ b.toInt = 6 by omega) with f15 | f15 | f15 | f15 | f15 | f15 | f15
            · refine lv_tableIn (off := 43) (tgt := 84) S.1 S.2.1 dX5_told_41 (by omega) (by omega) (by rw [f15]; rfl) (by decide) ?_
              refine lv_aload_n S.1 S.2.1 dX5_told_84 rfl (lv_at hl 0 rfl) ?_
              refine rM_0_18 S hnX5 K hH (mG wd_319) dX5_told_85 ?_
              refine lv_iload_n S.1 S.2.1 dX5_told_88 rfl (lv_at hl 1 rfl) ?_
              refine lM_18 S K hH (vin (by omega) (by omega)) dX5_told_89 ?_
              refine lv_topi (fun v17 e17 => ?_)
              have b17 : 0 ≤ v17.toInt ∧ v17.toInt ≤ 11 := by rw [e17]; exact hI.1 18 0 a.toNatClampNeg
              refine cW_iret S hr hk hH hS ?_ dX5_told_90
              exact ⟨v17, rfl, hI, hP, rfl, by trivial⟩
            · refine lv_tableIn (off := 50) (tgt := 91) S.1 S.2.1 dX5_told_41 (by omega) (by omega) (by rw [f15]; rfl) (by decide) ?_
              refine lv_aload_n S.1 S.2.1 dX5_told_91 rfl (lv_at hl 0 rfl) ?_
              refine rM_0_19 S hnX5 K hH (mG wd_320) dX5_told_92 ?_
              refine lv_iload_n S.1 S.2.1 dX5_told_95 rfl (lv_at hl 1 rfl) ?_
              refine lM_19 S K hH (vin (by omega) (by omega)) dX5_told_96 ?_
              refine lv_topi (fun v18 e18 => ?_)
              refine cW_iret S hr hk hH hS ?_ dX5_told_97
              exact ⟨v18, rfl, hI, hP, rfl, by trivial⟩
            · refine lv_tableIn (off := 57) (tgt := 98) S.1 S.2.1 dX5_told_41 (by omega) (by omega) (by rw [f15]; rfl) (by decide) ?_
              refine lv_aload_n S.1 S.2.1 dX5_told_98 rfl (lv_at hl 0 rfl) ?_
              refine rM_0_20 S hnX5 K hH (mG wd_321) dX5_told_99 ?_
              refine lv_iload_n S.1 S.2.1 dX5_told_102 rfl (lv_at hl 1 rfl) ?_
              refine lM_20 S K hH (vin (by omega) (by omega)) dX5_told_103 ?_
              refine lv_topi (fun v19 e19 => ?_)
              have b19 : (-1) ≤ v19.toInt ∧ v19.toInt ≤ 11 := by rw [e19]; exact hI.1 20 0 a.toNatClampNeg
              refine cW_iret S hr hk hH hS ?_ dX5_told_104
              exact ⟨v19, rfl, hI, hP, rfl, by trivial⟩
            · refine lv_tableIn (off := 64) (tgt := 105) S.1 S.2.1 dX5_told_41 (by omega) (by omega) (by rw [f15]; rfl) (by decide) ?_
              refine lv_aload_n S.1 S.2.1 dX5_told_105 rfl (lv_at hl 0 rfl) ?_
              refine rM_0_21 S hnX5 K hH (mG wd_322) dX5_told_106 ?_
              refine lv_iload_n S.1 S.2.1 dX5_told_109 rfl (lv_at hl 1 rfl) ?_
              refine lM_21 S K hH (vin (by omega) (by omega)) dX5_told_110 ?_
              refine lv_topi (fun v20 e20 => ?_)
              have b20 : (-1) ≤ v20.toInt ∧ v20.toInt ≤ 11 := by rw [e20]; exact hI.1 21 0 a.toNatClampNeg
              refine cW_iret S hr hk hH hS ?_ dX5_told_111
              exact ⟨v20, rfl, hI, hP, rfl, by trivial⟩
            · refine lv_tableIn (off := 71) (tgt := 112) S.1 S.2.1 dX5_told_41 (by omega) (by omega) (by rw [f15]; rfl) (by decide) ?_
              refine lv_aload_n S.1 S.2.1 dX5_told_112 rfl (lv_at hl 0 rfl) ?_
              refine rM_0_22 S hnX5 K hH (mG wd_323) dX5_told_113 ?_
              refine lv_iload_n S.1 S.2.1 dX5_told_116 rfl (lv_at hl 1 rfl) ?_
              refine lM_22 S K hH (vin (by omega) (by omega)) dX5_told_117 ?_
              refine lv_topi (fun v21 e21 => ?_)
              refine cW_iret S hr hk hH hS ?_ dX5_told_118
              exact ⟨v21, rfl, hI, hP, rfl, by trivial⟩
            · refine lv_tableIn (off := 78) (tgt := 119) S.1 S.2.1 dX5_told_41 (by omega) (by omega) (by rw [f15]; rfl) (by decide) ?_
              refine lv_aload_n S.1 S.2.1 dX5_told_119 rfl (lv_at hl 0 rfl) ?_
              refine rM_0_23 S hnX5 K hH (mG wd_324) dX5_told_120 ?_
              refine lv_iload_n S.1 S.2.1 dX5_told_123 rfl (lv_at hl 1 rfl) ?_
              refine lM_23 S K hH (vin (by omega) (by omega)) dX5_told_124 ?_
              refine lv_topi (fun v22 e22 => ?_)
              refine cW_iret S hr hk hH hS ?_ dX5_told_125
              exact ⟨v22, rfl, hI, hP, rfl, by trivial⟩
            · refine lv_tableIn (off := 85) (tgt := 126) S.1 S.2.1 dX5_told_41 (by omega) (by omega) (by rw [f15]; rfl) (by decide) ?_
              refine lv_aload_n S.1 S.2.1 dX5_told_126 rfl (lv_at hl 0 rfl) ?_
              refine rM_0_25 S hnX5 K hH (mG wd_326) dX5_told_127 ?_
              refine lv_iload_n S.1 S.2.1 dX5_told_130 rfl (lv_at hl 1 rfl) ?_
              refine lM_25 S K hH (vin (by omega) (by omega)) dX5_told_131 ?_
              refine lv_topi (fun v23 e23 => ?_)
              refine cW_iret S hr hk hH hS ?_ dX5_told_132
              exact ⟨v23, rfl, hI, hP, rfl, by trivial⟩
        · have j14 := t_nle c14
          exact absurd j14 (by omega)
      · have j11 := t_eq c11
        refine lv_iconst (v := 1) S.1 S.2.1 dX5_told_23 (by decide) ?_
        refine lv_goto (tgt := 28) S.1 S.2.1 dX5_told_24 (by decide) ?_
        refine pM_0_0 S hnX5 K hH hS (mG wd_337) dX5_told_28 (fun H locs hH hS => ?_)
        obtain ⟨σ24, eσ24⟩ : ∃ z_9 : QS, z_9 = rs σ 0 0 (fun _ => 1) := ⟨_, rfl⟩
        rw [← eσ24] at hH
        have hI := InvM_f eσ24 hI (by decide) (any32 _)
        have hP := Keep_w eσ24 hP (by decide)
        refine lv_aload_n S.1 S.2.1 dX5_told_31 rfl (lv_at hl 0 rfl) ?_
        refine rM_0_0 S hnX5 K hH (mG wd_337) dX5_told_32 ?_
        refine lv_topi (fun v25 e25 => ?_)
        have k25 : v25.toInt = (1 : Int32).toInt := by rw [e25, eσ24, rs_self]
        refine lv_if_le (tgt := 40) S.1 S.2.1 dX5_told_35 (by decide) (fun c26 => ?_) (fun c26 => ?_)
        · have j26 := t_le c26
          exact absurd j26 (by omega)
        · have j26 := t_nle c26
          refine lv_iconst (v := 0) S.1 S.2.1 dX5_told_38 (by decide) ?_
          refine cW_iret S hr hk hH hS ?_ dX5_told_39
          exact ⟨0, rfl, hI, hP, rfl, by trivial⟩
set_option maxHeartbeats 4000000 in
set_option maxRecDepth 100000 in
theorem k_X5_waiting (l : Launch) (D : va_G) (B : Nat → ClassId) (L : QL) (A : Nat → Prop) (σ : QS) (τ : Int64) (a : Int32)  (hI : InvM σ) : cW cntM gM l D B L A yX5_waiting wsX5_waiting 1 20 [.ref (L 0 0), .int a] σ τ (pI (fun x σ' τ' => InvM σ' ∧ Keep [0] σ σ' ∧ τ' = τ ∧ True)) := by
  refine cW_of (cc := cX5_waiting) (nL := 4) (ret := (some .int)) (by decide) rfl (Nat.le_of_ble_eq_true rfl) ?_
  intro p e s m below meth c S hr hk K hH hS ls hl
  have hnX5 : ∀ w ∈ wsX50, w ∈ wsX5_waiting := fun w h => mG (tX5 w h)
  have lm1 : ((-1) : Int32).toInt = -1 := by decide
  have l0 : (0 : Int32).toInt = 0 := by decide
  have l1 : (1 : Int32).toInt = 1 := by decide
  have hP : Keep [0] σ σ := Keep_r
  have hl : lv_has ls 4 [(0, .ref (L 0 0)), (1, .int a)] := hl
  refine lv_aload_n S.1 S.2.1 dX5_waiting_0 rfl (lv_at hl 0 rfl) ?_
  refine lv_iconst (v := 0) S.1 S.2.1 dX5_waiting_1 (by decide) ?_
  refine pM_0_0 S hnX5 K hH hS (mG wd_337) dX5_waiting_2 (fun H locs hH hS => ?_)
  obtain ⟨σ1, eσ1⟩ : ∃ z_9 : QS, z_9 = rs σ 0 0 (fun _ => 0) := ⟨_, rfl⟩
  rw [← eσ1] at hH
  have hI := InvM_f eσ1 hI (by decide) (any32 _)
  have hP := Keep_w eσ1 hP (by decide)
  refine lv_iload_n S.1 S.2.1 dX5_waiting_5 rfl (lv_at hl 1 rfl) ?_
  refine cW_bpi (cW_S (n := 1) (As := [.int a]) (rest := []) S K hH (k_X5_isPlace l D B L A σ1 τ a ) gX5_waiting_X5_isPlace rfl hdS_X5_isPlace ⟨Nat.le_of_ble_eq_true rfl, Nat.le_of_ble_eq_true rfl⟩ rfl hl.1 (Nat.le_of_ble_eq_true rfl) dX5_waiting_6) hS (fun v2 H locs q2 hH hS => ?_)
  refine lv_if_ne (tgt := 14) S.1 S.2.1 dX5_waiting_9 (by decide) (fun c3 => ?_) (fun c3 => ?_)
  · have j3 := t_neq c3
    refine lv_iconst (v := 0) S.1 S.2.1 dX5_waiting_14 (by decide) ?_
    refine lv_istore_n (lv' := [(2, .int 0), (0, .ref (L 0 0)), (1, .int a)]) S.1 S.2.1 dX5_waiting_15 rfl hl (by decide) rfl (fun ls hl => ?_)
    refine lv_iconst (v := 0) S.1 S.2.1 dX5_waiting_16 (by decide) ?_
    refine lv_istore_n (lv' := [(3, .int 0), (2, .int 0), (0, .ref (L 0 0)), (1, .int a)]) S.1 S.2.1 dX5_waiting_17 rfl hl (by decide) rfl (fun ls hl => ?_)
    have cut_18_4 : ∀ (n : Nat) (x2_4 : Int32) (x3_4 : Int32) (σ_4 : QS) (H : Heap) (locs : List Loc) (ls : Array Slot), (60 - x3_4.toInt).toNat < n → 0 ≤ x3_4.toInt ∧ x3_4.toInt ≤ 60 → InvM σ_4 → Keep [0] σ σ_4 → hW cntM gM D B L σ_4 τ H → va_S A s.heap H locs → lv_has ls 4 [(0, .ref (L 0 0)), (1, .int a), (2, .int x2_4), (3, .int x3_4)] → W p l e { frames := 1, cells := 0, slots := 0, locals := 20 } s m [.ref (L 0 0), .int a].toArray below meth c H locs 0 0 (MQ below (QcW cntM gM D B L A (pI (fun x σ' τ' => InvM σ' ∧ Keep [0] σ σ' ∧ τ' = τ ∧ True))) [.ref (L 0 0), .int a].toArray s 0 0 A) (F0 m 18 ls []) := by
      intro n
      induction n with
      | zero => intro x2_4 x3_4 σ_4 H locs ls hm; exact absurd hm (Nat.not_lt_zero _)
      | succ n ih4 =>
        intro x2_4 x3_4 σ_4 H locs ls hm4 h4_0 hI hP hH hS hl
        refine lv_iload_n S.1 S.2.1 dX5_waiting_18 rfl (lv_at hl 3 rfl) ?_
        refine lv_aload_n S.1 S.2.1 dX5_waiting_19 rfl (lv_at hl 0 rfl) ?_
        refine rM_0_4 S hnX5 K hH (mG wd_336) dX5_waiting_20 ?_
        refine lv_topi (fun v5 e5 => ?_)
        have b5 : 0 ≤ v5.toInt ∧ v5.toInt ≤ 60 := by rw [e5]; exact hI.1 4 0 0
        refine lv_icmp_ge (tgt := 60) S.1 S.2.1 dX5_waiting_23 (by decide) (fun c6 => ?_) (fun c6 => ?_)
        · have j6 := t_le c6
          refine lv_iload_n S.1 S.2.1 dX5_waiting_60 rfl (lv_at hl 2 rfl) ?_
          refine cW_iret S hr hk hH hS ?_ dX5_waiting_61
          exact ⟨x2_4, rfl, hI, hP, rfl, by trivial⟩
        · have j6 := t_nle c6
          refine lv_iload_n S.1 S.2.1 dX5_waiting_26 rfl (lv_at hl 2 rfl) ?_
          refine lv_aload_n S.1 S.2.1 dX5_waiting_27 rfl (lv_at hl 0 rfl) ?_
          refine rM_0_20 S hnX5 K hH (mG wd_321) dX5_waiting_28 ?_
          refine lv_iload_n S.1 S.2.1 dX5_waiting_31 rfl (lv_at hl 3 rfl) ?_
          refine lM_20 S K hH (vin (by omega) (by omega)) dX5_waiting_32 ?_
          refine lv_topi (fun v7 e7 => ?_)
          have b7 : (-1) ≤ v7.toInt ∧ v7.toInt ≤ 11 := by rw [e7]; exact hI.1 20 0 x3_4.toNatClampNeg
          refine lv_iload_n S.1 S.2.1 dX5_waiting_33 rfl (lv_at hl 1 rfl) ?_
          refine lv_icmp_ne (tgt := 51) S.1 S.2.1 dX5_waiting_34 (by decide) (fun c8 => ?_) (fun c8 => ?_)
          · have j8 := t_neq c8
            refine lv_iconst (v := 0) S.1 S.2.1 dX5_waiting_51 (by decide) ?_
            refine lv_iadd S.1 S.2.1 dX5_waiting_52 ?_
            have y9 := any32 x2_4
            refine lv_topi (fun v10 e10 => ?_)
            have i10 : v10.toInt = x2_4.toInt + (0 : Int32).toInt := i_add e10 (by omega) (by omega)
            refine lv_istore_n (lv' := [(2, .int v10), (0, .ref (L 0 0)), (1, .int a), (3, .int x3_4)]) S.1 S.2.1 dX5_waiting_53 rfl hl (by decide) rfl (fun ls hl => ?_)
            obtain ⟨v11, e11⟩ : ∃ y_9 : Int32, y_9 = x3_4 + 1 := ⟨_, rfl⟩
            have i11 : v11.toInt = x3_4.toInt + 1 := i_addc e11 (by decide) (by omega) (by omega)
            refine lv_iinc (v := v11) (lv' := [(3, .int v11), (2, .int v10), (0, .ref (L 0 0)), (1, .int a)]) S.1 S.2.1 dX5_waiting_54 hl (k := 3) rfl (by rw [e11]; rfl) (by decide) rfl (fun ls hl => ?_)
            refine lv_goto (tgt := 18) S.1 S.2.1 dX5_waiting_57 (by decide) ?_
            exact ih4 v10 v11 σ_4 _ _ ls (by omega) (by omega) hI hP hH hS (lv_sub hl [2, 3, 1, 0] rfl)
          · have j8 := t_eq c8
            refine lv_aload_n S.1 S.2.1 dX5_waiting_37 rfl (lv_at hl 0 rfl) ?_
            refine rM_0_25 S hnX5 K hH (mG wd_326) dX5_waiting_38 ?_
            refine lv_iload_n S.1 S.2.1 dX5_waiting_41 rfl (lv_at hl 3 rfl) ?_
            refine lM_25 S K hH (vin (by omega) (by omega)) dX5_waiting_42 ?_
            refine lv_topi (fun v12 e12 => ?_)
            refine lv_iconst (v := (-1)) S.1 S.2.1 dX5_waiting_43 (by decide) ?_
            refine lv_icmp_ne (tgt := 51) S.1 S.2.1 dX5_waiting_44 (by decide) (fun c13 => ?_) (fun c13 => ?_)
            · have j13 := t_neq c13
              refine lv_iconst (v := 0) S.1 S.2.1 dX5_waiting_51 (by decide) ?_
              refine lv_iadd S.1 S.2.1 dX5_waiting_52 ?_
              have y14 := any32 x2_4
              refine lv_topi (fun v15 e15 => ?_)
              have i15 : v15.toInt = x2_4.toInt + (0 : Int32).toInt := i_add e15 (by omega) (by omega)
              refine lv_istore_n (lv' := [(2, .int v15), (0, .ref (L 0 0)), (1, .int a), (3, .int x3_4)]) S.1 S.2.1 dX5_waiting_53 rfl hl (by decide) rfl (fun ls hl => ?_)
              obtain ⟨v16, e16⟩ : ∃ y_9 : Int32, y_9 = x3_4 + 1 := ⟨_, rfl⟩
              have i16 : v16.toInt = x3_4.toInt + 1 := i_addc e16 (by decide) (by omega) (by omega)
              refine lv_iinc (v := v16) (lv' := [(3, .int v16), (2, .int v15), (0, .ref (L 0 0)), (1, .int a)]) S.1 S.2.1 dX5_waiting_54 hl (k := 3) rfl (by rw [e16]; rfl) (by decide) rfl (fun ls hl => ?_)
              refine lv_goto (tgt := 18) S.1 S.2.1 dX5_waiting_57 (by decide) ?_
              exact ih4 v15 v16 σ_4 _ _ ls (by omega) (by omega) hI hP hH hS (lv_sub hl [2, 3, 1, 0] rfl)
            · have j13 := t_eq c13
              refine lv_iconst (v := 1) S.1 S.2.1 dX5_waiting_47 (by decide) ?_
              refine lv_goto (tgt := 52) S.1 S.2.1 dX5_waiting_48 (by decide) ?_
              refine lv_iadd S.1 S.2.1 dX5_waiting_52 ?_
              refine lv_topi (fun v17 e17 => ?_)
              refine lv_istore_n (lv' := [(2, .int v17), (0, .ref (L 0 0)), (1, .int a), (3, .int x3_4)]) S.1 S.2.1 dX5_waiting_53 rfl hl (by decide) rfl (fun ls hl => ?_)
              obtain ⟨v18, e18⟩ : ∃ y_9 : Int32, y_9 = x3_4 + 1 := ⟨_, rfl⟩
              have i18 : v18.toInt = x3_4.toInt + 1 := i_addc e18 (by decide) (by omega) (by omega)
              refine lv_iinc (v := v18) (lv' := [(3, .int v18), (2, .int v17), (0, .ref (L 0 0)), (1, .int a)]) S.1 S.2.1 dX5_waiting_54 hl (k := 3) rfl (by rw [e18]; rfl) (by decide) rfl (fun ls hl => ?_)
              refine lv_goto (tgt := 18) S.1 S.2.1 dX5_waiting_57 (by decide) ?_
              exact ih4 v17 v18 σ_4 _ _ ls (by omega) (by omega) hI hP hH hS (lv_sub hl [2, 3, 1, 0] rfl)
    exact cut_18_4 _ 0 0 σ1 _ _ ls (Nat.lt_succ_self _) (by omega) hI hP hH hS (lv_sub hl [2, 3, 1, 0] rfl)
  · have j3 := t_eq c3
    refine lv_iconst (v := (-1)) S.1 S.2.1 dX5_waiting_12 (by decide) ?_
    refine cW_iret S hr hk hH hS ?_ dX5_waiting_13
    exact ⟨(-1), rfl, hI, hP, rfl, by trivial⟩
set_option maxHeartbeats 4000000 in
set_option maxRecDepth 100000 in
theorem k_X5_fares (l : Launch) (D : va_G) (B : Nat → ClassId) (L : QL) (A : Nat → Prop) (σ : QS) (τ : Int64) (a : Int32)  (hI : InvM σ) : cW cntM gM l D B L A yX5_fares wsX5_fares 1 21 [.ref (L 0 0), .int a] σ τ (pI (fun x σ' τ' => InvM σ' ∧ Keep [0] σ σ' ∧ τ' = τ ∧ True)) := by
  refine cW_of (cc := cX5_fares) (nL := 2) (ret := (some .int)) (by decide) rfl (Nat.le_of_ble_eq_true rfl) ?_
  intro p e s m below meth c S hr hk K hH hS ls hl
  have hnX5 : ∀ w ∈ wsX50, w ∈ wsX5_fares := fun w h => mG (tX5 w h)
  have lm1 : ((-1) : Int32).toInt = -1 := by decide
  have l0 : (0 : Int32).toInt = 0 := by decide
  have hP : Keep [0] σ σ := Keep_r
  have hl : lv_has ls 2 [(0, .ref (L 0 0)), (1, .int a)] := hl
  refine lv_aload_n S.1 S.2.1 dX5_fares_0 rfl (lv_at hl 0 rfl) ?_
  refine lv_iconst (v := 0) S.1 S.2.1 dX5_fares_1 (by decide) ?_
  refine pM_0_0 S hnX5 K hH hS (mG wd_337) dX5_fares_2 (fun H locs hH hS => ?_)
  obtain ⟨σ1, eσ1⟩ : ∃ z_9 : QS, z_9 = rs σ 0 0 (fun _ => 0) := ⟨_, rfl⟩
  rw [← eσ1] at hH
  have hI := InvM_f eσ1 hI (by decide) (any32 _)
  have hP := Keep_w eσ1 hP (by decide)
  refine lv_aload_n S.1 S.2.1 dX5_fares_5 rfl (lv_at hl 0 rfl) ?_
  refine lv_iload_n S.1 S.2.1 dX5_fares_6 rfl (lv_at hl 1 rfl) ?_
  refine cW_bpi (cW_V (n := 1) (As := [.int a]) (rest := []) (k := 0) (i := 0) S K hH (by decide) rfl rfl (k_X5_isCart l D B L A σ1 τ a hI) gX5_fares_X5_isCart rfl hdV_X5_isCart ⟨Nat.le_of_ble_eq_true rfl, Nat.le_of_ble_eq_true rfl⟩ rfl hl.1 (Nat.le_of_ble_eq_true rfl) dX5_fares_7) hS (fun v2 H locs q2 hH hS => ?_)
  refine lv_if_eq (tgt := 22) S.1 S.2.1 dX5_fares_10 (by decide) (fun c3 => ?_) (fun c3 => ?_)
  · have j3 := t_eq c3
    refine lv_iconst (v := (-1)) S.1 S.2.1 dX5_fares_22 (by decide) ?_
    refine cW_iret S hr hk hH hS ?_ dX5_fares_23
    exact ⟨(-1), rfl, hI, hP, rfl, by trivial⟩
  · have j3 := t_neq c3
    refine lv_aload_n S.1 S.2.1 dX5_fares_13 rfl (lv_at hl 0 rfl) ?_
    refine rM_0_10 S hnX5 K hH (mG wd_308) dX5_fares_14 ?_
    refine lv_iload_n S.1 S.2.1 dX5_fares_17 rfl (lv_at hl 1 rfl) ?_
    refine lM_10 S K hH (vin (by omega) (by omega)) dX5_fares_18 ?_
    refine lv_topi (fun v4 e4 => ?_)
    refine lv_goto (tgt := 23) S.1 S.2.1 dX5_fares_19 (by decide) ?_
    refine cW_iret S hr hk hH hS ?_ dX5_fares_23
    exact ⟨v4, rfl, hI, hP, rfl, by trivial⟩
set_option maxHeartbeats 4000000 in
set_option maxRecDepth 100000 in
theorem k_X5_room (l : Launch) (D : va_G) (B : Nat → ClassId) (L : QL) (A : Nat → Prop) (σ : QS) (τ : Int64) (a : Int32) (b : Int32)  (hI : InvM σ) : cW cntM gM l D B L A yX5_room wsX5_room 1 24 [.ref (L 0 0), .int a, .int b] σ τ (pI (fun x σ' τ' => InvM σ' ∧ Keep [0] σ σ' ∧ τ' = τ ∧ True)) := by
  refine cW_of (cc := cX5_room) (nL := 3) (ret := (some .int)) (by decide) rfl (Nat.le_of_ble_eq_true rfl) ?_
  intro p e s m below meth c S hr hk K hH hS ls hl
  have hnX5 : ∀ w ∈ wsX50, w ∈ wsX5_room := fun w h => mG (tX5 w h)
  have lm1 : ((-1) : Int32).toInt = -1 := by decide
  have l0 : (0 : Int32).toInt = 0 := by decide
  have l300 : (300 : Int32).toInt = 300 := by decide
  have hP : Keep [0] σ σ := Keep_r
  have hl : lv_has ls 3 [(0, .ref (L 0 0)), (1, .int a), (2, .int b)] := hl
  refine lv_aload_n S.1 S.2.1 dX5_room_0 rfl (lv_at hl 0 rfl) ?_
  refine lv_iconst (v := 0) S.1 S.2.1 dX5_room_1 (by decide) ?_
  refine pM_0_0 S hnX5 K hH hS (mG wd_337) dX5_room_2 (fun H locs hH hS => ?_)
  obtain ⟨σ1, eσ1⟩ : ∃ z_9 : QS, z_9 = rs σ 0 0 (fun _ => 0) := ⟨_, rfl⟩
  rw [← eσ1] at hH
  have hI := InvM_f eσ1 hI (by decide) (any32 _)
  have hP := Keep_w eσ1 hP (by decide)
  refine lv_aload_n S.1 S.2.1 dX5_room_5 rfl (lv_at hl 0 rfl) ?_
  refine lv_iload_n S.1 S.2.1 dX5_room_6 rfl (lv_at hl 1 rfl) ?_
  refine cW_bpi (cW_V (n := 1) (As := [.int a]) (rest := []) (k := 0) (i := 0) S K hH (by decide) rfl rfl (k_X5_isCart l D B L A σ1 τ a hI) gX5_room_X5_isCart rfl hdV_X5_isCart ⟨Nat.le_of_ble_eq_true rfl, Nat.le_of_ble_eq_true rfl⟩ rfl hl.1 (Nat.le_of_ble_eq_true rfl) dX5_room_7) hS (fun v2 H locs q2 hH hS => ?_)
  refine lv_if_eq (tgt := 42) S.1 S.2.1 dX5_room_10 (by decide) (fun c3 => ?_) (fun c3 => ?_)
  · have j3 := t_eq c3
    refine lv_iconst (v := (-1)) S.1 S.2.1 dX5_room_42 (by decide) ?_
    refine cW_iret S hr hk hH hS ?_ dX5_room_43
    exact ⟨(-1), rfl, hI, hP, rfl, by trivial⟩
  · have j3 := t_neq c3
    refine lv_iload_n S.1 S.2.1 dX5_room_13 rfl (lv_at hl 2 rfl) ?_
    refine lv_iconst (v := 0) S.1 S.2.1 dX5_room_14 (by decide) ?_
    refine lv_sipush (v := 300) S.1 S.2.1 dX5_room_15 (by decide) ?_
    refine cW_bpi (cW_S (n := 3) (As := [.int b, .int 0, .int 300]) (rest := []) S K hH (k_X5_isIn l D B L A σ1 τ b 0 300 ) gX5_room_X5_isIn rfl hdS_X5_isIn ⟨Nat.le_of_ble_eq_true rfl, Nat.le_of_ble_eq_true rfl⟩ rfl hl.1 (Nat.le_of_ble_eq_true rfl) dX5_room_18) hS (fun v4 H locs q4 hH hS => ?_)
    refine lv_if_eq (tgt := 42) S.1 S.2.1 dX5_room_21 (by decide) (fun c5 => ?_) (fun c5 => ?_)
    · have j5 := t_eq c5
      refine lv_iconst (v := (-1)) S.1 S.2.1 dX5_room_42 (by decide) ?_
      refine cW_iret S hr hk hH hS ?_ dX5_room_43
      exact ⟨(-1), rfl, hI, hP, rfl, by trivial⟩
    · have j5 := t_neq c5
      refine lv_aload_n S.1 S.2.1 dX5_room_24 rfl (lv_at hl 0 rfl) ?_
      refine lv_iload_n S.1 S.2.1 dX5_room_25 rfl (lv_at hl 1 rfl) ?_
      refine lv_iload_n S.1 S.2.1 dX5_room_26 rfl (lv_at hl 2 rfl) ?_
      refine cW_bpi (cW_V (n := 2) (As := [.int a, .int b]) (rest := []) (k := 0) (i := 0) S K hH (by decide) rfl rfl (k_X5_isRun l D B L A σ1 τ a b (by omega) (by omega)) gX5_room_X5_isRun rfl hdV_X5_isRun ⟨Nat.le_of_ble_eq_true rfl, Nat.le_of_ble_eq_true rfl⟩ rfl hl.1 (Nat.le_of_ble_eq_true rfl) dX5_room_27) hS (fun v6 H locs q6 hH hS => ?_)
      refine lv_if_eq (tgt := 42) S.1 S.2.1 dX5_room_30 (by decide) (fun c7 => ?_) (fun c7 => ?_)
      · have j7 := t_eq c7
        refine lv_iconst (v := (-1)) S.1 S.2.1 dX5_room_42 (by decide) ?_
        refine cW_iret S hr hk hH hS ?_ dX5_room_43
        exact ⟨(-1), rfl, hI, hP, rfl, by trivial⟩
      · have j7 := t_neq c7
        refine lv_aload_n S.1 S.2.1 dX5_room_33 rfl (lv_at hl 0 rfl) ?_
        refine lv_iload_n S.1 S.2.1 dX5_room_34 rfl (lv_at hl 1 rfl) ?_
        refine lv_iload_n S.1 S.2.1 dX5_room_35 rfl (lv_at hl 2 rfl) ?_
        refine cW_bpi (cW_V (n := 2) (As := [.int a, .int b]) (rest := []) (k := 0) (i := 0) S K hH (by decide) rfl rfl (k_X5_roomLeft l D B L A σ1 τ a b (by omega) hI) gX5_room_X5_roomLeft rfl hdV_X5_roomLeft ⟨Nat.le_of_ble_eq_true rfl, Nat.le_of_ble_eq_true rfl⟩ rfl hl.1 (Nat.le_of_ble_eq_true rfl) dX5_room_36) hS (fun v8 H locs q8 hH hS => ?_)
        refine lv_goto (tgt := 43) S.1 S.2.1 dX5_room_39 (by decide) ?_
        refine cW_iret S hr hk hH hS ?_ dX5_room_43
        exact ⟨v8, rfl, hI, hP, rfl, by trivial⟩
set_option maxHeartbeats 4000000 in
set_option maxRecDepth 100000 in
theorem k_X5_walk (l : Launch) (D : va_G) (B : Nat → ClassId) (L : QL) (A : Nat → Prop) (σ : QS) (τ : Int64) (a : Int32) (b : Int32) (z : Int32)  (hI : InvM σ) : cW cntM gM l D B L A yX5_walk wsX5_walk 1 22 [.ref (L 0 0), .int a, .int b, .int z] σ τ (pI (fun x σ' τ' => InvM σ' ∧ Keep [0, 27] σ σ' ∧ τ' = τ ∧ ((x.toInt = 1 ∧ (0 ≤ a.toInt ∧ a.toInt ≤ 8 ∧ 0 ≤ b.toInt ∧ b.toInt ≤ 8 ∧ a.toInt ≠ b.toInt ∧ 0 ≤ z.toInt ∧ z.toInt ≤ 60) ∧ σ' 27 0 = upd (upd (σ 27 0) (9 * a.toNatClampNeg + b.toNatClampNeg) z) (9 * b.toNatClampNeg + a.toNatClampNeg) z) ∨ (x.toInt = 0 ∧ ¬ (0 ≤ a.toInt ∧ a.toInt ≤ 8 ∧ 0 ≤ b.toInt ∧ b.toInt ≤ 8 ∧ a.toInt ≠ b.toInt ∧ 0 ≤ z.toInt ∧ z.toInt ≤ 60) ∧ σ' 27 = σ 27)))) := by
  refine cW_of (cc := cX5_walk) (nL := 4) (ret := (some .boolean)) (by decide) rfl (Nat.le_of_ble_eq_true rfl) ?_
  intro p e s m below meth c S hr hk K hH hS ls hl
  have hnX5 : ∀ w ∈ wsX50, w ∈ wsX5_walk := fun w h => mG (tX5 w h)
  have l0 : (0 : Int32).toInt = 0 := by decide
  have l1 : (1 : Int32).toInt = 1 := by decide
  have l8 : (8 : Int32).toInt = 8 := by decide
  have l9 : (9 : Int32).toInt = 9 := by decide
  have l60 : (60 : Int32).toInt = 60 := by decide
  have hP : Keep [0, 27] σ σ := Keep_r
  have hl : lv_has ls 4 [(0, .ref (L 0 0)), (1, .int a), (2, .int b), (3, .int z)] := hl
  refine lv_aload_n S.1 S.2.1 dX5_walk_0 rfl (lv_at hl 0 rfl) ?_
  refine lv_iconst (v := 0) S.1 S.2.1 dX5_walk_1 (by decide) ?_
  refine pM_0_0 S hnX5 K hH hS (mG wd_337) dX5_walk_2 (fun H locs hH hS => ?_)
  obtain ⟨σ1, eσ1⟩ : ∃ z_9 : QS, z_9 = rs σ 0 0 (fun _ => 0) := ⟨_, rfl⟩
  rw [← eσ1] at hH
  have hI := InvM_f eσ1 hI (by decide) (any32 _)
  have hP := Keep_w eσ1 hP (by decide)
  refine lv_iload_n S.1 S.2.1 dX5_walk_5 rfl (lv_at hl 1 rfl) ?_
  refine lv_iconst (v := 0) S.1 S.2.1 dX5_walk_6 (by decide) ?_
  refine lv_bipush (v := 8) S.1 S.2.1 dX5_walk_7 (by decide) ?_
  refine cW_bpi (cW_S (n := 3) (As := [.int a, .int 0, .int 8]) (rest := []) S K hH (k_X5_isIn l D B L A σ1 τ a 0 8 ) gX5_walk_X5_isIn rfl hdS_X5_isIn ⟨Nat.le_of_ble_eq_true rfl, Nat.le_of_ble_eq_true rfl⟩ rfl hl.1 (Nat.le_of_ble_eq_true rfl) dX5_walk_9) hS (fun v2 H locs q2 hH hS => ?_)
  refine lv_if_eq (tgt := 40) S.1 S.2.1 dX5_walk_12 (by decide) (fun c3 => ?_) (fun c3 => ?_)
  · have j3 := t_eq c3
    refine lv_iconst (v := 0) S.1 S.2.1 dX5_walk_40 (by decide) ?_
    refine cW_zret S hr hk hH hS (by decide) ?_ dX5_walk_41
    exact ⟨0, rfl, hI, hP, rfl, by exact Or.inr ⟨by decide, by omega, by rw [eσ1, rs_v (by decide)]⟩⟩
  · have j3 := t_neq c3
    refine lv_iload_n S.1 S.2.1 dX5_walk_15 rfl (lv_at hl 2 rfl) ?_
    refine lv_iconst (v := 0) S.1 S.2.1 dX5_walk_16 (by decide) ?_
    refine lv_bipush (v := 8) S.1 S.2.1 dX5_walk_17 (by decide) ?_
    refine cW_bpi (cW_S (n := 3) (As := [.int b, .int 0, .int 8]) (rest := []) S K hH (k_X5_isIn l D B L A σ1 τ b 0 8 ) gX5_walk_X5_isIn rfl hdS_X5_isIn ⟨Nat.le_of_ble_eq_true rfl, Nat.le_of_ble_eq_true rfl⟩ rfl hl.1 (Nat.le_of_ble_eq_true rfl) dX5_walk_19) hS (fun v4 H locs q4 hH hS => ?_)
    refine lv_if_eq (tgt := 40) S.1 S.2.1 dX5_walk_22 (by decide) (fun c5 => ?_) (fun c5 => ?_)
    · have j5 := t_eq c5
      refine lv_iconst (v := 0) S.1 S.2.1 dX5_walk_40 (by decide) ?_
      refine cW_zret S hr hk hH hS (by decide) ?_ dX5_walk_41
      exact ⟨0, rfl, hI, hP, rfl, by exact Or.inr ⟨by decide, by omega, by rw [eσ1, rs_v (by decide)]⟩⟩
    · have j5 := t_neq c5
      refine lv_iload_n S.1 S.2.1 dX5_walk_25 rfl (lv_at hl 1 rfl) ?_
      refine lv_iload_n S.1 S.2.1 dX5_walk_26 rfl (lv_at hl 2 rfl) ?_
      refine lv_icmp_eq (tgt := 40) S.1 S.2.1 dX5_walk_27 (by decide) (fun c6 => ?_) (fun c6 => ?_)
      · have j6 := t_eq c6
        refine lv_iconst (v := 0) S.1 S.2.1 dX5_walk_40 (by decide) ?_
        refine cW_zret S hr hk hH hS (by decide) ?_ dX5_walk_41
        exact ⟨0, rfl, hI, hP, rfl, by exact Or.inr ⟨by decide, by omega, by rw [eσ1, rs_v (by decide)]⟩⟩
      · have j6 := t_neq c6
        refine lv_iload_n S.1 S.2.1 dX5_walk_30 rfl (lv_at hl 3 rfl) ?_
        refine lv_iconst (v := 0) S.1 S.2.1 dX5_walk_31 (by decide) ?_
        refine lv_bipush (v := 60) S.1 S.2.1 dX5_walk_32 (by decide) ?_
        refine cW_bpi (cW_S (n := 3) (As := [.int z, .int 0, .int 60]) (rest := []) S K hH (k_X5_isIn l D B L A σ1 τ z 0 60 ) gX5_walk_X5_isIn rfl hdS_X5_isIn ⟨Nat.le_of_ble_eq_true rfl, Nat.le_of_ble_eq_true rfl⟩ rfl hl.1 (Nat.le_of_ble_eq_true rfl) dX5_walk_34) hS (fun v7 H locs q7 hH hS => ?_)
        refine lv_if_ne (tgt := 42) S.1 S.2.1 dX5_walk_37 (by decide) (fun c8 => ?_) (fun c8 => ?_)
        · have j8 := t_neq c8
          refine lv_aload_n S.1 S.2.1 dX5_walk_42 rfl (lv_at hl 0 rfl) ?_
          refine rM_0_27 S hnX5 K hH (mG wd_328) dX5_walk_43 ?_
          refine lv_bipush (v := 9) S.1 S.2.1 dX5_walk_46 (by decide) ?_
          refine lv_iload_n S.1 S.2.1 dX5_walk_48 rfl (lv_at hl 1 rfl) ?_
          refine lv_imul S.1 S.2.1 dX5_walk_49 ?_
          refine lv_topi (fun v9 e9 => ?_)
          have i9 : v9.toInt = 9 * a.toInt := i_mulcl e9 (by decide) (by omega) (by omega)
          refine lv_iload_n S.1 S.2.1 dX5_walk_50 rfl (lv_at hl 2 rfl) ?_
          refine lv_iadd S.1 S.2.1 dX5_walk_51 ?_
          refine lv_topi (fun v10 e10 => ?_)
          have i10 : v10.toInt = v9.toInt + b.toInt := i_add e10 (by omega) (by omega)
          refine lv_iload_n S.1 S.2.1 dX5_walk_52 rfl (lv_at hl 3 rfl) ?_
          refine sM_27 S K hH hS (vin (by omega) (by omega)) dX5_walk_53 (fun H locs hH hS => ?_)
          obtain ⟨σ11, eσ11⟩ : ∃ z_9 : QS, z_9 = rs σ1 27 0 (upd (σ1 27 0) v10.toNatClampNeg z) := ⟨_, rfl⟩
          rw [← eσ11] at hH
          have hI := InvM_a eσ11 hI (by decide) (show (0 : Int) ≤ z.toInt ∧ z.toInt ≤ 60 by omega)
          have hP := Keep_w eσ11 hP (by decide)
          refine lv_aload_n S.1 S.2.1 dX5_walk_54 rfl (lv_at hl 0 rfl) ?_
          refine rM_0_27 S hnX5 K hH (mG wd_328) dX5_walk_55 ?_
          refine lv_bipush (v := 9) S.1 S.2.1 dX5_walk_58 (by decide) ?_
          refine lv_iload_n S.1 S.2.1 dX5_walk_60 rfl (lv_at hl 2 rfl) ?_
          refine lv_imul S.1 S.2.1 dX5_walk_61 ?_
          refine lv_topi (fun v12 e12 => ?_)
          have i12 : v12.toInt = 9 * b.toInt := i_mulcl e12 (by decide) (by omega) (by omega)
          refine lv_iload_n S.1 S.2.1 dX5_walk_62 rfl (lv_at hl 1 rfl) ?_
          refine lv_iadd S.1 S.2.1 dX5_walk_63 ?_
          refine lv_topi (fun v13 e13 => ?_)
          have i13 : v13.toInt = v12.toInt + a.toInt := i_add e13 (by omega) (by omega)
          refine lv_iload_n S.1 S.2.1 dX5_walk_64 rfl (lv_at hl 3 rfl) ?_
          refine sM_27 S K hH hS (vin (by omega) (by omega)) dX5_walk_65 (fun H locs hH hS => ?_)
          obtain ⟨σ14, eσ14⟩ : ∃ z_9 : QS, z_9 = rs σ11 27 0 (upd (σ11 27 0) v13.toNatClampNeg z) := ⟨_, rfl⟩
          rw [← eσ14] at hH
          have hI := InvM_a eσ14 hI (by decide) (show (0 : Int) ≤ z.toInt ∧ z.toInt ≤ 60 by omega)
          have hP := Keep_w eσ14 hP (by decide)
          refine lv_iconst (v := 1) S.1 S.2.1 dX5_walk_66 (by decide) ?_
          refine cW_zret S hr hk hH hS (by decide) ?_ dX5_walk_67
          exact ⟨1, rfl, hI, hP, rfl, by refine Or.inl ⟨by decide, by omega, ?_⟩; rw [eσ14, rs_self, eσ11, rs_self, eσ1, rs_v (by decide), ix9 i9 i10 (by omega) (by omega), ix9 i12 i13 (by omega) (by omega)]⟩
        · have j8 := t_eq c8
          refine lv_iconst (v := 0) S.1 S.2.1 dX5_walk_40 (by decide) ?_
          refine cW_zret S hr hk hH hS (by decide) ?_ dX5_walk_41
          exact ⟨0, rfl, hI, hP, rfl, by exact Or.inr ⟨by decide, by omega, by rw [eσ1, rs_v (by decide)]⟩⟩
set_option maxHeartbeats 4000000 in
set_option maxRecDepth 100000 in
theorem k_X5_errand (l : Launch) (D : va_G) (B : Nat → ClassId) (L : QL) (A : Nat → Prop) (σ : QS) (τ : Int64) (a : Int32) (b : Int32) (z : Int32)  (hI : InvM σ) : cW cntM gM l D B L A yX5_errand wsX5_errand 1 22 [.ref (L 0 0), .int a, .int b, .int z] σ τ (pI (fun x σ' τ' => InvM σ' ∧ Keep [0, 28, 29, 32] σ σ' ∧ τ' = τ ∧ ((x.toInt = 1 ∧ (1 ≤ a.toInt ∧ a.toInt ≤ 8 ∧ 0 ≤ b.toInt ∧ b.toInt ≤ 60 ∧ 0 ≤ z.toInt ∧ z.toInt ≤ 100) ∧ σ' 28 0 = upd (σ 28 0) a.toNatClampNeg b ∧ σ' 29 0 = upd (σ 29 0) a.toNatClampNeg z ∧ σ' 32 0 = upd (σ 32 0) a.toNatClampNeg 1) ∨ (x.toInt = 0 ∧ ¬ (1 ≤ a.toInt ∧ a.toInt ≤ 8 ∧ 0 ≤ b.toInt ∧ b.toInt ≤ 60 ∧ 0 ≤ z.toInt ∧ z.toInt ≤ 100) ∧ σ' 28 = σ 28 ∧ σ' 29 = σ 29 ∧ σ' 32 = σ 32)))) := by
  refine cW_of (cc := cX5_errand) (nL := 4) (ret := (some .boolean)) (by decide) rfl (Nat.le_of_ble_eq_true rfl) ?_
  intro p e s m below meth c S hr hk K hH hS ls hl
  have hnX5 : ∀ w ∈ wsX50, w ∈ wsX5_errand := fun w h => mG (tX5 w h)
  have l0 : (0 : Int32).toInt = 0 := by decide
  have l1 : (1 : Int32).toInt = 1 := by decide
  have l8 : (8 : Int32).toInt = 8 := by decide
  have l60 : (60 : Int32).toInt = 60 := by decide
  have l100 : (100 : Int32).toInt = 100 := by decide
  have hP : Keep [0, 28, 29, 32] σ σ := Keep_r
  have hl : lv_has ls 4 [(0, .ref (L 0 0)), (1, .int a), (2, .int b), (3, .int z)] := hl
  refine lv_aload_n S.1 S.2.1 dX5_errand_0 rfl (lv_at hl 0 rfl) ?_
  refine lv_iconst (v := 0) S.1 S.2.1 dX5_errand_1 (by decide) ?_
  refine pM_0_0 S hnX5 K hH hS (mG wd_337) dX5_errand_2 (fun H locs hH hS => ?_)
  obtain ⟨σ1, eσ1⟩ : ∃ z_9 : QS, z_9 = rs σ 0 0 (fun _ => 0) := ⟨_, rfl⟩
  rw [← eσ1] at hH
  have hI := InvM_f eσ1 hI (by decide) (any32 _)
  have hP := Keep_w eσ1 hP (by decide)
  refine lv_iload_n S.1 S.2.1 dX5_errand_5 rfl (lv_at hl 1 rfl) ?_
  refine lv_iconst (v := 1) S.1 S.2.1 dX5_errand_6 (by decide) ?_
  refine lv_bipush (v := 8) S.1 S.2.1 dX5_errand_7 (by decide) ?_
  refine cW_bpi (cW_S (n := 3) (As := [.int a, .int 1, .int 8]) (rest := []) S K hH (k_X5_isIn l D B L A σ1 τ a 1 8 ) gX5_errand_X5_isIn rfl hdS_X5_isIn ⟨Nat.le_of_ble_eq_true rfl, Nat.le_of_ble_eq_true rfl⟩ rfl hl.1 (Nat.le_of_ble_eq_true rfl) dX5_errand_9) hS (fun v2 H locs q2 hH hS => ?_)
  refine lv_if_eq (tgt := 35) S.1 S.2.1 dX5_errand_12 (by decide) (fun c3 => ?_) (fun c3 => ?_)
  · have j3 := t_eq c3
    refine lv_iconst (v := 0) S.1 S.2.1 dX5_errand_35 (by decide) ?_
    refine cW_zret S hr hk hH hS (by decide) ?_ dX5_errand_36
    exact ⟨0, rfl, hI, hP, rfl, by exact Or.inr ⟨by decide, by omega, by rw [eσ1, rs_v (by decide)], by rw [eσ1, rs_v (by decide)], by rw [eσ1, rs_v (by decide)]⟩⟩
  · have j3 := t_neq c3
    refine lv_iload_n S.1 S.2.1 dX5_errand_15 rfl (lv_at hl 2 rfl) ?_
    refine lv_iconst (v := 0) S.1 S.2.1 dX5_errand_16 (by decide) ?_
    refine lv_bipush (v := 60) S.1 S.2.1 dX5_errand_17 (by decide) ?_
    refine cW_bpi (cW_S (n := 3) (As := [.int b, .int 0, .int 60]) (rest := []) S K hH (k_X5_isIn l D B L A σ1 τ b 0 60 ) gX5_errand_X5_isIn rfl hdS_X5_isIn ⟨Nat.le_of_ble_eq_true rfl, Nat.le_of_ble_eq_true rfl⟩ rfl hl.1 (Nat.le_of_ble_eq_true rfl) dX5_errand_19) hS (fun v4 H locs q4 hH hS => ?_)
    refine lv_if_eq (tgt := 35) S.1 S.2.1 dX5_errand_22 (by decide) (fun c5 => ?_) (fun c5 => ?_)
    · have j5 := t_eq c5
      refine lv_iconst (v := 0) S.1 S.2.1 dX5_errand_35 (by decide) ?_
      refine cW_zret S hr hk hH hS (by decide) ?_ dX5_errand_36
      exact ⟨0, rfl, hI, hP, rfl, by exact Or.inr ⟨by decide, by omega, by rw [eσ1, rs_v (by decide)], by rw [eσ1, rs_v (by decide)], by rw [eσ1, rs_v (by decide)]⟩⟩
    · have j5 := t_neq c5
      refine lv_iload_n S.1 S.2.1 dX5_errand_25 rfl (lv_at hl 3 rfl) ?_
      refine lv_iconst (v := 0) S.1 S.2.1 dX5_errand_26 (by decide) ?_
      refine lv_bipush (v := 100) S.1 S.2.1 dX5_errand_27 (by decide) ?_
      refine cW_bpi (cW_S (n := 3) (As := [.int z, .int 0, .int 100]) (rest := []) S K hH (k_X5_isIn l D B L A σ1 τ z 0 100 ) gX5_errand_X5_isIn rfl hdS_X5_isIn ⟨Nat.le_of_ble_eq_true rfl, Nat.le_of_ble_eq_true rfl⟩ rfl hl.1 (Nat.le_of_ble_eq_true rfl) dX5_errand_29) hS (fun v6 H locs q6 hH hS => ?_)
      refine lv_if_ne (tgt := 37) S.1 S.2.1 dX5_errand_32 (by decide) (fun c7 => ?_) (fun c7 => ?_)
      · have j7 := t_neq c7
        refine lv_aload_n S.1 S.2.1 dX5_errand_37 rfl (lv_at hl 0 rfl) ?_
        refine rM_0_28 S hnX5 K hH (mG wd_329) dX5_errand_38 ?_
        refine lv_iload_n S.1 S.2.1 dX5_errand_41 rfl (lv_at hl 1 rfl) ?_
        refine lv_iload_n S.1 S.2.1 dX5_errand_42 rfl (lv_at hl 2 rfl) ?_
        refine sM_28 S K hH hS (vin (by omega) (by omega)) dX5_errand_43 (fun H locs hH hS => ?_)
        obtain ⟨σ8, eσ8⟩ : ∃ z_9 : QS, z_9 = rs σ1 28 0 (upd (σ1 28 0) a.toNatClampNeg b) := ⟨_, rfl⟩
        rw [← eσ8] at hH
        have hI := InvM_a eσ8 hI (by decide) (show (0 : Int) ≤ b.toInt ∧ b.toInt ≤ 60 by omega)
        have hP := Keep_w eσ8 hP (by decide)
        refine lv_aload_n S.1 S.2.1 dX5_errand_44 rfl (lv_at hl 0 rfl) ?_
        refine rM_0_29 S hnX5 K hH (mG wd_330) dX5_errand_45 ?_
        refine lv_iload_n S.1 S.2.1 dX5_errand_48 rfl (lv_at hl 1 rfl) ?_
        refine lv_iload_n S.1 S.2.1 dX5_errand_49 rfl (lv_at hl 3 rfl) ?_
        refine sM_29 S K hH hS (vin (by omega) (by omega)) dX5_errand_50 (fun H locs hH hS => ?_)
        obtain ⟨σ9, eσ9⟩ : ∃ z_9 : QS, z_9 = rs σ8 29 0 (upd (σ8 29 0) a.toNatClampNeg z) := ⟨_, rfl⟩
        rw [← eσ9] at hH
        have hI := InvM_a eσ9 hI (by decide) (show (0 : Int) ≤ z.toInt ∧ z.toInt ≤ 100 by omega)
        have hP := Keep_w eσ9 hP (by decide)
        refine lv_aload_n S.1 S.2.1 dX5_errand_51 rfl (lv_at hl 0 rfl) ?_
        refine rM_0_32 S hnX5 K hH (mG wd_333) dX5_errand_52 ?_
        refine lv_iload_n S.1 S.2.1 dX5_errand_55 rfl (lv_at hl 1 rfl) ?_
        refine lv_iconst (v := 1) S.1 S.2.1 dX5_errand_56 (by decide) ?_
        refine sM_32 S K hH hS (vin (by omega) (by omega)) dX5_errand_57 (fun H locs hH hS => ?_)
        obtain ⟨σ10, eσ10⟩ : ∃ z_9 : QS, z_9 = rs σ9 32 0 (upd (σ9 32 0) a.toNatClampNeg (vp_nar .boolean 1)) := ⟨_, rfl⟩
        rw [← eσ10] at hH
        have hI := InvM_a eσ10 hI (by decide) (any32 _)
        have hP := Keep_w eσ10 hP (by decide)
        refine lv_iconst (v := 1) S.1 S.2.1 dX5_errand_58 (by decide) ?_
        refine cW_zret S hr hk hH hS (by decide) ?_ dX5_errand_59
        exact ⟨1, rfl, hI, hP, rfl, by refine Or.inl ⟨by decide, by omega, ?_, ?_, ?_⟩; rw [eσ10, rs_v (by decide), eσ9, rs_v (by decide), eσ8, rs_self, eσ1, rs_v (by decide)]; rw [eσ10, rs_v (by decide), eσ9, rs_self, eσ8, rs_v (by decide), eσ1, rs_v (by decide)]; rw [eσ10, rs_self, eσ9, rs_v (by decide), eσ8, rs_v (by decide), eσ1, rs_v (by decide)]; rfl⟩
      · have j7 := t_eq c7
        refine lv_iconst (v := 0) S.1 S.2.1 dX5_errand_35 (by decide) ?_
        refine cW_zret S hr hk hH hS (by decide) ?_ dX5_errand_36
        exact ⟨0, rfl, hI, hP, rfl, by exact Or.inr ⟨by decide, by omega, by rw [eσ1, rs_v (by decide)], by rw [eσ1, rs_v (by decide)], by rw [eσ1, rs_v (by decide)]⟩⟩
set_option maxHeartbeats 4000000 in
set_option maxRecDepth 100000 in
theorem k_X5_clear (l : Launch) (D : va_G) (B : Nat → ClassId) (L : QL) (A : Nat → Prop) (σ : QS) (τ : Int64)   (hI : InvM σ) : cW cntM gM l D B L A yX5_clear wsX5_clear 0 0 [.ref (L 0 0)] σ τ (pV (fun σ' τ' => InvM σ' ∧ Keep [0, 32] σ σ' ∧ τ' = τ ∧ ∀ s : Nat, s ≤ 8 → σ' 32 0 s = 0)) := by
  refine cW_of (cc := cX5_clear) (nL := 2) (ret := none) (by decide) rfl (Nat.le_of_ble_eq_true rfl) ?_
  intro p e s m below meth c S hr hk K hH hS ls hl
  have hnX5 : ∀ w ∈ wsX50, w ∈ wsX5_clear := fun w h => mG (tX5 w h)
  have l0 : (0 : Int32).toInt = 0 := by decide
  have l1 : (1 : Int32).toInt = 1 := by decide
  have l9 : (9 : Int32).toInt = 9 := by decide
  have hP : Keep [0, 32] σ σ := Keep_r
  have hl : lv_has ls 2 [(0, .ref (L 0 0))] := hl
  refine lv_aload_n S.1 S.2.1 dX5_clear_0 rfl (lv_at hl 0 rfl) ?_
  refine lv_iconst (v := 0) S.1 S.2.1 dX5_clear_1 (by decide) ?_
  refine pM_0_0 S hnX5 K hH hS (mG wd_337) dX5_clear_2 (fun H locs hH hS => ?_)
  obtain ⟨σ1, eσ1⟩ : ∃ z_9 : QS, z_9 = rs σ 0 0 (fun _ => 0) := ⟨_, rfl⟩
  rw [← eσ1] at hH
  have hI := InvM_f eσ1 hI (by decide) (any32 _)
  have hP := Keep_w eσ1 hP (by decide)
  refine lv_iconst (v := 0) S.1 S.2.1 dX5_clear_5 (by decide) ?_
  refine lv_istore_n (lv' := [(1, .int 0), (0, .ref (L 0 0))]) S.1 S.2.1 dX5_clear_6 rfl hl (by decide) rfl (fun ls hl => ?_)
  have cut_7_2 : ∀ (n : Nat) (x1_2 : Int32) (σ_2 : QS) (H : Heap) (locs : List Loc) (ls : Array Slot), (9 - x1_2.toInt).toNat < n → 0 ≤ x1_2.toInt ∧ x1_2.toInt ≤ 9 → (∀ s : Nat, (s : Int) < x1_2.toInt → σ_2 32 0 s = 0) → InvM σ_2 → Keep [0, 32] σ σ_2 → hW cntM gM D B L σ_2 τ H → va_S A s.heap H locs → lv_has ls 2 [(0, .ref (L 0 0)), (1, .int x1_2)] → W p l e { frames := 0, cells := 0, slots := 0, locals := 0 } s m [.ref (L 0 0)].toArray below meth c H locs 0 0 (MQ below (QcW cntM gM D B L A (pV (fun σ' τ' => InvM σ' ∧ Keep [0, 32] σ σ' ∧ τ' = τ ∧ ∀ s : Nat, s ≤ 8 → σ' 32 0 s = 0))) [.ref (L 0 0)].toArray s 0 0 A) (F0 m 7 ls []) := by
    intro n
    induction n with
    | zero => intro x1_2 σ_2 H locs ls hm; exact absurd hm (Nat.not_lt_zero _)
    | succ n ih2 =>
      intro x1_2 σ_2 H locs ls hm2 h2_0 wc hI hP hH hS hl
      refine lv_iload_n S.1 S.2.1 dX5_clear_7 rfl (lv_at hl 1 rfl) ?_
      refine lv_bipush (v := 9) S.1 S.2.1 dX5_clear_8 (by decide) ?_
      refine lv_icmp_ge (tgt := 26) S.1 S.2.1 dX5_clear_10 (by decide) (fun c3 => ?_) (fun c3 => ?_)
      · have j3 := t_le c3
        refine cW_vret S hr hk hH hS ?_ dX5_clear_26
        exact ⟨rfl, hI, hP, rfl, by intro s h9; exact wc s (by omega)⟩
      · have j3 := t_nle c3
        refine lv_aload_n S.1 S.2.1 dX5_clear_13 rfl (lv_at hl 0 rfl) ?_
        refine rM_0_32 S hnX5 K hH (mG wd_333) dX5_clear_14 ?_
        refine lv_iload_n S.1 S.2.1 dX5_clear_17 rfl (lv_at hl 1 rfl) ?_
        refine lv_iconst (v := 0) S.1 S.2.1 dX5_clear_18 (by decide) ?_
        refine sM_32 S K hH hS (vin (by omega) (by omega)) dX5_clear_19 (fun H locs hH hS => ?_)
        obtain ⟨σ4, eσ4⟩ : ∃ z_9 : QS, z_9 = rs σ_2 32 0 (upd (σ_2 32 0) x1_2.toNatClampNeg (vp_nar .boolean 0)) := ⟨_, rfl⟩
        rw [← eσ4] at hH
        have hI := InvM_a eσ4 hI (by decide) (any32 _)
        have hP := Keep_w eσ4 hP (by decide)
        obtain ⟨v5, e5⟩ : ∃ y_9 : Int32, y_9 = x1_2 + 1 := ⟨_, rfl⟩
        have i5 : v5.toInt = x1_2.toInt + 1 := i_addc e5 (by decide) (by omega) (by omega)
        refine lv_iinc (v := v5) (lv' := [(1, .int v5), (0, .ref (L 0 0))]) S.1 S.2.1 dX5_clear_20 hl (k := 1) rfl (by rw [e5]; rfl) (by decide) rfl (fun ls hl => ?_)
        refine lv_goto (tgt := 7) S.1 S.2.1 dX5_clear_23 (by decide) ?_
        exact ih2 v5 σ4 _ _ ls (by omega) (by omega) (by intro s h9; rw [eσ4, rs_self]; unfold upd; have h8 := cl_eq (j := x1_2) (by omega); by_cases hq : s = (x1_2).toNatClampNeg; rw [if_pos hq]; rfl; rw [if_neg hq]; exact wc s (by omega)) hI hP hH hS (lv_sub hl [1, 0] rfl)
  exact cut_7_2 _ 0 σ1 _ _ ls (Nat.lt_succ_self _) (by omega) (by intro s h9; exact absurd h9 (by omega)) hI hP hH hS (lv_sub hl [1, 0] rfl)
set_option maxHeartbeats 4000000 in
set_option maxRecDepth 100000 in
theorem k_X5_count (l : Launch) (D : va_G) (B : Nat → ClassId) (L : QL) (A : Nat → Prop) (σ : QS) (τ : Int64) (a : Int32)  (hI : InvM σ) : cW cntM gM l D B L A yX5_count wsX5_count 0 0 [.ref (L 0 0), .int a] σ τ (pI (fun x σ' τ' => InvM σ' ∧ Keep [0] σ σ' ∧ τ' = τ ∧ True)) := by
  refine cW_of (cc := cX5_count) (nL := 4) (ret := (some .int)) (by decide) rfl (Nat.le_of_ble_eq_true rfl) ?_
  intro p e s m below meth c S hr hk K hH hS ls hl
  have hnX5 : ∀ w ∈ wsX50, w ∈ wsX5_count := fun w h => mG (tX5 w h)
  have lm1 : ((-1) : Int32).toInt = -1 := by decide
  have l0 : (0 : Int32).toInt = 0 := by decide
  have l1 : (1 : Int32).toInt = 1 := by decide
  have l9 : (9 : Int32).toInt = 9 := by decide
  have hP : Keep [0] σ σ := Keep_r
  have hl : lv_has ls 4 [(0, .ref (L 0 0)), (1, .int a)] := hl
  refine lv_aload_n S.1 S.2.1 dX5_count_0 rfl (lv_at hl 0 rfl) ?_
  refine lv_iconst (v := 0) S.1 S.2.1 dX5_count_1 (by decide) ?_
  refine pM_0_0 S hnX5 K hH hS (mG wd_337) dX5_count_2 (fun H locs hH hS => ?_)
  obtain ⟨σ1, eσ1⟩ : ∃ z_9 : QS, z_9 = rs σ 0 0 (fun _ => 0) := ⟨_, rfl⟩
  rw [← eσ1] at hH
  have hI := InvM_f eσ1 hI (by decide) (any32 _)
  have hP := Keep_w eσ1 hP (by decide)
  refine lv_iconst (v := 0) S.1 S.2.1 dX5_count_5 (by decide) ?_
  refine lv_istore_n (lv' := [(2, .int 0), (0, .ref (L 0 0)), (1, .int a)]) S.1 S.2.1 dX5_count_6 rfl hl (by decide) rfl (fun ls hl => ?_)
  refine lv_iload_n S.1 S.2.1 dX5_count_7 rfl (lv_at hl 2 rfl) ?_
  rcases sw_in a 0 7 with c2 | ⟨c2, d2⟩
  · refine lv_tableOut (tgt := 208) S.1 S.2.1 dX5_count_8 c2 (by decide) ?_
    refine lv_iconst (v := (-1)) S.1 S.2.1 dX5_count_208 (by decide) ?_
    refine cW_iret S hr hk hH hS ?_ dX5_count_209
    exact ⟨(-1), rfl, hI, hP, rfl, by trivial⟩
  · rcases (show a.toInt = 0 ∨ a.toInt = 1 ∨ a.toInt = 2 ∨ a.toInt = 3 ∨ a.toInt = 4 ∨ a.toInt = 5 ∨ a.toInt = 6 ∨ a.toInt = 7 by omega) with f2 | f2 | f2 | f2 | f2 | f2 | f2 | f2
    · refine lv_tableIn (off := 48) (tgt := 56) S.1 S.2.1 dX5_count_8 (by omega) (by omega) (by rw [f2]; rfl) (by decide) ?_
      refine lv_aload_n S.1 S.2.1 dX5_count_56 rfl (lv_at hl 1 rfl) ?_
      refine rM_0_1 S hnX5 K hH (mG wd_352) dX5_count_57 ?_
      refine lv_topi (fun v3 e3 => ?_)
      have b3 : 0 ≤ v3.toInt ∧ v3.toInt ≤ 5000 := by rw [e3]; exact hI.1 1 0 0
      refine cW_iret S hr hk hH hS ?_ dX5_count_60
      exact ⟨v3, rfl, hI, hP, rfl, by trivial⟩
    · refine lv_tableIn (off := 53) (tgt := 61) S.1 S.2.1 dX5_count_8 (by omega) (by omega) (by rw [f2]; rfl) (by decide) ?_
      refine lv_aload_n S.1 S.2.1 dX5_count_61 rfl (lv_at hl 1 rfl) ?_
      refine rM_0_2 S hnX5 K hH (mG wd_335) dX5_count_62 ?_
      refine lv_topi (fun v4 e4 => ?_)
      have b4 : 0 ≤ v4.toInt ∧ v4.toInt ≤ 12 := by rw [e4]; exact hI.1 2 0 0
      refine cW_iret S hr hk hH hS ?_ dX5_count_65
      exact ⟨v4, rfl, hI, hP, rfl, by trivial⟩
    · refine lv_tableIn (off := 58) (tgt := 66) S.1 S.2.1 dX5_count_8 (by omega) (by omega) (by rw [f2]; rfl) (by decide) ?_
      refine lv_aload_n S.1 S.2.1 dX5_count_66 rfl (lv_at hl 1 rfl) ?_
      refine rM_0_4 S hnX5 K hH (mG wd_336) dX5_count_67 ?_
      refine lv_topi (fun v5 e5 => ?_)
      have b5 : 0 ≤ v5.toInt ∧ v5.toInt ≤ 60 := by rw [e5]; exact hI.1 4 0 0
      refine cW_iret S hr hk hH hS ?_ dX5_count_70
      exact ⟨v5, rfl, hI, hP, rfl, by trivial⟩
    · refine lv_tableIn (off := 63) (tgt := 71) S.1 S.2.1 dX5_count_8 (by omega) (by omega) (by rw [f2]; rfl) (by decide) ?_
      refine lv_iconst (v := 0) S.1 S.2.1 dX5_count_71 (by decide) ?_
      refine lv_istore_n (lv' := [(3, .int 0), (2, .int 0), (0, .ref (L 0 0)), (1, .int a)]) S.1 S.2.1 dX5_count_72 rfl hl (by decide) rfl (fun ls hl => ?_)
      have cut_73_6 : ∀ (n : Nat) (x2_6 : Int32) (x3_6 : Int32) (σ_6 : QS) (H : Heap) (locs : List Loc) (ls : Array Slot), (60 - x3_6.toInt).toNat < n → 0 ≤ x3_6.toInt ∧ x3_6.toInt ≤ 60 → InvM σ_6 → Keep [0] σ σ_6 → hW cntM gM D B L σ_6 τ H → va_S A s.heap H locs → lv_has ls 4 [(0, .ref (L 0 0)), (2, .int x2_6), (3, .int x3_6)] → W p l e { frames := 0, cells := 0, slots := 0, locals := 0 } s m [.ref (L 0 0), .int a].toArray below meth c H locs 0 0 (MQ below (QcW cntM gM D B L A (pI (fun x σ' τ' => InvM σ' ∧ Keep [0] σ σ' ∧ τ' = τ ∧ True))) [.ref (L 0 0), .int a].toArray s 0 0 A) (F0 m 73 ls []) := by
        intro n
        induction n with
        | zero => intro x2_6 x3_6 σ_6 H locs ls hm; exact absurd hm (Nat.not_lt_zero _)
        | succ n ih6 =>
          intro x2_6 x3_6 σ_6 H locs ls hm6 h6_0 hI hP hH hS hl
          refine lv_iload_n S.1 S.2.1 dX5_count_73 rfl (lv_at hl 2 rfl) ?_
          refine lv_aload_n S.1 S.2.1 dX5_count_74 rfl (lv_at hl 0 rfl) ?_
          refine rM_0_4 S hnX5 K hH (mG wd_336) dX5_count_75 ?_
          refine lv_topi (fun v7 e7 => ?_)
          have b7 : 0 ≤ v7.toInt ∧ v7.toInt ≤ 60 := by rw [e7]; exact hI.1 4 0 0
          refine lv_icmp_ge (tgt := 105) S.1 S.2.1 dX5_count_78 (by decide) (fun c8 => ?_) (fun c8 => ?_)
          · have j8 := t_le c8
            refine lv_iload_n S.1 S.2.1 dX5_count_105 rfl (lv_at hl 1 rfl) ?_
            refine cW_iret S hr hk hH hS ?_ dX5_count_106
            exact ⟨x2_6, rfl, hI, hP, rfl, by trivial⟩
          · have j8 := t_nle c8
            refine lv_iload_n S.1 S.2.1 dX5_count_81 rfl (lv_at hl 1 rfl) ?_
            refine lv_aload_n S.1 S.2.1 dX5_count_82 rfl (lv_at hl 0 rfl) ?_
            refine rM_0_25 S hnX5 K hH (mG wd_326) dX5_count_83 ?_
            refine lv_iload_n S.1 S.2.1 dX5_count_86 rfl (lv_at hl 2 rfl) ?_
            refine lM_25 S K hH (vin (by omega) (by omega)) dX5_count_87 ?_
            refine lv_topi (fun v9 e9 => ?_)
            refine lv_iconst (v := (-1)) S.1 S.2.1 dX5_count_88 (by decide) ?_
            refine lv_icmp_eq (tgt := 96) S.1 S.2.1 dX5_count_89 (by decide) (fun c10 => ?_) (fun c10 => ?_)
            · have j10 := t_eq c10
              refine lv_iconst (v := 0) S.1 S.2.1 dX5_count_96 (by decide) ?_
              refine lv_iadd S.1 S.2.1 dX5_count_97 ?_
              have y11 := any32 x2_6
              refine lv_topi (fun v12 e12 => ?_)
              have i12 : v12.toInt = x2_6.toInt + (0 : Int32).toInt := i_add e12 (by omega) (by omega)
              refine lv_istore_n (lv' := [(2, .int v12), (0, .ref (L 0 0)), (3, .int x3_6)]) S.1 S.2.1 dX5_count_98 rfl hl (by decide) rfl (fun ls hl => ?_)
              obtain ⟨v13, e13⟩ : ∃ y_9 : Int32, y_9 = x3_6 + 1 := ⟨_, rfl⟩
              have i13 : v13.toInt = x3_6.toInt + 1 := i_addc e13 (by decide) (by omega) (by omega)
              refine lv_iinc (v := v13) (lv' := [(3, .int v13), (2, .int v12), (0, .ref (L 0 0))]) S.1 S.2.1 dX5_count_99 hl (k := 2) rfl (by rw [e13]; rfl) (by decide) rfl (fun ls hl => ?_)
              refine lv_goto (tgt := 73) S.1 S.2.1 dX5_count_102 (by decide) ?_
              exact ih6 v12 v13 σ_6 _ _ ls (by omega) (by omega) hI hP hH hS (lv_sub hl [2, 1, 0] rfl)
            · have j10 := t_neq c10
              refine lv_iconst (v := 1) S.1 S.2.1 dX5_count_92 (by decide) ?_
              refine lv_goto (tgt := 97) S.1 S.2.1 dX5_count_93 (by decide) ?_
              refine lv_iadd S.1 S.2.1 dX5_count_97 ?_
              refine lv_topi (fun v14 e14 => ?_)
              refine lv_istore_n (lv' := [(2, .int v14), (0, .ref (L 0 0)), (3, .int x3_6)]) S.1 S.2.1 dX5_count_98 rfl hl (by decide) rfl (fun ls hl => ?_)
              obtain ⟨v15, e15⟩ : ∃ y_9 : Int32, y_9 = x3_6 + 1 := ⟨_, rfl⟩
              have i15 : v15.toInt = x3_6.toInt + 1 := i_addc e15 (by decide) (by omega) (by omega)
              refine lv_iinc (v := v15) (lv' := [(3, .int v15), (2, .int v14), (0, .ref (L 0 0))]) S.1 S.2.1 dX5_count_99 hl (k := 2) rfl (by rw [e15]; rfl) (by decide) rfl (fun ls hl => ?_)
              refine lv_goto (tgt := 73) S.1 S.2.1 dX5_count_102 (by decide) ?_
              exact ih6 v14 v15 σ_6 _ _ ls (by omega) (by omega) hI hP hH hS (lv_sub hl [2, 1, 0] rfl)
      exact cut_73_6 _ 0 0 σ1 _ _ ls (Nat.lt_succ_self _) (by omega) hI hP hH hS (lv_sub hl [2, 1, 0] rfl)
    · refine lv_tableIn (off := 99) (tgt := 107) S.1 S.2.1 dX5_count_8 (by omega) (by omega) (by rw [f2]; rfl) (by decide) ?_
      refine lv_iconst (v := 0) S.1 S.2.1 dX5_count_107 (by decide) ?_
      refine lv_istore_n (lv' := [(3, .int 0), (2, .int 0), (0, .ref (L 0 0)), (1, .int a)]) S.1 S.2.1 dX5_count_108 rfl hl (by decide) rfl (fun ls hl => ?_)
      have cut_109_16 : ∀ (n : Nat) (x2_16 : Int32) (x3_16 : Int32) (σ_16 : QS) (H : Heap) (locs : List Loc) (ls : Array Slot), (60 - x3_16.toInt).toNat < n → 0 ≤ x3_16.toInt ∧ x3_16.toInt ≤ 60 → InvM σ_16 → Keep [0] σ σ_16 → hW cntM gM D B L σ_16 τ H → va_S A s.heap H locs → lv_has ls 4 [(0, .ref (L 0 0)), (2, .int x2_16), (3, .int x3_16)] → W p l e { frames := 0, cells := 0, slots := 0, locals := 0 } s m [.ref (L 0 0), .int a].toArray below meth c H locs 0 0 (MQ below (QcW cntM gM D B L A (pI (fun x σ' τ' => InvM σ' ∧ Keep [0] σ σ' ∧ τ' = τ ∧ True))) [.ref (L 0 0), .int a].toArray s 0 0 A) (F0 m 109 ls []) := by
        intro n
        induction n with
        | zero => intro x2_16 x3_16 σ_16 H locs ls hm; exact absurd hm (Nat.not_lt_zero _)
        | succ n ih16 =>
          intro x2_16 x3_16 σ_16 H locs ls hm16 h16_0 hI hP hH hS hl
          refine lv_iload_n S.1 S.2.1 dX5_count_109 rfl (lv_at hl 2 rfl) ?_
          refine lv_aload_n S.1 S.2.1 dX5_count_110 rfl (lv_at hl 0 rfl) ?_
          refine rM_0_4 S hnX5 K hH (mG wd_336) dX5_count_111 ?_
          refine lv_topi (fun v17 e17 => ?_)
          have b17 : 0 ≤ v17.toInt ∧ v17.toInt ≤ 60 := by rw [e17]; exact hI.1 4 0 0
          refine lv_icmp_ge (tgt := 141) S.1 S.2.1 dX5_count_114 (by decide) (fun c18 => ?_) (fun c18 => ?_)
          · have j18 := t_le c18
            refine lv_iload_n S.1 S.2.1 dX5_count_141 rfl (lv_at hl 1 rfl) ?_
            refine cW_iret S hr hk hH hS ?_ dX5_count_142
            exact ⟨x2_16, rfl, hI, hP, rfl, by trivial⟩
          · have j18 := t_nle c18
            refine lv_iload_n S.1 S.2.1 dX5_count_117 rfl (lv_at hl 1 rfl) ?_
            refine lv_aload_n S.1 S.2.1 dX5_count_118 rfl (lv_at hl 0 rfl) ?_
            refine rM_0_21 S hnX5 K hH (mG wd_322) dX5_count_119 ?_
            refine lv_iload_n S.1 S.2.1 dX5_count_122 rfl (lv_at hl 2 rfl) ?_
            refine lM_21 S K hH (vin (by omega) (by omega)) dX5_count_123 ?_
            refine lv_topi (fun v19 e19 => ?_)
            have b19 : (-1) ≤ v19.toInt ∧ v19.toInt ≤ 11 := by rw [e19]; exact hI.1 21 0 x3_16.toNatClampNeg
            refine lv_iconst (v := (-1)) S.1 S.2.1 dX5_count_124 (by decide) ?_
            refine lv_icmp_eq (tgt := 132) S.1 S.2.1 dX5_count_125 (by decide) (fun c20 => ?_) (fun c20 => ?_)
            · have j20 := t_eq c20
              refine lv_iconst (v := 0) S.1 S.2.1 dX5_count_132 (by decide) ?_
              refine lv_iadd S.1 S.2.1 dX5_count_133 ?_
              have y21 := any32 x2_16
              refine lv_topi (fun v22 e22 => ?_)
              have i22 : v22.toInt = x2_16.toInt + (0 : Int32).toInt := i_add e22 (by omega) (by omega)
              refine lv_istore_n (lv' := [(2, .int v22), (0, .ref (L 0 0)), (3, .int x3_16)]) S.1 S.2.1 dX5_count_134 rfl hl (by decide) rfl (fun ls hl => ?_)
              obtain ⟨v23, e23⟩ : ∃ y_9 : Int32, y_9 = x3_16 + 1 := ⟨_, rfl⟩
              have i23 : v23.toInt = x3_16.toInt + 1 := i_addc e23 (by decide) (by omega) (by omega)
              refine lv_iinc (v := v23) (lv' := [(3, .int v23), (2, .int v22), (0, .ref (L 0 0))]) S.1 S.2.1 dX5_count_135 hl (k := 2) rfl (by rw [e23]; rfl) (by decide) rfl (fun ls hl => ?_)
              refine lv_goto (tgt := 109) S.1 S.2.1 dX5_count_138 (by decide) ?_
              exact ih16 v22 v23 σ_16 _ _ ls (by omega) (by omega) hI hP hH hS (lv_sub hl [2, 1, 0] rfl)
            · have j20 := t_neq c20
              refine lv_iconst (v := 1) S.1 S.2.1 dX5_count_128 (by decide) ?_
              refine lv_goto (tgt := 133) S.1 S.2.1 dX5_count_129 (by decide) ?_
              refine lv_iadd S.1 S.2.1 dX5_count_133 ?_
              refine lv_topi (fun v24 e24 => ?_)
              refine lv_istore_n (lv' := [(2, .int v24), (0, .ref (L 0 0)), (3, .int x3_16)]) S.1 S.2.1 dX5_count_134 rfl hl (by decide) rfl (fun ls hl => ?_)
              obtain ⟨v25, e25⟩ : ∃ y_9 : Int32, y_9 = x3_16 + 1 := ⟨_, rfl⟩
              have i25 : v25.toInt = x3_16.toInt + 1 := i_addc e25 (by decide) (by omega) (by omega)
              refine lv_iinc (v := v25) (lv' := [(3, .int v25), (2, .int v24), (0, .ref (L 0 0))]) S.1 S.2.1 dX5_count_135 hl (k := 2) rfl (by rw [e25]; rfl) (by decide) rfl (fun ls hl => ?_)
              refine lv_goto (tgt := 109) S.1 S.2.1 dX5_count_138 (by decide) ?_
              exact ih16 v24 v25 σ_16 _ _ ls (by omega) (by omega) hI hP hH hS (lv_sub hl [2, 1, 0] rfl)
      exact cut_109_16 _ 0 0 σ1 _ _ ls (Nat.lt_succ_self _) (by omega) hI hP hH hS (lv_sub hl [2, 1, 0] rfl)
    · refine lv_tableIn (off := 135) (tgt := 143) S.1 S.2.1 dX5_count_8 (by omega) (by omega) (by rw [f2]; rfl) (by decide) ?_
      refine lv_aload_n S.1 S.2.1 dX5_count_143 rfl (lv_at hl 1 rfl) ?_
      refine rM_0_3 S hnX5 K hH (mG wd_353) dX5_count_144 ?_
      refine lv_topi (fun v26 e26 => ?_)
      have b26 : 0 ≤ v26.toInt ∧ v26.toInt ≤ 100 := by rw [e26]; exact hI.1 3 0 0
      refine cW_iret S hr hk hH hS ?_ dX5_count_147
      exact ⟨v26, rfl, hI, hP, rfl, by trivial⟩
    · refine lv_tableIn (off := 140) (tgt := 148) S.1 S.2.1 dX5_count_8 (by omega) (by omega) (by rw [f2]; rfl) (by decide) ?_
      refine lv_iconst (v := 0) S.1 S.2.1 dX5_count_148 (by decide) ?_
      refine lv_istore_n (lv' := [(3, .int 0), (2, .int 0), (0, .ref (L 0 0)), (1, .int a)]) S.1 S.2.1 dX5_count_149 rfl hl (by decide) rfl (fun ls hl => ?_)
      have cut_150_27 : ∀ (n : Nat) (x2_27 : Int32) (x3_27 : Int32) (σ_27 : QS) (H : Heap) (locs : List Loc) (ls : Array Slot), (12 - x3_27.toInt).toNat < n → 0 ≤ x3_27.toInt ∧ x3_27.toInt ≤ 12 → InvM σ_27 → Keep [0] σ σ_27 → hW cntM gM D B L σ_27 τ H → va_S A s.heap H locs → lv_has ls 4 [(0, .ref (L 0 0)), (2, .int x2_27), (3, .int x3_27)] → W p l e { frames := 0, cells := 0, slots := 0, locals := 0 } s m [.ref (L 0 0), .int a].toArray below meth c H locs 0 0 (MQ below (QcW cntM gM D B L A (pI (fun x σ' τ' => InvM σ' ∧ Keep [0] σ σ' ∧ τ' = τ ∧ True))) [.ref (L 0 0), .int a].toArray s 0 0 A) (F0 m 150 ls []) := by
        intro n
        induction n with
        | zero => intro x2_27 x3_27 σ_27 H locs ls hm; exact absurd hm (Nat.not_lt_zero _)
        | succ n ih27 =>
          intro x2_27 x3_27 σ_27 H locs ls hm27 h27_0 hI hP hH hS hl
          refine lv_iload_n S.1 S.2.1 dX5_count_150 rfl (lv_at hl 2 rfl) ?_
          refine lv_aload_n S.1 S.2.1 dX5_count_151 rfl (lv_at hl 0 rfl) ?_
          refine rM_0_2 S hnX5 K hH (mG wd_335) dX5_count_152 ?_
          refine lv_topi (fun v28 e28 => ?_)
          have b28 : 0 ≤ v28.toInt ∧ v28.toInt ≤ 12 := by rw [e28]; exact hI.1 2 0 0
          refine lv_icmp_ge (tgt := 173) S.1 S.2.1 dX5_count_155 (by decide) (fun c29 => ?_) (fun c29 => ?_)
          · have j29 := t_le c29
            refine lv_iload_n S.1 S.2.1 dX5_count_173 rfl (lv_at hl 1 rfl) ?_
            refine cW_iret S hr hk hH hS ?_ dX5_count_174
            exact ⟨x2_27, rfl, hI, hP, rfl, by trivial⟩
          · have j29 := t_nle c29
            refine lv_iload_n S.1 S.2.1 dX5_count_158 rfl (lv_at hl 1 rfl) ?_
            refine lv_aload_n S.1 S.2.1 dX5_count_159 rfl (lv_at hl 0 rfl) ?_
            refine rM_0_10 S hnX5 K hH (mG wd_308) dX5_count_160 ?_
            refine lv_iload_n S.1 S.2.1 dX5_count_163 rfl (lv_at hl 2 rfl) ?_
            refine lM_10 S K hH (vin (by omega) (by omega)) dX5_count_164 ?_
            refine lv_topi (fun v30 e30 => ?_)
            refine lv_iadd S.1 S.2.1 dX5_count_165 ?_
            refine lv_topi (fun v31 e31 => ?_)
            refine lv_istore_n (lv' := [(2, .int v31), (0, .ref (L 0 0)), (3, .int x3_27)]) S.1 S.2.1 dX5_count_166 rfl hl (by decide) rfl (fun ls hl => ?_)
            obtain ⟨v32, e32⟩ : ∃ y_9 : Int32, y_9 = x3_27 + 1 := ⟨_, rfl⟩
            have i32 : v32.toInt = x3_27.toInt + 1 := i_addc e32 (by decide) (by omega) (by omega)
            refine lv_iinc (v := v32) (lv' := [(3, .int v32), (2, .int v31), (0, .ref (L 0 0))]) S.1 S.2.1 dX5_count_167 hl (k := 2) rfl (by rw [e32]; rfl) (by decide) rfl (fun ls hl => ?_)
            refine lv_goto (tgt := 150) S.1 S.2.1 dX5_count_170 (by decide) ?_
            exact ih27 v31 v32 σ_27 _ _ ls (by omega) (by omega) hI hP hH hS (lv_sub hl [2, 1, 0] rfl)
      exact cut_150_27 _ 0 0 σ1 _ _ ls (Nat.lt_succ_self _) (by omega) hI hP hH hS (lv_sub hl [2, 1, 0] rfl)
    · refine lv_tableIn (off := 167) (tgt := 175) S.1 S.2.1 dX5_count_8 (by omega) (by omega) (by rw [f2]; rfl) (by decide) ?_
      refine lv_iconst (v := 0) S.1 S.2.1 dX5_count_175 (by decide) ?_
      refine lv_istore_n (lv' := [(3, .int 0), (2, .int 0), (0, .ref (L 0 0)), (1, .int a)]) S.1 S.2.1 dX5_count_176 rfl hl (by decide) rfl (fun ls hl => ?_)
      have cut_177_33 : ∀ (n : Nat) (x2_33 : Int32) (x3_33 : Int32) (σ_33 : QS) (H : Heap) (locs : List Loc) (ls : Array Slot), (9 - x3_33.toInt).toNat < n → 0 ≤ x3_33.toInt ∧ x3_33.toInt ≤ 9 → InvM σ_33 → Keep [0] σ σ_33 → hW cntM gM D B L σ_33 τ H → va_S A s.heap H locs → lv_has ls 4 [(0, .ref (L 0 0)), (2, .int x2_33), (3, .int x3_33)] → W p l e { frames := 0, cells := 0, slots := 0, locals := 0 } s m [.ref (L 0 0), .int a].toArray below meth c H locs 0 0 (MQ below (QcW cntM gM D B L A (pI (fun x σ' τ' => InvM σ' ∧ Keep [0] σ σ' ∧ τ' = τ ∧ True))) [.ref (L 0 0), .int a].toArray s 0 0 A) (F0 m 177 ls []) := by
        intro n
        induction n with
        | zero => intro x2_33 x3_33 σ_33 H locs ls hm; exact absurd hm (Nat.not_lt_zero _)
        | succ n ih33 =>
          intro x2_33 x3_33 σ_33 H locs ls hm33 h33_0 hI hP hH hS hl
          refine lv_iload_n S.1 S.2.1 dX5_count_177 rfl (lv_at hl 2 rfl) ?_
          refine lv_bipush (v := 9) S.1 S.2.1 dX5_count_178 (by decide) ?_
          refine lv_icmp_ge (tgt := 206) S.1 S.2.1 dX5_count_180 (by decide) (fun c34 => ?_) (fun c34 => ?_)
          · have j34 := t_le c34
            refine lv_iload_n S.1 S.2.1 dX5_count_206 rfl (lv_at hl 1 rfl) ?_
            refine cW_iret S hr hk hH hS ?_ dX5_count_207
            exact ⟨x2_33, rfl, hI, hP, rfl, by trivial⟩
          · have j34 := t_nle c34
            refine lv_iload_n S.1 S.2.1 dX5_count_183 rfl (lv_at hl 1 rfl) ?_
            refine lv_aload_n S.1 S.2.1 dX5_count_184 rfl (lv_at hl 0 rfl) ?_
            refine rM_0_32 S hnX5 K hH (mG wd_333) dX5_count_185 ?_
            refine lv_iload_n S.1 S.2.1 dX5_count_188 rfl (lv_at hl 2 rfl) ?_
            refine lM_32 S K hH (vin (by omega) (by omega)) dX5_count_189 ?_
            refine lv_topi (fun v35 e35 => ?_)
            refine lv_if_eq (tgt := 197) S.1 S.2.1 dX5_count_190 (by decide) (fun c36 => ?_) (fun c36 => ?_)
            · have j36 := t_eq c36
              refine lv_iconst (v := 0) S.1 S.2.1 dX5_count_197 (by decide) ?_
              refine lv_iadd S.1 S.2.1 dX5_count_198 ?_
              have y37 := any32 x2_33
              refine lv_topi (fun v38 e38 => ?_)
              have i38 : v38.toInt = x2_33.toInt + (0 : Int32).toInt := i_add e38 (by omega) (by omega)
              refine lv_istore_n (lv' := [(2, .int v38), (0, .ref (L 0 0)), (3, .int x3_33)]) S.1 S.2.1 dX5_count_199 rfl hl (by decide) rfl (fun ls hl => ?_)
              obtain ⟨v39, e39⟩ : ∃ y_9 : Int32, y_9 = x3_33 + 1 := ⟨_, rfl⟩
              have i39 : v39.toInt = x3_33.toInt + 1 := i_addc e39 (by decide) (by omega) (by omega)
              refine lv_iinc (v := v39) (lv' := [(3, .int v39), (2, .int v38), (0, .ref (L 0 0))]) S.1 S.2.1 dX5_count_200 hl (k := 2) rfl (by rw [e39]; rfl) (by decide) rfl (fun ls hl => ?_)
              refine lv_goto (tgt := 177) S.1 S.2.1 dX5_count_203 (by decide) ?_
              exact ih33 v38 v39 σ_33 _ _ ls (by omega) (by omega) hI hP hH hS (lv_sub hl [2, 1, 0] rfl)
            · have j36 := t_neq c36
              refine lv_iconst (v := 1) S.1 S.2.1 dX5_count_193 (by decide) ?_
              refine lv_goto (tgt := 198) S.1 S.2.1 dX5_count_194 (by decide) ?_
              refine lv_iadd S.1 S.2.1 dX5_count_198 ?_
              refine lv_topi (fun v40 e40 => ?_)
              refine lv_istore_n (lv' := [(2, .int v40), (0, .ref (L 0 0)), (3, .int x3_33)]) S.1 S.2.1 dX5_count_199 rfl hl (by decide) rfl (fun ls hl => ?_)
              obtain ⟨v41, e41⟩ : ∃ y_9 : Int32, y_9 = x3_33 + 1 := ⟨_, rfl⟩
              have i41 : v41.toInt = x3_33.toInt + 1 := i_addc e41 (by decide) (by omega) (by omega)
              refine lv_iinc (v := v41) (lv' := [(3, .int v41), (2, .int v40), (0, .ref (L 0 0))]) S.1 S.2.1 dX5_count_200 hl (k := 2) rfl (by rw [e41]; rfl) (by decide) rfl (fun ls hl => ?_)
              refine lv_goto (tgt := 177) S.1 S.2.1 dX5_count_203 (by decide) ?_
              exact ih33 v40 v41 σ_33 _ _ ls (by omega) (by omega) hI hP hH hS (lv_sub hl [2, 1, 0] rfl)
      exact cut_177_33 _ 0 0 σ1 _ _ ls (Nat.lt_succ_self _) (by omega) hI hP hH hS (lv_sub hl [2, 1, 0] rfl)
