set_option maxHeartbeats 4000000 in
set_option maxRecDepth 100000 in
theorem k_X5_isIn (l : Launch) (D : va_G) (B : Nat → ClassId) (L : QL) (A : Nat → Prop) (σ : QS) (τ : Int64) (value : Int32) (least : Int32) (most : Int32)   : cW cntM gM l D B L A yX5_isIn wsX5_isIn 0 0 [.int value, .int least, .int most] σ τ (pI (fun x σ' τ' => σ' = σ ∧ τ' = τ ∧ ((x.toInt = 1 ∧ least.toInt ≤ value.toInt ∧ value.toInt ≤ most.toInt) ∨ (x.toInt = 0 ∧ (value.toInt < least.toInt ∨ most.toInt < value.toInt))))) := by
  refine cW_of (cc := cX5_isIn) (nL := 3) (ret := (some .boolean)) (by decide) rfl (Nat.le_of_ble_eq_true rfl) ?_
  intro p e s m below meth c S hr hk K hH hS ls hl
  have l0 : (0 : Int32).toInt = 0 := by decide
  have l1 : (1 : Int32).toInt = 1 := by decide
  have hl : lv_has ls 3 [(0, .int value), (1, .int least), (2, .int most)] := hl
  refine lv_iload_n S.1 S.2.1 dX5_isIn_0 rfl (lv_at hl 0 rfl) ?_
  refine lv_iload_n S.1 S.2.1 dX5_isIn_1 rfl (lv_at hl 1 rfl) ?_
  refine lv_icmp_lt (tgt := 14) S.1 S.2.1 dX5_isIn_2 (by decide) (fun c1 => ?_) (fun c1 => ?_)
  · have j1 := t_lt c1
    refine lv_iconst (v := 0) S.1 S.2.1 dX5_isIn_14 (by decide) ?_
    refine cW_zret S hr hk hH hS (by decide) ?_ dX5_isIn_15
    exact ⟨0, rfl, rfl, rfl, by omega⟩
  · have j1 := t_nlt c1
    refine lv_iload_n S.1 S.2.1 dX5_isIn_5 rfl (lv_at hl 0 rfl) ?_
    refine lv_iload_n S.1 S.2.1 dX5_isIn_6 rfl (lv_at hl 2 rfl) ?_
    refine lv_icmp_gt (tgt := 14) S.1 S.2.1 dX5_isIn_7 (by decide) (fun c2 => ?_) (fun c2 => ?_)
    · have j2 := t_lt c2
      refine lv_iconst (v := 0) S.1 S.2.1 dX5_isIn_14 (by decide) ?_
      refine cW_zret S hr hk hH hS (by decide) ?_ dX5_isIn_15
      exact ⟨0, rfl, rfl, rfl, by omega⟩
    · have j2 := t_nlt c2
      refine lv_iconst (v := 1) S.1 S.2.1 dX5_isIn_10 (by decide) ?_
      refine lv_goto (tgt := 15) S.1 S.2.1 dX5_isIn_11 (by decide) ?_
      refine cW_zret S hr hk hH hS (by decide) ?_ dX5_isIn_15
      exact ⟨1, rfl, rfl, rfl, by omega⟩
set_option maxHeartbeats 4000000 in
set_option maxRecDepth 100000 in
theorem k_X5_isPlace (l : Launch) (D : va_G) (B : Nat → ClassId) (L : QL) (A : Nat → Prop) (σ : QS) (τ : Int64) (w : Int32)   : cW cntM gM l D B L A yX5_isPlace wsX5_isPlace 0 0 [.int w] σ τ (pI (fun x σ' τ' => σ' = σ ∧ τ' = τ ∧ ((x.toInt = 1 ∧ 0 ≤ w.toInt ∧ w.toInt ≤ 11) ∨ (x.toInt = 0 ∧ (w.toInt < 0 ∨ 11 < w.toInt))))) := by
  refine cW_of (cc := cX5_isPlace) (nL := 1) (ret := (some .boolean)) (by decide) rfl (Nat.le_of_ble_eq_true rfl) ?_
  intro p e s m below meth c S hr hk K hH hS ls hl
  have l0 : (0 : Int32).toInt = 0 := by decide
  have l1 : (1 : Int32).toInt = 1 := by decide
  have l12 : (12 : Int32).toInt = 12 := by decide
  have hl : lv_has ls 1 [(0, .int w)] := hl
  refine lv_iload_n S.1 S.2.1 dX5_isPlace_0 rfl (lv_at hl 0 rfl) ?_
  refine lv_if_lt (tgt := 14) S.1 S.2.1 dX5_isPlace_1 (by decide) (fun c1 => ?_) (fun c1 => ?_)
  · have j1 := t_lt c1
    refine lv_iconst (v := 0) S.1 S.2.1 dX5_isPlace_14 (by decide) ?_
    refine cW_zret S hr hk hH hS (by decide) ?_ dX5_isPlace_15
    exact ⟨0, rfl, rfl, rfl, by omega⟩
  · have j1 := t_nlt c1
    refine lv_iload_n S.1 S.2.1 dX5_isPlace_4 rfl (lv_at hl 0 rfl) ?_
    refine lv_bipush (v := 12) S.1 S.2.1 dX5_isPlace_5 (by decide) ?_
    refine lv_icmp_ge (tgt := 14) S.1 S.2.1 dX5_isPlace_7 (by decide) (fun c2 => ?_) (fun c2 => ?_)
    · have j2 := t_le c2
      refine lv_iconst (v := 0) S.1 S.2.1 dX5_isPlace_14 (by decide) ?_
      refine cW_zret S hr hk hH hS (by decide) ?_ dX5_isPlace_15
      exact ⟨0, rfl, rfl, rfl, by omega⟩
    · have j2 := t_nle c2
      refine lv_iconst (v := 1) S.1 S.2.1 dX5_isPlace_10 (by decide) ?_
      refine lv_goto (tgt := 15) S.1 S.2.1 dX5_isPlace_11 (by decide) ?_
      refine cW_zret S hr hk hH hS (by decide) ?_ dX5_isPlace_15
      exact ⟨1, rfl, rfl, rfl, by omega⟩
set_option maxHeartbeats 4000000 in
set_option maxRecDepth 100000 in
theorem k_X5_isHour (l : Launch) (D : va_G) (B : Nat → ClassId) (L : QL) (A : Nat → Prop) (σ : QS) (τ : Int64) (w : Int32)   : cW cntM gM l D B L A yX5_isHour wsX5_isHour 1 22 [.int w] σ τ (pI (fun x σ' τ' => σ' = σ ∧ τ' = τ ∧ ((x.toInt = 1 ∧ 0 ≤ w.toInt ∧ w.toInt ≤ 6000) ∨ (x.toInt = 0 ∧ (w.toInt < 0 ∨ 6000 < w.toInt))))) := by
  refine cW_of (cc := cX5_isHour) (nL := 1) (ret := (some .boolean)) (by decide) rfl (Nat.le_of_ble_eq_true rfl) ?_
  intro p e s m below meth c S hr hk K hH hS ls hl
  have l0 : (0 : Int32).toInt = 0 := by decide
  have l6000 : (6000 : Int32).toInt = 6000 := by decide
  have hl : lv_has ls 1 [(0, .int w)] := hl
  refine lv_iload_n S.1 S.2.1 dX5_isHour_0 rfl (lv_at hl 0 rfl) ?_
  refine lv_iconst (v := 0) S.1 S.2.1 dX5_isHour_1 (by decide) ?_
  refine lv_sipush (v := 6000) S.1 S.2.1 dX5_isHour_2 (by decide) ?_
  refine cW_bpi (cW_S (n := 3) (As := [.int w, .int 0, .int 6000]) (rest := []) S K hH (k_X5_isIn l D B L A σ τ w 0 6000 ) gX5_isHour_X5_isIn rfl hdS_X5_isIn ⟨Nat.le_of_ble_eq_true rfl, Nat.le_of_ble_eq_true rfl⟩ rfl hl.1 (Nat.le_of_ble_eq_true rfl) dX5_isHour_5) hS (fun v1 H locs q1 hH hS => ?_)
  refine cW_zret S hr hk hH hS (nz (by omega)) ?_ dX5_isHour_8
  exact ⟨v1, rfl, rfl, rfl, by omega⟩
set_option maxHeartbeats 4000000 in
set_option maxRecDepth 100000 in
theorem k_X5_isCart (l : Launch) (D : va_G) (B : Nat → ClassId) (L : QL) (A : Nat → Prop) (σ : QS) (τ : Int64) (n9 : Int32)  (hI : InvM σ) : cW cntM gM l D B L A yX5_isCart wsX5_isCart 0 0 [.ref (L 0 0), .int n9] σ τ (pI (fun x σ' τ' => σ' = σ ∧ τ' = τ ∧ ((x.toInt = 1 ∧ 0 ≤ n9.toInt ∧ n9.toInt ≤ 11 ∧ n9.toInt < (σ 2 0 0).toInt) ∨ (x.toInt = 0 ∧ (n9.toInt < 0 ∨ (σ 2 0 0).toInt ≤ n9.toInt))))) := by
  refine cW_of (cc := cX5_isCart) (nL := 2) (ret := (some .boolean)) (by decide) rfl (Nat.le_of_ble_eq_true rfl) ?_
  intro p e s m below meth c S hr hk K hH hS ls hl
  have hnX5 : ∀ w ∈ wsX50, w ∈ wsX5_isCart := fun w h => mG (tX5 w h)
  have l0 : (0 : Int32).toInt = 0 := by decide
  have l1 : (1 : Int32).toInt = 1 := by decide
  have hl : lv_has ls 2 [(0, .ref (L 0 0)), (1, .int n9)] := hl
  refine lv_iload_n S.1 S.2.1 dX5_isCart_0 rfl (lv_at hl 1 rfl) ?_
  refine lv_if_lt (tgt := 16) S.1 S.2.1 dX5_isCart_1 (by decide) (fun c1 => ?_) (fun c1 => ?_)
  · have j1 := t_lt c1
    refine lv_iconst (v := 0) S.1 S.2.1 dX5_isCart_16 (by decide) ?_
    refine cW_zret S hr hk hH hS (by decide) ?_ dX5_isCart_17
    exact ⟨0, rfl, rfl, rfl, by omega⟩
  · have j1 := t_nlt c1
    refine lv_iload_n S.1 S.2.1 dX5_isCart_4 rfl (lv_at hl 1 rfl) ?_
    refine lv_aload_n S.1 S.2.1 dX5_isCart_5 rfl (lv_at hl 0 rfl) ?_
    refine rM_0_2 S hnX5 K hH (mG wd_335) dX5_isCart_6 ?_
    refine lv_topi (fun v2 e2 => ?_)
    have b2 : 0 ≤ v2.toInt ∧ v2.toInt ≤ 12 := by rw [e2]; exact hI.1 2 0 0
    have fv2 : v2.toInt = (σ 2 0 0).toInt := by rw [e2]
    refine lv_icmp_ge (tgt := 16) S.1 S.2.1 dX5_isCart_9 (by decide) (fun c3 => ?_) (fun c3 => ?_)
    · have j3 := t_le c3
      refine lv_iconst (v := 0) S.1 S.2.1 dX5_isCart_16 (by decide) ?_
      refine cW_zret S hr hk hH hS (by decide) ?_ dX5_isCart_17
      exact ⟨0, rfl, rfl, rfl, by omega⟩
    · have j3 := t_nle c3
      refine lv_iconst (v := 1) S.1 S.2.1 dX5_isCart_12 (by decide) ?_
      refine lv_goto (tgt := 17) S.1 S.2.1 dX5_isCart_13 (by decide) ?_
      refine cW_zret S hr hk hH hS (by decide) ?_ dX5_isCart_17
      exact ⟨1, rfl, rfl, rfl, by omega⟩
set_option maxHeartbeats 4000000 in
set_option maxRecDepth 100000 in
theorem k_X5_isBusy (l : Launch) (D : va_G) (B : Nat → ClassId) (L : QL) (A : Nat → Prop) (σ : QS) (τ : Int64) (a : Int32)  (hI : InvM σ) : cW cntM gM l D B L A yX5_isBusy wsX5_isBusy 0 0 [.ref (L 0 0), .int a] σ τ (pI (fun x σ' τ' => σ' = σ ∧ τ' = τ ∧ ((x.toInt = 1 ∧ busyM σ a) ∨ (x.toInt = 0 ∧ ¬ busyM σ a)))) := by
  refine cW_of (cc := cX5_isBusy) (nL := 3) (ret := (some .boolean)) (by decide) rfl (Nat.le_of_ble_eq_true rfl) ?_
  intro p e s m below meth c S hr hk K hH hS ls hl
  have hnX5 : ∀ w ∈ wsX50, w ∈ wsX5_isBusy := fun w h => mG (tX5 w h)
  have l0 : (0 : Int32).toInt = 0 := by decide
  have l1 : (1 : Int32).toInt = 1 := by decide
  have hl : lv_has ls 3 [(0, .ref (L 0 0)), (1, .int a)] := hl
  refine lv_iconst (v := 0) S.1 S.2.1 dX5_isBusy_0 (by decide) ?_
  refine lv_istore_n (lv' := [(2, .int 0), (0, .ref (L 0 0)), (1, .int a)]) S.1 S.2.1 dX5_isBusy_1 rfl hl (by decide) rfl (fun ls hl => ?_)
  have cut_2_1 : ∀ (n : Nat) (x2_1 : Int32)  (H : Heap) (locs : List Loc) (ls : Array Slot), (60 - x2_1.toInt).toNat < n → 0 ≤ x2_1.toInt ∧ x2_1.toInt ≤ 60 → (∀ i9 : Nat, (i9 : Int) < x2_1.toInt → σ 21 0 i9 ≠ a) → hW cntM gM D B L σ τ H → va_S A s.heap H locs → lv_has ls 3 [(0, .ref (L 0 0)), (1, .int a), (2, .int x2_1)] → W p l e { frames := 0, cells := 0, slots := 0, locals := 0 } s m [.ref (L 0 0), .int a].toArray below meth c H locs 0 0 (MQ below (QcW cntM gM D B L A (pI (fun x σ' τ' => σ' = σ ∧ τ' = τ ∧ ((x.toInt = 1 ∧ busyM σ a) ∨ (x.toInt = 0 ∧ ¬ busyM σ a))))) [.ref (L 0 0), .int a].toArray s 0 0 A) (F0 m 2 ls []) := by
    intro n
    induction n with
    | zero => intro x2_1 H locs ls hm; exact absurd hm (Nat.not_lt_zero _)
    | succ n ih1 =>
      intro x2_1 H locs ls hm1 h1_0 wb hH hS hl
      refine lv_iload_n S.1 S.2.1 dX5_isBusy_2 rfl (lv_at hl 2 rfl) ?_
      refine lv_aload_n S.1 S.2.1 dX5_isBusy_3 rfl (lv_at hl 0 rfl) ?_
      refine rM_0_4 S hnX5 K hH (mG wd_336) dX5_isBusy_4 ?_
      refine lv_topi (fun v2 e2 => ?_)
      have b2 : 0 ≤ v2.toInt ∧ v2.toInt ≤ 60 := by rw [e2]; exact hI.1 4 0 0
      have f4 : v2.toInt = (σ 4 0 0).toInt := by rw [e2]
      refine lv_icmp_ge (tgt := 28) S.1 S.2.1 dX5_isBusy_7 (by decide) (fun c3 => ?_) (fun c3 => ?_)
      · have j3 := t_le c3
        refine lv_iconst (v := 0) S.1 S.2.1 dX5_isBusy_28 (by decide) ?_
        refine cW_zret S hr hk hH hS (by decide) ?_ dX5_isBusy_29
        exact ⟨0, rfl, rfl, rfl, by exact Or.inr ⟨by decide, fun z9 => by obtain ⟨i9, z1, z2⟩ := z9; exact wb i9 (by omega) z2⟩⟩
      · have j3 := t_nle c3
        refine lv_aload_n S.1 S.2.1 dX5_isBusy_10 rfl (lv_at hl 0 rfl) ?_
        refine rM_0_21 S hnX5 K hH (mG wd_322) dX5_isBusy_11 ?_
        refine lv_iload_n S.1 S.2.1 dX5_isBusy_14 rfl (lv_at hl 2 rfl) ?_
        refine lM_21 S K hH (vin (by omega) (by omega)) dX5_isBusy_15 ?_
        refine lv_topi (fun v4 e4 => ?_)
        have b4 : (-1) ≤ v4.toInt ∧ v4.toInt ≤ 11 := by rw [e4]; exact hI.1 21 0 x2_1.toNatClampNeg
        have f15 : v4 = σ 21 0 x2_1.toNatClampNeg := e4
        refine lv_iload_n S.1 S.2.1 dX5_isBusy_16 rfl (lv_at hl 1 rfl) ?_
        refine lv_icmp_ne (tgt := 22) S.1 S.2.1 dX5_isBusy_17 (by decide) (fun c5 => ?_) (fun c5 => ?_)
        · have j5 := t_neq c5
          obtain ⟨v6, e6⟩ : ∃ y_9 : Int32, y_9 = x2_1 + 1 := ⟨_, rfl⟩
          have i6 : v6.toInt = x2_1.toInt + 1 := i_addc e6 (by decide) (by omega) (by omega)
          refine lv_iinc (v := v6) (lv' := [(2, .int v6), (0, .ref (L 0 0)), (1, .int a)]) S.1 S.2.1 dX5_isBusy_22 hl (k := 2) rfl (by rw [e6]; rfl) (by decide) rfl (fun ls hl => ?_)
          refine lv_goto (tgt := 2) S.1 S.2.1 dX5_isBusy_25 (by decide) ?_
          exact ih1 v6 _ _ ls (by omega) (by omega) (by intro i9 z9; have z3 := cl_eq (j := x2_1) (by omega); by_cases y9 : i9 = (x2_1).toNatClampNeg; rw [y9]; exact fun y8 => c5 (f15.trans y8); exact wb i9 (by omega)) hH hS (lv_sub hl [1, 2, 0] rfl)
        · have j5 := t_eq c5
          refine lv_iconst (v := 1) S.1 S.2.1 dX5_isBusy_20 (by decide) ?_
          refine cW_zret S hr hk hH hS (by decide) ?_ dX5_isBusy_21
          exact ⟨1, rfl, rfl, rfl, by exact Or.inl ⟨by decide, x2_1.toNatClampNeg, by have z3 := cl_eq (j := x2_1) (by omega); omega, f15.symm.trans c5⟩⟩
  exact cut_2_1 _ 0 _ _ ls (Nat.lt_succ_self _) (by omega) (by intro i9 z9; omega) hH hS (lv_sub hl [1, 2, 0] rfl)
set_option maxHeartbeats 4000000 in
set_option maxRecDepth 100000 in
theorem k_X5_forget (l : Launch) (D : va_G) (B : Nat → ClassId) (L : QL) (A : Nat → Prop) (σ : QS) (τ : Int64)   (hI : InvM σ) : cW cntM gM l D B L A yX5_forget wsX5_forget 0 0 [.ref (L 0 0)] σ τ (pV (fun σ' τ' => InvM σ' ∧ Keep [17] σ σ' ∧ τ' = τ ∧ σ' 17 0 0 = σ 17 0 0 + 1)) := by
  refine cW_of (cc := cX5_forget) (nL := 1) (ret := none) (by decide) rfl (Nat.le_of_ble_eq_true rfl) ?_
  intro p e s m below meth c S hr hk K hH hS ls hl
  have hnX5 : ∀ w ∈ wsX50, w ∈ wsX5_forget := fun w h => mG (tX5 w h)
  have l1 : (1 : Int32).toInt = 1 := by decide
  have hP : Keep [17] σ σ := Keep_r
  have hl : lv_has ls 1 [(0, .ref (L 0 0))] := hl
  refine lv_aload_n S.1 S.2.1 dX5_forget_0 rfl (lv_at hl 0 rfl) ?_
  refine lv_dup S.1 S.2.1 dX5_forget_1 rfl ?_
  refine rM_0_17 S hnX5 K hH (mG wd_318) dX5_forget_2 ?_
  refine lv_topi (fun v1 e1 => ?_)
  refine lv_iconst (v := 1) S.1 S.2.1 dX5_forget_5 (by decide) ?_
  refine lv_iadd S.1 S.2.1 dX5_forget_6 ?_
  refine lv_topi (fun v2 e2 => ?_)
  refine pM_0_17 S hnX5 K hH hS (mG wd_318) dX5_forget_7 (fun H locs hH hS => ?_)
  obtain ⟨σ3, eσ3⟩ : ∃ z_9 : QS, z_9 = rs σ 17 0 (fun _ => v2) := ⟨_, rfl⟩
  rw [← eσ3] at hH
  have hI := InvM_f eσ3 hI (by decide) (any32 _)
  have hP := Keep_w eσ3 hP (by decide)
  refine cW_vret S hr hk hH hS ?_ dX5_forget_10
  exact ⟨rfl, hI, hP, rfl, by rw [eσ3, rs_self, e2, e1]⟩
set_option maxHeartbeats 4000000 in
set_option maxRecDepth 100000 in
theorem k_X5_cart (l : Launch) (D : va_G) (B : Nat → ClassId) (L : QL) (A : Nat → Prop) (σ : QS) (τ : Int64) (a : Int32) (h : Int32) (r : Int32) (f : Int32) (z : Int32) (N : Net) (Z : Nat → Prop) (hI : InvM σ) (hp1 : RepM σ N) (hp2 : (nK N < 12 → ∀ d : Nat, d ≤ 300 → (σ 13 0 (301 * nK N + d) ≠ 0 ↔ Z d))) : cW cntM gM l D B L A yX5_cart wsX5_cart 1 22 [.ref (L 0 0), .int a, .int h, .int r, .int f, .int z] σ τ (pI (fun x σ' τ' => InvM σ' ∧ Keep [0, 5, 6, 7, 8, 9, 11, 12, 2, 17] σ σ' ∧ τ' = τ ∧ (((x.toInt = -1 ∧ σ' 2 = σ 2 ∧ ¬ (0 ≤ a.toInt ∧ a.toInt ≤ 127 ∧ 0 ≤ h.toInt ∧ h.toInt ≤ 23 ∧ 0 ≤ r.toInt ∧ r.toInt ≤ 50 ∧ 0 ≤ f.toInt ∧ f.toInt ≤ 20 ∧ 0 ≤ z.toInt ∧ z.toInt ≤ 11 ∧ (σ 2 0 0).toInt < 12)) ∨ ((0 ≤ a.toInt ∧ a.toInt ≤ 127 ∧ 0 ≤ h.toInt ∧ h.toInt ≤ 23 ∧ 0 ≤ r.toInt ∧ r.toInt ≤ 50 ∧ 0 ≤ f.toInt ∧ f.toInt ≤ 20 ∧ 0 ≤ z.toInt ∧ z.toInt ≤ 11 ∧ (σ 2 0 0).toInt < 12) ∧ x.toInt = (σ 2 0 0).toInt ∧ (σ' 2 0 0).toInt = (σ 2 0 0).toInt + 1)) ∧ ((x.toInt = -1 ∧ Keep [0] σ σ') ∨ (x.toInt ≠ -1 ∧ RepM σ' (netA N h.toInt a.toNatClampNeg z.toNatClampNeg Z) ∧ σ' 17 0 0 = σ 17 0 0 + 1 ∧ σ' 7 0 = upd (σ 7 0) (nK N) r ∧ σ' 8 0 = upd (σ 8 0) (nK N) f))))) := by
  refine cW_of (cc := cX5_cart) (nL := 6) (ret := (some .int)) (by decide) rfl (Nat.le_of_ble_eq_true rfl) ?_
  intro p e s m below meth c S hr hk K hH hS ls hl
  have hnX5 : ∀ w ∈ wsX50, w ∈ wsX5_cart := fun w h => mG (tX5 w h)
  have lm1 : ((-1) : Int32).toInt = -1 := by decide
  have l0 : (0 : Int32).toInt = 0 := by decide
  have l1 : (1 : Int32).toInt = 1 := by decide
  have l6 : (6 : Int32).toInt = 6 := by decide
  have l12 : (12 : Int32).toInt = 12 := by decide
  have l20 : (20 : Int32).toInt = 20 := by decide
  have l23 : (23 : Int32).toInt = 23 := by decide
  have l50 : (50 : Int32).toInt = 50 := by decide
  have l127 : (127 : Int32).toInt = 127 := by decide
  have hP : Keep [0, 5, 6, 7, 8, 9, 11, 12, 2, 17] σ σ := Keep_r
  have hl : lv_has ls 6 [(0, .ref (L 0 0)), (1, .int a), (2, .int h), (3, .int r), (4, .int f), (5, .int z)] := hl
  refine lv_aload_n S.1 S.2.1 dX5_cart_0 rfl (lv_at hl 0 rfl) ?_
  refine lv_iconst (v := 0) S.1 S.2.1 dX5_cart_1 (by decide) ?_
  refine pM_0_0 S hnX5 K hH hS (mG wd_337) dX5_cart_2 (fun H locs hH hS => ?_)
  obtain ⟨σ1, eσ1⟩ : ∃ z_9 : QS, z_9 = rs σ 0 0 (fun _ => 0) := ⟨_, rfl⟩
  rw [← eσ1] at hH
  have hI := InvM_f eσ1 hI (by decide) (any32 _)
  have hP := Keep_w eσ1 hP (by decide)
  refine lv_aload_n S.1 S.2.1 dX5_cart_5 rfl (lv_at hl 0 rfl) ?_
  refine rM_0_2 S hnX5 K hH (mG wd_335) dX5_cart_6 ?_
  refine lv_topi (fun v2 e2 => ?_)
  have b2 : 0 ≤ v2.toInt ∧ v2.toInt ≤ 12 := by rw [e2]; exact hI.1 2 0 0
  have fv2 : v2.toInt = (σ 2 0 0).toInt := by rw [e2, eσ1, rs_v (by decide)]
  refine lv_bipush (v := 12) S.1 S.2.1 dX5_cart_9 (by decide) ?_
  refine lv_icmp_eq (tgt := 63) S.1 S.2.1 dX5_cart_11 (by decide) (fun c3 => ?_) (fun c3 => ?_)
  · have j3 := t_eq c3
    refine lv_iconst (v := (-1)) S.1 S.2.1 dX5_cart_63 (by decide) ?_
    refine cW_iret S hr hk hH hS ?_ dX5_cart_64
    exact ⟨(-1), rfl, hI, hP, rfl, by exact ⟨Or.inl ⟨by decide, by rw [eσ1, rs_v (by decide)], by omega⟩, Or.inl ⟨by decide, Keep_w eσ1 Keep_r (by decide)⟩⟩⟩
  · have j3 := t_neq c3
    refine lv_iload_n S.1 S.2.1 dX5_cart_14 rfl (lv_at hl 1 rfl) ?_
    refine lv_iconst (v := 0) S.1 S.2.1 dX5_cart_15 (by decide) ?_
    refine lv_bipush (v := 127) S.1 S.2.1 dX5_cart_16 (by decide) ?_
    refine cW_bpi (cW_S (n := 3) (As := [.int a, .int 0, .int 127]) (rest := []) S K hH (k_X5_isIn l D B L A σ1 τ a 0 127 ) gX5_cart_X5_isIn rfl hdS_X5_isIn ⟨Nat.le_of_ble_eq_true rfl, Nat.le_of_ble_eq_true rfl⟩ rfl hl.1 (Nat.le_of_ble_eq_true rfl) dX5_cart_18) hS (fun v4 H locs q4 hH hS => ?_)
    refine lv_if_eq (tgt := 63) S.1 S.2.1 dX5_cart_21 (by decide) (fun c5 => ?_) (fun c5 => ?_)
    · have j5 := t_eq c5
      refine lv_iconst (v := (-1)) S.1 S.2.1 dX5_cart_63 (by decide) ?_
      refine cW_iret S hr hk hH hS ?_ dX5_cart_64
      exact ⟨(-1), rfl, hI, hP, rfl, by exact ⟨Or.inl ⟨by decide, by rw [eσ1, rs_v (by decide)], by omega⟩, Or.inl ⟨by decide, Keep_w eσ1 Keep_r (by decide)⟩⟩⟩
    · have j5 := t_neq c5
      refine lv_iload_n S.1 S.2.1 dX5_cart_24 rfl (lv_at hl 2 rfl) ?_
      refine lv_iconst (v := 0) S.1 S.2.1 dX5_cart_25 (by decide) ?_
      refine lv_bipush (v := 23) S.1 S.2.1 dX5_cart_26 (by decide) ?_
      refine cW_bpi (cW_S (n := 3) (As := [.int h, .int 0, .int 23]) (rest := []) S K hH (k_X5_isIn l D B L A σ1 τ h 0 23 ) gX5_cart_X5_isIn rfl hdS_X5_isIn ⟨Nat.le_of_ble_eq_true rfl, Nat.le_of_ble_eq_true rfl⟩ rfl hl.1 (Nat.le_of_ble_eq_true rfl) dX5_cart_28) hS (fun v6 H locs q6 hH hS => ?_)
      refine lv_if_eq (tgt := 63) S.1 S.2.1 dX5_cart_31 (by decide) (fun c7 => ?_) (fun c7 => ?_)
      · have j7 := t_eq c7
        refine lv_iconst (v := (-1)) S.1 S.2.1 dX5_cart_63 (by decide) ?_
        refine cW_iret S hr hk hH hS ?_ dX5_cart_64
        exact ⟨(-1), rfl, hI, hP, rfl, by exact ⟨Or.inl ⟨by decide, by rw [eσ1, rs_v (by decide)], by omega⟩, Or.inl ⟨by decide, Keep_w eσ1 Keep_r (by decide)⟩⟩⟩
      · have j7 := t_neq c7
        refine lv_iload_n S.1 S.2.1 dX5_cart_34 rfl (lv_at hl 3 rfl) ?_
        refine lv_iconst (v := 0) S.1 S.2.1 dX5_cart_35 (by decide) ?_
        refine lv_bipush (v := 50) S.1 S.2.1 dX5_cart_36 (by decide) ?_
        refine cW_bpi (cW_S (n := 3) (As := [.int r, .int 0, .int 50]) (rest := []) S K hH (k_X5_isIn l D B L A σ1 τ r 0 50 ) gX5_cart_X5_isIn rfl hdS_X5_isIn ⟨Nat.le_of_ble_eq_true rfl, Nat.le_of_ble_eq_true rfl⟩ rfl hl.1 (Nat.le_of_ble_eq_true rfl) dX5_cart_38) hS (fun v8 H locs q8 hH hS => ?_)
        refine lv_if_eq (tgt := 63) S.1 S.2.1 dX5_cart_41 (by decide) (fun c9 => ?_) (fun c9 => ?_)
        · have j9 := t_eq c9
          refine lv_iconst (v := (-1)) S.1 S.2.1 dX5_cart_63 (by decide) ?_
          refine cW_iret S hr hk hH hS ?_ dX5_cart_64
          exact ⟨(-1), rfl, hI, hP, rfl, by exact ⟨Or.inl ⟨by decide, by rw [eσ1, rs_v (by decide)], by omega⟩, Or.inl ⟨by decide, Keep_w eσ1 Keep_r (by decide)⟩⟩⟩
        · have j9 := t_neq c9
          refine lv_iload S.1 S.2.1 dX5_cart_44 (lv_at hl 4 rfl) ?_
          refine lv_iconst (v := 0) S.1 S.2.1 dX5_cart_46 (by decide) ?_
          refine lv_bipush (v := 20) S.1 S.2.1 dX5_cart_47 (by decide) ?_
          refine cW_bpi (cW_S (n := 3) (As := [.int f, .int 0, .int 20]) (rest := []) S K hH (k_X5_isIn l D B L A σ1 τ f 0 20 ) gX5_cart_X5_isIn rfl hdS_X5_isIn ⟨Nat.le_of_ble_eq_true rfl, Nat.le_of_ble_eq_true rfl⟩ rfl hl.1 (Nat.le_of_ble_eq_true rfl) dX5_cart_49) hS (fun v10 H locs q10 hH hS => ?_)
          refine lv_if_eq (tgt := 63) S.1 S.2.1 dX5_cart_52 (by decide) (fun c11 => ?_) (fun c11 => ?_)
          · have j11 := t_eq c11
            refine lv_iconst (v := (-1)) S.1 S.2.1 dX5_cart_63 (by decide) ?_
            refine cW_iret S hr hk hH hS ?_ dX5_cart_64
            exact ⟨(-1), rfl, hI, hP, rfl, by exact ⟨Or.inl ⟨by decide, by rw [eσ1, rs_v (by decide)], by omega⟩, Or.inl ⟨by decide, Keep_w eσ1 Keep_r (by decide)⟩⟩⟩
          · have j11 := t_neq c11
            refine lv_iload S.1 S.2.1 dX5_cart_55 (lv_at hl 5 rfl) ?_
            refine cW_bpi (cW_S (n := 1) (As := [.int z]) (rest := []) S K hH (k_X5_isPlace l D B L A σ1 τ z ) gX5_cart_X5_isPlace rfl hdS_X5_isPlace ⟨Nat.le_of_ble_eq_true rfl, Nat.le_of_ble_eq_true rfl⟩ rfl hl.1 (Nat.le_of_ble_eq_true rfl) dX5_cart_57) hS (fun v12 H locs q12 hH hS => ?_)
            refine lv_if_ne (tgt := 65) S.1 S.2.1 dX5_cart_60 (by decide) (fun c13 => ?_) (fun c13 => ?_)
            · have j13 := t_neq c13
              refine lv_aload_n S.1 S.2.1 dX5_cart_65 rfl (lv_at hl 0 rfl) ?_
              refine rM_0_5 S hnX5 K hH (mG wd_303) dX5_cart_66 ?_
              refine lv_aload_n S.1 S.2.1 dX5_cart_69 rfl (lv_at hl 0 rfl) ?_
              refine rM_0_2 S hnX5 K hH (mG wd_335) dX5_cart_70 ?_
              refine lv_topi (fun v14 e14 => ?_)
              have b14 : 0 ≤ v14.toInt ∧ v14.toInt ≤ 12 := by rw [e14]; exact hI.1 2 0 0
              have k14 : v14.toInt = v2.toInt := by rw [e14]; rw [← e2]
              have g70 : v14.toNatClampNeg = nK N := by have z3 := cl_eq (j := v14) (by omega); have z4 := hp1.2.1; omega
              refine lv_iload_n S.1 S.2.1 dX5_cart_73 rfl (lv_at hl 1 rfl) ?_
              refine sM_5 S K hH hS (vin (by omega) (by omega)) dX5_cart_74 (fun H locs hH hS => ?_)
              obtain ⟨σ15, eσ15⟩ : ∃ z_9 : QS, z_9 = rs σ1 5 0 (upd (σ1 5 0) v14.toNatClampNeg a) := ⟨_, rfl⟩
              rw [← eσ15] at hH
              have hI := InvM_a eσ15 hI (by decide) (any32 _)
              have hP := Keep_w eσ15 hP (by decide)
              refine lv_aload_n S.1 S.2.1 dX5_cart_75 rfl (lv_at hl 0 rfl) ?_
              refine rM_0_6 S hnX5 K hH (mG wd_304) dX5_cart_76 ?_
              refine lv_aload_n S.1 S.2.1 dX5_cart_79 rfl (lv_at hl 0 rfl) ?_
              refine rM_0_2 S hnX5 K hH (mG wd_335) dX5_cart_80 ?_
              refine lv_topi (fun v16 e16 => ?_)
              have b16 : 0 ≤ v16.toInt ∧ v16.toInt ≤ 12 := by rw [e16]; exact hI.1 2 0 0
              have k16 : v16.toInt = v2.toInt := by rw [e16, eσ15, rs_v (by decide)]; rw [← e2]
              have g80 : v16.toNatClampNeg = nK N := by have z3 := cl_eq (j := v16) (by omega); have z4 := hp1.2.1; omega
              refine lv_iload_n S.1 S.2.1 dX5_cart_83 rfl (lv_at hl 2 rfl) ?_
              refine sM_6 S K hH hS (vin (by omega) (by omega)) dX5_cart_84 (fun H locs hH hS => ?_)
              obtain ⟨σ17, eσ17⟩ : ∃ z_9 : QS, z_9 = rs σ15 6 0 (upd (σ15 6 0) v16.toNatClampNeg h) := ⟨_, rfl⟩
              rw [← eσ17] at hH
              have hI := InvM_a eσ17 hI (by decide) (show (0 : Int) ≤ h.toInt ∧ h.toInt ≤ 23 by omega)
              have hP := Keep_w eσ17 hP (by decide)
              refine lv_aload_n S.1 S.2.1 dX5_cart_85 rfl (lv_at hl 0 rfl) ?_
              refine rM_0_7 S hnX5 K hH (mG wd_305) dX5_cart_86 ?_
              refine lv_aload_n S.1 S.2.1 dX5_cart_89 rfl (lv_at hl 0 rfl) ?_
              refine rM_0_2 S hnX5 K hH (mG wd_335) dX5_cart_90 ?_
              refine lv_topi (fun v18 e18 => ?_)
              have b18 : 0 ≤ v18.toInt ∧ v18.toInt ≤ 12 := by rw [e18]; exact hI.1 2 0 0
              have k18 : v18.toInt = v2.toInt := by rw [e18, eσ17, rs_v (by decide), eσ15, rs_v (by decide)]; rw [← e2]
              have g90 : v18.toNatClampNeg = nK N := by have z3 := cl_eq (j := v18) (by omega); have z4 := hp1.2.1; omega
              refine lv_iload_n S.1 S.2.1 dX5_cart_93 rfl (lv_at hl 3 rfl) ?_
              refine sM_7 S K hH hS (vin (by omega) (by omega)) dX5_cart_94 (fun H locs hH hS => ?_)
              obtain ⟨σ19, eσ19⟩ : ∃ z_9 : QS, z_9 = rs σ17 7 0 (upd (σ17 7 0) v18.toNatClampNeg r) := ⟨_, rfl⟩
              rw [← eσ19] at hH
              have hI := InvM_a eσ19 hI (by decide) (show (0 : Int) ≤ r.toInt ∧ r.toInt ≤ 50 by omega)
              have hP := Keep_w eσ19 hP (by decide)
              refine lv_aload_n S.1 S.2.1 dX5_cart_95 rfl (lv_at hl 0 rfl) ?_
              refine rM_0_8 S hnX5 K hH (mG wd_306) dX5_cart_96 ?_
              refine lv_aload_n S.1 S.2.1 dX5_cart_99 rfl (lv_at hl 0 rfl) ?_
              refine rM_0_2 S hnX5 K hH (mG wd_335) dX5_cart_100 ?_
              refine lv_topi (fun v20 e20 => ?_)
              have b20 : 0 ≤ v20.toInt ∧ v20.toInt ≤ 12 := by rw [e20]; exact hI.1 2 0 0
              have k20 : v20.toInt = v2.toInt := by rw [e20, eσ19, rs_v (by decide), eσ17, rs_v (by decide), eσ15, rs_v (by decide)]; rw [← e2]
              have g100 : v20.toNatClampNeg = nK N := by have z3 := cl_eq (j := v20) (by omega); have z4 := hp1.2.1; omega
              refine lv_iload S.1 S.2.1 dX5_cart_103 (lv_at hl 4 rfl) ?_
              refine sM_8 S K hH hS (vin (by omega) (by omega)) dX5_cart_105 (fun H locs hH hS => ?_)
              obtain ⟨σ21, eσ21⟩ : ∃ z_9 : QS, z_9 = rs σ19 8 0 (upd (σ19 8 0) v20.toNatClampNeg f) := ⟨_, rfl⟩
              rw [← eσ21] at hH
              have hI := InvM_a eσ21 hI (by decide) (any32 _)
              have hP := Keep_w eσ21 hP (by decide)
              refine lv_aload_n S.1 S.2.1 dX5_cart_106 rfl (lv_at hl 0 rfl) ?_
              refine rM_0_9 S hnX5 K hH (mG wd_307) dX5_cart_107 ?_
              refine lv_aload_n S.1 S.2.1 dX5_cart_110 rfl (lv_at hl 0 rfl) ?_
              refine rM_0_2 S hnX5 K hH (mG wd_335) dX5_cart_111 ?_
              refine lv_topi (fun v22 e22 => ?_)
              have b22 : 0 ≤ v22.toInt ∧ v22.toInt ≤ 12 := by rw [e22]; exact hI.1 2 0 0
              have k22 : v22.toInt = v2.toInt := by rw [e22, eσ21, rs_v (by decide), eσ19, rs_v (by decide), eσ17, rs_v (by decide), eσ15, rs_v (by decide)]; rw [← e2]
              have g111 : v22.toNatClampNeg = nK N := by have z3 := cl_eq (j := v22) (by omega); have z4 := hp1.2.1; omega
              refine lv_iconst (v := 1) S.1 S.2.1 dX5_cart_114 (by decide) ?_
              refine sM_9 S K hH hS (vin (by omega) (by omega)) dX5_cart_115 (fun H locs hH hS => ?_)
              obtain ⟨σ23, eσ23⟩ : ∃ z_9 : QS, z_9 = rs σ21 9 0 (upd (σ21 9 0) v22.toNatClampNeg 1) := ⟨_, rfl⟩
              rw [← eσ23] at hH
              have hI : InvM σ23 := InvM_stops eσ23 hI (by omega)
              have hP := Keep_w eσ23 hP (by decide)
              have st1 : (σ23 9 0 (v22).toNatClampNeg).toInt = 1 := by rw [eσ23, rs_self]; unfold upd; rw [if_pos rfl]; decide
              refine lv_aload_n S.1 S.2.1 dX5_cart_116 rfl (lv_at hl 0 rfl) ?_
              refine rM_0_11 S hnX5 K hH (mG wd_309) dX5_cart_117 ?_
              refine lv_bipush (v := 6) S.1 S.2.1 dX5_cart_120 (by decide) ?_
              refine lv_aload_n S.1 S.2.1 dX5_cart_122 rfl (lv_at hl 0 rfl) ?_
              refine rM_0_2 S hnX5 K hH (mG wd_335) dX5_cart_123 ?_
              refine lv_topi (fun v24 e24 => ?_)
              have b24 : 0 ≤ v24.toInt ∧ v24.toInt ≤ 12 := by rw [e24]; exact hI.1 2 0 0
              have k24 : v24.toInt = v2.toInt := by rw [e24, eσ23, rs_v (by decide), eσ21, rs_v (by decide), eσ19, rs_v (by decide), eσ17, rs_v (by decide), eσ15, rs_v (by decide)]; rw [← e2]
              refine lv_imul S.1 S.2.1 dX5_cart_126 ?_
              refine lv_topi (fun v25 e25 => ?_)
              have i25 : v25.toInt = 6 * v24.toInt := i_mulcl e25 (by decide) (by omega) (by omega)
              have g126 : v25.toNatClampNeg = 6 * nK N := by have z3 := cl_eq (j := v25) (by omega); have z4 := hp1.2.1; omega
              refine lv_iload S.1 S.2.1 dX5_cart_127 (lv_at hl 5 rfl) ?_
              refine sM_11 S K hH hS (vin (by omega) (by omega)) dX5_cart_129 (fun H locs hH hS => ?_)
              obtain ⟨σ26, eσ26⟩ : ∃ z_9 : QS, z_9 = rs σ23 11 0 (upd (σ23 11 0) v25.toNatClampNeg z) := ⟨_, rfl⟩
              rw [← eσ26] at hH
              have hI := InvM_a eσ26 hI (by decide) (show (0 : Int) ≤ z.toInt ∧ z.toInt ≤ 11 by omega)
              have hP := Keep_w eσ26 hP (by decide)
              have st1 : (σ26 9 0 (v22).toNatClampNeg).toInt = 1 := by rw [eσ26, rs_v (by decide)]; exact st1
              refine lv_aload_n S.1 S.2.1 dX5_cart_130 rfl (lv_at hl 0 rfl) ?_
              refine rM_0_12 S hnX5 K hH (mG wd_310) dX5_cart_131 ?_
              refine lv_bipush (v := 6) S.1 S.2.1 dX5_cart_134 (by decide) ?_
              refine lv_aload_n S.1 S.2.1 dX5_cart_136 rfl (lv_at hl 0 rfl) ?_
              refine rM_0_2 S hnX5 K hH (mG wd_335) dX5_cart_137 ?_
              refine lv_topi (fun v27 e27 => ?_)
              have b27 : 0 ≤ v27.toInt ∧ v27.toInt ≤ 12 := by rw [e27]; exact hI.1 2 0 0
              have k27 : v27.toInt = v2.toInt := by rw [e27, eσ26, rs_v (by decide), eσ23, rs_v (by decide), eσ21, rs_v (by decide), eσ19, rs_v (by decide), eσ17, rs_v (by decide), eσ15, rs_v (by decide)]; rw [← e2]
              refine lv_imul S.1 S.2.1 dX5_cart_140 ?_
              refine lv_topi (fun v28 e28 => ?_)
              have i28 : v28.toInt = 6 * v27.toInt := i_mulcl e28 (by decide) (by omega) (by omega)
              have g140 : v28.toNatClampNeg = 6 * nK N := by have z3 := cl_eq (j := v28) (by omega); have z4 := hp1.2.1; omega
              refine lv_iconst (v := 0) S.1 S.2.1 dX5_cart_141 (by decide) ?_
              refine sM_12 S K hH hS (vin (by omega) (by omega)) dX5_cart_142 (fun H locs hH hS => ?_)
              obtain ⟨σ29, eσ29⟩ : ∃ z_9 : QS, z_9 = rs σ26 12 0 (upd (σ26 12 0) v28.toNatClampNeg 0) := ⟨_, rfl⟩
              rw [← eσ29] at hH
              have hI := InvM_a eσ29 hI (by decide) (show (0 : Int) ≤ (0 : Int32).toInt ∧ (0 : Int32).toInt ≤ 60 by omega)
              have hP := Keep_w eσ29 hP (by decide)
              have st1 : (σ29 9 0 (v22).toNatClampNeg).toInt = 1 := by rw [eσ29, rs_v (by decide)]; exact st1
              refine lv_aload_n S.1 S.2.1 dX5_cart_143 rfl (lv_at hl 0 rfl) ?_
              refine lv_dup S.1 S.2.1 dX5_cart_144 rfl ?_
              refine rM_0_2 S hnX5 K hH (mG wd_335) dX5_cart_145 ?_
              refine lv_topi (fun v30 e30 => ?_)
              have b30 : 0 ≤ v30.toInt ∧ v30.toInt ≤ 12 := by rw [e30]; exact hI.1 2 0 0
              have k30 : v30.toInt = v2.toInt := by rw [e30, eσ29, rs_v (by decide), eσ26, rs_v (by decide), eσ23, rs_v (by decide), eσ21, rs_v (by decide), eσ19, rs_v (by decide), eσ17, rs_v (by decide), eσ15, rs_v (by decide)]; rw [← e2]
              refine lv_iconst (v := 1) S.1 S.2.1 dX5_cart_148 (by decide) ?_
              refine lv_iadd S.1 S.2.1 dX5_cart_149 ?_
              refine lv_topi (fun v31 e31 => ?_)
              have i31 : v31.toInt = v30.toInt + (1 : Int32).toInt := i_add e31 (by omega) (by omega)
              refine pM_0_2 S hnX5 K hH hS (mG wd_335) dX5_cart_150 (fun H locs hH hS => ?_)
              obtain ⟨σ32, eσ32⟩ : ∃ z_9 : QS, z_9 = rs σ29 2 0 (fun _ => v31) := ⟨_, rfl⟩
              rw [← eσ32] at hH
              have hI : InvM σ32 := InvM_carts (c := v22) eσ32 hI e30 (by omega) (by omega) (by omega) st1
              have hP := Keep_w eσ32 hP (by decide)
              refine lv_aload_n S.1 S.2.1 dX5_cart_153 rfl (lv_at hl 0 rfl) ?_
              refine cW_bv (cW_V (n := 0) (As := []) (rest := []) (k := 0) (i := 0) S K hH (by decide) rfl rfl (k_X5_forget l D B L A σ32 τ  hI) gX5_cart_X5_forget rfl hdV_X5_forget ⟨Nat.le_of_ble_eq_true rfl, Nat.le_of_ble_eq_true rfl⟩ rfl hl.1 (Nat.le_of_ble_eq_true rfl) dX5_cart_154) hS (fun σ33 τ33 H locs q33 hH hS => ?_)
              obtain ⟨hI, hP33, hτ33, q33⟩ := q33
              rw [hτ33] at hH
              have hP := Keep_t hP hP33 (by decide)
              have yk : ∀ v' : Nat, v' ∈ [13] → σ33 v' = σ v' := fun v' hv' => by rw [hP33 v' (by revert hv'; revert v'; decide), eσ32, rs_v (by intro z9; subst z9; revert hv'; decide), eσ29, rs_v (by intro z9; subst z9; revert hv'; decide), eσ26, rs_v (by intro z9; subst z9; revert hv'; decide), eσ23, rs_v (by intro z9; subst z9; revert hv'; decide), eσ21, rs_v (by intro z9; subst z9; revert hv'; decide), eσ19, rs_v (by intro z9; subst z9; revert hv'; decide), eσ17, rs_v (by intro z9; subst z9; revert hv'; decide), eσ15, rs_v (by intro z9; subst z9; revert hv'; decide), eσ1, rs_v (by intro z9; subst z9; revert hv'; decide)]
              refine lv_aload_n S.1 S.2.1 dX5_cart_157 rfl (lv_at hl 0 rfl) ?_
              refine rM_0_2 S hnX5 K hH (mG wd_335) dX5_cart_158 ?_
              refine lv_topi (fun v34 e34 => ?_)
              have b34 : 0 ≤ v34.toInt ∧ v34.toInt ≤ 12 := by rw [e34]; exact hI.1 2 0 0
              have k34 : v34.toInt = v31.toInt := by rw [e34, hP33 2 (by decide), eσ32, rs_self]
              refine lv_iconst (v := 1) S.1 S.2.1 dX5_cart_161 (by decide) ?_
              refine lv_isub S.1 S.2.1 dX5_cart_162 ?_
              refine lv_topi (fun v35 e35 => ?_)
              have i35 : v35.toInt = v34.toInt - (1 : Int32).toInt := i_sub e35 (by omega) (by omega)
              refine cW_iret S hr hk hH hS ?_ dX5_cart_163
              exact ⟨v35, rfl, hI, hP, rfl, by refine ⟨Or.inr ?_, Or.inr ⟨by omega, repM_A hp1 (by have z4 := hp1.2.1; omega) (by omega) (by omega) (by omega) (by rw [hP33 2 (by decide), eσ32, rs_self]; have z4 := hp1.2.1; omega) (by rw [hP33 5 (by decide), eσ32, rs_v (by decide), eσ29, rs_v (by decide), eσ26, rs_v (by decide), eσ23, rs_v (by decide), eσ21, rs_v (by decide), eσ19, rs_v (by decide), eσ17, rs_v (by decide), eσ15, rs_self, g70, eσ1, rs_v (by decide)]) (by rw [hP33 6 (by decide), eσ32, rs_v (by decide), eσ29, rs_v (by decide), eσ26, rs_v (by decide), eσ23, rs_v (by decide), eσ21, rs_v (by decide), eσ19, rs_v (by decide), eσ17, rs_self, g80, eσ15, rs_v (by decide), eσ1, rs_v (by decide)]) (by rw [hP33 9 (by decide), eσ32, rs_v (by decide), eσ29, rs_v (by decide), eσ26, rs_v (by decide), eσ23, rs_self, g111, eσ21, rs_v (by decide), eσ19, rs_v (by decide), eσ17, rs_v (by decide), eσ15, rs_v (by decide), eσ1, rs_v (by decide)]) (by decide) (by rw [hP33 11 (by decide), eσ32, rs_v (by decide), eσ29, rs_v (by decide), eσ26, rs_self, g126, eσ23, rs_v (by decide), eσ21, rs_v (by decide), eσ19, rs_v (by decide), eσ17, rs_v (by decide), eσ15, rs_v (by decide), eσ1, rs_v (by decide)]) (by rw [hP33 12 (by decide), eσ32, rs_v (by decide), eσ29, rs_self, g140, eσ26, rs_v (by decide), eσ23, rs_v (by decide), eσ21, rs_v (by decide), eσ19, rs_v (by decide), eσ17, rs_v (by decide), eσ15, rs_v (by decide), eσ1, rs_v (by decide)]) (by decide) (yk 13 (by decide)) (hp2 (by have z4 := hp1.2.1; omega)), by rw [q33]; rw [eσ32, rs_v (by decide), eσ29, rs_v (by decide), eσ26, rs_v (by decide), eσ23, rs_v (by decide), eσ21, rs_v (by decide), eσ19, rs_v (by decide), eσ17, rs_v (by decide), eσ15, rs_v (by decide), eσ1, rs_v (by decide)], by rw [hP33 7 (by decide), eσ32, rs_v (by decide), eσ29, rs_v (by decide), eσ26, rs_v (by decide), eσ23, rs_v (by decide), eσ21, rs_v (by decide), eσ19, rs_self, g90, eσ17, rs_v (by decide), eσ15, rs_v (by decide), eσ1, rs_v (by decide)], by rw [hP33 8 (by decide), eσ32, rs_v (by decide), eσ29, rs_v (by decide), eσ26, rs_v (by decide), eσ23, rs_v (by decide), eσ21, rs_self, g100, eσ19, rs_v (by decide), eσ17, rs_v (by decide), eσ15, rs_v (by decide), eσ1, rs_v (by decide)]⟩⟩; rw [hP33 2 (by decide), eσ32, rs_self]; omega⟩
            · have j13 := t_eq c13
              refine lv_iconst (v := (-1)) S.1 S.2.1 dX5_cart_63 (by decide) ?_
              refine cW_iret S hr hk hH hS ?_ dX5_cart_64
              exact ⟨(-1), rfl, hI, hP, rfl, by exact ⟨Or.inl ⟨by decide, by rw [eσ1, rs_v (by decide)], by omega⟩, Or.inl ⟨by decide, Keep_w eσ1 Keep_r (by decide)⟩⟩⟩
set_option maxHeartbeats 4000000 in
set_option maxRecDepth 100000 in
theorem k_X5_stop (l : Launch) (D : va_G) (B : Nat → ClassId) (L : QL) (A : Nat → Prop) (σ : QS) (τ : Int64) (a : Int32) (b : Int32) (z : Int32) (N : Net) (hI : InvM σ) (hp1 : RepM σ N) : cW cntM gM l D B L A yX5_stop wsX5_stop 1 22 [.ref (L 0 0), .int a, .int b, .int z] σ τ (pI (fun x σ' τ' => InvM σ' ∧ Keep [0, 11, 12, 9, 17] σ σ' ∧ τ' = τ ∧ ((x.toInt = -1 ∧ Keep [0] σ σ' ∧ ¬ (0 ≤ a.toInt ∧ a.toInt < (σ 2 0 0).toInt ∧ 0 ≤ b.toInt ∧ b.toInt ≤ 11 ∧ z.toInt ≤ 60 ∧ nS N a.toNatClampNeg < 6 ∧ nO N a.toNatClampNeg (nS N a.toNatClampNeg - 1) < z.toInt ∧ ¬ busyM σ a)) ∨ (x.toInt = nS N a.toNatClampNeg + 1 ∧ (0 ≤ a.toInt ∧ a.toInt < (σ 2 0 0).toInt ∧ 0 ≤ b.toInt ∧ b.toInt ≤ 11 ∧ z.toInt ≤ 60 ∧ nS N a.toNatClampNeg < 6 ∧ nO N a.toNatClampNeg (nS N a.toNatClampNeg - 1) < z.toInt ∧ ¬ busyM σ a) ∧ RepM σ' (netS N a.toNatClampNeg b.toNatClampNeg z.toInt) ∧ σ' 17 0 0 = σ 17 0 0 + 1)))) := by
  refine cW_of (cc := cX5_stop) (nL := 4) (ret := (some .int)) (by decide) rfl (Nat.le_of_ble_eq_true rfl) ?_
  intro p e s m below meth c S hr hk K hH hS ls hl
  have hnX5 : ∀ w ∈ wsX50, w ∈ wsX5_stop := fun w h => mG (tX5 w h)
  have lm1 : ((-1) : Int32).toInt = -1 := by decide
  have l0 : (0 : Int32).toInt = 0 := by decide
  have l1 : (1 : Int32).toInt = 1 := by decide
  have l6 : (6 : Int32).toInt = 6 := by decide
  have l60 : (60 : Int32).toInt = 60 := by decide
  have hP : Keep [0, 11, 12, 9, 17] σ σ := Keep_r
  have hl : lv_has ls 4 [(0, .ref (L 0 0)), (1, .int a), (2, .int b), (3, .int z)] := hl
  refine lv_aload_n S.1 S.2.1 dX5_stop_0 rfl (lv_at hl 0 rfl) ?_
  refine lv_iconst (v := 0) S.1 S.2.1 dX5_stop_1 (by decide) ?_
  refine pM_0_0 S hnX5 K hH hS (mG wd_337) dX5_stop_2 (fun H locs hH hS => ?_)
  obtain ⟨σ1, eσ1⟩ : ∃ z_9 : QS, z_9 = rs σ 0 0 (fun _ => 0) := ⟨_, rfl⟩
  rw [← eσ1] at hH
  have hI := InvM_f eσ1 hI (by decide) (any32 _)
  have hP := Keep_w eσ1 hP (by decide)
  have gz2 : (σ1 2 0 0).toInt = (σ 2 0 0).toInt := by rw [eσ1, rs_v (by decide)]
  refine lv_aload_n S.1 S.2.1 dX5_stop_5 rfl (lv_at hl 0 rfl) ?_
  refine lv_iload_n S.1 S.2.1 dX5_stop_6 rfl (lv_at hl 1 rfl) ?_
  refine cW_bpi (cW_V (n := 1) (As := [.int a]) (rest := []) (k := 0) (i := 0) S K hH (by decide) rfl rfl (k_X5_isCart l D B L A σ1 τ a hI) gX5_stop_X5_isCart rfl hdV_X5_isCart ⟨Nat.le_of_ble_eq_true rfl, Nat.le_of_ble_eq_true rfl⟩ rfl hl.1 (Nat.le_of_ble_eq_true rfl) dX5_stop_7) hS (fun v2 H locs q2 hH hS => ?_)
  refine lv_if_eq (tgt := 68) S.1 S.2.1 dX5_stop_10 (by decide) (fun c3 => ?_) (fun c3 => ?_)
  · have j3 := t_eq c3
    refine lv_iconst (v := (-1)) S.1 S.2.1 dX5_stop_68 (by decide) ?_
    refine cW_iret S hr hk hH hS ?_ dX5_stop_69
    exact ⟨(-1), rfl, hI, hP, rfl, by refine Or.inl ⟨by decide, Keep_w eσ1 Keep_r (by decide), fun h9 => ?_⟩; obtain ⟨g1, g2, g3, g4, g5, g6, g7, g8⟩ := h9; first | omega | exact g8 (Or.resolve_right hb9 (fun y => absurd y.1 (by omega))).2⟩
  · have j3 := t_neq c3
    refine lv_iload_n S.1 S.2.1 dX5_stop_13 rfl (lv_at hl 2 rfl) ?_
    refine cW_bpi (cW_S (n := 1) (As := [.int b]) (rest := []) S K hH (k_X5_isPlace l D B L A σ1 τ b ) gX5_stop_X5_isPlace rfl hdS_X5_isPlace ⟨Nat.le_of_ble_eq_true rfl, Nat.le_of_ble_eq_true rfl⟩ rfl hl.1 (Nat.le_of_ble_eq_true rfl) dX5_stop_14) hS (fun v4 H locs q4 hH hS => ?_)
    refine lv_if_eq (tgt := 68) S.1 S.2.1 dX5_stop_17 (by decide) (fun c5 => ?_) (fun c5 => ?_)
    · have j5 := t_eq c5
      refine lv_iconst (v := (-1)) S.1 S.2.1 dX5_stop_68 (by decide) ?_
      refine cW_iret S hr hk hH hS ?_ dX5_stop_69
      exact ⟨(-1), rfl, hI, hP, rfl, by refine Or.inl ⟨by decide, Keep_w eσ1 Keep_r (by decide), fun h9 => ?_⟩; obtain ⟨g1, g2, g3, g4, g5, g6, g7, g8⟩ := h9; first | omega | exact g8 (Or.resolve_right hb9 (fun y => absurd y.1 (by omega))).2⟩
    · have j5 := t_neq c5
      have hk9 : a.toNatClampNeg < nK N := by have z3 := cl_eq (j := a) (by omega); have z4 := hp1.2.1; omega
      have h6s := (hp1.1.2 _ hk9).1
      refine lv_aload_n S.1 S.2.1 dX5_stop_20 rfl (lv_at hl 0 rfl) ?_
      refine rM_0_9 S hnX5 K hH (mG wd_307) dX5_stop_21 ?_
      refine lv_iload_n S.1 S.2.1 dX5_stop_24 rfl (lv_at hl 1 rfl) ?_
      refine lM_9 S K hH (vin (by omega) (by omega)) dX5_stop_25 ?_
      refine lv_topi (fun v6 e6 => ?_)
      have b6 : 0 ≤ v6.toInt ∧ v6.toInt ≤ 6 := by rw [e6]; exact hI.1 9 0 a.toNatClampNeg
      have f25 : v6.toInt = nS N a.toNatClampNeg := by rw [e6, eσ1, rs_v (by decide)]; exact ((hp1.2.2 _ hk9).1).1
      refine lv_bipush (v := 6) S.1 S.2.1 dX5_stop_26 (by decide) ?_
      refine lv_icmp_eq (tgt := 68) S.1 S.2.1 dX5_stop_28 (by decide) (fun c7 => ?_) (fun c7 => ?_)
      · have j7 := t_eq c7
        refine lv_iconst (v := (-1)) S.1 S.2.1 dX5_stop_68 (by decide) ?_
        refine cW_iret S hr hk hH hS ?_ dX5_stop_69
        exact ⟨(-1), rfl, hI, hP, rfl, by refine Or.inl ⟨by decide, Keep_w eσ1 Keep_r (by decide), fun h9 => ?_⟩; obtain ⟨g1, g2, g3, g4, g5, g6, g7, g8⟩ := h9; first | omega | exact g8 (Or.resolve_right hb9 (fun y => absurd y.1 (by omega))).2⟩
      · have j7 := t_neq c7
        refine lv_aload_n S.1 S.2.1 dX5_stop_31 rfl (lv_at hl 0 rfl) ?_
        refine lv_iload_n S.1 S.2.1 dX5_stop_32 rfl (lv_at hl 1 rfl) ?_
        refine cW_bpi (cW_V (n := 1) (As := [.int a]) (rest := []) (k := 0) (i := 0) S K hH (by decide) rfl rfl (k_X5_isBusy l D B L A σ1 τ a hI) gX5_stop_X5_isBusy rfl hdV_X5_isBusy ⟨Nat.le_of_ble_eq_true rfl, Nat.le_of_ble_eq_true rfl⟩ rfl hl.1 (Nat.le_of_ble_eq_true rfl) dX5_stop_33) hS (fun v8 H locs q8 hH hS => ?_)
        have hb9 : (v8.toInt = 1 ∧ busyM σ a) ∨ (v8.toInt = 0 ∧ ¬ busyM σ a) := by have z1 := q8; unfold busyM at z1 ⊢; rw [eσ1, rs_v (by decide), rs_v (by decide)] at z1; exact z1
        refine lv_if_ne (tgt := 68) S.1 S.2.1 dX5_stop_36 (by decide) (fun c9 => ?_) (fun c9 => ?_)
        · have j9 := t_neq c9
          refine lv_iconst (v := (-1)) S.1 S.2.1 dX5_stop_68 (by decide) ?_
          refine cW_iret S hr hk hH hS ?_ dX5_stop_69
          exact ⟨(-1), rfl, hI, hP, rfl, by refine Or.inl ⟨by decide, Keep_w eσ1 Keep_r (by decide), fun h9 => ?_⟩; obtain ⟨g1, g2, g3, g4, g5, g6, g7, g8⟩ := h9; first | omega | exact g8 (Or.resolve_right hb9 (fun y => absurd y.1 (by omega))).2⟩
        · have j9 := t_eq c9
          refine lv_iload_n S.1 S.2.1 dX5_stop_39 rfl (lv_at hl 3 rfl) ?_
          refine lv_aload_n S.1 S.2.1 dX5_stop_40 rfl (lv_at hl 0 rfl) ?_
          refine rM_0_12 S hnX5 K hH (mG wd_310) dX5_stop_41 ?_
          refine lv_bipush (v := 6) S.1 S.2.1 dX5_stop_44 (by decide) ?_
          refine lv_iload_n S.1 S.2.1 dX5_stop_46 rfl (lv_at hl 1 rfl) ?_
          refine lv_imul S.1 S.2.1 dX5_stop_47 ?_
          refine lv_topi (fun v10 e10 => ?_)
          have i10 : v10.toInt = 6 * a.toInt := i_mulcl e10 (by decide) (by omega) (by omega)
          refine lv_aload_n S.1 S.2.1 dX5_stop_48 rfl (lv_at hl 0 rfl) ?_
          refine rM_0_9 S hnX5 K hH (mG wd_307) dX5_stop_49 ?_
          refine lv_iload_n S.1 S.2.1 dX5_stop_52 rfl (lv_at hl 1 rfl) ?_
          refine lM_9 S K hH (vin (by omega) (by omega)) dX5_stop_53 ?_
          refine lv_topi (fun v11 e11 => ?_)
          have b11 : 0 ≤ v11.toInt ∧ v11.toInt ≤ 6 := by rw [e11]; exact hI.1 9 0 a.toNatClampNeg
          have k11 : v11.toInt = v6.toInt := by rw [e11]; rw [← e6]
          have zv11 : 1 ≤ v11.toInt := by rw [e11]; exact hI.2 _ (by have h9 := cl_eq (j := a) (by omega); omega)
          refine lv_iadd S.1 S.2.1 dX5_stop_54 ?_
          refine lv_topi (fun v12 e12 => ?_)
          have i12 : v12.toInt = v10.toInt + v11.toInt := i_add e12 (by omega) (by omega)
          refine lv_iconst (v := 1) S.1 S.2.1 dX5_stop_55 (by decide) ?_
          refine lv_isub S.1 S.2.1 dX5_stop_56 ?_
          refine lv_topi (fun v13 e13 => ?_)
          have i13 : v13.toInt = v12.toInt - (1 : Int32).toInt := i_sub e13 (by omega) (by omega)
          refine lM_12 S K hH (vin (by omega) (by omega)) dX5_stop_57 ?_
          refine lv_topi (fun v14 e14 => ?_)
          have b14 : 0 ≤ v14.toInt ∧ v14.toInt ≤ 60 := by rw [e14]; exact hI.1 12 0 v13.toNatClampNeg
          have f57 : v14.toInt = nO N a.toNatClampNeg (nS N a.toNatClampNeg - 1) := by rw [e14, eσ1, rs_v (by decide), show v13.toNatClampNeg = 6 * a.toNatClampNeg + (nS N a.toNatClampNeg - 1) by have z3 := cl_eq (j := v13) (by omega); have z4 := cl_eq (j := a) (by omega); omega]; exact ((hp1.2.2 _ hk9).2.1 _ (by omega)).2
          refine lv_iconst (v := 1) S.1 S.2.1 dX5_stop_58 (by decide) ?_
          refine lv_iadd S.1 S.2.1 dX5_stop_59 ?_
          refine lv_topi (fun v15 e15 => ?_)
          have i15 : v15.toInt = v14.toInt + (1 : Int32).toInt := i_add e15 (by omega) (by omega)
          refine lv_bipush (v := 60) S.1 S.2.1 dX5_stop_60 (by decide) ?_
          refine cW_bpi (cW_S (n := 3) (As := [.int z, .int v15, .int 60]) (rest := []) S K hH (k_X5_isIn l D B L A σ1 τ z v15 60 ) gX5_stop_X5_isIn rfl hdS_X5_isIn ⟨Nat.le_of_ble_eq_true rfl, Nat.le_of_ble_eq_true rfl⟩ rfl hl.1 (Nat.le_of_ble_eq_true rfl) dX5_stop_62) hS (fun v16 H locs q16 hH hS => ?_)
          refine lv_if_ne (tgt := 70) S.1 S.2.1 dX5_stop_65 (by decide) (fun c17 => ?_) (fun c17 => ?_)
          · have j17 := t_neq c17
            refine lv_aload_n S.1 S.2.1 dX5_stop_70 rfl (lv_at hl 0 rfl) ?_
            refine rM_0_11 S hnX5 K hH (mG wd_309) dX5_stop_71 ?_
            refine lv_bipush (v := 6) S.1 S.2.1 dX5_stop_74 (by decide) ?_
            refine lv_iload_n S.1 S.2.1 dX5_stop_76 rfl (lv_at hl 1 rfl) ?_
            refine lv_imul S.1 S.2.1 dX5_stop_77 ?_
            refine lv_topi (fun v18 e18 => ?_)
            have i18 : v18.toInt = 6 * a.toInt := i_mulcl e18 (by decide) (by omega) (by omega)
            refine lv_aload_n S.1 S.2.1 dX5_stop_78 rfl (lv_at hl 0 rfl) ?_
            refine rM_0_9 S hnX5 K hH (mG wd_307) dX5_stop_79 ?_
            refine lv_iload_n S.1 S.2.1 dX5_stop_82 rfl (lv_at hl 1 rfl) ?_
            refine lM_9 S K hH (vin (by omega) (by omega)) dX5_stop_83 ?_
            refine lv_topi (fun v19 e19 => ?_)
            have b19 : 0 ≤ v19.toInt ∧ v19.toInt ≤ 6 := by rw [e19]; exact hI.1 9 0 a.toNatClampNeg
            have k19 : v19.toInt = v6.toInt := by rw [e19]; rw [← e6]
            refine lv_iadd S.1 S.2.1 dX5_stop_84 ?_
            refine lv_topi (fun v20 e20 => ?_)
            have i20 : v20.toInt = v18.toInt + v19.toInt := i_add e20 (by omega) (by omega)
            have g84 : v20.toNatClampNeg = 6 * a.toNatClampNeg + nS N a.toNatClampNeg := by have z3 := cl_eq (j := v20) (by omega); have z4 := cl_eq (j := a) (by omega); omega
            refine lv_iload_n S.1 S.2.1 dX5_stop_85 rfl (lv_at hl 2 rfl) ?_
            refine sM_11 S K hH hS (vin (by omega) (by omega)) dX5_stop_86 (fun H locs hH hS => ?_)
            obtain ⟨σ21, eσ21⟩ : ∃ z_9 : QS, z_9 = rs σ1 11 0 (upd (σ1 11 0) v20.toNatClampNeg b) := ⟨_, rfl⟩
            rw [← eσ21] at hH
            have hI := InvM_a eσ21 hI (by decide) (show (0 : Int) ≤ b.toInt ∧ b.toInt ≤ 11 by omega)
            have hP := Keep_w eσ21 hP (by decide)
            refine lv_aload_n S.1 S.2.1 dX5_stop_87 rfl (lv_at hl 0 rfl) ?_
            refine rM_0_12 S hnX5 K hH (mG wd_310) dX5_stop_88 ?_
            refine lv_bipush (v := 6) S.1 S.2.1 dX5_stop_91 (by decide) ?_
            refine lv_iload_n S.1 S.2.1 dX5_stop_93 rfl (lv_at hl 1 rfl) ?_
            refine lv_imul S.1 S.2.1 dX5_stop_94 ?_
            refine lv_topi (fun v22 e22 => ?_)
            have i22 : v22.toInt = 6 * a.toInt := i_mulcl e22 (by decide) (by omega) (by omega)
            refine lv_aload_n S.1 S.2.1 dX5_stop_95 rfl (lv_at hl 0 rfl) ?_
            refine rM_0_9 S hnX5 K hH (mG wd_307) dX5_stop_96 ?_
            refine lv_iload_n S.1 S.2.1 dX5_stop_99 rfl (lv_at hl 1 rfl) ?_
            refine lM_9 S K hH (vin (by omega) (by omega)) dX5_stop_100 ?_
            refine lv_topi (fun v23 e23 => ?_)
            have b23 : 0 ≤ v23.toInt ∧ v23.toInt ≤ 6 := by rw [e23]; exact hI.1 9 0 a.toNatClampNeg
            have k23 : v23.toInt = v6.toInt := by rw [e23, eσ21, rs_v (by decide)]; rw [← e6]
            refine lv_iadd S.1 S.2.1 dX5_stop_101 ?_
            refine lv_topi (fun v24 e24 => ?_)
            have i24 : v24.toInt = v22.toInt + v23.toInt := i_add e24 (by omega) (by omega)
            have g101 : v24.toNatClampNeg = 6 * a.toNatClampNeg + nS N a.toNatClampNeg := by have z3 := cl_eq (j := v24) (by omega); have z4 := cl_eq (j := a) (by omega); omega
            refine lv_iload_n S.1 S.2.1 dX5_stop_102 rfl (lv_at hl 3 rfl) ?_
            refine sM_12 S K hH hS (vin (by omega) (by omega)) dX5_stop_103 (fun H locs hH hS => ?_)
            obtain ⟨σ25, eσ25⟩ : ∃ z_9 : QS, z_9 = rs σ21 12 0 (upd (σ21 12 0) v24.toNatClampNeg z) := ⟨_, rfl⟩
            rw [← eσ25] at hH
            have hI := InvM_a eσ25 hI (by decide) (show (0 : Int) ≤ z.toInt ∧ z.toInt ≤ 60 by omega)
            have hP := Keep_w eσ25 hP (by decide)
            refine lv_aload_n S.1 S.2.1 dX5_stop_104 rfl (lv_at hl 0 rfl) ?_
            refine rM_0_9 S hnX5 K hH (mG wd_307) dX5_stop_105 ?_
            refine lv_iload_n S.1 S.2.1 dX5_stop_108 rfl (lv_at hl 1 rfl) ?_
            refine lv_dup2_11 S.1 S.2.1 dX5_stop_109 rfl rfl ?_
            refine lM_9 S K hH (vin (by omega) (by omega)) dX5_stop_110 ?_
            refine lv_topi (fun v26 e26 => ?_)
            have b26 : 0 ≤ v26.toInt ∧ v26.toInt ≤ 6 := by rw [e26]; exact hI.1 9 0 a.toNatClampNeg
            have k26 : v26.toInt = v6.toInt := by rw [e26, eσ25, rs_v (by decide), eσ21, rs_v (by decide)]; rw [← e6]
            refine lv_iconst (v := 1) S.1 S.2.1 dX5_stop_111 (by decide) ?_
            refine lv_iadd S.1 S.2.1 dX5_stop_112 ?_
            refine lv_topi (fun v27 e27 => ?_)
            have i27 : v27.toInt = v26.toInt + (1 : Int32).toInt := i_add e27 (by omega) (by omega)
            refine sM_9 S K hH hS (vin (by omega) (by omega)) dX5_stop_113 (fun H locs hH hS => ?_)
            obtain ⟨σ28, eσ28⟩ : ∃ z_9 : QS, z_9 = rs σ25 9 0 (upd (σ25 9 0) a.toNatClampNeg v27) := ⟨_, rfl⟩
            rw [← eσ28] at hH
            have hI : InvM σ28 := InvM_stops eσ28 hI (by omega)
            have hP := Keep_w eσ28 hP (by decide)
            refine lv_aload_n S.1 S.2.1 dX5_stop_114 rfl (lv_at hl 0 rfl) ?_
            refine cW_bv (cW_V (n := 0) (As := []) (rest := []) (k := 0) (i := 0) S K hH (by decide) rfl rfl (k_X5_forget l D B L A σ28 τ  hI) gX5_stop_X5_forget rfl hdV_X5_forget ⟨Nat.le_of_ble_eq_true rfl, Nat.le_of_ble_eq_true rfl⟩ rfl hl.1 (Nat.le_of_ble_eq_true rfl) dX5_stop_115) hS (fun σ29 τ29 H locs q29 hH hS => ?_)
            obtain ⟨hI, hP29, hτ29, q29⟩ := q29
            rw [hτ29] at hH
            have hP := Keep_t hP hP29 (by decide)
            have yk : ∀ v' : Nat, v' ∈ [2, 5, 6, 13] → σ29 v' = σ v' := fun v' hv' => by rw [hP29 v' (by revert hv'; revert v'; decide), eσ28, rs_v (by intro z9; subst z9; revert hv'; decide), eσ25, rs_v (by intro z9; subst z9; revert hv'; decide), eσ21, rs_v (by intro z9; subst z9; revert hv'; decide), eσ1, rs_v (by intro z9; subst z9; revert hv'; decide)]
            refine lv_aload_n S.1 S.2.1 dX5_stop_118 rfl (lv_at hl 0 rfl) ?_
            refine rM_0_9 S hnX5 K hH (mG wd_307) dX5_stop_119 ?_
            refine lv_iload_n S.1 S.2.1 dX5_stop_122 rfl (lv_at hl 1 rfl) ?_
            refine lM_9 S K hH (vin (by omega) (by omega)) dX5_stop_123 ?_
            refine lv_topi (fun v30 e30 => ?_)
            have b30 : 0 ≤ v30.toInt ∧ v30.toInt ≤ 6 := by rw [e30]; exact hI.1 9 0 a.toNatClampNeg
            have f123 : v30.toInt = nS N a.toNatClampNeg + 1 := by rw [e30, hP29 9 (by decide), eσ28, rs_self]; unfold upd; rw [if_pos rfl]; omega
            refine cW_iret S hr hk hH hS ?_ dX5_stop_124
            exact ⟨v30, rfl, hI, hP, rfl, by exact Or.inr ⟨f123, ⟨by omega, by omega, by omega, by omega, by omega, by omega, by omega, (Or.resolve_left hb9 (fun y => absurd y.1 (by omega))).2⟩, repM_S hp1 hk9 (by omega) (by omega) (by omega) (by omega) (by rw [hP29 11 (by decide), eσ28, rs_v (by decide), eσ25, rs_v (by decide), eσ21, rs_self, g84, eσ1, rs_v (by decide)]) (by rw [hP29 12 (by decide), eσ28, rs_v (by decide), eσ25, rs_self, g101, eσ21, rs_v (by decide), eσ1, rs_v (by decide)]) (x9 := v27) (by rw [hP29 9 (by decide), eσ28, rs_self, eσ25, rs_v (by decide), eσ21, rs_v (by decide), eσ1, rs_v (by decide)]) (by omega) yk, by rw [q29]; rw [eσ28, rs_v (by decide), eσ25, rs_v (by decide), eσ21, rs_v (by decide), eσ1, rs_v (by decide)]⟩⟩
          · have j17 := t_eq c17
            refine lv_iconst (v := (-1)) S.1 S.2.1 dX5_stop_68 (by decide) ?_
            refine cW_iret S hr hk hH hS ?_ dX5_stop_69
            exact ⟨(-1), rfl, hI, hP, rfl, by refine Or.inl ⟨by decide, Keep_w eσ1 Keep_r (by decide), fun h9 => ?_⟩; obtain ⟨g1, g2, g3, g4, g5, g6, g7, g8⟩ := h9; first | omega | exact g8 (Or.resolve_right hb9 (fun y => absurd y.1 (by omega))).2⟩
set_option maxHeartbeats 4000000 in
set_option maxRecDepth 100000 in
theorem k_X5_change (l : Launch) (D : va_G) (B : Nat → ClassId) (L : QL) (A : Nat → Prop) (σ : QS) (τ : Int64) (a : Int32) (b : Int32) (r : Int32) (f : Int32) (N : Net) (hI : InvM σ) (hp1 : RepM σ N) : cW cntM gM l D B L A yX5_change wsX5_change 1 22 [.ref (L 0 0), .int a, .int b, .int r, .int f] σ τ (pI (fun x σ' τ' => InvM σ' ∧ Keep [0, 5, 7, 8, 17] σ σ' ∧ τ' = τ ∧ ((x.toInt = 0 ∧ Keep [0] σ σ' ∧ ¬ (0 ≤ a.toInt ∧ a.toInt < (σ 2 0 0).toInt ∧ 0 ≤ b.toInt ∧ b.toInt ≤ 127 ∧ 0 ≤ r.toInt ∧ r.toInt ≤ 50 ∧ 0 ≤ f.toInt ∧ f.toInt ≤ 20 ∧ ¬ busyM σ a)) ∨ (x.toInt = 1 ∧ (0 ≤ a.toInt ∧ a.toInt < (σ 2 0 0).toInt ∧ 0 ≤ b.toInt ∧ b.toInt ≤ 127 ∧ 0 ≤ r.toInt ∧ r.toInt ≤ 50 ∧ 0 ≤ f.toInt ∧ f.toInt ≤ 20 ∧ ¬ busyM σ a) ∧ RepM σ' (netW N a.toNatClampNeg b.toNatClampNeg) ∧ σ' 17 0 0 = σ 17 0 0 + 1 ∧ σ' 7 0 = upd (σ 7 0) a.toNatClampNeg r ∧ σ' 8 0 = upd (σ 8 0) a.toNatClampNeg f)))) := by
  refine cW_of (cc := cX5_change) (nL := 5) (ret := (some .boolean)) (by decide) rfl (Nat.le_of_ble_eq_true rfl) ?_
  intro p e s m below meth c S hr hk K hH hS ls hl
  have hnX5 : ∀ w ∈ wsX50, w ∈ wsX5_change := fun w h => mG (tX5 w h)
  have l0 : (0 : Int32).toInt = 0 := by decide
  have l1 : (1 : Int32).toInt = 1 := by decide
  have l20 : (20 : Int32).toInt = 20 := by decide
  have l50 : (50 : Int32).toInt = 50 := by decide
  have l127 : (127 : Int32).toInt = 127 := by decide
  have hP : Keep [0, 5, 7, 8, 17] σ σ := Keep_r
  have hl : lv_has ls 5 [(0, .ref (L 0 0)), (1, .int a), (2, .int b), (3, .int r), (4, .int f)] := hl
  refine lv_aload_n S.1 S.2.1 dX5_change_0 rfl (lv_at hl 0 rfl) ?_
  refine lv_iconst (v := 0) S.1 S.2.1 dX5_change_1 (by decide) ?_
  refine pM_0_0 S hnX5 K hH hS (mG wd_337) dX5_change_2 (fun H locs hH hS => ?_)
  obtain ⟨σ1, eσ1⟩ : ∃ z_9 : QS, z_9 = rs σ 0 0 (fun _ => 0) := ⟨_, rfl⟩
  rw [← eσ1] at hH
  have hI := InvM_f eσ1 hI (by decide) (any32 _)
  have hP := Keep_w eσ1 hP (by decide)
  refine lv_aload_n S.1 S.2.1 dX5_change_5 rfl (lv_at hl 0 rfl) ?_
  refine lv_iload_n S.1 S.2.1 dX5_change_6 rfl (lv_at hl 1 rfl) ?_
  refine cW_bpi (cW_V (n := 1) (As := [.int a]) (rest := []) (k := 0) (i := 0) S K hH (by decide) rfl rfl (k_X5_isCart l D B L A σ1 τ a hI) gX5_change_X5_isCart rfl hdV_X5_isCart ⟨Nat.le_of_ble_eq_true rfl, Nat.le_of_ble_eq_true rfl⟩ rfl hl.1 (Nat.le_of_ble_eq_true rfl) dX5_change_7) hS (fun v2 H locs q2 hH hS => ?_)
  refine lv_if_eq (tgt := 52) S.1 S.2.1 dX5_change_10 (by decide) (fun c3 => ?_) (fun c3 => ?_)
  · have j3 := t_eq c3
    refine lv_iconst (v := 0) S.1 S.2.1 dX5_change_52 (by decide) ?_
    refine cW_zret S hr hk hH hS (by decide) ?_ dX5_change_53
    exact ⟨0, rfl, hI, hP, rfl, by refine Or.inl ⟨by decide, Keep_w eσ1 Keep_r (by decide), fun h9 => ?_⟩; obtain ⟨g1, g2, g3, g4, g5, g6, g7, g8, g10⟩ := h9; first | omega | (have gz3 : (σ1 2 0 0).toInt = (σ 2 0 0).toInt := (by rw [eσ1, rs_v (by decide)]); omega) | exact g10 (Or.resolve_right hb9 (fun y => absurd y.1 (by omega))).2⟩
  · have j3 := t_neq c3
    have gz2 : (σ1 2 0 0).toInt = (σ 2 0 0).toInt := by rw [eσ1, rs_v (by decide)]
    have hk9 : a.toNatClampNeg < nK N := by have z3 := cl_eq (j := a) (by omega); have z4 := hp1.2.1; omega
    refine lv_iload_n S.1 S.2.1 dX5_change_13 rfl (lv_at hl 2 rfl) ?_
    refine lv_iconst (v := 0) S.1 S.2.1 dX5_change_14 (by decide) ?_
    refine lv_bipush (v := 127) S.1 S.2.1 dX5_change_15 (by decide) ?_
    refine cW_bpi (cW_S (n := 3) (As := [.int b, .int 0, .int 127]) (rest := []) S K hH (k_X5_isIn l D B L A σ1 τ b 0 127 ) gX5_change_X5_isIn rfl hdS_X5_isIn ⟨Nat.le_of_ble_eq_true rfl, Nat.le_of_ble_eq_true rfl⟩ rfl hl.1 (Nat.le_of_ble_eq_true rfl) dX5_change_17) hS (fun v4 H locs q4 hH hS => ?_)
    refine lv_if_eq (tgt := 52) S.1 S.2.1 dX5_change_20 (by decide) (fun c5 => ?_) (fun c5 => ?_)
    · have j5 := t_eq c5
      refine lv_iconst (v := 0) S.1 S.2.1 dX5_change_52 (by decide) ?_
      refine cW_zret S hr hk hH hS (by decide) ?_ dX5_change_53
      exact ⟨0, rfl, hI, hP, rfl, by refine Or.inl ⟨by decide, Keep_w eσ1 Keep_r (by decide), fun h9 => ?_⟩; obtain ⟨g1, g2, g3, g4, g5, g6, g7, g8, g10⟩ := h9; first | omega | (have gz3 : (σ1 2 0 0).toInt = (σ 2 0 0).toInt := (by rw [eσ1, rs_v (by decide)]); omega) | exact g10 (Or.resolve_right hb9 (fun y => absurd y.1 (by omega))).2⟩
    · have j5 := t_neq c5
      refine lv_iload_n S.1 S.2.1 dX5_change_23 rfl (lv_at hl 3 rfl) ?_
      refine lv_iconst (v := 0) S.1 S.2.1 dX5_change_24 (by decide) ?_
      refine lv_bipush (v := 50) S.1 S.2.1 dX5_change_25 (by decide) ?_
      refine cW_bpi (cW_S (n := 3) (As := [.int r, .int 0, .int 50]) (rest := []) S K hH (k_X5_isIn l D B L A σ1 τ r 0 50 ) gX5_change_X5_isIn rfl hdS_X5_isIn ⟨Nat.le_of_ble_eq_true rfl, Nat.le_of_ble_eq_true rfl⟩ rfl hl.1 (Nat.le_of_ble_eq_true rfl) dX5_change_27) hS (fun v6 H locs q6 hH hS => ?_)
      refine lv_if_eq (tgt := 52) S.1 S.2.1 dX5_change_30 (by decide) (fun c7 => ?_) (fun c7 => ?_)
      · have j7 := t_eq c7
        refine lv_iconst (v := 0) S.1 S.2.1 dX5_change_52 (by decide) ?_
        refine cW_zret S hr hk hH hS (by decide) ?_ dX5_change_53
        exact ⟨0, rfl, hI, hP, rfl, by refine Or.inl ⟨by decide, Keep_w eσ1 Keep_r (by decide), fun h9 => ?_⟩; obtain ⟨g1, g2, g3, g4, g5, g6, g7, g8, g10⟩ := h9; first | omega | (have gz3 : (σ1 2 0 0).toInt = (σ 2 0 0).toInt := (by rw [eσ1, rs_v (by decide)]); omega) | exact g10 (Or.resolve_right hb9 (fun y => absurd y.1 (by omega))).2⟩
      · have j7 := t_neq c7
        refine lv_iload S.1 S.2.1 dX5_change_33 (lv_at hl 4 rfl) ?_
        refine lv_iconst (v := 0) S.1 S.2.1 dX5_change_35 (by decide) ?_
        refine lv_bipush (v := 20) S.1 S.2.1 dX5_change_36 (by decide) ?_
        refine cW_bpi (cW_S (n := 3) (As := [.int f, .int 0, .int 20]) (rest := []) S K hH (k_X5_isIn l D B L A σ1 τ f 0 20 ) gX5_change_X5_isIn rfl hdS_X5_isIn ⟨Nat.le_of_ble_eq_true rfl, Nat.le_of_ble_eq_true rfl⟩ rfl hl.1 (Nat.le_of_ble_eq_true rfl) dX5_change_38) hS (fun v8 H locs q8 hH hS => ?_)
        refine lv_if_eq (tgt := 52) S.1 S.2.1 dX5_change_41 (by decide) (fun c9 => ?_) (fun c9 => ?_)
        · have j9 := t_eq c9
          refine lv_iconst (v := 0) S.1 S.2.1 dX5_change_52 (by decide) ?_
          refine cW_zret S hr hk hH hS (by decide) ?_ dX5_change_53
          exact ⟨0, rfl, hI, hP, rfl, by refine Or.inl ⟨by decide, Keep_w eσ1 Keep_r (by decide), fun h9 => ?_⟩; obtain ⟨g1, g2, g3, g4, g5, g6, g7, g8, g10⟩ := h9; first | omega | (have gz3 : (σ1 2 0 0).toInt = (σ 2 0 0).toInt := (by rw [eσ1, rs_v (by decide)]); omega) | exact g10 (Or.resolve_right hb9 (fun y => absurd y.1 (by omega))).2⟩
        · have j9 := t_neq c9
          refine lv_aload_n S.1 S.2.1 dX5_change_44 rfl (lv_at hl 0 rfl) ?_
          refine lv_iload_n S.1 S.2.1 dX5_change_45 rfl (lv_at hl 1 rfl) ?_
          refine cW_bpi (cW_V (n := 1) (As := [.int a]) (rest := []) (k := 0) (i := 0) S K hH (by decide) rfl rfl (k_X5_isBusy l D B L A σ1 τ a hI) gX5_change_X5_isBusy rfl hdV_X5_isBusy ⟨Nat.le_of_ble_eq_true rfl, Nat.le_of_ble_eq_true rfl⟩ rfl hl.1 (Nat.le_of_ble_eq_true rfl) dX5_change_46) hS (fun v10 H locs q10 hH hS => ?_)
          have hb9 : (v10.toInt = 1 ∧ busyM σ a) ∨ (v10.toInt = 0 ∧ ¬ busyM σ a) := by have z1 := q10; unfold busyM at z1 ⊢; rw [eσ1, rs_v (by decide), rs_v (by decide)] at z1; exact z1
          refine lv_if_eq (tgt := 54) S.1 S.2.1 dX5_change_49 (by decide) (fun c11 => ?_) (fun c11 => ?_)
          · have j11 := t_eq c11
            refine lv_aload_n S.1 S.2.1 dX5_change_54 rfl (lv_at hl 0 rfl) ?_
            refine rM_0_5 S hnX5 K hH (mG wd_303) dX5_change_55 ?_
            refine lv_iload_n S.1 S.2.1 dX5_change_58 rfl (lv_at hl 1 rfl) ?_
            refine lv_iload_n S.1 S.2.1 dX5_change_59 rfl (lv_at hl 2 rfl) ?_
            refine sM_5 S K hH hS (vin (by omega) (by omega)) dX5_change_60 (fun H locs hH hS => ?_)
            obtain ⟨σ12, eσ12⟩ : ∃ z_9 : QS, z_9 = rs σ1 5 0 (upd (σ1 5 0) a.toNatClampNeg b) := ⟨_, rfl⟩
            rw [← eσ12] at hH
            have hI := InvM_a eσ12 hI (by decide) (any32 _)
            have hP := Keep_w eσ12 hP (by decide)
            refine lv_aload_n S.1 S.2.1 dX5_change_61 rfl (lv_at hl 0 rfl) ?_
            refine rM_0_7 S hnX5 K hH (mG wd_305) dX5_change_62 ?_
            refine lv_iload_n S.1 S.2.1 dX5_change_65 rfl (lv_at hl 1 rfl) ?_
            refine lv_iload_n S.1 S.2.1 dX5_change_66 rfl (lv_at hl 3 rfl) ?_
            refine sM_7 S K hH hS (vin (by omega) (by omega)) dX5_change_67 (fun H locs hH hS => ?_)
            obtain ⟨σ13, eσ13⟩ : ∃ z_9 : QS, z_9 = rs σ12 7 0 (upd (σ12 7 0) a.toNatClampNeg r) := ⟨_, rfl⟩
            rw [← eσ13] at hH
            have hI := InvM_a eσ13 hI (by decide) (show (0 : Int) ≤ r.toInt ∧ r.toInt ≤ 50 by omega)
            have hP := Keep_w eσ13 hP (by decide)
            refine lv_aload_n S.1 S.2.1 dX5_change_68 rfl (lv_at hl 0 rfl) ?_
            refine rM_0_8 S hnX5 K hH (mG wd_306) dX5_change_69 ?_
            refine lv_iload_n S.1 S.2.1 dX5_change_72 rfl (lv_at hl 1 rfl) ?_
            refine lv_iload S.1 S.2.1 dX5_change_73 (lv_at hl 4 rfl) ?_
            refine sM_8 S K hH hS (vin (by omega) (by omega)) dX5_change_75 (fun H locs hH hS => ?_)
            obtain ⟨σ14, eσ14⟩ : ∃ z_9 : QS, z_9 = rs σ13 8 0 (upd (σ13 8 0) a.toNatClampNeg f) := ⟨_, rfl⟩
            rw [← eσ14] at hH
            have hI := InvM_a eσ14 hI (by decide) (any32 _)
            have hP := Keep_w eσ14 hP (by decide)
            refine lv_aload_n S.1 S.2.1 dX5_change_76 rfl (lv_at hl 0 rfl) ?_
            refine cW_bv (cW_V (n := 0) (As := []) (rest := []) (k := 0) (i := 0) S K hH (by decide) rfl rfl (k_X5_forget l D B L A σ14 τ  hI) gX5_change_X5_forget rfl hdV_X5_forget ⟨Nat.le_of_ble_eq_true rfl, Nat.le_of_ble_eq_true rfl⟩ rfl hl.1 (Nat.le_of_ble_eq_true rfl) dX5_change_77) hS (fun σ15 τ15 H locs q15 hH hS => ?_)
            obtain ⟨hI, hP15, hτ15, q15⟩ := q15
            rw [hτ15] at hH
            have hP := Keep_t hP hP15 (by decide)
            have yk : ∀ v' : Nat, v' ∈ [2, 6, 9, 11, 12, 13] → σ15 v' = σ v' := fun v' hv' => by rw [hP15 v' (by revert hv'; revert v'; decide), eσ14, rs_v (by intro z9; subst z9; revert hv'; decide), eσ13, rs_v (by intro z9; subst z9; revert hv'; decide), eσ12, rs_v (by intro z9; subst z9; revert hv'; decide), eσ1, rs_v (by intro z9; subst z9; revert hv'; decide)]
            refine lv_iconst (v := 1) S.1 S.2.1 dX5_change_80 (by decide) ?_
            refine cW_zret S hr hk hH hS (by decide) ?_ dX5_change_81
            exact ⟨1, rfl, hI, hP, rfl, by exact Or.inr ⟨by decide, ⟨by omega, by omega, by omega, by omega, by omega, by omega, by omega, by omega, (Or.resolve_left hb9 (fun y => absurd y.1 (by omega))).2⟩, repM_W hp1 hk9 (by omega) (by rw [hP15 5 (by decide), eσ14, rs_v (by decide), eσ13, rs_v (by decide), eσ12, rs_self, eσ1, rs_v (by decide)]) yk, by rw [q15]; rw [eσ14, rs_v (by decide), eσ13, rs_v (by decide), eσ12, rs_v (by decide), eσ1, rs_v (by decide)], by rw [hP15 7 (by decide), eσ14, rs_v (by decide), eσ13, rs_self, eσ12, rs_v (by decide), eσ1, rs_v (by decide)], by rw [hP15 8 (by decide), eσ14, rs_self, eσ13, rs_v (by decide), eσ12, rs_v (by decide), eσ1, rs_v (by decide)]⟩⟩
          · have j11 := t_neq c11
            refine lv_iconst (v := 0) S.1 S.2.1 dX5_change_52 (by decide) ?_
            refine cW_zret S hr hk hH hS (by decide) ?_ dX5_change_53
            exact ⟨0, rfl, hI, hP, rfl, by refine Or.inl ⟨by decide, Keep_w eσ1 Keep_r (by decide), fun h9 => ?_⟩; obtain ⟨g1, g2, g3, g4, g5, g6, g7, g8, g10⟩ := h9; first | omega | (have gz3 : (σ1 2 0 0).toInt = (σ 2 0 0).toInt := (by rw [eσ1, rs_v (by decide)]); omega) | exact g10 (Or.resolve_right hb9 (fun y => absurd y.1 (by omega))).2⟩
set_option maxHeartbeats 4000000 in
set_option maxRecDepth 100000 in
theorem k_X5_snow (l : Launch) (D : va_G) (B : Nat → ClassId) (L : QL) (A : Nat → Prop) (σ : QS) (τ : Int64) (a : Int32) (b : Int32) (N : Net) (hI : InvM σ) (hp1 : RepM σ N) : cW cntM gM l D B L A yX5_snow wsX5_snow 1 22 [.ref (L 0 0), .int a, .int b] σ τ (pI (fun x σ' τ' => InvM σ' ∧ Keep [0, 13, 3, 17] σ σ' ∧ τ' = τ ∧ (((x.toInt = 0 ∧ σ' 13 = σ 13 ∧ σ' 3 = σ 3 ∧ ¬ (0 ≤ a.toInt ∧ a.toInt < (σ 2 0 0).toInt ∧ (σ 1 0 0).toInt / 24 + 1 ≤ b.toInt ∧ b.toInt ≤ 300 ∧ (σ 3 0 0).toInt ≠ 100 ∧ σ 13 0 (301 * a.toNatClampNeg + b.toNatClampNeg) = 0)) ∨ (x.toInt = 1 ∧ (0 ≤ a.toInt ∧ a.toInt < (σ 2 0 0).toInt ∧ (σ 1 0 0).toInt / 24 + 1 ≤ b.toInt ∧ b.toInt ≤ 300 ∧ (σ 3 0 0).toInt ≠ 100 ∧ σ 13 0 (301 * a.toNatClampNeg + b.toNatClampNeg) = 0) ∧ (σ' 3 0 0).toInt = (σ 3 0 0).toInt + 1 ∧ σ' 13 = rs σ 13 0 (upd (σ 13 0) (301 * a.toNatClampNeg + b.toNatClampNeg) 1) 13)) ∧ ((x.toInt = 0 ∧ Keep [0] σ σ') ∨ (x.toInt = 1 ∧ RepM σ' (netN N a.toNatClampNeg b.toNatClampNeg) ∧ σ' 17 0 0 = σ 17 0 0 + 1))))) := by
  refine cW_of (cc := cX5_snow) (nL := 3) (ret := (some .boolean)) (by decide) rfl (Nat.le_of_ble_eq_true rfl) ?_
  intro p e s m below meth c S hr hk K hH hS ls hl
  have hnX5 : ∀ w ∈ wsX50, w ∈ wsX5_snow := fun w h => mG (tX5 w h)
  have l0 : (0 : Int32).toInt = 0 := by decide
  have l1 : (1 : Int32).toInt = 1 := by decide
  have l24 : (24 : Int32).toInt = 24 := by decide
  have l100 : (100 : Int32).toInt = 100 := by decide
  have l300 : (300 : Int32).toInt = 300 := by decide
  have l301 : (301 : Int32).toInt = 301 := by decide
  have hP : Keep [0, 13, 3, 17] σ σ := Keep_r
  have hl : lv_has ls 3 [(0, .ref (L 0 0)), (1, .int a), (2, .int b)] := hl
  refine lv_aload_n S.1 S.2.1 dX5_snow_0 rfl (lv_at hl 0 rfl) ?_
  refine lv_iconst (v := 0) S.1 S.2.1 dX5_snow_1 (by decide) ?_
  refine pM_0_0 S hnX5 K hH hS (mG wd_337) dX5_snow_2 (fun H locs hH hS => ?_)
  obtain ⟨σ1, eσ1⟩ : ∃ z_9 : QS, z_9 = rs σ 0 0 (fun _ => 0) := ⟨_, rfl⟩
  rw [← eσ1] at hH
  have hI := InvM_f eσ1 hI (by decide) (any32 _)
  have hP := Keep_w eσ1 hP (by decide)
  have gz2 : (σ1 2 0 0).toInt = (σ 2 0 0).toInt := by rw [eσ1, rs_v (by decide)]
  have h13 : σ1 13 = σ 13 := by rw [eσ1, rs_v (by decide)]
  refine lv_aload_n S.1 S.2.1 dX5_snow_5 rfl (lv_at hl 0 rfl) ?_
  refine lv_iload_n S.1 S.2.1 dX5_snow_6 rfl (lv_at hl 1 rfl) ?_
  refine cW_bpi (cW_V (n := 1) (As := [.int a]) (rest := []) (k := 0) (i := 0) S K hH (by decide) rfl rfl (k_X5_isCart l D B L A σ1 τ a hI) gX5_snow_X5_isCart rfl hdV_X5_isCart ⟨Nat.le_of_ble_eq_true rfl, Nat.le_of_ble_eq_true rfl⟩ rfl hl.1 (Nat.le_of_ble_eq_true rfl) dX5_snow_7) hS (fun v2 H locs q2 hH hS => ?_)
  refine lv_if_eq (tgt := 56) S.1 S.2.1 dX5_snow_10 (by decide) (fun c3 => ?_) (fun c3 => ?_)
  · have j3 := t_eq c3
    refine lv_iconst (v := 0) S.1 S.2.1 dX5_snow_56 (by decide) ?_
    refine cW_zret S hr hk hH hS (by decide) ?_ dX5_snow_57
    exact ⟨0, rfl, hI, hP, rfl, by refine ⟨Or.inl ⟨by decide, by rw [eσ1, rs_v (by decide)], by rw [eσ1, rs_v (by decide)], fun h9 => ?_⟩, Or.inl ⟨by decide, Keep_w eσ1 Keep_r (by decide)⟩⟩; obtain ⟨g1, g2, g3, g4, g5, g6⟩ := h9; first | omega | exact absurd (f43.trans g6) (by assumption)⟩
  · have j3 := t_neq c3
    refine lv_iload_n S.1 S.2.1 dX5_snow_13 rfl (lv_at hl 2 rfl) ?_
    refine lv_aload_n S.1 S.2.1 dX5_snow_14 rfl (lv_at hl 0 rfl) ?_
    refine rM_0_1 S hnX5 K hH (mG wd_352) dX5_snow_15 ?_
    refine lv_topi (fun v4 e4 => ?_)
    have b4 : 0 ≤ v4.toInt ∧ v4.toInt ≤ 5000 := by rw [e4]; exact hI.1 1 0 0
    have fv4 : v4.toInt = (σ 1 0 0).toInt := by rw [e4, eσ1, rs_v (by decide)]
    refine lv_bipush (v := 24) S.1 S.2.1 dX5_snow_18 (by decide) ?_
    refine lv_idiv S.1 S.2.1 dX5_snow_20 (by decide) ?_
    refine lv_topi (fun v5 e5 => ?_)
    have i5 : v5.toInt = v4.toInt / 24 := i_div e5 (by decide) (by decide) (by omega)
    refine lv_iconst (v := 1) S.1 S.2.1 dX5_snow_21 (by decide) ?_
    refine lv_iadd S.1 S.2.1 dX5_snow_22 ?_
    refine lv_topi (fun v6 e6 => ?_)
    have i6 : v6.toInt = v5.toInt + (1 : Int32).toInt := i_add e6 (by omega) (by omega)
    refine lv_sipush (v := 300) S.1 S.2.1 dX5_snow_23 (by decide) ?_
    refine cW_bpi (cW_S (n := 3) (As := [.int b, .int v6, .int 300]) (rest := []) S K hH (k_X5_isIn l D B L A σ1 τ b v6 300 ) gX5_snow_X5_isIn rfl hdS_X5_isIn ⟨Nat.le_of_ble_eq_true rfl, Nat.le_of_ble_eq_true rfl⟩ rfl hl.1 (Nat.le_of_ble_eq_true rfl) dX5_snow_26) hS (fun v7 H locs q7 hH hS => ?_)
    refine lv_if_eq (tgt := 56) S.1 S.2.1 dX5_snow_29 (by decide) (fun c8 => ?_) (fun c8 => ?_)
    · have j8 := t_eq c8
      refine lv_iconst (v := 0) S.1 S.2.1 dX5_snow_56 (by decide) ?_
      refine cW_zret S hr hk hH hS (by decide) ?_ dX5_snow_57
      exact ⟨0, rfl, hI, hP, rfl, by refine ⟨Or.inl ⟨by decide, by rw [eσ1, rs_v (by decide)], by rw [eσ1, rs_v (by decide)], fun h9 => ?_⟩, Or.inl ⟨by decide, Keep_w eσ1 Keep_r (by decide)⟩⟩; obtain ⟨g1, g2, g3, g4, g5, g6⟩ := h9; first | omega | exact absurd (f43.trans g6) (by assumption)⟩
    · have j8 := t_neq c8
      refine lv_aload_n S.1 S.2.1 dX5_snow_32 rfl (lv_at hl 0 rfl) ?_
      refine rM_0_13 S hnX5 K hH (mG wd_312) dX5_snow_33 ?_
      refine lv_sipush (v := 301) S.1 S.2.1 dX5_snow_36 (by decide) ?_
      refine lv_iload_n S.1 S.2.1 dX5_snow_39 rfl (lv_at hl 1 rfl) ?_
      refine lv_imul S.1 S.2.1 dX5_snow_40 ?_
      refine lv_topi (fun v9 e9 => ?_)
      have i9 : v9.toInt = 301 * a.toInt := i_mulcl e9 (by decide) (by omega) (by omega)
      refine lv_iload_n S.1 S.2.1 dX5_snow_41 rfl (lv_at hl 2 rfl) ?_
      refine lv_iadd S.1 S.2.1 dX5_snow_42 ?_
      refine lv_topi (fun v10 e10 => ?_)
      have i10 : v10.toInt = v9.toInt + b.toInt := i_add e10 (by omega) (by omega)
      refine lM_13 S K hH (vin (by omega) (by omega)) dX5_snow_43 ?_
      refine lv_topi (fun v11 e11 => ?_)
      have f43 : v11 = σ 13 0 (301 * a.toNatClampNeg + b.toNatClampNeg) := by rw [e11, eσ1, rs_v (by decide), ix301 i9 i10 (by omega) (by omega)]
      refine lv_if_ne (tgt := 56) S.1 S.2.1 dX5_snow_44 (by decide) (fun c12 => ?_) (fun c12 => ?_)
      · have j12 := t_neq c12
        refine lv_iconst (v := 0) S.1 S.2.1 dX5_snow_56 (by decide) ?_
        refine cW_zret S hr hk hH hS (by decide) ?_ dX5_snow_57
        exact ⟨0, rfl, hI, hP, rfl, by refine ⟨Or.inl ⟨by decide, by rw [eσ1, rs_v (by decide)], by rw [eσ1, rs_v (by decide)], fun h9 => ?_⟩, Or.inl ⟨by decide, Keep_w eσ1 Keep_r (by decide)⟩⟩; obtain ⟨g1, g2, g3, g4, g5, g6⟩ := h9; first | omega | exact absurd (f43.trans g6) (by assumption)⟩
      · have j12 := t_eq c12
        refine lv_aload_n S.1 S.2.1 dX5_snow_47 rfl (lv_at hl 0 rfl) ?_
        refine rM_0_3 S hnX5 K hH (mG wd_353) dX5_snow_48 ?_
        refine lv_topi (fun v13 e13 => ?_)
        have b13 : 0 ≤ v13.toInt ∧ v13.toInt ≤ 100 := by rw [e13]; exact hI.1 3 0 0
        have fv13 : v13.toInt = (σ 3 0 0).toInt := by rw [e13, eσ1, rs_v (by decide)]
        refine lv_bipush (v := 100) S.1 S.2.1 dX5_snow_51 (by decide) ?_
        refine lv_icmp_ne (tgt := 58) S.1 S.2.1 dX5_snow_53 (by decide) (fun c14 => ?_) (fun c14 => ?_)
        · have j14 := t_neq c14
          refine lv_aload_n S.1 S.2.1 dX5_snow_58 rfl (lv_at hl 0 rfl) ?_
          refine rM_0_13 S hnX5 K hH (mG wd_312) dX5_snow_59 ?_
          refine lv_sipush (v := 301) S.1 S.2.1 dX5_snow_62 (by decide) ?_
          refine lv_iload_n S.1 S.2.1 dX5_snow_65 rfl (lv_at hl 1 rfl) ?_
          refine lv_imul S.1 S.2.1 dX5_snow_66 ?_
          refine lv_topi (fun v15 e15 => ?_)
          have i15 : v15.toInt = 301 * a.toInt := i_mulcl e15 (by decide) (by omega) (by omega)
          refine lv_iload_n S.1 S.2.1 dX5_snow_67 rfl (lv_at hl 2 rfl) ?_
          refine lv_iadd S.1 S.2.1 dX5_snow_68 ?_
          refine lv_topi (fun v16 e16 => ?_)
          have i16 : v16.toInt = v15.toInt + b.toInt := i_add e16 (by omega) (by omega)
          refine lv_iconst (v := 1) S.1 S.2.1 dX5_snow_69 (by decide) ?_
          refine sM_13 S K hH hS (vin (by omega) (by omega)) dX5_snow_70 (fun H locs hH hS => ?_)
          obtain ⟨σ17, eσ17⟩ : ∃ z_9 : QS, z_9 = rs σ1 13 0 (upd (σ1 13 0) v16.toNatClampNeg (vp_nar .boolean 1)) := ⟨_, rfl⟩
          rw [← eσ17] at hH
          have hI := InvM_a eσ17 hI (by decide) (any32 _)
          have hP := Keep_w eσ17 hP (by decide)
          refine lv_aload_n S.1 S.2.1 dX5_snow_71 rfl (lv_at hl 0 rfl) ?_
          refine lv_dup S.1 S.2.1 dX5_snow_72 rfl ?_
          refine rM_0_3 S hnX5 K hH (mG wd_353) dX5_snow_73 ?_
          refine lv_topi (fun v18 e18 => ?_)
          have b18 : 0 ≤ v18.toInt ∧ v18.toInt ≤ 100 := by rw [e18]; exact hI.1 3 0 0
          have k18 : v18.toInt = v13.toInt := by rw [e18, eσ17, rs_v (by decide)]; rw [← e13]
          refine lv_iconst (v := 1) S.1 S.2.1 dX5_snow_76 (by decide) ?_
          refine lv_iadd S.1 S.2.1 dX5_snow_77 ?_
          refine lv_topi (fun v19 e19 => ?_)
          have i19 : v19.toInt = v18.toInt + (1 : Int32).toInt := i_add e19 (by omega) (by omega)
          refine pM_0_3 S hnX5 K hH hS (mG wd_353) dX5_snow_78 (fun H locs hH hS => ?_)
          obtain ⟨σ20, eσ20⟩ : ∃ z_9 : QS, z_9 = rs σ17 3 0 (fun _ => v19) := ⟨_, rfl⟩
          rw [← eσ20] at hH
          have hI := InvM_f eσ20 hI (by decide) (show (0 : Int) ≤ v19.toInt ∧ v19.toInt ≤ 100 by omega)
          have hP := Keep_w eσ20 hP (by decide)
          refine lv_aload_n S.1 S.2.1 dX5_snow_81 rfl (lv_at hl 0 rfl) ?_
          refine cW_bv (cW_V (n := 0) (As := []) (rest := []) (k := 0) (i := 0) S K hH (by decide) rfl rfl (k_X5_forget l D B L A σ20 τ  hI) gX5_snow_X5_forget rfl hdV_X5_forget ⟨Nat.le_of_ble_eq_true rfl, Nat.le_of_ble_eq_true rfl⟩ rfl hl.1 (Nat.le_of_ble_eq_true rfl) dX5_snow_82) hS (fun σ21 τ21 H locs q21 hH hS => ?_)
          obtain ⟨hI, hP21, hτ21, q21⟩ := q21
          rw [hτ21] at hH
          have hP := Keep_t hP hP21 (by decide)
          have yk : ∀ v' : Nat, v' ∈ [2, 5, 6, 9, 11, 12] → σ21 v' = σ v' := fun v' hv' => by rw [hP21 v' (by revert hv'; revert v'; decide), eσ20, rs_v (by intro z9; subst z9; revert hv'; decide), eσ17, rs_v (by intro z9; subst z9; revert hv'; decide), eσ1, rs_v (by intro z9; subst z9; revert hv'; decide)]
          have hk9 : a.toNatClampNeg < nK N := by have z3 := cl_eq (j := a) (by omega); have z4 := hp1.2.1; omega
          refine lv_iconst (v := 1) S.1 S.2.1 dX5_snow_85 (by decide) ?_
          refine cW_zret S hr hk hH hS (by decide) ?_ dX5_snow_86
          exact ⟨1, rfl, hI, hP, rfl, by have y13 : σ21 13 = rs σ 13 0 (upd (σ 13 0) (301 * a.toNatClampNeg + b.toNatClampNeg) 1) 13 := (by rw [hP21 13 (by decide), eσ20, rs_v (by decide), eσ17, rs_tw h13, h13, ix301 i15 i16 (by omega) (by omega)]; try rfl); refine ⟨Or.inr ⟨by decide, ⟨by omega, by omega, by omega, by omega, by omega, ?_⟩, by rw [hP21 3 (by decide), eσ20, rs_self]; omega, y13⟩, Or.inr ⟨by decide, repM_N hp1 hk9 (by omega) (by rw [y13, rs_self]) yk, by rw [q21]; rw [eσ20, rs_v (by decide), eσ17, rs_v (by decide), eσ1, rs_v (by decide)]⟩⟩; exact (f43).symm.trans (by assumption)⟩
        · have j14 := t_eq c14
          refine lv_iconst (v := 0) S.1 S.2.1 dX5_snow_56 (by decide) ?_
          refine cW_zret S hr hk hH hS (by decide) ?_ dX5_snow_57
          exact ⟨0, rfl, hI, hP, rfl, by refine ⟨Or.inl ⟨by decide, by rw [eσ1, rs_v (by decide)], by rw [eσ1, rs_v (by decide)], fun h9 => ?_⟩, Or.inl ⟨by decide, Keep_w eσ1 Keep_r (by decide)⟩⟩; obtain ⟨g1, g2, g3, g4, g5, g6⟩ := h9; first | omega | exact absurd (f43.trans g6) (by assumption)⟩
set_option maxHeartbeats 4000000 in
set_option maxRecDepth 100000 in
theorem k_X5_isRun (l : Launch) (D : va_G) (B : Nat → ClassId) (L : QL) (A : Nat → Prop) (σ : QS) (τ : Int64) (c9 : Int32) (d : Int32) (N : Net) (hp0 : 0 ≤ c9.toInt ∧ c9.toInt ≤ 11) (hp1 : 0 ≤ d.toInt ∧ d.toInt ≤ 300) (hp2 : RepM σ N) (hp3 : c9.toInt < (σ 2 0 0).toInt) : cW cntM gM l D B L A yX5_isRun wsX5_isRun 0 0 [.ref (L 0 0), .int c9, .int d] σ τ (pI (fun x σ' τ' => σ' = σ ∧ τ' = τ ∧ ((x.toInt = 1 ∧ runN N c9.toNatClampNeg d.toNatClampNeg) ∨ (x.toInt = 0 ∧ ¬ runN N c9.toNatClampNeg d.toNatClampNeg)))) := by
  refine cW_of (cc := cX5_isRun) (nL := 3) (ret := (some .boolean)) (by decide) rfl (Nat.le_of_ble_eq_true rfl) ?_
  intro p e s m below meth c S hr hk K hH hS ls hl
  have hnX5 : ∀ w ∈ wsX50, w ∈ wsX5_isRun := fun w h => mG (tX5 w h)
  have l0 : (0 : Int32).toInt = 0 := by decide
  have l1 : (1 : Int32).toInt = 1 := by decide
  have l7 : (7 : Int32).toInt = 7 := by decide
  have l301 : (301 : Int32).toInt = 301 := by decide
  have hl : lv_has ls 3 [(0, .ref (L 0 0)), (1, .int c9), (2, .int d)] := hl
  refine lv_aload_n S.1 S.2.1 dX5_isRun_0 rfl (lv_at hl 0 rfl) ?_
  refine rM_0_5 S hnX5 K hH (mG wd_303) dX5_isRun_1 ?_
  refine lv_iload_n S.1 S.2.1 dX5_isRun_4 rfl (lv_at hl 1 rfl) ?_
  refine lM_5 S K hH (vin (by omega) (by omega)) dX5_isRun_5 ?_
  refine lv_topi (fun v1 e1 => ?_)
  refine lv_iload_n S.1 S.2.1 dX5_isRun_6 rfl (lv_at hl 2 rfl) ?_
  refine lv_bipush (v := 7) S.1 S.2.1 dX5_isRun_7 (by decide) ?_
  refine lv_irem S.1 S.2.1 dX5_isRun_9 (by decide) ?_
  refine lv_topi (fun v2 e2 => ?_)
  have i2 : v2.toInt = d.toInt % 7 := i_rem e2 (by decide) (by decide) (by omega)
  refine lv_ishr S.1 S.2.1 dX5_isRun_10 ?_
  refine lv_topi (fun v3 e3 => ?_)
  refine lv_iconst (v := 1) S.1 S.2.1 dX5_isRun_11 (by decide) ?_
  refine lv_iand S.1 S.2.1 dX5_isRun_12 ?_
  refine lv_topi (fun v4 e4 => ?_)
  have i4 : 0 ≤ v4.toInt ∧ v4.toInt ≤ (1 : Int32).toInt := i_andr e4 (by omega)
  have hk9 : c9.toNatClampNeg < nK N := by have z3 := cl_eq (j := c9) (by omega); have z4 := hp2.2.1; omega
  have hr9 := fun z8 z9 => run_M (z := z8) hp2 hk9 hp1 (y := v4) (by rw [e4, e3, e2, e1]) z9
  refine lv_iconst (v := 1) S.1 S.2.1 dX5_isRun_13 (by decide) ?_
  refine lv_icmp_ne (tgt := 36) S.1 S.2.1 dX5_isRun_14 (by decide) (fun c5 => ?_) (fun c5 => ?_)
  · have j5 := t_neq c5
    refine lv_iconst (v := 0) S.1 S.2.1 dX5_isRun_36 (by decide) ?_
    refine cW_zret S hr hk hH hS (by decide) ?_ dX5_isRun_37
    exact ⟨0, rfl, rfl, rfl, by first | exact Or.inl ⟨by decide, (hr9 _ f28).mp ⟨by omega, by assumption⟩⟩ | exact Or.inr ⟨by decide, fun z9 => absurd ((hr9 _ f28).mpr z9).2 (by assumption)⟩ | exact Or.inr ⟨by decide, fun z9 => absurd ((hr9 _ rfl).mpr z9).1 (by omega)⟩⟩
  · have j5 := t_eq c5
    refine lv_aload_n S.1 S.2.1 dX5_isRun_17 rfl (lv_at hl 0 rfl) ?_
    refine rM_0_13 S hnX5 K hH (mG wd_312) dX5_isRun_18 ?_
    refine lv_sipush (v := 301) S.1 S.2.1 dX5_isRun_21 (by decide) ?_
    refine lv_iload_n S.1 S.2.1 dX5_isRun_24 rfl (lv_at hl 1 rfl) ?_
    refine lv_imul S.1 S.2.1 dX5_isRun_25 ?_
    refine lv_topi (fun v6 e6 => ?_)
    have i6 : v6.toInt = 301 * c9.toInt := i_mulcl e6 (by decide) (by omega) (by omega)
    refine lv_iload_n S.1 S.2.1 dX5_isRun_26 rfl (lv_at hl 2 rfl) ?_
    refine lv_iadd S.1 S.2.1 dX5_isRun_27 ?_
    refine lv_topi (fun v7 e7 => ?_)
    have i7 : v7.toInt = v6.toInt + d.toInt := i_add e7 (by omega) (by omega)
    refine lM_13 S K hH (vin (by omega) (by omega)) dX5_isRun_28 ?_
    refine lv_topi (fun v8 e8 => ?_)
    have f28 : v8 = σ 13 0 (301 * c9.toNatClampNeg + d.toNatClampNeg) := by rw [e8, ix301 i6 i7 (by omega) (by omega)]
    refine lv_if_ne (tgt := 36) S.1 S.2.1 dX5_isRun_29 (by decide) (fun c9 => ?_) (fun c9 => ?_)
    · have j9 := t_neq c9
      refine lv_iconst (v := 0) S.1 S.2.1 dX5_isRun_36 (by decide) ?_
      refine cW_zret S hr hk hH hS (by decide) ?_ dX5_isRun_37
      exact ⟨0, rfl, rfl, rfl, by first | exact Or.inl ⟨by decide, (hr9 _ f28).mp ⟨by omega, by assumption⟩⟩ | exact Or.inr ⟨by decide, fun z9 => absurd ((hr9 _ f28).mpr z9).2 (by assumption)⟩ | exact Or.inr ⟨by decide, fun z9 => absurd ((hr9 _ rfl).mpr z9).1 (by omega)⟩⟩
    · have j9 := t_eq c9
      refine lv_iconst (v := 1) S.1 S.2.1 dX5_isRun_32 (by decide) ?_
      refine lv_goto (tgt := 37) S.1 S.2.1 dX5_isRun_33 (by decide) ?_
      refine cW_zret S hr hk hH hS (by decide) ?_ dX5_isRun_37
      exact ⟨1, rfl, rfl, rfl, by first | exact Or.inl ⟨by decide, (hr9 _ f28).mp ⟨by omega, by assumption⟩⟩ | exact Or.inr ⟨by decide, fun z9 => absurd ((hr9 _ f28).mpr z9).2 (by assumption)⟩ | exact Or.inr ⟨by decide, fun z9 => absurd ((hr9 _ rfl).mpr z9).1 (by omega)⟩⟩
set_option maxHeartbeats 4000000 in
set_option maxRecDepth 100000 in
theorem k_X5_runs (l : Launch) (D : va_G) (B : Nat → ClassId) (L : QL) (A : Nat → Prop) (σ : QS) (τ : Int64) (a : Int32) (b : Int32) (N : Net) (hI : InvM σ) (hp1 : RepM σ N) : cW cntM gM l D B L A yX5_runs wsX5_runs 1 22 [.ref (L 0 0), .int a, .int b] σ τ (pI (fun x σ' τ' => InvM σ' ∧ Keep [0] σ σ' ∧ τ' = τ ∧ ((x.toInt = -1 ∧ ¬ (0 ≤ a.toInt ∧ a.toInt < (σ 2 0 0).toInt ∧ 0 ≤ b.toInt ∧ b.toInt ≤ 300)) ∨ ((0 ≤ a.toInt ∧ a.toInt < (σ 2 0 0).toInt ∧ 0 ≤ b.toInt ∧ b.toInt ≤ 300) ∧ ((x.toInt = 1 ∧ runN N a.toNatClampNeg b.toNatClampNeg) ∨ (x.toInt = 0 ∧ ¬ runN N a.toNatClampNeg b.toNatClampNeg)))))) := by
  refine cW_of (cc := cX5_runs) (nL := 3) (ret := (some .int)) (by decide) rfl (Nat.le_of_ble_eq_true rfl) ?_
  intro p e s m below meth c S hr hk K hH hS ls hl
  have hnX5 : ∀ w ∈ wsX50, w ∈ wsX5_runs := fun w h => mG (tX5 w h)
  have lm1 : ((-1) : Int32).toInt = -1 := by decide
  have l0 : (0 : Int32).toInt = 0 := by decide
  have l1 : (1 : Int32).toInt = 1 := by decide
  have l300 : (300 : Int32).toInt = 300 := by decide
  have hP : Keep [0] σ σ := Keep_r
  have hl : lv_has ls 3 [(0, .ref (L 0 0)), (1, .int a), (2, .int b)] := hl
  refine lv_aload_n S.1 S.2.1 dX5_runs_0 rfl (lv_at hl 0 rfl) ?_
  refine lv_iconst (v := 0) S.1 S.2.1 dX5_runs_1 (by decide) ?_
  refine pM_0_0 S hnX5 K hH hS (mG wd_337) dX5_runs_2 (fun H locs hH hS => ?_)
  obtain ⟨σ1, eσ1⟩ : ∃ z_9 : QS, z_9 = rs σ 0 0 (fun _ => 0) := ⟨_, rfl⟩
  rw [← eσ1] at hH
  have hI := InvM_f eσ1 hI (by decide) (any32 _)
  have hP := Keep_w eσ1 hP (by decide)
  have gz2 : (σ1 2 0 0).toInt = (σ 2 0 0).toInt := by rw [eσ1, rs_v (by decide)]
  refine lv_aload_n S.1 S.2.1 dX5_runs_5 rfl (lv_at hl 0 rfl) ?_
  refine lv_iload_n S.1 S.2.1 dX5_runs_6 rfl (lv_at hl 1 rfl) ?_
  refine cW_bpi (cW_V (n := 1) (As := [.int a]) (rest := []) (k := 0) (i := 0) S K hH (by decide) rfl rfl (k_X5_isCart l D B L A σ1 τ a hI) gX5_runs_X5_isCart rfl hdV_X5_isCart ⟨Nat.le_of_ble_eq_true rfl, Nat.le_of_ble_eq_true rfl⟩ rfl hl.1 (Nat.le_of_ble_eq_true rfl) dX5_runs_7) hS (fun v2 H locs q2 hH hS => ?_)
  refine lv_if_eq (tgt := 41) S.1 S.2.1 dX5_runs_10 (by decide) (fun c3 => ?_) (fun c3 => ?_)
  · have j3 := t_eq c3
    refine lv_iconst (v := (-1)) S.1 S.2.1 dX5_runs_41 (by decide) ?_
    refine cW_iret S hr hk hH hS ?_ dX5_runs_42
    exact ⟨(-1), rfl, hI, hP, rfl, by first | exact Or.inl ⟨by decide, by omega⟩ | (refine Or.inr ⟨by omega, ?_⟩; rcases q9999 with q | q; (first | exact Or.inl ⟨by decide, q.2⟩ | exact absurd q.1 (by omega)); (first | exact Or.inr ⟨by decide, q.2⟩ | exact absurd q.1 (by omega)))⟩
  · have j3 := t_neq c3
    refine lv_iload_n S.1 S.2.1 dX5_runs_13 rfl (lv_at hl 2 rfl) ?_
    refine lv_iconst (v := 0) S.1 S.2.1 dX5_runs_14 (by decide) ?_
    refine lv_sipush (v := 300) S.1 S.2.1 dX5_runs_15 (by decide) ?_
    refine cW_bpi (cW_S (n := 3) (As := [.int b, .int 0, .int 300]) (rest := []) S K hH (k_X5_isIn l D B L A σ1 τ b 0 300 ) gX5_runs_X5_isIn rfl hdS_X5_isIn ⟨Nat.le_of_ble_eq_true rfl, Nat.le_of_ble_eq_true rfl⟩ rfl hl.1 (Nat.le_of_ble_eq_true rfl) dX5_runs_18) hS (fun v4 H locs q4 hH hS => ?_)
    refine lv_if_eq (tgt := 41) S.1 S.2.1 dX5_runs_21 (by decide) (fun c5 => ?_) (fun c5 => ?_)
    · have j5 := t_eq c5
      refine lv_iconst (v := (-1)) S.1 S.2.1 dX5_runs_41 (by decide) ?_
      refine cW_iret S hr hk hH hS ?_ dX5_runs_42
      exact ⟨(-1), rfl, hI, hP, rfl, by first | exact Or.inl ⟨by decide, by omega⟩ | (refine Or.inr ⟨by omega, ?_⟩; rcases q9999 with q | q; (first | exact Or.inl ⟨by decide, q.2⟩ | exact absurd q.1 (by omega)); (first | exact Or.inr ⟨by decide, q.2⟩ | exact absurd q.1 (by omega)))⟩
    · have j5 := t_neq c5
      refine lv_aload_n S.1 S.2.1 dX5_runs_24 rfl (lv_at hl 0 rfl) ?_
      refine lv_iload_n S.1 S.2.1 dX5_runs_25 rfl (lv_at hl 1 rfl) ?_
      refine lv_iload_n S.1 S.2.1 dX5_runs_26 rfl (lv_at hl 2 rfl) ?_
      refine cW_bpi (cW_V (n := 2) (As := [.int a, .int b]) (rest := []) (k := 0) (i := 0) S K hH (by decide) rfl rfl (k_X5_isRun l D B L A σ1 τ a b (N) (by omega) (by omega) (RepM_k hp1 hP (by decide)) (by omega)) gX5_runs_X5_isRun rfl hdV_X5_isRun ⟨Nat.le_of_ble_eq_true rfl, Nat.le_of_ble_eq_true rfl⟩ rfl hl.1 (Nat.le_of_ble_eq_true rfl) dX5_runs_27) hS (fun v6 H locs q6 hH hS => ?_)
      refine lv_if_eq (tgt := 37) S.1 S.2.1 dX5_runs_30 (by decide) (fun c7 => ?_) (fun c7 => ?_)
      · have j7 := t_eq c7
        refine lv_iconst (v := 0) S.1 S.2.1 dX5_runs_37 (by decide) ?_
        refine lv_goto (tgt := 42) S.1 S.2.1 dX5_runs_38 (by decide) ?_
        refine cW_iret S hr hk hH hS ?_ dX5_runs_42
        exact ⟨0, rfl, hI, hP, rfl, by first | exact Or.inl ⟨by decide, by omega⟩ | (refine Or.inr ⟨by omega, ?_⟩; rcases q6 with q | q; (first | exact Or.inl ⟨by decide, q.2⟩ | exact absurd q.1 (by omega)); (first | exact Or.inr ⟨by decide, q.2⟩ | exact absurd q.1 (by omega)))⟩
      · have j7 := t_neq c7
        refine lv_iconst (v := 1) S.1 S.2.1 dX5_runs_33 (by decide) ?_
        refine lv_goto (tgt := 42) S.1 S.2.1 dX5_runs_34 (by decide) ?_
        refine cW_iret S hr hk hH hS ?_ dX5_runs_42
        exact ⟨1, rfl, hI, hP, rfl, by first | exact Or.inl ⟨by decide, by omega⟩ | (refine Or.inr ⟨by omega, ?_⟩; rcases q6 with q | q; (first | exact Or.inl ⟨by decide, q.2⟩ | exact absurd q.1 (by omega)); (first | exact Or.inr ⟨by decide, q.2⟩ | exact absurd q.1 (by omega)))⟩
set_option maxHeartbeats 4000000 in
set_option maxRecDepth 100000 in
theorem k_X5_hourOf (l : Launch) (D : va_G) (B : Nat → ClassId) (L : QL) (A : Nat → Prop) (σ : QS) (τ : Int64) (c9 : Int32) (d : Int32) (t : Int32) (N : Net) (hp0 : 0 ≤ c9.toInt ∧ c9.toInt ≤ 11) (hp1 : 0 ≤ d.toInt ∧ d.toInt ≤ 300) (hp2 : 0 ≤ t.toInt ∧ t.toInt ≤ 5) (hI : InvM σ) (hp4 : RepM σ N) (hp5 : c9.toInt < (σ 2 0 0).toInt) (hp6 : t.toInt < (σ 9 0 c9.toNatClampNeg).toInt) : cW cntM gM l D B L A yX5_hourOf wsX5_hourOf 0 0 [.ref (L 0 0), .int c9, .int d, .int t] σ τ (pI (fun x σ' τ' => σ' = σ ∧ τ' = τ ∧ (24 * d.toInt ≤ x.toInt ∧ x.toInt ≤ 24 * d.toInt + 83) ∧ x.toInt = htN N c9.toNatClampNeg d.toNatClampNeg t.toNatClampNeg)) := by
  refine cW_of (cc := cX5_hourOf) (nL := 4) (ret := (some .int)) (by decide) rfl (Nat.le_of_ble_eq_true rfl) ?_
  intro p e s m below meth c S hr hk K hH hS ls hl
  have hnX5 : ∀ w ∈ wsX50, w ∈ wsX5_hourOf := fun w h => mG (tX5 w h)
  have l6 : (6 : Int32).toInt = 6 := by decide
  have l24 : (24 : Int32).toInt = 24 := by decide
  have hk9 : c9.toNatClampNeg < nK N := by have z3 := cl_eq (j := c9) (by omega); have z4 := hp4.2.1; omega
  have hs9 : t.toNatClampNeg < nS N c9.toNatClampNeg := by have z3 := cl_eq (j := t) (by omega); have z4 := ((hp4.2.2 _ hk9).1).1; omega
  have hl : lv_has ls 4 [(0, .ref (L 0 0)), (1, .int c9), (2, .int d), (3, .int t)] := hl
  refine lv_bipush (v := 24) S.1 S.2.1 dX5_hourOf_0 (by decide) ?_
  refine lv_iload_n S.1 S.2.1 dX5_hourOf_2 rfl (lv_at hl 2 rfl) ?_
  refine lv_imul S.1 S.2.1 dX5_hourOf_3 ?_
  refine lv_topi (fun v1 e1 => ?_)
  have i1 : v1.toInt = 24 * d.toInt := i_mulcl e1 (by decide) (by omega) (by omega)
  refine lv_aload_n S.1 S.2.1 dX5_hourOf_4 rfl (lv_at hl 0 rfl) ?_
  refine rM_0_6 S hnX5 K hH (mG wd_304) dX5_hourOf_5 ?_
  refine lv_iload_n S.1 S.2.1 dX5_hourOf_8 rfl (lv_at hl 1 rfl) ?_
  refine lM_6 S K hH (vin (by omega) (by omega)) dX5_hourOf_9 ?_
  refine lv_topi (fun v2 e2 => ?_)
  have b2 : 0 ≤ v2.toInt ∧ v2.toInt ≤ 23 := by rw [e2]; exact hI.1 6 0 c9.toNatClampNeg
  have f9 : v2.toInt = nH N c9.toNatClampNeg := by rw [e2]; exact ((hp4.2.2 _ hk9).1).2.1
  refine lv_iadd S.1 S.2.1 dX5_hourOf_10 ?_
  refine lv_topi (fun v3 e3 => ?_)
  have i3 : v3.toInt = v1.toInt + v2.toInt := i_add e3 (by omega) (by omega)
  refine lv_aload_n S.1 S.2.1 dX5_hourOf_11 rfl (lv_at hl 0 rfl) ?_
  refine rM_0_12 S hnX5 K hH (mG wd_310) dX5_hourOf_12 ?_
  refine lv_bipush (v := 6) S.1 S.2.1 dX5_hourOf_15 (by decide) ?_
  refine lv_iload_n S.1 S.2.1 dX5_hourOf_17 rfl (lv_at hl 1 rfl) ?_
  refine lv_imul S.1 S.2.1 dX5_hourOf_18 ?_
  refine lv_topi (fun v4 e4 => ?_)
  have i4 : v4.toInt = 6 * c9.toInt := i_mulcl e4 (by decide) (by omega) (by omega)
  refine lv_iload_n S.1 S.2.1 dX5_hourOf_19 rfl (lv_at hl 3 rfl) ?_
  refine lv_iadd S.1 S.2.1 dX5_hourOf_20 ?_
  refine lv_topi (fun v5 e5 => ?_)
  have i5 : v5.toInt = v4.toInt + t.toInt := i_add e5 (by omega) (by omega)
  refine lM_12 S K hH (vin (by omega) (by omega)) dX5_hourOf_21 ?_
  refine lv_topi (fun v6 e6 => ?_)
  have b6 : 0 ≤ v6.toInt ∧ v6.toInt ≤ 60 := by rw [e6]; exact hI.1 12 0 v5.toNatClampNeg
  have f21 : v6.toInt = nO N c9.toNatClampNeg t.toNatClampNeg := by rw [e6, show v5.toNatClampNeg = 6 * c9.toNatClampNeg + t.toNatClampNeg by have z3 := cl_eq (j := v5) (by omega); have z4 := cl_eq (j := c9) (by omega); have z5 := cl_eq (j := t) (by omega); omega]; exact ((hp4.2.2 _ hk9).2.1 _ hs9).2
  refine lv_iadd S.1 S.2.1 dX5_hourOf_22 ?_
  refine lv_topi (fun v7 e7 => ?_)
  have i7 : v7.toInt = v3.toInt + v6.toInt := i_add e7 (by omega) (by omega)
  refine cW_iret S hr hk hH hS ?_ dX5_hourOf_23
  exact ⟨v7, rfl, rfl, rfl, by refine ⟨by omega, ?_⟩; unfold htN; have z3 := cl_eq (j := d) (by omega); omega⟩
set_option maxHeartbeats 4000000 in
set_option maxRecDepth 100000 in
theorem k_X5_find (l : Launch) (D : va_G) (B : Nat → ClassId) (L : QL) (A : Nat → Prop) (σ : QS) (τ : Int64) (f : Int32) (a : Int32) (w9 : Int32) (N : Net) (hp0 : 0 ≤ f.toInt ∧ f.toInt ≤ 11) (hp1 : 0 ≤ a.toInt ∧ a.toInt ≤ 6399) (hI : InvM σ) (hp3 : RepM σ N) : cW cntM gM l D B L A yX5_find wsX5_find 1 23 [.ref (L 0 0), .int f, .int a, .int w9] σ τ (pV (fun σ' τ' => InvM σ' ∧ Keep [16] σ σ' ∧ τ' = τ ∧ fiP N w9.toInt f.toNatClampNeg a.toInt (σ' 16 0))) := by
  refine cW_of (cc := cX5_find) (nL := 11) (ret := none) (by decide) rfl (Nat.le_of_ble_eq_true rfl) ?_
  intro p e s m below meth c S hr hk K hH hS ls hl
  have hnX5 : ∀ w ∈ wsX50, w ∈ wsX5_find := fun w h => mG (tX5 w h)
  have l0 : (0 : Int32).toInt = 0 := by decide
  have l1 : (1 : Int32).toInt = 1 := by decide
  have l4 : (4 : Int32).toInt = 4 := by decide
  have l6 : (6 : Int32).toInt = 6 := by decide
  have l12 : (12 : Int32).toInt = 12 := by decide
  have l24 : (24 : Int32).toInt = 24 := by decide
  have l300 : (300 : Int32).toInt = 300 := by decide
  have l336 : (336 : Int32).toInt = 336 := by decide
  have l1000000 : (1000000 : Int32).toInt = 1000000 := by decide
  have hP : Keep [16] σ σ := Keep_r
  have hN9 := hp3.1
  have hl : lv_has ls 11 [(0, .ref (L 0 0)), (1, .int f), (2, .int a), (3, .int w9)] := hl
  refine lv_iconst (v := 0) S.1 S.2.1 dX5_find_0 (by decide) ?_
  refine lv_istore (lv' := [(4, .int 0), (0, .ref (L 0 0)), (1, .int f), (2, .int a), (3, .int w9)]) S.1 S.2.1 dX5_find_1 hl (by decide) rfl (fun ls hl => ?_)
  have cut_3_1 : ∀ (n : Nat) (x4_1 : Int32) (σ_1 : QS) (H : Heap) (locs : List Loc) (ls : Array Slot), (12 - x4_1.toInt).toNat < n → 0 ≤ x4_1.toInt ∧ x4_1.toInt ≤ 12 → (∀ p9 : Nat, (p9 : Int) < x4_1.toInt → (σ_1 16 0 p9).toInt = (if (p9 : Int) = f.toInt then a.toInt else 1000000)) → InvM σ_1 → Keep [16] σ σ_1 → hW cntM gM D B L σ_1 τ H → va_S A s.heap H locs → lv_has ls 11 [(0, .ref (L 0 0)), (1, .int f), (2, .int a), (3, .int w9), (4, .int x4_1)] → W p l e { frames := 1, cells := 0, slots := 0, locals := 23 } s m [.ref (L 0 0), .int f, .int a, .int w9].toArray below meth c H locs 0 0 (MQ below (QcW cntM gM D B L A (pV (fun σ' τ' => InvM σ' ∧ Keep [16] σ σ' ∧ τ' = τ ∧ fiP N w9.toInt f.toNatClampNeg a.toInt (σ' 16 0)))) [.ref (L 0 0), .int f, .int a, .int w9].toArray s 0 0 A) (F0 m 3 ls []) := by
    intro n
    induction n with
    | zero => intro x4_1 σ_1 H locs ls hm; exact absurd hm (Nat.not_lt_zero _)
    | succ n ih1 =>
      intro x4_1 σ_1 H locs ls hm1 h1_0 wi hI hP hH hS hl
      refine lv_iload S.1 S.2.1 dX5_find_3 (lv_at hl 4 rfl) ?_
      refine lv_bipush (v := 12) S.1 S.2.1 dX5_find_5 (by decide) ?_
      refine lv_icmp_ge (tgt := 35) S.1 S.2.1 dX5_find_7 (by decide) (fun c2 => ?_) (fun c2 => ?_)
      · have j2 := t_le c2
        refine lv_iconst (v := 1) S.1 S.2.1 dX5_find_35 (by decide) ?_
        refine lv_istore (lv' := [(4, .int 1), (0, .ref (L 0 0)), (1, .int f), (2, .int a), (3, .int w9)]) S.1 S.2.1 dX5_find_36 hl (by decide) rfl (fun ls hl => ?_)
        have cut_38_3 : ∀ (n : Nat) (x4_3 : Int32) (σ_3 : QS) (H : Heap) (locs : List Loc) (ls : Array Slot), (2 * sumS σ_3 + x4_3.toInt).toNat < n → 0 ≤ x4_3.toInt ∧ x4_3.toInt ≤ 1 → (fdS N w9.toInt f.toNatClampNeg a.toInt (σ_3 16 0)) → ((x4_3.toInt = 0 → fdC N w9.toInt a.toInt (σ_3 16 0) (fun _ _ _ => True))) → InvM σ_3 → Keep [16] σ σ_3 → hW cntM gM D B L σ_3 τ H → va_S A s.heap H locs → lv_has ls 11 [(0, .ref (L 0 0)), (1, .int f), (2, .int a), (3, .int w9), (4, .int x4_3)] → W p l e { frames := 1, cells := 0, slots := 0, locals := 23 } s m [.ref (L 0 0), .int f, .int a, .int w9].toArray below meth c H locs 0 0 (MQ below (QcW cntM gM D B L A (pV (fun σ' τ' => InvM σ' ∧ Keep [16] σ σ' ∧ τ' = τ ∧ fiP N w9.toInt f.toNatClampNeg a.toInt (σ' 16 0)))) [.ref (L 0 0), .int f, .int a, .int w9].toArray s 0 0 A) (F0 m 38 ls []) := by
          intro n
          induction n with
          | zero => intro x4_3 σ_3 H locs ls hm; exact absurd hm (Nat.not_lt_zero _)
          | succ n ih3 =>
            intro x4_3 σ_3 H locs ls hm3 h3_0 wS wC hI hP hH hS hl
            refine lv_iload S.1 S.2.1 dX5_find_38 (lv_at hl 4 rfl) ?_
            refine lv_if_eq (tgt := 243) S.1 S.2.1 dX5_find_40 (by decide) (fun c4 => ?_) (fun c4 => ?_)
            · have j4 := t_eq c4
              refine cW_vret S hr hk hH hS ?_ dX5_find_243
              exact ⟨rfl, hI, hP, rfl, by exact fd_end hN9 (by omega) wS (wC (by omega))⟩
            · have j4 := t_neq c4
              refine lv_iconst (v := 0) S.1 S.2.1 dX5_find_43 (by decide) ?_
              refine lv_istore (lv' := [(4, .int 0), (0, .ref (L 0 0)), (1, .int f), (2, .int a), (3, .int w9)]) S.1 S.2.1 dX5_find_44 hl (by decide) rfl (fun ls hl => ?_)
              refine lv_iconst (v := 0) S.1 S.2.1 dX5_find_46 (by decide) ?_
              refine lv_istore (lv' := [(5, .int 0), (4, .int 0), (0, .ref (L 0 0)), (1, .int f), (2, .int a), (3, .int w9)]) S.1 S.2.1 dX5_find_47 hl (by decide) rfl (fun ls hl => ?_)
              have cut_49_5 : ∀ (n : Nat) (x4_5 : Int32) (x5_5 : Int32) (σ_5 : QS) (H : Heap) (locs : List Loc) (ls : Array Slot), (12 - x5_5.toInt).toNat < n → 0 ≤ x4_5.toInt ∧ x4_5.toInt ≤ 1 → 0 ≤ x5_5.toInt ∧ x5_5.toInt ≤ 12 → (sumS σ_5 + x4_5.toInt ≤ sumS σ_3) → (fdS N w9.toInt f.toNatClampNeg a.toInt (σ_5 16 0)) → ((x4_5.toInt = 0 → fdC N w9.toInt a.toInt (σ_5 16 0) (q49 x5_5.toNatClampNeg))) → InvM σ_5 → Keep [16] σ σ_5 → hW cntM gM D B L σ_5 τ H → va_S A s.heap H locs → lv_has ls 11 [(0, .ref (L 0 0)), (1, .int f), (2, .int a), (3, .int w9), (4, .int x4_5), (5, .int x5_5)] → W p l e { frames := 1, cells := 0, slots := 0, locals := 23 } s m [.ref (L 0 0), .int f, .int a, .int w9].toArray below meth c H locs 0 0 (MQ below (QcW cntM gM D B L A (pV (fun σ' τ' => InvM σ' ∧ Keep [16] σ σ' ∧ τ' = τ ∧ fiP N w9.toInt f.toNatClampNeg a.toInt (σ' 16 0)))) [.ref (L 0 0), .int f, .int a, .int w9].toArray s 0 0 A) (F0 m 49 ls []) := by
                intro n
                induction n with
                | zero => intro x4_5 x5_5 σ_5 H locs ls hm; exact absurd hm (Nat.not_lt_zero _)
                | succ n ih5 =>
                  intro x4_5 x5_5 σ_5 H locs ls hm5 h5_0 h5_1 wM wS wC hI hP hH hS hl
                  have y2 : (σ_5 2 0 0).toInt = nK N := by rw [hP 2 (by decide)]; exact hp3.2.1
                  have hRs := RepM_k hp3 hP (by decide)
                  refine lv_iload S.1 S.2.1 dX5_find_49 (lv_at hl 5 rfl) ?_
                  refine lv_aload_n S.1 S.2.1 dX5_find_51 rfl (lv_at hl 0 rfl) ?_
                  refine rM_0_2 S hnX5 K hH (mG wd_335) dX5_find_52 ?_
                  refine lv_topi (fun v6 e6 => ?_)
                  have b6 : 0 ≤ v6.toInt ∧ v6.toInt ≤ 12 := by rw [e6]; exact hI.1 2 0 0
                  have f52 : v6.toInt = nK N := by rw [e6]; exact y2
                  refine lv_icmp_ge (tgt := 240) S.1 S.2.1 dX5_find_55 (by decide) (fun c7 => ?_) (fun c7 => ?_)
                  · have j7 := t_le c7
                    refine lv_goto (tgt := 38) S.1 S.2.1 dX5_find_240 (by decide) ?_
                    exact ih3 x4_5 σ_5 _ _ ls (by have h9 := sumS_nn hI; omega) (by omega) (by exact wS) (by intro z9; exact qe_38 (wC z9) (by have z3 := cl_eq (j := x5_5) (by omega); omega)) hI hP hH hS (lv_sub hl [0, 1, 2, 3, 4] rfl)
                  · have j7 := t_nle c7
                    have kc9 := cl_eq (j := x5_5) (by omega)
                    have kc : x5_5.toNatClampNeg < nK N := by omega
                    refine lv_iload S.1 S.2.1 dX5_find_58 (lv_at hl 5 rfl) ?_
                    refine lv_iload_n S.1 S.2.1 dX5_find_60 rfl (lv_at hl 3 rfl) ?_
                    refine lv_icmp_ne (tgt := 67) S.1 S.2.1 dX5_find_61 (by decide) (fun c8 => ?_) (fun c8 => ?_)
                    · have j8 := t_neq c8
                      refine lv_iconst (v := 0) S.1 S.2.1 dX5_find_67 (by decide) ?_
                      refine lv_iload_n S.1 S.2.1 dX5_find_68 rfl (lv_at hl 2 rfl) ?_
                      refine lv_bipush (v := 24) S.1 S.2.1 dX5_find_69 (by decide) ?_
                      refine lv_idiv S.1 S.2.1 dX5_find_71 (by decide) ?_
                      refine lv_topi (fun v9 e9 => ?_)
                      have i9 : v9.toInt = a.toInt / 24 := i_div e9 (by decide) (by decide) (by omega)
                      refine lv_iconst (v := 4) S.1 S.2.1 dX5_find_72 (by decide) ?_
                      refine lv_isub S.1 S.2.1 dX5_find_73 ?_
                      refine lv_topi (fun v10 e10 => ?_)
                      have i10 : v10.toInt = v9.toInt - (4 : Int32).toInt := i_sub e10 (by omega) (by omega)
                      refine va_mmax S.1 S.2.1 (by rw [S.2.2.1]; exact hl.1.symm) S.2.2.2.1 (S.2.2.2.2 (.methodLink RX5 138 Lib.Math.max.name) (mG wd_358)) (S.2.2.2.2 (.static Lib.Math.max.name) (mG wd_135)) (S.2.2.2.2 (.initialized "java/lang/Math") (mG wd_41)) (S.2.2.2.2 (.code Lib.Math.max.name Lib.Math.max.code 2 (some .int)) (mG wd_643)) (Nat.le_of_ble_eq_true rfl) (Nat.le_of_ble_eq_true rfl) (Nat.zero_le _) (Nat.zero_le _) dX5_find_74 ?_
                      refine lv_topi (fun v11 e11 => ?_)
                      have i11 : (v11.toInt = (0 : Int32).toInt ∨ v11.toInt = v10.toInt) ∧ (0 : Int32).toInt ≤ v11.toInt ∧ v10.toInt ≤ v11.toInt := i_mmax e11
                      refine lv_istore (lv' := [(6, .int v11), (0, .ref (L 0 0)), (1, .int f), (2, .int a), (3, .int w9), (4, .int x4_5), (5, .int x5_5)]) S.1 S.2.1 dX5_find_77 hl (by decide) rfl (fun ls hl => ?_)
                      have cut_79_12 : ∀ (n : Nat) (x4_12 : Int32) (x6_12 : Int32) (σ_12 : QS) (H : Heap) (locs : List Loc) (ls : Array Slot), (301 - x6_12.toInt).toNat < n → 0 ≤ x4_12.toInt ∧ x4_12.toInt ≤ 1 → 0 ≤ x6_12.toInt ∧ x6_12.toInt ≤ 301 → (sumS σ_12 + x4_12.toInt ≤ sumS σ_3) → (fdS N w9.toInt f.toNatClampNeg a.toInt (σ_12 16 0)) → ((x4_12.toInt = 0 → fdC N w9.toInt a.toInt (σ_12 16 0) (q79 x5_5.toNatClampNeg x6_12.toNatClampNeg))) → InvM σ_12 → Keep [16] σ σ_12 → hW cntM gM D B L σ_12 τ H → va_S A s.heap H locs → lv_has ls 11 [(0, .ref (L 0 0)), (1, .int f), (2, .int a), (3, .int w9), (4, .int x4_12), (5, .int x5_5), (6, .int x6_12)] → W p l e { frames := 1, cells := 0, slots := 0, locals := 23 } s m [.ref (L 0 0), .int f, .int a, .int w9].toArray below meth c H locs 0 0 (MQ below (QcW cntM gM D B L A (pV (fun σ' τ' => InvM σ' ∧ Keep [16] σ σ' ∧ τ' = τ ∧ fiP N w9.toInt f.toNatClampNeg a.toInt (σ' 16 0)))) [.ref (L 0 0), .int f, .int a, .int w9].toArray s 0 0 A) (F0 m 79 ls []) := by
                        intro n
                        induction n with
                        | zero => intro x4_12 x6_12 σ_12 H locs ls hm; exact absurd hm (Nat.not_lt_zero _)
                        | succ n ih12 =>
                          intro x4_12 x6_12 σ_12 H locs ls hm12 h12_0 h12_1 wM wS wC hI hP hH hS hl
                          have y2 : (σ_12 2 0 0).toInt = nK N := by rw [hP 2 (by decide)]; exact hp3.2.1
                          have kc9 := cl_eq (j := x5_5) (by omega)
                          have hRs := RepM_k hp3 hP (by decide)
                          refine lv_bipush (v := 24) S.1 S.2.1 dX5_find_79 (by decide) ?_
                          refine lv_iload S.1 S.2.1 dX5_find_81 (lv_at hl 6 rfl) ?_
                          refine lv_imul S.1 S.2.1 dX5_find_83 ?_
                          refine lv_topi (fun v13 e13 => ?_)
                          have i13 : v13.toInt = 24 * x6_12.toInt := i_mulcl e13 (by decide) (by omega) (by omega)
                          refine lv_iload_n S.1 S.2.1 dX5_find_84 rfl (lv_at hl 2 rfl) ?_
                          refine lv_sipush (v := 336) S.1 S.2.1 dX5_find_85 (by decide) ?_
                          refine lv_iadd S.1 S.2.1 dX5_find_88 ?_
                          refine lv_topi (fun v14 e14 => ?_)
                          have i14 : v14.toInt = a.toInt + (336 : Int32).toInt := i_add e14 (by omega) (by omega)
                          refine lv_icmp_gt (tgt := 234) S.1 S.2.1 dX5_find_89 (by decide) (fun c15 => ?_) (fun c15 => ?_)
                          · have j15 := t_lt c15
                            obtain ⟨v16, e16⟩ : ∃ y_9 : Int32, y_9 = x5_5 + 1 := ⟨_, rfl⟩
                            have i16 : v16.toInt = x5_5.toInt + 1 := i_addc e16 (by decide) (by omega) (by omega)
                            refine lv_iinc (v := v16) (lv' := [(5, .int v16), (0, .ref (L 0 0)), (1, .int f), (2, .int a), (3, .int w9), (4, .int x4_12), (6, .int x6_12)]) S.1 S.2.1 dX5_find_234 hl (k := 5) rfl (by rw [e16]; rfl) (by decide) rfl (fun ls hl => ?_)
                            refine lv_goto (tgt := 49) S.1 S.2.1 dX5_find_237 (by decide) ?_
                            exact ih5 x4_12 v16 σ_12 _ _ ls (by omega) (by omega) (by omega) (by omega) (by exact wS) (by intro z9; rw [cl_n1 i16 (by omega)]; first | exact qn_49 (wC z9) (by omega) | exact qe_49 (wC z9) (by have z3 := cl_eq (j := x6_12) (by omega); omega) (by omega)) hI hP hH hS (lv_sub hl [1, 2, 3, 4, 5, 0] rfl)
                          · have j15 := t_nlt c15
                            refine lv_iload S.1 S.2.1 dX5_find_92 (lv_at hl 6 rfl) ?_
                            refine lv_sipush (v := 300) S.1 S.2.1 dX5_find_94 (by decide) ?_
                            refine lv_icmp_gt (tgt := 234) S.1 S.2.1 dX5_find_97 (by decide) (fun c17 => ?_) (fun c17 => ?_)
                            · have j17 := t_lt c17
                              obtain ⟨v18, e18⟩ : ∃ y_9 : Int32, y_9 = x5_5 + 1 := ⟨_, rfl⟩
                              have i18 : v18.toInt = x5_5.toInt + 1 := i_addc e18 (by decide) (by omega) (by omega)
                              refine lv_iinc (v := v18) (lv' := [(5, .int v18), (0, .ref (L 0 0)), (1, .int f), (2, .int a), (3, .int w9), (4, .int x4_12), (6, .int x6_12)]) S.1 S.2.1 dX5_find_234 hl (k := 5) rfl (by rw [e18]; rfl) (by decide) rfl (fun ls hl => ?_)
                              refine lv_goto (tgt := 49) S.1 S.2.1 dX5_find_237 (by decide) ?_
                              exact ih5 x4_12 v18 σ_12 _ _ ls (by omega) (by omega) (by omega) (by omega) (by exact wS) (by intro z9; rw [cl_n1 i18 (by omega)]; first | exact qn_49 (wC z9) (by omega) | exact qe_49 (wC z9) (by have z3 := cl_eq (j := x6_12) (by omega); omega) (by omega)) hI hP hH hS (lv_sub hl [1, 2, 3, 4, 5, 0] rfl)
                            · have j17 := t_nlt c17
                              refine lv_aload_n S.1 S.2.1 dX5_find_100 rfl (lv_at hl 0 rfl) ?_
                              refine lv_iload S.1 S.2.1 dX5_find_101 (lv_at hl 5 rfl) ?_
                              refine lv_iload S.1 S.2.1 dX5_find_103 (lv_at hl 6 rfl) ?_
                              refine cW_bpi (cW_V (n := 2) (As := [.int x5_5, .int x6_12]) (rest := []) (k := 0) (i := 0) S K hH (by decide) rfl rfl (k_X5_isRun l D B L A σ_12 τ x5_5 x6_12 (N) (by omega) (by omega) (hRs) (by omega)) gX5_find_X5_isRun rfl hdV_X5_isRun ⟨Nat.le_of_ble_eq_true rfl, Nat.le_of_ble_eq_true rfl⟩ rfl hl.1 (Nat.le_of_ble_eq_true rfl) dX5_find_105) hS (fun v19 H locs q19 hH hS => ?_)
                              refine lv_if_ne (tgt := 114) S.1 S.2.1 dX5_find_108 (by decide) (fun c20 => ?_) (fun c20 => ?_)
                              · have j20 := t_neq c20
                                have krun := (Or.resolve_right q19 (fun y => absurd y.1 (by omega))).2
                                have kd9 := cl_eq (j := x6_12) (by omega)
                                refine lv_iconst (v := 0) S.1 S.2.1 dX5_find_114 (by decide) ?_
                                refine lv_istore (lv' := [(7, .int 0), (0, .ref (L 0 0)), (1, .int f), (2, .int a), (3, .int w9), (4, .int x4_12), (5, .int x5_5), (6, .int x6_12)]) S.1 S.2.1 dX5_find_115 hl (by decide) rfl (fun ls hl => ?_)
                                refine lv_iconst (v := 0) S.1 S.2.1 dX5_find_117 (by decide) ?_
                                refine lv_istore (lv' := [(8, .int 0), (7, .int 0), (0, .ref (L 0 0)), (1, .int f), (2, .int a), (3, .int w9), (4, .int x4_12), (5, .int x5_5), (6, .int x6_12)]) S.1 S.2.1 dX5_find_118 hl (by decide) rfl (fun ls hl => ?_)
                                have cut_120_21 : ∀ (n : Nat) (x4_21 : Int32) (x7_21 : Int32) (x8_21 : Int32) (σ_21 : QS) (H : Heap) (locs : List Loc) (ls : Array Slot), (6 - x8_21.toInt).toNat < n → 0 ≤ x4_21.toInt ∧ x4_21.toInt ≤ 1 → 0 ≤ x7_21.toInt ∧ x7_21.toInt ≤ 1 → 0 ≤ x8_21.toInt ∧ x8_21.toInt ≤ 6 → (sumS σ_21 + x4_21.toInt ≤ sumS σ_3) → (fdS N w9.toInt f.toNatClampNeg a.toInt (σ_21 16 0)) → ((x7_21.toInt = 1 → fdO N w9.toInt f.toNatClampNeg a.toInt x5_5.toNatClampNeg x6_12.toNatClampNeg x8_21.toNatClampNeg)) → ((x4_21.toInt = 0 → fdC N w9.toInt a.toInt (σ_21 16 0) (q12 x5_5.toNatClampNeg x6_12.toNatClampNeg x8_21.toNatClampNeg))) → ((x4_21.toInt = 0 → x7_21.toInt = 0 → fdF N x5_5.toNatClampNeg x6_12.toNatClampNeg x8_21.toNatClampNeg (σ_21 16 0))) → InvM σ_21 → Keep [16] σ σ_21 → hW cntM gM D B L σ_21 τ H → va_S A s.heap H locs → lv_has ls 11 [(0, .ref (L 0 0)), (1, .int f), (2, .int a), (3, .int w9), (4, .int x4_21), (5, .int x5_5), (6, .int x6_12), (7, .int x7_21), (8, .int x8_21)] → W p l e { frames := 1, cells := 0, slots := 0, locals := 23 } s m [.ref (L 0 0), .int f, .int a, .int w9].toArray below meth c H locs 0 0 (MQ below (QcW cntM gM D B L A (pV (fun σ' τ' => InvM σ' ∧ Keep [16] σ σ' ∧ τ' = τ ∧ fiP N w9.toInt f.toNatClampNeg a.toInt (σ' 16 0)))) [.ref (L 0 0), .int f, .int a, .int w9].toArray s 0 0 A) (F0 m 120 ls []) := by
                                  intro n
                                  induction n with
                                  | zero => intro x4_21 x7_21 x8_21 σ_21 H locs ls hm; exact absurd hm (Nat.not_lt_zero _)
                                  | succ n ih21 =>
                                    intro x4_21 x7_21 x8_21 σ_21 H locs ls hm21 h21_0 h21_1 h21_2 wM wS wo wC wF hI hP hH hS hl
                                    have y2 : (σ_21 2 0 0).toInt = nK N := by rw [hP 2 (by decide)]; exact hp3.2.1
                                    have hRs := RepM_k hp3 hP (by decide)
                                    have k8 := cl_eq (j := x8_21) (by omega)
                                    refine lv_iload S.1 S.2.1 dX5_find_120 (lv_at hl 8 rfl) ?_
                                    refine lv_aload_n S.1 S.2.1 dX5_find_122 rfl (lv_at hl 0 rfl) ?_
                                    refine rM_0_9 S hnX5 K hH (mG wd_307) dX5_find_123 ?_
                                    refine lv_iload S.1 S.2.1 dX5_find_126 (lv_at hl 5 rfl) ?_
                                    refine lM_9 S K hH (vin (by omega) (by omega)) dX5_find_128 ?_
                                    refine lv_topi (fun v22 e22 => ?_)
                                    have b22 : 0 ≤ v22.toInt ∧ v22.toInt ≤ 6 := by rw [e22]; exact hI.1 9 0 x5_5.toNatClampNeg
                                    refine lv_icmp_ge (tgt := 228) S.1 S.2.1 dX5_find_129 (by decide) (fun c23 => ?_) (fun c23 => ?_)
                                    · have j23 := t_le c23
                                      obtain ⟨v24, e24⟩ : ∃ y_9 : Int32, y_9 = x6_12 + 1 := ⟨_, rfl⟩
                                      have i24 : v24.toInt = x6_12.toInt + 1 := i_addc e24 (by decide) (by omega) (by omega)
                                      refine lv_iinc (v := v24) (lv' := [(6, .int v24), (0, .ref (L 0 0)), (1, .int f), (2, .int a), (3, .int w9), (4, .int x4_21), (5, .int x5_5), (7, .int x7_21), (8, .int x8_21)]) S.1 S.2.1 dX5_find_228 hl (k := 6) rfl (by rw [e24]; rfl) (by decide) rfl (fun ls hl => ?_)
                                      refine lv_goto (tgt := 79) S.1 S.2.1 dX5_find_231 (by decide) ?_
                                      exact ih12 x4_21 v24 σ_21 _ _ ls (by omega) (by omega) (by omega) (by omega) (by exact wS) (by intro z9; rw [cl_n1 i24 (by omega)]; first | exact qn_79 (wC z9) (Or.resolve_left q19 (fun y => absurd y.1 (by omega))).2 | exact qe_79 (wC z9) (by have z1 : v22.toInt = nS N x5_5.toNatClampNeg := (by rw [e22]; exact ((hRs.2.2 _ kc).1).1); omega)) hI hP hH hS (lv_sub hl [1, 2, 3, 4, 5, 6, 0] rfl)
                                    · have j23 := t_nle c23
                                      have f128 : v22.toInt = nS N x5_5.toNatClampNeg := by rw [e22]; exact ((hRs.2.2 _ kc).1).1
                                      have ks : x8_21.toNatClampNeg < nS N x5_5.toNatClampNeg := by omega
                                      refine lv_aload_n S.1 S.2.1 dX5_find_132 rfl (lv_at hl 0 rfl) ?_
                                      refine lv_iload S.1 S.2.1 dX5_find_133 (lv_at hl 5 rfl) ?_
                                      refine lv_iload S.1 S.2.1 dX5_find_135 (lv_at hl 6 rfl) ?_
                                      refine lv_iload S.1 S.2.1 dX5_find_137 (lv_at hl 8 rfl) ?_
                                      refine cW_bpi (cW_V (n := 3) (As := [.int x5_5, .int x6_12, .int x8_21]) (rest := []) (k := 0) (i := 0) S K hH (by decide) rfl rfl (k_X5_hourOf l D B L A σ_21 τ x5_5 x6_12 x8_21 (N) (by omega) (by omega) (by omega) hI (hRs) (by omega) (by rw [← e22]; omega)) gX5_find_X5_hourOf rfl hdV_X5_hourOf ⟨Nat.le_of_ble_eq_true rfl, Nat.le_of_ble_eq_true rfl⟩ rfl hl.1 (Nat.le_of_ble_eq_true rfl) dX5_find_139) hS (fun v25 H locs q25 hH hS => ?_)
                                      refine lv_istore (lv' := [(9, .int v25), (0, .ref (L 0 0)), (1, .int f), (2, .int a), (3, .int w9), (4, .int x4_21), (5, .int x5_5), (6, .int x6_12), (7, .int x7_21), (8, .int x8_21)]) S.1 S.2.1 dX5_find_142 hl (by decide) rfl (fun ls hl => ?_)
                                      have kh := (q25).2
                                      refine lv_aload_n S.1 S.2.1 dX5_find_144 rfl (lv_at hl 1 rfl) ?_
                                      refine rM_0_11 S hnX5 K hH (mG wd_309) dX5_find_145 ?_
                                      refine lv_bipush (v := 6) S.1 S.2.1 dX5_find_148 (by decide) ?_
                                      refine lv_iload S.1 S.2.1 dX5_find_150 (lv_at hl 6 rfl) ?_
                                      refine lv_imul S.1 S.2.1 dX5_find_152 ?_
                                      refine lv_topi (fun v26 e26 => ?_)
                                      have i26 : v26.toInt = 6 * x5_5.toInt := i_mulcl e26 (by decide) (by omega) (by omega)
                                      refine lv_iload S.1 S.2.1 dX5_find_153 (lv_at hl 9 rfl) ?_
                                      refine lv_iadd S.1 S.2.1 dX5_find_155 ?_
                                      refine lv_topi (fun v27 e27 => ?_)
                                      have i27 : v27.toInt = v26.toInt + x8_21.toInt := i_add e27 (by omega) (by omega)
                                      refine lM_11 S K hH (vin (by omega) (by omega)) dX5_find_156 ?_
                                      refine lv_topi (fun v28 e28 => ?_)
                                      have b28 : 0 ≤ v28.toInt ∧ v28.toInt ≤ 11 := by rw [e28]; exact hI.1 11 0 v27.toNatClampNeg
                                      refine lv_istore (lv' := [(10, .int v28), (9, .int v25), (0, .ref (L 0 0)), (1, .int f), (2, .int a), (3, .int w9), (4, .int x4_21), (5, .int x5_5), (6, .int x6_12), (7, .int x7_21), (8, .int x8_21)]) S.1 S.2.1 dX5_find_157 hl (by decide) rfl (fun ls hl => ?_)
                                      have kp : v28.toNatClampNeg = nP N x5_5.toNatClampNeg x8_21.toNatClampNeg := by have z1 : v28.toInt = nP N x5_5.toNatClampNeg x8_21.toNatClampNeg := (by rw [e28, show v27.toNatClampNeg = 6 * x5_5.toNatClampNeg + x8_21.toNatClampNeg by have z3 := cl_eq (j := v27) (by omega); omega]; exact ((hRs.2.2 _ kc).2.1 _ ks).1); have z3 := cl_eq (j := v28) (by omega); omega
                                      have kp12 := (((hN9.2 _ kc).2.2.2.1) _ ks).1
                                      refine lv_iload S.1 S.2.1 dX5_find_159 (lv_at hl 9 rfl) ?_
                                      refine lv_if_eq (tgt := 198) S.1 S.2.1 dX5_find_161 (by decide) (fun c29 => ?_) (fun c29 => ?_)
                                      · have j29 := t_eq c29
                                        refine lv_iload S.1 S.2.1 dX5_find_198 (lv_at hl 9 rfl) ?_
                                        refine lv_if_ne (tgt := 215) S.1 S.2.1 dX5_find_200 (by decide) (fun c30 => ?_) (fun c30 => ?_)
                                        · have j30 := t_neq c30
                                          exact absurd j30 (by omega)
                                        · have j30 := t_eq c30
                                          refine lv_iload S.1 S.2.1 dX5_find_203 (lv_at hl 1 rfl) ?_
                                          refine lv_aload_n S.1 S.2.1 dX5_find_205 rfl (lv_at hl 2 rfl) ?_
                                          refine rM_0_16 S hnX5 K hH (mG wd_317) dX5_find_206 ?_
                                          refine lv_iload S.1 S.2.1 dX5_find_209 (lv_at hl 0 rfl) ?_
                                          refine lM_16 S K hH (vin (by omega) (by omega)) dX5_find_211 ?_
                                          refine lv_topi (fun v31 e31 => ?_)
                                          have b31 : 0 ≤ v31.toInt ∧ v31.toInt ≤ 1000000 := by rw [e31]; exact hI.1 16 0 v28.toNatClampNeg
                                          have f211 : v31.toInt = (σ_21 16 0 (nP N x5_5.toNatClampNeg x8_21.toNatClampNeg)).toInt := by rw [e31, kp]
                                          refine lv_icmp_lt (tgt := 219) S.1 S.2.1 dX5_find_212 (by decide) (fun c32 => ?_) (fun c32 => ?_)
                                          · have j32 := t_lt c32
                                            refine lv_iconst (v := 0) S.1 S.2.1 dX5_find_219 (by decide) ?_
                                            refine lv_istore (lv' := [(7, .int 0), (10, .int v28), (9, .int v25), (0, .ref (L 0 0)), (1, .int f), (2, .int a), (3, .int w9), (4, .int x4_21), (5, .int x5_5), (6, .int x6_12), (8, .int x8_21)]) S.1 S.2.1 dX5_find_220 hl (by decide) rfl (fun ls hl => ?_)
                                            obtain ⟨v33, e33⟩ : ∃ y_9 : Int32, y_9 = x8_21 + 1 := ⟨_, rfl⟩
                                            have i33 : v33.toInt = x8_21.toInt + 1 := i_addc e33 (by decide) (by omega) (by omega)
                                            refine lv_iinc (v := v33) (lv' := [(8, .int v33), (7, .int 0), (10, .int v28), (9, .int v25), (0, .ref (L 0 0)), (1, .int f), (2, .int a), (3, .int w9), (4, .int x4_21), (5, .int x5_5), (6, .int x6_12)]) S.1 S.2.1 dX5_find_222 hl (k := 10) rfl (by rw [e33]; rfl) (by decide) rfl (fun ls hl => ?_)
                                            refine lv_goto (tgt := 120) S.1 S.2.1 dX5_find_225 (by decide) ?_
                                            exact ih21 x4_21 0 v33 σ_21 _ _ ls (by omega) (by omega) (by omega) (by omega) (by omega) (by first | exact wS | exact fd_up hN9 (wo (by omega)) kc ks krun (by omega) wS (x := v25) kh (by omega) (by omega) (by rw [eσ9999, rs_self, kp])) (by intro z9; first | exact absurd z9 (by decide) | (rw [cl_n1 i33 (by omega)]; first | exact fd_on1 (wo (by omega)) | exact fd_on hN9 wS kp12 (by omega) (by omega))) (by intro z9; first | exact absurd z9 (by decide) | (rw [cl_n1 i33 (by omega)]; first | exact fd_nc (wC z9) (Or.inl (wF z9 (by omega))) | exact fd_nc (wC z9) (Or.inr (by omega)))) (by intro z9 y9; first | exact absurd z9 (by decide) | exact absurd y9 (by decide) | (rw [cl_n1 i33 (by omega)]; exact fd_off (wF z9 (by omega)) (by omega))) hI hP hH hS (lv_sub hl [4, 5, 6, 7, 8, 9, 10, 1, 0] rfl)
                                          · have j32 := t_nlt c32
                                            refine lv_iconst (v := 1) S.1 S.2.1 dX5_find_215 (by decide) ?_
                                            refine lv_goto (tgt := 220) S.1 S.2.1 dX5_find_216 (by decide) ?_
                                            refine lv_istore (lv' := [(7, .int 1), (10, .int v28), (9, .int v25), (0, .ref (L 0 0)), (1, .int f), (2, .int a), (3, .int w9), (4, .int x4_21), (5, .int x5_5), (6, .int x6_12), (8, .int x8_21)]) S.1 S.2.1 dX5_find_220 hl (by decide) rfl (fun ls hl => ?_)
                                            obtain ⟨v34, e34⟩ : ∃ y_9 : Int32, y_9 = x8_21 + 1 := ⟨_, rfl⟩
                                            have i34 : v34.toInt = x8_21.toInt + 1 := i_addc e34 (by decide) (by omega) (by omega)
                                            refine lv_iinc (v := v34) (lv' := [(8, .int v34), (7, .int 1), (10, .int v28), (9, .int v25), (0, .ref (L 0 0)), (1, .int f), (2, .int a), (3, .int w9), (4, .int x4_21), (5, .int x5_5), (6, .int x6_12)]) S.1 S.2.1 dX5_find_222 hl (k := 10) rfl (by rw [e34]; rfl) (by decide) rfl (fun ls hl => ?_)
                                            refine lv_goto (tgt := 120) S.1 S.2.1 dX5_find_225 (by decide) ?_
                                            exact ih21 x4_21 1 v34 σ_21 _ _ ls (by omega) (by omega) (by omega) (by omega) (by omega) (by first | exact wS | exact fd_up hN9 (wo (by omega)) kc ks krun (by omega) wS (x := v25) kh (by omega) (by omega) (by rw [eσ9999, rs_self, kp])) (by intro z9; first | exact absurd z9 (by decide) | (rw [cl_n1 i34 (by omega)]; first | exact fd_on1 (wo (by omega)) | exact fd_on hN9 wS kp12 (by omega) (by omega))) (by intro z9; first | exact absurd z9 (by decide) | (rw [cl_n1 i34 (by omega)]; first | exact fd_nc (wC z9) (Or.inl (wF z9 (by omega))) | exact fd_nc (wC z9) (Or.inr (by omega)))) (by intro z9 y9; first | exact absurd z9 (by decide) | exact absurd y9 (by decide) | (rw [cl_n1 i34 (by omega)]; exact fd_off (wF z9 (by omega)) (by omega))) hI hP hH hS (lv_sub hl [4, 5, 6, 7, 8, 9, 10, 1, 0] rfl)
                                      · have j29 := t_neq c29
                                        refine lv_iload S.1 S.2.1 dX5_find_164 (lv_at hl 1 rfl) ?_
                                        refine lv_iload_n S.1 S.2.1 dX5_find_166 rfl (lv_at hl 4 rfl) ?_
                                        refine lv_sipush (v := 336) S.1 S.2.1 dX5_find_167 (by decide) ?_
                                        refine lv_iadd S.1 S.2.1 dX5_find_170 ?_
                                        refine lv_topi (fun v35 e35 => ?_)
                                        have i35 : v35.toInt = a.toInt + (336 : Int32).toInt := i_add e35 (by omega) (by omega)
                                        refine lv_icmp_gt (tgt := 198) S.1 S.2.1 dX5_find_171 (by decide) (fun c36 => ?_) (fun c36 => ?_)
                                        · have j36 := t_lt c36
                                          refine lv_iload S.1 S.2.1 dX5_find_198 (lv_at hl 9 rfl) ?_
                                          refine lv_if_ne (tgt := 215) S.1 S.2.1 dX5_find_200 (by decide) (fun c37 => ?_) (fun c37 => ?_)
                                          · have j37 := t_neq c37
                                            refine lv_iconst (v := 1) S.1 S.2.1 dX5_find_215 (by decide) ?_
                                            refine lv_goto (tgt := 220) S.1 S.2.1 dX5_find_216 (by decide) ?_
                                            refine lv_istore (lv' := [(7, .int 1), (10, .int v28), (9, .int v25), (0, .ref (L 0 0)), (1, .int f), (2, .int a), (3, .int w9), (4, .int x4_21), (5, .int x5_5), (6, .int x6_12), (8, .int x8_21)]) S.1 S.2.1 dX5_find_220 hl (by decide) rfl (fun ls hl => ?_)
                                            obtain ⟨v38, e38⟩ : ∃ y_9 : Int32, y_9 = x8_21 + 1 := ⟨_, rfl⟩
                                            have i38 : v38.toInt = x8_21.toInt + 1 := i_addc e38 (by decide) (by omega) (by omega)
                                            refine lv_iinc (v := v38) (lv' := [(8, .int v38), (7, .int 1), (10, .int v28), (9, .int v25), (0, .ref (L 0 0)), (1, .int f), (2, .int a), (3, .int w9), (4, .int x4_21), (5, .int x5_5), (6, .int x6_12)]) S.1 S.2.1 dX5_find_222 hl (k := 10) rfl (by rw [e38]; rfl) (by decide) rfl (fun ls hl => ?_)
                                            refine lv_goto (tgt := 120) S.1 S.2.1 dX5_find_225 (by decide) ?_
                                            exact ih21 x4_21 1 v38 σ_21 _ _ ls (by omega) (by omega) (by omega) (by omega) (by omega) (by first | exact wS | exact fd_up hN9 (wo (by omega)) kc ks krun (by omega) wS (x := v25) kh (by omega) (by omega) (by rw [eσ9999, rs_self, kp])) (by intro z9; first | exact absurd z9 (by decide) | (rw [cl_n1 i38 (by omega)]; first | exact fd_on1 (wo (by omega)) | exact fd_on hN9 wS kp12 (by omega) (by omega))) (by intro z9; first | exact absurd z9 (by decide) | (rw [cl_n1 i38 (by omega)]; first | exact fd_nc (wC z9) (Or.inl (wF z9 (by omega))) | exact fd_nc (wC z9) (Or.inr (by omega)))) (by intro z9 y9; first | exact absurd z9 (by decide) | exact absurd y9 (by decide) | (rw [cl_n1 i38 (by omega)]; exact fd_off (wF z9 (by omega)) (by omega))) hI hP hH hS (lv_sub hl [4, 5, 6, 7, 8, 9, 10, 1, 0] rfl)
                                          · have j37 := t_eq c37
                                            exact absurd j37 (by omega)
                                        · have j36 := t_nlt c36
                                          refine lv_iload S.1 S.2.1 dX5_find_174 (lv_at hl 1 rfl) ?_
                                          refine lv_aload_n S.1 S.2.1 dX5_find_176 rfl (lv_at hl 2 rfl) ?_
                                          refine rM_0_16 S hnX5 K hH (mG wd_317) dX5_find_177 ?_
                                          refine lv_iload S.1 S.2.1 dX5_find_180 (lv_at hl 0 rfl) ?_
                                          refine lM_16 S K hH (vin (by omega) (by omega)) dX5_find_182 ?_
                                          refine lv_topi (fun v39 e39 => ?_)
                                          have b39 : 0 ≤ v39.toInt ∧ v39.toInt ≤ 1000000 := by rw [e39]; exact hI.1 16 0 v28.toNatClampNeg
                                          have f182 : v39.toInt = (σ_21 16 0 (nP N x5_5.toNatClampNeg x8_21.toNatClampNeg)).toInt := by rw [e39, kp]
                                          refine lv_icmp_ge (tgt := 198) S.1 S.2.1 dX5_find_183 (by decide) (fun c40 => ?_) (fun c40 => ?_)
                                          · have j40 := t_le c40
                                            refine lv_iload S.1 S.2.1 dX5_find_198 (lv_at hl 9 rfl) ?_
                                            refine lv_if_ne (tgt := 215) S.1 S.2.1 dX5_find_200 (by decide) (fun c41 => ?_) (fun c41 => ?_)
                                            · have j41 := t_neq c41
                                              refine lv_iconst (v := 1) S.1 S.2.1 dX5_find_215 (by decide) ?_
                                              refine lv_goto (tgt := 220) S.1 S.2.1 dX5_find_216 (by decide) ?_
                                              refine lv_istore (lv' := [(7, .int 1), (10, .int v28), (9, .int v25), (0, .ref (L 0 0)), (1, .int f), (2, .int a), (3, .int w9), (4, .int x4_21), (5, .int x5_5), (6, .int x6_12), (8, .int x8_21)]) S.1 S.2.1 dX5_find_220 hl (by decide) rfl (fun ls hl => ?_)
                                              obtain ⟨v42, e42⟩ : ∃ y_9 : Int32, y_9 = x8_21 + 1 := ⟨_, rfl⟩
                                              have i42 : v42.toInt = x8_21.toInt + 1 := i_addc e42 (by decide) (by omega) (by omega)
                                              refine lv_iinc (v := v42) (lv' := [(8, .int v42), (7, .int 1), (10, .int v28), (9, .int v25), (0, .ref (L 0 0)), (1, .int f), (2, .int a), (3, .int w9), (4, .int x4_21), (5, .int x5_5), (6, .int x6_12)]) S.1 S.2.1 dX5_find_222 hl (k := 10) rfl (by rw [e42]; rfl) (by decide) rfl (fun ls hl => ?_)
                                              refine lv_goto (tgt := 120) S.1 S.2.1 dX5_find_225 (by decide) ?_
                                              exact ih21 x4_21 1 v42 σ_21 _ _ ls (by omega) (by omega) (by omega) (by omega) (by omega) (by first | exact wS | exact fd_up hN9 (wo (by omega)) kc ks krun (by omega) wS (x := v25) kh (by omega) (by omega) (by rw [eσ9999, rs_self, kp])) (by intro z9; first | exact absurd z9 (by decide) | (rw [cl_n1 i42 (by omega)]; first | exact fd_on1 (wo (by omega)) | exact fd_on hN9 wS kp12 (by omega) (by omega))) (by intro z9; first | exact absurd z9 (by decide) | (rw [cl_n1 i42 (by omega)]; first | exact fd_nc (wC z9) (Or.inl (wF z9 (by omega))) | exact fd_nc (wC z9) (Or.inr (by omega)))) (by intro z9 y9; first | exact absurd z9 (by decide) | exact absurd y9 (by decide) | (rw [cl_n1 i42 (by omega)]; exact fd_off (wF z9 (by omega)) (by omega))) hI hP hH hS (lv_sub hl [4, 5, 6, 7, 8, 9, 10, 1, 0] rfl)
                                            · have j41 := t_eq c41
                                              exact absurd j41 (by omega)
                                          · have j40 := t_nle c40
                                            refine lv_aload_n S.1 S.2.1 dX5_find_186 rfl (lv_at hl 2 rfl) ?_
                                            refine rM_0_16 S hnX5 K hH (mG wd_317) dX5_find_187 ?_
                                            refine lv_iload S.1 S.2.1 dX5_find_190 (lv_at hl 0 rfl) ?_
                                            refine lv_iload S.1 S.2.1 dX5_find_192 (lv_at hl 1 rfl) ?_
                                            refine sM_16 S K hH hS (vin (by omega) (by omega)) dX5_find_194 (fun H locs hH hS => ?_)
                                            obtain ⟨σ43, eσ43⟩ : ∃ z_9 : QS, z_9 = rs σ_21 16 0 (upd (σ_21 16 0) v28.toNatClampNeg v25) := ⟨_, rfl⟩
                                            rw [← eσ43] at hH
                                            have hI := InvM_a eσ43 hI (by decide) (show (0 : Int) ≤ v25.toInt ∧ v25.toInt ≤ 1000000 by omega)
                                            have hP := Keep_w eσ43 hP (by decide)
                                            have hs9 := sumS_w eσ43 e39 (by omega) (by omega)
                                            refine lv_iconst (v := 1) S.1 S.2.1 dX5_find_195 (by decide) ?_
                                            refine lv_istore (lv' := [(4, .int 1), (10, .int v28), (9, .int v25), (0, .ref (L 0 0)), (1, .int f), (2, .int a), (3, .int w9), (5, .int x5_5), (6, .int x6_12), (7, .int x7_21), (8, .int x8_21)]) S.1 S.2.1 dX5_find_196 hl (by decide) rfl (fun ls hl => ?_)
                                            refine lv_iload S.1 S.2.1 dX5_find_198 (lv_at hl 9 rfl) ?_
                                            refine lv_if_ne (tgt := 215) S.1 S.2.1 dX5_find_200 (by decide) (fun c44 => ?_) (fun c44 => ?_)
                                            · have j44 := t_neq c44
                                              refine lv_iconst (v := 1) S.1 S.2.1 dX5_find_215 (by decide) ?_
                                              refine lv_goto (tgt := 220) S.1 S.2.1 dX5_find_216 (by decide) ?_
                                              refine lv_istore (lv' := [(7, .int 1), (4, .int 1), (10, .int v28), (9, .int v25), (0, .ref (L 0 0)), (1, .int f), (2, .int a), (3, .int w9), (5, .int x5_5), (6, .int x6_12), (8, .int x8_21)]) S.1 S.2.1 dX5_find_220 hl (by decide) rfl (fun ls hl => ?_)
                                              obtain ⟨v45, e45⟩ : ∃ y_9 : Int32, y_9 = x8_21 + 1 := ⟨_, rfl⟩
                                              have i45 : v45.toInt = x8_21.toInt + 1 := i_addc e45 (by decide) (by omega) (by omega)
                                              refine lv_iinc (v := v45) (lv' := [(8, .int v45), (7, .int 1), (4, .int 1), (10, .int v28), (9, .int v25), (0, .ref (L 0 0)), (1, .int f), (2, .int a), (3, .int w9), (5, .int x5_5), (6, .int x6_12)]) S.1 S.2.1 dX5_find_222 hl (k := 10) rfl (by rw [e45]; rfl) (by decide) rfl (fun ls hl => ?_)
                                              refine lv_goto (tgt := 120) S.1 S.2.1 dX5_find_225 (by decide) ?_
                                              exact ih21 1 1 v45 σ43 _ _ ls (by omega) (by omega) (by omega) (by omega) (by omega) (by first | exact wS | exact fd_up hN9 (wo (by omega)) kc ks krun (by omega) wS (x := v25) kh (by omega) (by omega) (by rw [eσ43, rs_self, kp])) (by intro z9; first | exact absurd z9 (by decide) | (rw [cl_n1 i45 (by omega)]; first | exact fd_on1 (wo (by omega)) | exact fd_on hN9 wS kp12 (by omega) (by omega))) (by intro z9; first | exact absurd z9 (by decide) | (rw [cl_n1 i45 (by omega)]; first | exact fd_nc (wC z9) (Or.inl (wF z9 (by omega))) | exact fd_nc (wC z9) (Or.inr (by omega)))) (by intro z9 y9; first | exact absurd z9 (by decide) | exact absurd y9 (by decide) | (rw [cl_n1 i45 (by omega)]; exact fd_off (wF z9 (by omega)) (by omega))) hI hP hH hS (lv_sub hl [5, 6, 7, 8, 2, 9, 10, 1, 0] rfl)
                                            · have j44 := t_eq c44
                                              exact absurd j44 (by omega)
                                exact cut_120_21 _ x4_12 0 0 σ_12 _ _ ls (Nat.lt_succ_self _) (by omega) (by omega) (by omega) (by omega) (by exact wS) (by intro z9; exact absurd z9 (by decide)) (by intro z9; exact qi_12 (wC z9)) (by intro z9 y9; rw [show (0 : Int32).toNatClampNeg = 0 by decide]; exact fun s0 hs0 => absurd hs0 (Nat.not_lt_zero _)) hI hP hH hS (lv_sub hl [2, 3, 4, 5, 6, 7, 8, 1, 0] rfl)
                              · have j20 := t_eq c20
                                refine lv_goto (tgt := 228) S.1 S.2.1 dX5_find_111 (by decide) ?_
                                obtain ⟨v46, e46⟩ : ∃ y_9 : Int32, y_9 = x6_12 + 1 := ⟨_, rfl⟩
                                have i46 : v46.toInt = x6_12.toInt + 1 := i_addc e46 (by decide) (by omega) (by omega)
                                refine lv_iinc (v := v46) (lv' := [(6, .int v46), (0, .ref (L 0 0)), (1, .int f), (2, .int a), (3, .int w9), (4, .int x4_12), (5, .int x5_5)]) S.1 S.2.1 dX5_find_228 hl (k := 6) rfl (by rw [e46]; rfl) (by decide) rfl (fun ls hl => ?_)
                                refine lv_goto (tgt := 79) S.1 S.2.1 dX5_find_231 (by decide) ?_
                                exact ih12 x4_12 v46 σ_12 _ _ ls (by omega) (by omega) (by omega) (by omega) (by exact wS) (by intro z9; rw [cl_n1 i46 (by omega)]; first | exact qn_79 (wC z9) (Or.resolve_left q19 (fun y => absurd y.1 (by omega))).2 | exact qe_79 (wC z9) (by have z1 : v22.toInt = nS N x5_5.toNatClampNeg := (by rw [e22]; exact ((hRs.2.2 _ kc).1).1); omega)) hI hP hH hS (lv_sub hl [1, 2, 3, 4, 5, 6, 0] rfl)
                      exact cut_79_12 _ x4_5 v11 σ_5 _ _ ls (Nat.lt_succ_self _) (by omega) (by omega) (by omega) (by exact wS) (by intro z9; exact qi_79 (wC z9) (by have z3 := cl_eq (j := v11) (by omega); omega)) hI hP hH hS (lv_sub hl [1, 2, 3, 4, 5, 6, 0] rfl)
                    · have j8 := t_eq c8
                      refine lv_goto (tgt := 234) S.1 S.2.1 dX5_find_64 (by decide) ?_
                      obtain ⟨v47, e47⟩ : ∃ y_9 : Int32, y_9 = x5_5 + 1 := ⟨_, rfl⟩
                      have i47 : v47.toInt = x5_5.toInt + 1 := i_addc e47 (by decide) (by omega) (by omega)
                      refine lv_iinc (v := v47) (lv' := [(5, .int v47), (0, .ref (L 0 0)), (1, .int f), (2, .int a), (3, .int w9), (4, .int x4_5)]) S.1 S.2.1 dX5_find_234 hl (k := 5) rfl (by rw [e47]; rfl) (by decide) rfl (fun ls hl => ?_)
                      refine lv_goto (tgt := 49) S.1 S.2.1 dX5_find_237 (by decide) ?_
                      exact ih5 x4_5 v47 σ_5 _ _ ls (by omega) (by omega) (by omega) (by omega) (by exact wS) (by intro z9; rw [cl_n1 i47 (by omega)]; first | exact qn_49 (wC z9) (by omega) | exact qe_49 (wC z9) (by have z3 := cl_eq (j := zz) (by omega); omega) (by omega)) hI hP hH hS (lv_sub hl [1, 2, 3, 4, 5, 0] rfl)
              exact cut_49_5 _ 0 0 σ_3 _ _ ls (Nat.lt_succ_self _) (by omega) (by omega) (by omega) (by exact wS) (by intro z9; exact q49_0) hI hP hH hS (lv_sub hl [2, 3, 4, 5, 1, 0] rfl)
        exact cut_38_3 _ 1 σ_1 _ _ ls (Nat.lt_succ_self _) (by omega) (by exact fd_0 (fun p9 z9 => wi p9 (by omega)) (by omega)) (by intro z9; exact absurd z9 (by decide)) hI hP hH hS (lv_sub hl [1, 2, 3, 4, 0] rfl)
      · have j2 := t_nle c2
        refine lv_aload_n S.1 S.2.1 dX5_find_10 rfl (lv_at hl 0 rfl) ?_
        refine rM_0_16 S hnX5 K hH (mG wd_317) dX5_find_11 ?_
        refine lv_iload S.1 S.2.1 dX5_find_14 (lv_at hl 4 rfl) ?_
        refine lv_iload S.1 S.2.1 dX5_find_16 (lv_at hl 4 rfl) ?_
        refine lv_iload_n S.1 S.2.1 dX5_find_18 rfl (lv_at hl 1 rfl) ?_
        refine lv_icmp_ne (tgt := 26) S.1 S.2.1 dX5_find_19 (by decide) (fun c48 => ?_) (fun c48 => ?_)
        · have j48 := t_neq c48
          refine lv_ldc (v := 1000000) S.1 S.2.1 S.2.2.2.1 (S.2.2.2.2 (.constant RX5 137 (1000000)) (mG wd_357)) dX5_find_26 ?_
          refine sM_16 S K hH hS (vin (by omega) (by omega)) dX5_find_28 (fun H locs hH hS => ?_)
          obtain ⟨σ49, eσ49⟩ : ∃ z_9 : QS, z_9 = rs σ_1 16 0 (upd (σ_1 16 0) x4_1.toNatClampNeg 1000000) := ⟨_, rfl⟩
          rw [← eσ49] at hH
          have hI := InvM_a eσ49 hI (by decide) (show (0 : Int) ≤ (1000000 : Int32).toInt ∧ (1000000 : Int32).toInt ≤ 1000000 by omega)
          have hP := Keep_w eσ49 hP (by decide)
          obtain ⟨v50, e50⟩ : ∃ y_9 : Int32, y_9 = x4_1 + 1 := ⟨_, rfl⟩
          have i50 : v50.toInt = x4_1.toInt + 1 := i_addc e50 (by decide) (by omega) (by omega)
          refine lv_iinc (v := v50) (lv' := [(4, .int v50), (0, .ref (L 0 0)), (1, .int f), (2, .int a), (3, .int w9)]) S.1 S.2.1 dX5_find_29 hl (k := 4) rfl (by rw [e50]; rfl) (by decide) rfl (fun ls hl => ?_)
          refine lv_goto (tgt := 3) S.1 S.2.1 dX5_find_32 (by decide) ?_
          exact ih1 v50 σ49 _ _ ls (by omega) (by omega) (by intro p9 z9; have z3 := cl_eq (j := x4_1) (by omega); rw [eσ49, rs_self]; unfold upd; by_cases y9 : p9 = (x4_1).toNatClampNeg; rw [if_pos y9]; (first | rw [if_pos (by omega)] | (rw [if_neg (by omega)]; decide)); rw [if_neg y9]; exact wi p9 (by omega)) hI hP hH hS (lv_sub hl [1, 2, 3, 4, 0] rfl)
        · have j48 := t_eq c48
          refine lv_iload_n S.1 S.2.1 dX5_find_22 rfl (lv_at hl 2 rfl) ?_
          refine lv_goto (tgt := 28) S.1 S.2.1 dX5_find_23 (by decide) ?_
          refine sM_16 S K hH hS (vin (by omega) (by omega)) dX5_find_28 (fun H locs hH hS => ?_)
          obtain ⟨σ51, eσ51⟩ : ∃ z_9 : QS, z_9 = rs σ_1 16 0 (upd (σ_1 16 0) x4_1.toNatClampNeg a) := ⟨_, rfl⟩
          rw [← eσ51] at hH
          have hI := InvM_a eσ51 hI (by decide) (show (0 : Int) ≤ a.toInt ∧ a.toInt ≤ 1000000 by omega)
          have hP := Keep_w eσ51 hP (by decide)
          obtain ⟨v52, e52⟩ : ∃ y_9 : Int32, y_9 = x4_1 + 1 := ⟨_, rfl⟩
          have i52 : v52.toInt = x4_1.toInt + 1 := i_addc e52 (by decide) (by omega) (by omega)
          refine lv_iinc (v := v52) (lv' := [(4, .int v52), (0, .ref (L 0 0)), (1, .int f), (2, .int a), (3, .int w9)]) S.1 S.2.1 dX5_find_29 hl (k := 4) rfl (by rw [e52]; rfl) (by decide) rfl (fun ls hl => ?_)
          refine lv_goto (tgt := 3) S.1 S.2.1 dX5_find_32 (by decide) ?_
          exact ih1 v52 σ51 _ _ ls (by omega) (by omega) (by intro p9 z9; have z3 := cl_eq (j := x4_1) (by omega); rw [eσ51, rs_self]; unfold upd; by_cases y9 : p9 = (x4_1).toNatClampNeg; rw [if_pos y9]; (first | rw [if_pos (by omega)] | (rw [if_neg (by omega)]; decide)); rw [if_neg y9]; exact wi p9 (by omega)) hI hP hH hS (lv_sub hl [1, 2, 3, 4, 0] rfl)
  exact cut_3_1 _ 0 σ _ _ ls (Nat.lt_succ_self _) (by omega) (by intro p9 z9; omega) hI hP hH hS (lv_sub hl [1, 2, 3, 4, 0] rfl)
set_option maxHeartbeats 4000000 in
set_option maxRecDepth 100000 in
theorem k_X5_soonOf (l : Launch) (D : va_G) (B : Nat → ClassId) (L : QL) (A : Nat → Prop) (σ : QS) (τ : Int64) (f : Int32) (a : Int32) (t : Int32) (N : Net) (hp0 : 0 ≤ f.toInt ∧ f.toInt ≤ 11) (hp1 : 0 ≤ a.toInt ∧ a.toInt ≤ 6399) (hp2 : 0 ≤ t.toInt ∧ t.toInt ≤ 11) (hI : InvM σ) (hp4 : RepM σ N) (hp5 : KepM σ N) : cW cntM gM l D B L A yX5_soonOf wsX5_soonOf 2 53 [.ref (L 0 0), .int f, .int a, .int t] σ τ (pI (fun x σ' τ' => InvM σ' ∧ Keep [14, 15, 16] σ σ' ∧ τ' = τ ∧ (KepM σ' N ∧ isSV N (-1) f.toNatClampNeg a.toInt t.toNatClampNeg x.toInt))) := by
  refine cW_of (cc := cX5_soonOf) (nL := 6) (ret := (some .int)) (by decide) rfl (Nat.le_of_ble_eq_true rfl) ?_
  intro p e s m below meth c S hr hk K hH hS ls hl
  have hnX5 : ∀ w ∈ wsX50, w ∈ wsX5_soonOf := fun w h => mG (tX5 w h)
  have lm1 : ((-1) : Int32).toInt = -1 := by decide
  have l0 : (0 : Int32).toInt = 0 := by decide
  have l1 : (1 : Int32).toInt = 1 := by decide
  have l12 : (12 : Int32).toInt = 12 := by decide
  have l6400 : (6400 : Int32).toInt = 6400 := by decide
  have hP : Keep [14, 15, 16] σ σ := Keep_r
  have kf := cl_eq (j := f) (by omega)
  have ka := cl_eq (j := a) (by omega)
  have kt := cl_eq (j := t) (by omega)
  have hl : lv_has ls 6 [(0, .ref (L 0 0)), (1, .int f), (2, .int a), (3, .int t)] := hl
  refine lv_sipush (v := 6400) S.1 S.2.1 dX5_soonOf_0 (by decide) ?_
  refine lv_iload_n S.1 S.2.1 dX5_soonOf_3 rfl (lv_at hl 1 rfl) ?_
  refine lv_imul S.1 S.2.1 dX5_soonOf_4 ?_
  refine lv_topi (fun v1 e1 => ?_)
  have i1 : v1.toInt = 6400 * f.toInt := i_mulcl e1 (by decide) (by omega) (by omega)
  refine lv_iload_n S.1 S.2.1 dX5_soonOf_5 rfl (lv_at hl 2 rfl) ?_
  refine lv_iadd S.1 S.2.1 dX5_soonOf_6 ?_
  refine lv_topi (fun v2 e2 => ?_)
  have i2 : v2.toInt = v1.toInt + a.toInt := i_add e2 (by omega) (by omega)
  refine lv_istore (lv' := [(4, .int v2), (0, .ref (L 0 0)), (1, .int f), (2, .int a), (3, .int t)]) S.1 S.2.1 dX5_soonOf_7 hl (by decide) rfl (fun ls hl => ?_)
  have hk4 : v2.toNatClampNeg = 6400 * f.toNatClampNeg + a.toNatClampNeg := by have z3 := cl_eq (j := v2) (by omega); omega
  refine lv_aload_n S.1 S.2.1 dX5_soonOf_9 rfl (lv_at hl 1 rfl) ?_
  refine rM_0_15 S hnX5 K hH (mG wd_316) dX5_soonOf_10 ?_
  refine lv_iload S.1 S.2.1 dX5_soonOf_13 (lv_at hl 0 rfl) ?_
  refine lM_15 S K hH (vin (by omega) (by omega)) dX5_soonOf_15 ?_
  refine lv_topi (fun v3 e3 => ?_)
  have f15 : v3 = σ 15 0 (6400 * f.toNatClampNeg + a.toNatClampNeg) := by rw [e3, hk4]
  refine lv_aload_n S.1 S.2.1 dX5_soonOf_16 rfl (lv_at hl 1 rfl) ?_
  refine rM_0_17 S hnX5 K hH (mG wd_318) dX5_soonOf_17 ?_
  refine lv_topi (fun v4 e4 => ?_)
  have f17 : v4 = σ 17 0 0 := e4
  refine lv_icmp_eq (tgt := 77) S.1 S.2.1 dX5_soonOf_20 (by decide) (fun c5 => ?_) (fun c5 => ?_)
  · have j5 := t_eq c5
    refine lv_aload_n S.1 S.2.1 dX5_soonOf_77 rfl (lv_at hl 1 rfl) ?_
    refine rM_0_14 S hnX5 K hH (mG wd_314) dX5_soonOf_78 ?_
    refine lv_bipush (v := 12) S.1 S.2.1 dX5_soonOf_81 (by decide) ?_
    refine lv_iload S.1 S.2.1 dX5_soonOf_83 (lv_at hl 0 rfl) ?_
    refine lv_imul S.1 S.2.1 dX5_soonOf_85 ?_
    refine lv_topi (fun v6 e6 => ?_)
    have i6 : v6.toInt = 12 * v2.toInt := i_mulcl e6 (by decide) (by omega) (by omega)
    refine lv_iload_n S.1 S.2.1 dX5_soonOf_86 rfl (lv_at hl 4 rfl) ?_
    refine lv_iadd S.1 S.2.1 dX5_soonOf_87 ?_
    refine lv_topi (fun v7 e7 => ?_)
    have i7 : v7.toInt = v6.toInt + t.toInt := i_add e7 (by omega) (by omega)
    refine lM_14 S K hH (vin (by omega) (by omega)) dX5_soonOf_88 ?_
    refine lv_topi (fun v8 e8 => ?_)
    have f88 : v8 = σ 14 0 (12 * (6400 * f.toNatClampNeg + a.toNatClampNeg) + t.toNatClampNeg) := by rw [e8, show v7.toNatClampNeg = 12 * (6400 * f.toNatClampNeg + a.toNatClampNeg) + t.toNatClampNeg by have z3 := cl_eq (j := v7) (by omega); omega]
    refine cW_iret S hr hk hH hS ?_ dX5_soonOf_89
    exact ⟨v8, rfl, hI, hP, rfl, by first | exact ⟨hp5, by have z1 := (hp5 f.toNatClampNeg a.toNatClampNeg (by omega) (by omega)).2 (f15.symm.trans (c5.trans f17)) t.toNatClampNeg (by omega); rw [f88]; rw [ka] at z1; exact z1⟩ | (have zk : KepM σ N := kp_new hp5 (f := f.toNatClampNeg) (a := a.toNatClampNeg) (by omega) (by omega) (hP 17 (by decide)) (by rw [eσ9999, rs_self, hk4, f73, w5]) (fun j9 z9 => by rw [eσ9999, rs_v (by decide)]; exact wk j9 z9) (fun p9 z9 => by rw [eσ9999, rs_v (by decide), wv p9 (by omega), ka]; exact wf p9 z9); exact ⟨zk, by rw [f88, eσ9999, rs_v (by decide), wv t.toNatClampNeg (by omega)]; exact wf _ (by omega)⟩)⟩
  · have j5 := t_neq c5
    refine lv_aload_n S.1 S.2.1 dX5_soonOf_23 rfl (lv_at hl 1 rfl) ?_
    refine lv_iload_n S.1 S.2.1 dX5_soonOf_24 rfl (lv_at hl 2 rfl) ?_
    refine lv_iload_n S.1 S.2.1 dX5_soonOf_25 rfl (lv_at hl 3 rfl) ?_
    refine lv_iconst (v := (-1)) S.1 S.2.1 dX5_soonOf_26 (by decide) ?_
    refine cW_bv (cW_V (n := 3) (As := [.int f, .int a, .int (-1)]) (rest := []) (k := 0) (i := 0) S K hH (by decide) rfl rfl (k_X5_find l D B L A σ τ f a (-1) (N) (by omega) (by omega) hI (by omega)) gX5_soonOf_X5_find rfl hdV_X5_find ⟨Nat.le_of_ble_eq_true rfl, Nat.le_of_ble_eq_true rfl⟩ rfl hl.1 (Nat.le_of_ble_eq_true rfl) dX5_soonOf_27) hS (fun σ9 τ9 H locs q9 hH hS => ?_)
    obtain ⟨hI, hP9, hτ9, q9⟩ := q9
    rw [hτ9] at hH
    have hP := Keep_t hP hP9 (by decide)
    have hfi : fiP N (-1) f.toNatClampNeg a.toInt (σ9 16 0) := by have z1 := q9; rw [lm1] at z1; exact z1
    refine lv_iconst (v := 0) S.1 S.2.1 dX5_soonOf_30 (by decide) ?_
    refine lv_istore (lv' := [(5, .int 0), (4, .int v2), (0, .ref (L 0 0)), (1, .int f), (2, .int a), (3, .int t)]) S.1 S.2.1 dX5_soonOf_31 hl (by decide) rfl (fun ls hl => ?_)
    have cut_33_10 : ∀ (n : Nat) (x5_10 : Int32) (σ_10 : QS) (H : Heap) (locs : List Loc) (ls : Array Slot), (12 - x5_10.toInt).toNat < n → 0 ≤ x5_10.toInt ∧ x5_10.toInt ≤ 12 → (σ_10 15 = σ 15) → (fiP N (-1) f.toNatClampNeg a.toInt (σ_10 16 0)) → (∀ j9 : Nat, (j9 < 12 * (6400 * f.toNatClampNeg + a.toNatClampNeg) ∨ 12 * (6400 * f.toNatClampNeg + a.toNatClampNeg) + 12 ≤ j9) → σ_10 14 0 j9 = σ 14 0 j9) → (∀ p9 : Nat, (p9 : Int) < x5_10.toInt → σ_10 14 0 (12 * (6400 * f.toNatClampNeg + a.toNatClampNeg) + p9) = σ_10 16 0 p9) → InvM σ_10 → Keep [14, 15, 16] σ σ_10 → hW cntM gM D B L σ_10 τ H → va_S A s.heap H locs → lv_has ls 6 [(0, .ref (L 0 0)), (3, .int t), (4, .int v2), (5, .int x5_10)] → W p l e { frames := 2, cells := 0, slots := 0, locals := 53 } s m [.ref (L 0 0), .int f, .int a, .int t].toArray below meth c H locs 0 0 (MQ below (QcW cntM gM D B L A (pI (fun x σ' τ' => InvM σ' ∧ Keep [14, 15, 16] σ σ' ∧ τ' = τ ∧ (KepM σ' N ∧ isSV N (-1) f.toNatClampNeg a.toInt t.toNatClampNeg x.toInt)))) [.ref (L 0 0), .int f, .int a, .int t].toArray s 0 0 A) (F0 m 33 ls []) := by
      intro n
      induction n with
      | zero => intro x5_10 σ_10 H locs ls hm; exact absurd hm (Nat.not_lt_zero _)
      | succ n ih10 =>
        intro x5_10 σ_10 H locs ls hm10 h10_0 w5 wf wk wv hI hP hH hS hl
        refine lv_iload S.1 S.2.1 dX5_soonOf_33 (lv_at hl 3 rfl) ?_
        refine lv_bipush (v := 12) S.1 S.2.1 dX5_soonOf_35 (by decide) ?_
        refine lv_icmp_ge (tgt := 66) S.1 S.2.1 dX5_soonOf_37 (by decide) (fun c11 => ?_) (fun c11 => ?_)
        · have j11 := t_le c11
          refine lv_aload_n S.1 S.2.1 dX5_soonOf_66 rfl (lv_at hl 0 rfl) ?_
          refine rM_0_15 S hnX5 K hH (mG wd_316) dX5_soonOf_67 ?_
          refine lv_iload S.1 S.2.1 dX5_soonOf_70 (lv_at hl 2 rfl) ?_
          refine lv_aload_n S.1 S.2.1 dX5_soonOf_72 rfl (lv_at hl 0 rfl) ?_
          refine rM_0_17 S hnX5 K hH (mG wd_318) dX5_soonOf_73 ?_
          refine lv_topi (fun v12 e12 => ?_)
          have f73 : v12 = σ 17 0 0 := by rw [e12, hP 17 (by decide)]
          refine sM_15 S K hH hS (vin (by omega) (by omega)) dX5_soonOf_76 (fun H locs hH hS => ?_)
          obtain ⟨σ13, eσ13⟩ : ∃ z_9 : QS, z_9 = rs σ_10 15 0 (upd (σ_10 15 0) v2.toNatClampNeg v12) := ⟨_, rfl⟩
          rw [← eσ13] at hH
          have hI := InvM_a eσ13 hI (by decide) (any32 _)
          have hP := Keep_w eσ13 hP (by decide)
          refine lv_aload_n S.1 S.2.1 dX5_soonOf_77 rfl (lv_at hl 0 rfl) ?_
          refine rM_0_14 S hnX5 K hH (mG wd_314) dX5_soonOf_78 ?_
          refine lv_bipush (v := 12) S.1 S.2.1 dX5_soonOf_81 (by decide) ?_
          refine lv_iload S.1 S.2.1 dX5_soonOf_83 (lv_at hl 2 rfl) ?_
          refine lv_imul S.1 S.2.1 dX5_soonOf_85 ?_
          refine lv_topi (fun v14 e14 => ?_)
          have i14 : v14.toInt = 12 * v2.toInt := i_mulcl e14 (by decide) (by omega) (by omega)
          refine lv_iload_n S.1 S.2.1 dX5_soonOf_86 rfl (lv_at hl 1 rfl) ?_
          refine lv_iadd S.1 S.2.1 dX5_soonOf_87 ?_
          refine lv_topi (fun v15 e15 => ?_)
          have i15 : v15.toInt = v14.toInt + t.toInt := i_add e15 (by omega) (by omega)
          refine lM_14 S K hH (vin (by omega) (by omega)) dX5_soonOf_88 ?_
          refine lv_topi (fun v16 e16 => ?_)
          have f88 : v16 = σ13 14 0 (12 * (6400 * f.toNatClampNeg + a.toNatClampNeg) + t.toNatClampNeg) := by rw [e16, show v15.toNatClampNeg = 12 * (6400 * f.toNatClampNeg + a.toNatClampNeg) + t.toNatClampNeg by have z3 := cl_eq (j := v15) (by omega); omega]
          refine cW_iret S hr hk hH hS ?_ dX5_soonOf_89
          exact ⟨v16, rfl, hI, hP, rfl, by first | exact ⟨hp5, by have z1 := (hp5 f.toNatClampNeg a.toNatClampNeg (by omega) (by omega)).2 (f15.symm.trans (c5.trans f17)) t.toNatClampNeg (by omega); rw [f88]; rw [ka] at z1; exact z1⟩ | (have zk : KepM σ13 N := kp_new hp5 (f := f.toNatClampNeg) (a := a.toNatClampNeg) (by omega) (by omega) (hP 17 (by decide)) (by rw [eσ13, rs_self, hk4, f73, w5]) (fun j9 z9 => by rw [eσ13, rs_v (by decide)]; exact wk j9 z9) (fun p9 z9 => by rw [eσ13, rs_v (by decide), wv p9 (by omega), ka]; exact wf p9 z9); exact ⟨zk, by rw [f88, eσ13, rs_v (by decide), wv t.toNatClampNeg (by omega)]; exact wf _ (by omega)⟩)⟩
        · have j11 := t_nle c11
          refine lv_aload_n S.1 S.2.1 dX5_soonOf_40 rfl (lv_at hl 0 rfl) ?_
          refine rM_0_14 S hnX5 K hH (mG wd_314) dX5_soonOf_41 ?_
          refine lv_bipush (v := 12) S.1 S.2.1 dX5_soonOf_44 (by decide) ?_
          refine lv_iload S.1 S.2.1 dX5_soonOf_46 (lv_at hl 2 rfl) ?_
          refine lv_imul S.1 S.2.1 dX5_soonOf_48 ?_
          refine lv_topi (fun v17 e17 => ?_)
          have i17 : v17.toInt = 12 * v2.toInt := i_mulcl e17 (by decide) (by omega) (by omega)
          refine lv_iload S.1 S.2.1 dX5_soonOf_49 (lv_at hl 3 rfl) ?_
          refine lv_iadd S.1 S.2.1 dX5_soonOf_51 ?_
          refine lv_topi (fun v18 e18 => ?_)
          have i18 : v18.toInt = v17.toInt + x5_10.toInt := i_add e18 (by omega) (by omega)
          refine lv_aload_n S.1 S.2.1 dX5_soonOf_52 rfl (lv_at hl 0 rfl) ?_
          refine rM_0_16 S hnX5 K hH (mG wd_317) dX5_soonOf_53 ?_
          refine lv_iload S.1 S.2.1 dX5_soonOf_56 (lv_at hl 3 rfl) ?_
          refine lM_16 S K hH (vin (by omega) (by omega)) dX5_soonOf_58 ?_
          refine lv_topi (fun v19 e19 => ?_)
          have b19 : 0 ≤ v19.toInt ∧ v19.toInt ≤ 1000000 := by rw [e19]; exact hI.1 16 0 x5_10.toNatClampNeg
          have f58 : v19 = σ_10 16 0 x5_10.toNatClampNeg := e19
          refine sM_14 S K hH hS (vin (by omega) (by omega)) dX5_soonOf_59 (fun H locs hH hS => ?_)
          obtain ⟨σ20, eσ20⟩ : ∃ z_9 : QS, z_9 = rs σ_10 14 0 (upd (σ_10 14 0) v18.toNatClampNeg v19) := ⟨_, rfl⟩
          rw [← eσ20] at hH
          have hI := InvM_a eσ20 hI (by decide) (any32 _)
          have hP := Keep_w eσ20 hP (by decide)
          obtain ⟨v21, e21⟩ : ∃ y_9 : Int32, y_9 = x5_10 + 1 := ⟨_, rfl⟩
          have i21 : v21.toInt = x5_10.toInt + 1 := i_addc e21 (by decide) (by omega) (by omega)
          refine lv_iinc (v := v21) (lv' := [(5, .int v21), (0, .ref (L 0 0)), (3, .int t), (4, .int v2)]) S.1 S.2.1 dX5_soonOf_60 hl (k := 3) rfl (by rw [e21]; rfl) (by decide) rfl (fun ls hl => ?_)
          refine lv_goto (tgt := 33) S.1 S.2.1 dX5_soonOf_63 (by decide) ?_
          exact ih10 v21 σ20 _ _ ls (by omega) (by omega) (by rw [eσ20, rs_v (by decide)]; exact w5) (by rw [eσ20, rs_v (by decide)]; exact wf) (by intro j9 z9; rw [eσ20, rs_self]; unfold upd; have z3 := cl_eq (j := v18) (by omega); have z4 := cl_eq (j := v2) (by omega); rw [if_neg (by omega)]; exact wk j9 z9) (by intro p9 z9; rw [eσ20, rs_self, rs_v (by decide)]; unfold upd; have z3 := cl_eq (j := v18) (by omega); have z4 := cl_eq (j := v2) (by omega); have z5 := cl_eq (j := x5_10) (by omega); by_cases y9 : p9 = (x5_10).toNatClampNeg; rw [if_pos (by omega), f58, y9]; rw [if_neg (by omega)]; exact wv p9 (by omega)) hI hP hH hS (lv_sub hl [1, 2, 3, 0] rfl)
    exact cut_33_10 _ 0 σ9 _ _ ls (Nat.lt_succ_self _) (by omega) (by exact hP9 15 (by decide)) (by exact hfi) (by intro j9 z9; rw [hP9 14 (by decide)]) (by intro p9 z9; omega) hI hP hH hS (lv_sub hl [2, 5, 1, 0] rfl)
set_option maxHeartbeats 4000000 in
set_option maxRecDepth 100000 in
theorem k_X5_soon (l : Launch) (D : va_G) (B : Nat → ClassId) (L : QL) (A : Nat → Prop) (σ : QS) (τ : Int64) (a : Int32) (b : Int32) (z : Int32) (N : Net) (hI : InvM σ) (hp1 : RepM σ N) (hp2 : KepM σ N) : cW cntM gM l D B L A yX5_soon wsX5_soon 3 78 [.ref (L 0 0), .int a, .int b, .int z] σ τ (pI (fun x σ' τ' => InvM σ' ∧ Keep [0, 14, 15, 16] σ σ' ∧ τ' = τ ∧ (KepM σ' N ∧ ((x.toInt = -1 ∧ ¬ (0 ≤ a.toInt ∧ a.toInt ≤ 11 ∧ 0 ≤ b.toInt ∧ b.toInt ≤ 6000 ∧ 0 ≤ z.toInt ∧ z.toInt ≤ 11)) ∨ ((0 ≤ a.toInt ∧ a.toInt ≤ 11 ∧ 0 ≤ b.toInt ∧ b.toInt ≤ 6000 ∧ 0 ≤ z.toInt ∧ z.toInt ≤ 11) ∧ sooQ N a.toNatClampNeg b.toInt (b.toInt + 336) z.toNatClampNeg x))))) := by
  refine cW_of (cc := cX5_soon) (nL := 5) (ret := (some .int)) (by decide) rfl (Nat.le_of_ble_eq_true rfl) ?_
  intro p e s m below meth c S hr hk K hH hS ls hl
  have hnX5 : ∀ w ∈ wsX50, w ∈ wsX5_soon := fun w h => mG (tX5 w h)
  have lm1 : ((-1) : Int32).toInt = -1 := by decide
  have l0 : (0 : Int32).toInt = 0 := by decide
  have l1000000 : (1000000 : Int32).toInt = 1000000 := by decide
  have hP : Keep [0, 14, 15, 16] σ σ := Keep_r
  have hl : lv_has ls 5 [(0, .ref (L 0 0)), (1, .int a), (2, .int b), (3, .int z)] := hl
  refine lv_aload_n S.1 S.2.1 dX5_soon_0 rfl (lv_at hl 0 rfl) ?_
  refine lv_iconst (v := 0) S.1 S.2.1 dX5_soon_1 (by decide) ?_
  refine pM_0_0 S hnX5 K hH hS (mG wd_337) dX5_soon_2 (fun H locs hH hS => ?_)
  obtain ⟨σ1, eσ1⟩ : ∃ z_9 : QS, z_9 = rs σ 0 0 (fun _ => 0) := ⟨_, rfl⟩
  rw [← eσ1] at hH
  have hI := InvM_f eσ1 hI (by decide) (any32 _)
  have hP := Keep_w eσ1 hP (by decide)
  refine lv_iload_n S.1 S.2.1 dX5_soon_5 rfl (lv_at hl 1 rfl) ?_
  refine cW_bpi (cW_S (n := 1) (As := [.int a]) (rest := []) S K hH (k_X5_isPlace l D B L A σ1 τ a ) gX5_soon_X5_isPlace rfl hdS_X5_isPlace ⟨Nat.le_of_ble_eq_true rfl, Nat.le_of_ble_eq_true rfl⟩ rfl hl.1 (Nat.le_of_ble_eq_true rfl) dX5_soon_6) hS (fun v2 H locs q2 hH hS => ?_)
  refine lv_if_eq (tgt := 26) S.1 S.2.1 dX5_soon_9 (by decide) (fun c3 => ?_) (fun c3 => ?_)
  · have j3 := t_eq c3
    refine lv_iconst (v := (-1)) S.1 S.2.1 dX5_soon_26 (by decide) ?_
    refine cW_iret S hr hk hH hS ?_ dX5_soon_27
    exact ⟨(-1), rfl, hI, hP, rfl, by exact ⟨KepM_of hp2 (fun v' hv' => by rw [eσ1, rs_v (by intro z9; subst z9; revert hv'; decide)]), Or.inl ⟨by decide, by omega⟩⟩⟩
  · have j3 := t_neq c3
    refine lv_iload_n S.1 S.2.1 dX5_soon_12 rfl (lv_at hl 2 rfl) ?_
    refine cW_bpi (cW_S (n := 1) (As := [.int b]) (rest := []) S K hH (k_X5_isHour l D B L A σ1 τ b ) gX5_soon_X5_isHour rfl hdS_X5_isHour ⟨Nat.le_of_ble_eq_true rfl, Nat.le_of_ble_eq_true rfl⟩ rfl hl.1 (Nat.le_of_ble_eq_true rfl) dX5_soon_13) hS (fun v4 H locs q4 hH hS => ?_)
    refine lv_if_eq (tgt := 26) S.1 S.2.1 dX5_soon_16 (by decide) (fun c5 => ?_) (fun c5 => ?_)
    · have j5 := t_eq c5
      refine lv_iconst (v := (-1)) S.1 S.2.1 dX5_soon_26 (by decide) ?_
      refine cW_iret S hr hk hH hS ?_ dX5_soon_27
      exact ⟨(-1), rfl, hI, hP, rfl, by exact ⟨KepM_of hp2 (fun v' hv' => by rw [eσ1, rs_v (by intro z9; subst z9; revert hv'; decide)]), Or.inl ⟨by decide, by omega⟩⟩⟩
    · have j5 := t_neq c5
      refine lv_iload_n S.1 S.2.1 dX5_soon_19 rfl (lv_at hl 3 rfl) ?_
      refine cW_bpi (cW_S (n := 1) (As := [.int z]) (rest := []) S K hH (k_X5_isPlace l D B L A σ1 τ z ) gX5_soon_X5_isPlace rfl hdS_X5_isPlace ⟨Nat.le_of_ble_eq_true rfl, Nat.le_of_ble_eq_true rfl⟩ rfl hl.1 (Nat.le_of_ble_eq_true rfl) dX5_soon_20) hS (fun v6 H locs q6 hH hS => ?_)
      refine lv_if_ne (tgt := 28) S.1 S.2.1 dX5_soon_23 (by decide) (fun c7 => ?_) (fun c7 => ?_)
      · have j7 := t_neq c7
        refine lv_aload_n S.1 S.2.1 dX5_soon_28 rfl (lv_at hl 0 rfl) ?_
        refine lv_iload_n S.1 S.2.1 dX5_soon_29 rfl (lv_at hl 1 rfl) ?_
        refine lv_iload_n S.1 S.2.1 dX5_soon_30 rfl (lv_at hl 2 rfl) ?_
        refine lv_iload_n S.1 S.2.1 dX5_soon_31 rfl (lv_at hl 3 rfl) ?_
        refine cW_bi (cW_V (n := 3) (As := [.int a, .int b, .int z]) (rest := []) (k := 0) (i := 0) S K hH (by decide) rfl rfl (k_X5_soonOf l D B L A σ1 τ a b z (N) (by omega) (by omega) (by omega) hI (RepM_k hp1 hP (by decide)) (KepM_of hp2 (fun v' hv' => by rw [eσ1, rs_v (by intro z9; subst z9; revert hv'; decide)]))) gX5_soon_X5_soonOf rfl hdV_X5_soonOf ⟨Nat.le_of_ble_eq_true rfl, Nat.le_of_ble_eq_true rfl⟩ rfl hl.1 (Nat.le_of_ble_eq_true rfl) dX5_soon_32) hS (fun v8 σ8 τ8 H locs q8 hH hS => ?_)
        obtain ⟨hI, hP8, hτ8, q8⟩ := q8
        rw [hτ8] at hH
        have hP := Keep_t hP hP8 (by decide)
        refine lv_istore (lv' := [(4, .int v8), (0, .ref (L 0 0)), (1, .int a), (2, .int b), (3, .int z)]) S.1 S.2.1 dX5_soon_35 hl (by decide) rfl (fun ls hl => ?_)
        refine lv_iload S.1 S.2.1 dX5_soon_37 (lv_at hl 0 rfl) ?_
        refine lv_ldc (v := 1000000) S.1 S.2.1 S.2.2.2.1 (S.2.2.2.2 (.constant RX5 137 (1000000)) (mG wd_357)) dX5_soon_39 ?_
        refine lv_icmp_ne (tgt := 48) S.1 S.2.1 dX5_soon_41 (by decide) (fun c9 => ?_) (fun c9 => ?_)
        · have j9 := t_neq c9
          refine lv_iload S.1 S.2.1 dX5_soon_48 (lv_at hl 0 rfl) ?_
          refine cW_iret S hr hk hH hS ?_ dX5_soon_50
          exact ⟨v8, rfl, hI, hP, rfl, by exact ⟨(q8).1, Or.inr ⟨by omega, sv_soo hp1.1 (by omega) (q8).2 (by omega)⟩⟩⟩
        · have j9 := t_eq c9
          refine lv_iconst (v := (-1)) S.1 S.2.1 dX5_soon_44 (by decide) ?_
          refine lv_goto (tgt := 50) S.1 S.2.1 dX5_soon_45 (by decide) ?_
          refine cW_iret S hr hk hH hS ?_ dX5_soon_50
          exact ⟨(-1), rfl, hI, hP, rfl, by exact ⟨(q8).1, Or.inr ⟨by omega, sv_soo hp1.1 (by omega) (q8).2 (by omega)⟩⟩⟩
      · have j7 := t_eq c7
        refine lv_iconst (v := (-1)) S.1 S.2.1 dX5_soon_26 (by decide) ?_
        refine cW_iret S hr hk hH hS ?_ dX5_soon_27
        exact ⟨(-1), rfl, hI, hP, rfl, by exact ⟨KepM_of hp2 (fun v' hv' => by rw [eσ1, rs_v (by intro z9; subst z9; revert hv'; decide)]), Or.inl ⟨by decide, by omega⟩⟩⟩
set_option maxHeartbeats 4000000 in
set_option maxRecDepth 100000 in
theorem k_X5_reach (l : Launch) (D : va_G) (B : Nat → ClassId) (L : QL) (A : Nat → Prop) (σ : QS) (τ : Int64) (f : Int32) (a : Int32) (t : Int32) (N : Net) (hI : InvM σ) (hp1 : RepM σ N) (hp2 : KepM σ N) : cW cntM gM l D B L A yX5_reach wsX5_reach 3 78 [.ref (L 0 0), .int f, .int a, .int t] σ τ (pI (fun x σ' τ' => InvM σ' ∧ Keep [0, 14, 15, 16] σ σ' ∧ τ' = τ ∧ KepM σ' N)) := by
  refine cW_of (cc := cX5_reach) (nL := 6) (ret := (some .int)) (by decide) rfl (Nat.le_of_ble_eq_true rfl) ?_
  intro p e s m below meth c S hr hk K hH hS ls hl
  have hnX5 : ∀ w ∈ wsX50, w ∈ wsX5_reach := fun w h => mG (tX5 w h)
  have lm1 : ((-1) : Int32).toInt = -1 := by decide
  have l0 : (0 : Int32).toInt = 0 := by decide
  have l1 : (1 : Int32).toInt = 1 := by decide
  have l12 : (12 : Int32).toInt = 12 := by decide
  have hP : Keep [0, 14, 15, 16] σ σ := Keep_r
  have hl : lv_has ls 6 [(0, .ref (L 0 0)), (1, .int f), (2, .int a), (3, .int t)] := hl
  refine lv_aload_n S.1 S.2.1 dX5_reach_0 rfl (lv_at hl 0 rfl) ?_
  refine lv_iconst (v := 0) S.1 S.2.1 dX5_reach_1 (by decide) ?_
  refine pM_0_0 S hnX5 K hH hS (mG wd_337) dX5_reach_2 (fun H locs hH hS => ?_)
  obtain ⟨σ1, eσ1⟩ : ∃ z_9 : QS, z_9 = rs σ 0 0 (fun _ => 0) := ⟨_, rfl⟩
  rw [← eσ1] at hH
  have hI := InvM_f eσ1 hI (by decide) (any32 _)
  have hP := Keep_w eσ1 hP (by decide)
  refine lv_iload_n S.1 S.2.1 dX5_reach_5 rfl (lv_at hl 1 rfl) ?_
  refine cW_bpi (cW_S (n := 1) (As := [.int f]) (rest := []) S K hH (k_X5_isPlace l D B L A σ1 τ f ) gX5_reach_X5_isPlace rfl hdS_X5_isPlace ⟨Nat.le_of_ble_eq_true rfl, Nat.le_of_ble_eq_true rfl⟩ rfl hl.1 (Nat.le_of_ble_eq_true rfl) dX5_reach_6) hS (fun v2 H locs q2 hH hS => ?_)
  refine lv_if_eq (tgt := 31) S.1 S.2.1 dX5_reach_9 (by decide) (fun c3 => ?_) (fun c3 => ?_)
  · have j3 := t_eq c3
    refine lv_iconst (v := (-1)) S.1 S.2.1 dX5_reach_31 (by decide) ?_
    refine cW_iret S hr hk hH hS ?_ dX5_reach_32
    exact ⟨(-1), rfl, hI, hP, rfl, by exact KepM_of hp2 (fun v' hv' => by rw [eσ1, rs_v (by intro z9; subst z9; revert hv'; decide)])⟩
  · have j3 := t_neq c3
    refine lv_iload_n S.1 S.2.1 dX5_reach_12 rfl (lv_at hl 2 rfl) ?_
    refine cW_bpi (cW_S (n := 1) (As := [.int a]) (rest := []) S K hH (k_X5_isHour l D B L A σ1 τ a ) gX5_reach_X5_isHour rfl hdS_X5_isHour ⟨Nat.le_of_ble_eq_true rfl, Nat.le_of_ble_eq_true rfl⟩ rfl hl.1 (Nat.le_of_ble_eq_true rfl) dX5_reach_13) hS (fun v4 H locs q4 hH hS => ?_)
    refine lv_if_eq (tgt := 31) S.1 S.2.1 dX5_reach_16 (by decide) (fun c5 => ?_) (fun c5 => ?_)
    · have j5 := t_eq c5
      refine lv_iconst (v := (-1)) S.1 S.2.1 dX5_reach_31 (by decide) ?_
      refine cW_iret S hr hk hH hS ?_ dX5_reach_32
      exact ⟨(-1), rfl, hI, hP, rfl, by exact KepM_of hp2 (fun v' hv' => by rw [eσ1, rs_v (by intro z9; subst z9; revert hv'; decide)])⟩
    · have j5 := t_neq c5
      refine lv_iload_n S.1 S.2.1 dX5_reach_19 rfl (lv_at hl 3 rfl) ?_
      refine cW_bpi (cW_S (n := 1) (As := [.int t]) (rest := []) S K hH (k_X5_isHour l D B L A σ1 τ t ) gX5_reach_X5_isHour rfl hdS_X5_isHour ⟨Nat.le_of_ble_eq_true rfl, Nat.le_of_ble_eq_true rfl⟩ rfl hl.1 (Nat.le_of_ble_eq_true rfl) dX5_reach_20) hS (fun v6 H locs q6 hH hS => ?_)
      refine lv_if_eq (tgt := 31) S.1 S.2.1 dX5_reach_23 (by decide) (fun c7 => ?_) (fun c7 => ?_)
      · have j7 := t_eq c7
        refine lv_iconst (v := (-1)) S.1 S.2.1 dX5_reach_31 (by decide) ?_
        refine cW_iret S hr hk hH hS ?_ dX5_reach_32
        exact ⟨(-1), rfl, hI, hP, rfl, by exact KepM_of hp2 (fun v' hv' => by rw [eσ1, rs_v (by intro z9; subst z9; revert hv'; decide)])⟩
      · have j7 := t_neq c7
        refine lv_iload_n S.1 S.2.1 dX5_reach_26 rfl (lv_at hl 3 rfl) ?_
        refine lv_iload_n S.1 S.2.1 dX5_reach_27 rfl (lv_at hl 2 rfl) ?_
        refine lv_icmp_ge (tgt := 33) S.1 S.2.1 dX5_reach_28 (by decide) (fun c8 => ?_) (fun c8 => ?_)
        · have j8 := t_le c8
          refine lv_iconst (v := 0) S.1 S.2.1 dX5_reach_33 (by decide) ?_
          refine lv_istore (lv' := [(4, .int 0), (0, .ref (L 0 0)), (1, .int f), (2, .int a), (3, .int t)]) S.1 S.2.1 dX5_reach_34 hl (by decide) rfl (fun ls hl => ?_)
          refine lv_iconst (v := 0) S.1 S.2.1 dX5_reach_36 (by decide) ?_
          refine lv_istore (lv' := [(5, .int 0), (4, .int 0), (0, .ref (L 0 0)), (1, .int f), (2, .int a), (3, .int t)]) S.1 S.2.1 dX5_reach_37 hl (by decide) rfl (fun ls hl => ?_)
          have cut_39_9 : ∀ (n : Nat) (x4_9 : Int32) (x5_9 : Int32) (σ_9 : QS) (H : Heap) (locs : List Loc) (ls : Array Slot), (12 - x5_9.toInt).toNat < n → 0 ≤ x5_9.toInt ∧ x5_9.toInt ≤ 12 → (KepM σ_9 N) → InvM σ_9 → Keep [0, 14, 15, 16] σ σ_9 → hW cntM gM D B L σ_9 τ H → va_S A s.heap H locs → lv_has ls 6 [(0, .ref (L 0 0)), (1, .int f), (2, .int a), (3, .int t), (4, .int x4_9), (5, .int x5_9)] → W p l e { frames := 3, cells := 0, slots := 0, locals := 78 } s m [.ref (L 0 0), .int f, .int a, .int t].toArray below meth c H locs 0 0 (MQ below (QcW cntM gM D B L A (pI (fun x σ' τ' => InvM σ' ∧ Keep [0, 14, 15, 16] σ σ' ∧ τ' = τ ∧ KepM σ' N))) [.ref (L 0 0), .int f, .int a, .int t].toArray s 0 0 A) (F0 m 39 ls []) := by
            intro n
            induction n with
            | zero => intro x4_9 x5_9 σ_9 H locs ls hm; exact absurd hm (Nat.not_lt_zero _)
            | succ n ih9 =>
              intro x4_9 x5_9 σ_9 H locs ls hm9 h9_0 wk hI hP hH hS hl
              refine lv_iload S.1 S.2.1 dX5_reach_39 (lv_at hl 5 rfl) ?_
              refine lv_bipush (v := 12) S.1 S.2.1 dX5_reach_41 (by decide) ?_
              refine lv_icmp_ge (tgt := 73) S.1 S.2.1 dX5_reach_43 (by decide) (fun c10 => ?_) (fun c10 => ?_)
              · have j10 := t_le c10
                refine lv_iload S.1 S.2.1 dX5_reach_73 (lv_at hl 4 rfl) ?_
                refine cW_iret S hr hk hH hS ?_ dX5_reach_75
                exact ⟨x4_9, rfl, hI, hP, rfl, by exact wk⟩
              · have j10 := t_nle c10
                refine lv_aload_n S.1 S.2.1 dX5_reach_46 rfl (lv_at hl 0 rfl) ?_
                refine lv_iload_n S.1 S.2.1 dX5_reach_47 rfl (lv_at hl 1 rfl) ?_
                refine lv_iload_n S.1 S.2.1 dX5_reach_48 rfl (lv_at hl 2 rfl) ?_
                refine lv_iload S.1 S.2.1 dX5_reach_49 (lv_at hl 5 rfl) ?_
                refine cW_bi (cW_V (n := 3) (As := [.int f, .int a, .int x5_9]) (rest := []) (k := 0) (i := 0) S K hH (by decide) rfl rfl (k_X5_soonOf l D B L A σ_9 τ f a x5_9 (N) (by omega) (by omega) (by omega) hI (RepM_k hp1 hP (by decide)) (wk)) gX5_reach_X5_soonOf rfl hdV_X5_soonOf ⟨Nat.le_of_ble_eq_true rfl, Nat.le_of_ble_eq_true rfl⟩ rfl hl.1 (Nat.le_of_ble_eq_true rfl) dX5_reach_51) hS (fun v11 σ11 τ11 H locs q11 hH hS => ?_)
                obtain ⟨hI, hP11, hτ11, q11⟩ := q11
                rw [hτ11] at hH
                have hP := Keep_t hP hP11 (by decide)
                refine lv_iload_n S.1 S.2.1 dX5_reach_54 rfl (lv_at hl 3 rfl) ?_
                refine lv_icmp_gt (tgt := 67) S.1 S.2.1 dX5_reach_55 (by decide) (fun c12 => ?_) (fun c12 => ?_)
                · have j12 := t_lt c12
                  obtain ⟨v13, e13⟩ : ∃ y_9 : Int32, y_9 = x5_9 + 1 := ⟨_, rfl⟩
                  have i13 : v13.toInt = x5_9.toInt + 1 := i_addc e13 (by decide) (by omega) (by omega)
                  refine lv_iinc (v := v13) (lv' := [(5, .int v13), (0, .ref (L 0 0)), (1, .int f), (2, .int a), (3, .int t), (4, .int x4_9)]) S.1 S.2.1 dX5_reach_67 hl (k := 5) rfl (by rw [e13]; rfl) (by decide) rfl (fun ls hl => ?_)
                  refine lv_goto (tgt := 39) S.1 S.2.1 dX5_reach_70 (by decide) ?_
                  exact ih9 x4_9 v13 σ11 _ _ ls (by omega) (by omega) (by exact (q11).1) hI hP hH hS (lv_sub hl [1, 2, 3, 4, 5, 0] rfl)
                · have j12 := t_nlt c12
                  refine lv_iload S.1 S.2.1 dX5_reach_58 (lv_at hl 4 rfl) ?_
                  refine lv_iconst (v := 1) S.1 S.2.1 dX5_reach_60 (by decide) ?_
                  refine lv_iload S.1 S.2.1 dX5_reach_61 (lv_at hl 5 rfl) ?_
                  refine lv_ishl S.1 S.2.1 dX5_reach_63 ?_
                  refine lv_topi (fun v14 e14 => ?_)
                  refine lv_ior S.1 S.2.1 dX5_reach_64 ?_
                  refine lv_topi (fun v15 e15 => ?_)
                  refine lv_istore (lv' := [(4, .int v15), (0, .ref (L 0 0)), (1, .int f), (2, .int a), (3, .int t), (5, .int x5_9)]) S.1 S.2.1 dX5_reach_65 hl (by decide) rfl (fun ls hl => ?_)
                  obtain ⟨v16, e16⟩ : ∃ y_9 : Int32, y_9 = x5_9 + 1 := ⟨_, rfl⟩
                  have i16 : v16.toInt = x5_9.toInt + 1 := i_addc e16 (by decide) (by omega) (by omega)
                  refine lv_iinc (v := v16) (lv' := [(5, .int v16), (4, .int v15), (0, .ref (L 0 0)), (1, .int f), (2, .int a), (3, .int t)]) S.1 S.2.1 dX5_reach_67 hl (k := 5) rfl (by rw [e16]; rfl) (by decide) rfl (fun ls hl => ?_)
                  refine lv_goto (tgt := 39) S.1 S.2.1 dX5_reach_70 (by decide) ?_
                  exact ih9 v15 v16 σ11 _ _ ls (by omega) (by omega) (by exact (q11).1) hI hP hH hS (lv_sub hl [2, 3, 4, 5, 1, 0] rfl)
          exact cut_39_9 _ 0 0 σ1 _ _ ls (Nat.lt_succ_self _) (by omega) (by exact KepM_of hp2 (fun v' hv' => by rw [eσ1, rs_v (by intro z9; subst z9; revert hv'; decide)])) hI hP hH hS (lv_sub hl [2, 3, 4, 5, 1, 0] rfl)
        · have j8 := t_nle c8
          refine lv_iconst (v := (-1)) S.1 S.2.1 dX5_reach_31 (by decide) ?_
          refine cW_iret S hr hk hH hS ?_ dX5_reach_32
          exact ⟨(-1), rfl, hI, hP, rfl, by exact KepM_of hp2 (fun v' hv' => by rw [eσ1, rs_v (by intro z9; subst z9; revert hv'; decide)])⟩
set_option maxHeartbeats 4000000 in
set_option maxRecDepth 100000 in
theorem k_X5_cut (l : Launch) (D : va_G) (B : Nat → ClassId) (L : QL) (A : Nat → Prop) (σ : QS) (τ : Int64) (a : Int32) (b : Int32) (z : Int32) (N : Net) (hI : InvM σ) (hp1 : RepM σ N) (hp2 : KepM σ N) : cW cntM gM l D B L A yX5_cut wsX5_cut 3 78 [.ref (L 0 0), .int a, .int b, .int z] σ τ (pI (fun x σ' τ' => InvM σ' ∧ Keep [0, 14, 15, 16] σ σ' ∧ τ' = τ ∧ (KepM σ' N ∧ ((x.toInt = -1 ∧ ¬ (0 ≤ a.toInt ∧ a.toInt < (σ 2 0 0).toInt ∧ 0 ≤ b.toInt ∧ b.toInt ≤ 6000 ∧ 0 ≤ z.toInt ∧ z.toInt ≤ 11)) ∨ ((0 ≤ a.toInt ∧ a.toInt < (σ 2 0 0).toInt ∧ 0 ≤ b.toInt ∧ b.toInt ≤ 6000 ∧ 0 ≤ z.toInt ∧ z.toInt ≤ 11) ∧ cuP N a.toInt b.toInt z.toNatClampNeg x))))) := by
  refine cW_of (cc := cX5_cut) (nL := 6) (ret := (some .int)) (by decide) rfl (Nat.le_of_ble_eq_true rfl) ?_
  intro p e s m below meth c S hr hk K hH hS ls hl
  have hnX5 : ∀ w ∈ wsX50, w ∈ wsX5_cut := fun w h => mG (tX5 w h)
  have lm1 : ((-1) : Int32).toInt = -1 := by decide
  have l0 : (0 : Int32).toInt = 0 := by decide
  have l1 : (1 : Int32).toInt = 1 := by decide
  have l12 : (12 : Int32).toInt = 12 := by decide
  have l1000000 : (1000000 : Int32).toInt = 1000000 := by decide
  have hP : Keep [0, 14, 15, 16] σ σ := Keep_r
  have hl : lv_has ls 6 [(0, .ref (L 0 0)), (1, .int a), (2, .int b), (3, .int z)] := hl
  refine lv_aload_n S.1 S.2.1 dX5_cut_0 rfl (lv_at hl 0 rfl) ?_
  refine lv_iconst (v := 0) S.1 S.2.1 dX5_cut_1 (by decide) ?_
  refine pM_0_0 S hnX5 K hH hS (mG wd_337) dX5_cut_2 (fun H locs hH hS => ?_)
  obtain ⟨σ1, eσ1⟩ : ∃ z_9 : QS, z_9 = rs σ 0 0 (fun _ => 0) := ⟨_, rfl⟩
  rw [← eσ1] at hH
  have hI := InvM_f eσ1 hI (by decide) (any32 _)
  have hP := Keep_w eσ1 hP (by decide)
  have gz2 : (σ1 2 0 0).toInt = (σ 2 0 0).toInt := by rw [eσ1, rs_v (by decide)]
  refine lv_aload_n S.1 S.2.1 dX5_cut_5 rfl (lv_at hl 0 rfl) ?_
  refine lv_iload_n S.1 S.2.1 dX5_cut_6 rfl (lv_at hl 1 rfl) ?_
  refine cW_bpi (cW_V (n := 1) (As := [.int a]) (rest := []) (k := 0) (i := 0) S K hH (by decide) rfl rfl (k_X5_isCart l D B L A σ1 τ a hI) gX5_cut_X5_isCart rfl hdV_X5_isCart ⟨Nat.le_of_ble_eq_true rfl, Nat.le_of_ble_eq_true rfl⟩ rfl hl.1 (Nat.le_of_ble_eq_true rfl) dX5_cut_7) hS (fun v2 H locs q2 hH hS => ?_)
  refine lv_if_eq (tgt := 27) S.1 S.2.1 dX5_cut_10 (by decide) (fun c3 => ?_) (fun c3 => ?_)
  · have j3 := t_eq c3
    refine lv_iconst (v := (-1)) S.1 S.2.1 dX5_cut_27 (by decide) ?_
    refine cW_iret S hr hk hH hS ?_ dX5_cut_28
    exact ⟨(-1), rfl, hI, hP, rfl, by exact ⟨KepM_of hp2 (fun v' hv' => by rw [eσ1, rs_v (by intro z9; subst z9; revert hv'; decide)]), Or.inl ⟨by decide, by omega⟩⟩⟩
  · have j3 := t_neq c3
    refine lv_iload_n S.1 S.2.1 dX5_cut_13 rfl (lv_at hl 2 rfl) ?_
    refine cW_bpi (cW_S (n := 1) (As := [.int b]) (rest := []) S K hH (k_X5_isHour l D B L A σ1 τ b ) gX5_cut_X5_isHour rfl hdS_X5_isHour ⟨Nat.le_of_ble_eq_true rfl, Nat.le_of_ble_eq_true rfl⟩ rfl hl.1 (Nat.le_of_ble_eq_true rfl) dX5_cut_14) hS (fun v4 H locs q4 hH hS => ?_)
    refine lv_if_eq (tgt := 27) S.1 S.2.1 dX5_cut_17 (by decide) (fun c5 => ?_) (fun c5 => ?_)
    · have j5 := t_eq c5
      refine lv_iconst (v := (-1)) S.1 S.2.1 dX5_cut_27 (by decide) ?_
      refine cW_iret S hr hk hH hS ?_ dX5_cut_28
      exact ⟨(-1), rfl, hI, hP, rfl, by exact ⟨KepM_of hp2 (fun v' hv' => by rw [eσ1, rs_v (by intro z9; subst z9; revert hv'; decide)]), Or.inl ⟨by decide, by omega⟩⟩⟩
    · have j5 := t_neq c5
      refine lv_iload_n S.1 S.2.1 dX5_cut_20 rfl (lv_at hl 3 rfl) ?_
      refine cW_bpi (cW_S (n := 1) (As := [.int z]) (rest := []) S K hH (k_X5_isPlace l D B L A σ1 τ z ) gX5_cut_X5_isPlace rfl hdS_X5_isPlace ⟨Nat.le_of_ble_eq_true rfl, Nat.le_of_ble_eq_true rfl⟩ rfl hl.1 (Nat.le_of_ble_eq_true rfl) dX5_cut_21) hS (fun v6 H locs q6 hH hS => ?_)
      refine lv_if_ne (tgt := 29) S.1 S.2.1 dX5_cut_24 (by decide) (fun c7 => ?_) (fun c7 => ?_)
      · have j7 := t_neq c7
        refine lv_iconst (v := 0) S.1 S.2.1 dX5_cut_29 (by decide) ?_
        refine lv_istore (lv' := [(4, .int 0), (0, .ref (L 0 0)), (1, .int a), (2, .int b), (3, .int z)]) S.1 S.2.1 dX5_cut_30 hl (by decide) rfl (fun ls hl => ?_)
        refine lv_iconst (v := 0) S.1 S.2.1 dX5_cut_32 (by decide) ?_
        refine lv_istore (lv' := [(5, .int 0), (4, .int 0), (0, .ref (L 0 0)), (1, .int a), (2, .int b), (3, .int z)]) S.1 S.2.1 dX5_cut_33 hl (by decide) rfl (fun ls hl => ?_)
        have cut_35_8 : ∀ (n : Nat) (x4_8 : Int32) (x5_8 : Int32) (σ_8 : QS) (H : Heap) (locs : List Loc) (ls : Array Slot), (12 - x5_8.toInt).toNat < n → 0 ≤ x5_8.toInt ∧ x5_8.toInt ≤ 12 → (KepM σ_8 N) → (stI (fun p => bwR N (-1) z.toNatClampNeg (b.toInt + 336) p b.toInt ∧ ¬ bwR N a.toInt z.toNatClampNeg (b.toInt + 336) p b.toInt) x4_8 x5_8.toInt) → InvM σ_8 → Keep [0, 14, 15, 16] σ σ_8 → hW cntM gM D B L σ_8 τ H → va_S A s.heap H locs → lv_has ls 6 [(0, .ref (L 0 0)), (1, .int a), (2, .int b), (3, .int z), (4, .int x4_8), (5, .int x5_8)] → W p l e { frames := 3, cells := 0, slots := 0, locals := 78 } s m [.ref (L 0 0), .int a, .int b, .int z].toArray below meth c H locs 0 0 (MQ below (QcW cntM gM D B L A (pI (fun x σ' τ' => InvM σ' ∧ Keep [0, 14, 15, 16] σ σ' ∧ τ' = τ ∧ (KepM σ' N ∧ ((x.toInt = -1 ∧ ¬ (0 ≤ a.toInt ∧ a.toInt < (σ 2 0 0).toInt ∧ 0 ≤ b.toInt ∧ b.toInt ≤ 6000 ∧ 0 ≤ z.toInt ∧ z.toInt ≤ 11)) ∨ ((0 ≤ a.toInt ∧ a.toInt < (σ 2 0 0).toInt ∧ 0 ≤ b.toInt ∧ b.toInt ≤ 6000 ∧ 0 ≤ z.toInt ∧ z.toInt ≤ 11) ∧ cuP N a.toInt b.toInt z.toNatClampNeg x)))))) [.ref (L 0 0), .int a, .int b, .int z].toArray s 0 0 A) (F0 m 35 ls []) := by
          intro n
          induction n with
          | zero => intro x4_8 x5_8 σ_8 H locs ls hm; exact absurd hm (Nat.not_lt_zero _)
          | succ n ih8 =>
            intro x4_8 x5_8 σ_8 H locs ls hm8 h8_0 wk ws hI hP hH hS hl
            refine lv_iload S.1 S.2.1 dX5_cut_35 (lv_at hl 5 rfl) ?_
            refine lv_bipush (v := 12) S.1 S.2.1 dX5_cut_37 (by decide) ?_
            refine lv_icmp_ge (tgt := 92) S.1 S.2.1 dX5_cut_39 (by decide) (fun c9 => ?_) (fun c9 => ?_)
            · have j9 := t_le c9
              refine lv_iload S.1 S.2.1 dX5_cut_92 (lv_at hl 4 rfl) ?_
              refine cW_iret S hr hk hH hS ?_ dX5_cut_94
              exact ⟨x4_8, rfl, hI, hP, rfl, by exact ⟨wk, Or.inr ⟨by omega, st_e ws (by omega)⟩⟩⟩
            · have j9 := t_nle c9
              refine lv_aload_n S.1 S.2.1 dX5_cut_42 rfl (lv_at hl 0 rfl) ?_
              refine lv_iload S.1 S.2.1 dX5_cut_43 (lv_at hl 5 rfl) ?_
              refine lv_iload_n S.1 S.2.1 dX5_cut_45 rfl (lv_at hl 2 rfl) ?_
              refine lv_iload_n S.1 S.2.1 dX5_cut_46 rfl (lv_at hl 3 rfl) ?_
              refine cW_bi (cW_V (n := 3) (As := [.int x5_8, .int b, .int z]) (rest := []) (k := 0) (i := 0) S K hH (by decide) rfl rfl (k_X5_soonOf l D B L A σ_8 τ x5_8 b z (N) (by omega) (by omega) (by omega) hI (RepM_k hp1 hP (by decide)) (wk)) gX5_cut_X5_soonOf rfl hdV_X5_soonOf ⟨Nat.le_of_ble_eq_true rfl, Nat.le_of_ble_eq_true rfl⟩ rfl hl.1 (Nat.le_of_ble_eq_true rfl) dX5_cut_47) hS (fun v10 σ10 τ10 H locs q10 hH hS => ?_)
              obtain ⟨hI, hP10, hτ10, q10⟩ := q10
              rw [hτ10] at hH
              have hP := Keep_t hP hP10 (by decide)
              have k5 := cl_eq (j := x5_8) (by omega)
              have hb9 := sv_never (by omega) (q10).2
              refine lv_ldc (v := 1000000) S.1 S.2.1 S.2.2.2.1 (S.2.2.2.2 (.constant RX5 137 (1000000)) (mG wd_357)) dX5_cut_50 ?_
              refine lv_icmp_ne (tgt := 58) S.1 S.2.1 dX5_cut_52 (by decide) (fun c11 => ?_) (fun c11 => ?_)
              · have j11 := t_neq c11
                refine lv_aload_n S.1 S.2.1 dX5_cut_58 rfl (lv_at hl 0 rfl) ?_
                refine lv_iload S.1 S.2.1 dX5_cut_59 (lv_at hl 5 rfl) ?_
                refine lv_iload_n S.1 S.2.1 dX5_cut_61 rfl (lv_at hl 2 rfl) ?_
                refine lv_iload_n S.1 S.2.1 dX5_cut_62 rfl (lv_at hl 1 rfl) ?_
                refine cW_bv (cW_V (n := 3) (As := [.int x5_8, .int b, .int a]) (rest := []) (k := 0) (i := 0) S K hH (by decide) rfl rfl (k_X5_find l D B L A σ10 τ x5_8 b a (N) (by omega) (by omega) hI (RepM_k hp1 hP (by decide))) gX5_cut_X5_find rfl hdV_X5_find ⟨Nat.le_of_ble_eq_true rfl, Nat.le_of_ble_eq_true rfl⟩ rfl hl.1 (Nat.le_of_ble_eq_true rfl) dX5_cut_63) hS (fun σ12 τ12 H locs q12 hH hS => ?_)
                obtain ⟨hI, hP12, hτ12, q12⟩ := q12
                rw [hτ12] at hH
                have hP := Keep_t hP hP12 (by decide)
                have hc9 := sv_never (by omega) ((q12) z.toNatClampNeg (by have z3 := cl_eq (j := z) (by omega); omega))
                refine lv_aload_n S.1 S.2.1 dX5_cut_66 rfl (lv_at hl 0 rfl) ?_
                refine rM_0_16 S hnX5 K hH (mG wd_317) dX5_cut_67 ?_
                refine lv_iload_n S.1 S.2.1 dX5_cut_70 rfl (lv_at hl 3 rfl) ?_
                refine lM_16 S K hH (vin (by omega) (by omega)) dX5_cut_71 ?_
                refine lv_topi (fun v13 e13 => ?_)
                have b13 : 0 ≤ v13.toInt ∧ v13.toInt ≤ 1000000 := by rw [e13]; exact hI.1 16 0 z.toNatClampNeg
                have f71 : v13.toInt = (σ12 16 0 z.toNatClampNeg).toInt := by rw [e13]
                refine lv_ldc (v := 1000000) S.1 S.2.1 S.2.2.2.1 (S.2.2.2.2 (.constant RX5 137 (1000000)) (mG wd_357)) dX5_cut_72 ?_
                refine lv_icmp_ne (tgt := 86) S.1 S.2.1 dX5_cut_74 (by decide) (fun c14 => ?_) (fun c14 => ?_)
                · have j14 := t_neq c14
                  obtain ⟨v15, e15⟩ : ∃ y_9 : Int32, y_9 = x5_8 + 1 := ⟨_, rfl⟩
                  have i15 : v15.toInt = x5_8.toInt + 1 := i_addc e15 (by decide) (by omega) (by omega)
                  refine lv_iinc (v := v15) (lv' := [(5, .int v15), (0, .ref (L 0 0)), (1, .int a), (2, .int b), (3, .int z), (4, .int x4_8)]) S.1 S.2.1 dX5_cut_86 hl (k := 5) rfl (by rw [e15]; rfl) (by decide) rfl (fun ls hl => ?_)
                  refine lv_goto (tgt := 35) S.1 S.2.1 dX5_cut_89 (by decide) ?_
                  exact ih8 x4_8 v15 σ12 _ _ ls (by omega) (by omega) (by first | exact (q10).1 | exact KepM_of (q10).1 (fun v' hv' => hP12 v' (by revert hv'; revert v'; decide))) (by rw [i15]; first | exact st_n ws (by omega) (fun y9 => hb9.mp (by omega) y9.1) | exact st_y ws (by omega) ⟨Classical.byContradiction (fun y9 => absurd (hb9.mpr y9) (by omega)), hc9.mp (by omega)⟩ (by rw [e9999, e9999]; rfl) | exact st_n ws (by omega) (fun y9 => absurd (hc9.mpr y9.2) (by omega))) hI hP hH hS (lv_sub hl [1, 2, 3, 4, 5, 0] rfl)
                · have j14 := t_eq c14
                  refine lv_iload S.1 S.2.1 dX5_cut_77 (lv_at hl 4 rfl) ?_
                  refine lv_iconst (v := 1) S.1 S.2.1 dX5_cut_79 (by decide) ?_
                  refine lv_iload S.1 S.2.1 dX5_cut_80 (lv_at hl 5 rfl) ?_
                  refine lv_ishl S.1 S.2.1 dX5_cut_82 ?_
                  refine lv_topi (fun v16 e16 => ?_)
                  refine lv_ior S.1 S.2.1 dX5_cut_83 ?_
                  refine lv_topi (fun v17 e17 => ?_)
                  refine lv_istore (lv' := [(4, .int v17), (0, .ref (L 0 0)), (1, .int a), (2, .int b), (3, .int z), (5, .int x5_8)]) S.1 S.2.1 dX5_cut_84 hl (by decide) rfl (fun ls hl => ?_)
                  obtain ⟨v18, e18⟩ : ∃ y_9 : Int32, y_9 = x5_8 + 1 := ⟨_, rfl⟩
                  have i18 : v18.toInt = x5_8.toInt + 1 := i_addc e18 (by decide) (by omega) (by omega)
                  refine lv_iinc (v := v18) (lv' := [(5, .int v18), (4, .int v17), (0, .ref (L 0 0)), (1, .int a), (2, .int b), (3, .int z)]) S.1 S.2.1 dX5_cut_86 hl (k := 5) rfl (by rw [e18]; rfl) (by decide) rfl (fun ls hl => ?_)
                  refine lv_goto (tgt := 35) S.1 S.2.1 dX5_cut_89 (by decide) ?_
                  exact ih8 v17 v18 σ12 _ _ ls (by omega) (by omega) (by first | exact (q10).1 | exact KepM_of (q10).1 (fun v' hv' => hP12 v' (by revert hv'; revert v'; decide))) (by rw [i18]; first | exact st_n ws (by omega) (fun y9 => hb9.mp (by omega) y9.1) | exact st_y ws (by omega) ⟨Classical.byContradiction (fun y9 => absurd (hb9.mpr y9) (by omega)), hc9.mp (by omega)⟩ (by rw [e17, e16]; rfl) | exact st_n ws (by omega) (fun y9 => absurd (hc9.mpr y9.2) (by omega))) hI hP hH hS (lv_sub hl [2, 3, 4, 5, 1, 0] rfl)
              · have j11 := t_eq c11
                refine lv_goto (tgt := 86) S.1 S.2.1 dX5_cut_55 (by decide) ?_
                obtain ⟨v19, e19⟩ : ∃ y_9 : Int32, y_9 = x5_8 + 1 := ⟨_, rfl⟩
                have i19 : v19.toInt = x5_8.toInt + 1 := i_addc e19 (by decide) (by omega) (by omega)
                refine lv_iinc (v := v19) (lv' := [(5, .int v19), (0, .ref (L 0 0)), (1, .int a), (2, .int b), (3, .int z), (4, .int x4_8)]) S.1 S.2.1 dX5_cut_86 hl (k := 5) rfl (by rw [e19]; rfl) (by decide) rfl (fun ls hl => ?_)
                refine lv_goto (tgt := 35) S.1 S.2.1 dX5_cut_89 (by decide) ?_
                exact ih8 x4_8 v19 σ10 _ _ ls (by omega) (by omega) (by first | exact (q10).1 | exact KepM_of (q10).1 (fun v' hv' => hP12 v' (by revert hv'; revert v'; decide))) (by rw [i19]; first | exact st_n ws (by omega) (fun y9 => hb9.mp (by omega) y9.1) | exact st_y ws (by omega) ⟨Classical.byContradiction (fun y9 => absurd (hb9.mpr y9) (by omega)), hc9.mp (by omega)⟩ (by rw [e17, e16]; rfl) | exact st_n ws (by omega) (fun y9 => absurd (hc9.mpr y9.2) (by omega))) hI hP hH hS (lv_sub hl [1, 2, 3, 4, 5, 0] rfl)
        exact cut_35_8 _ 0 0 σ1 _ _ ls (Nat.lt_succ_self _) (by omega) (by exact KepM_of hp2 (fun v' hv' => by rw [eσ1, rs_v (by intro z9; subst z9; revert hv'; decide)])) (by exact st_0) hI hP hH hS (lv_sub hl [2, 3, 4, 5, 1, 0] rfl)
      · have j7 := t_eq c7
        refine lv_iconst (v := (-1)) S.1 S.2.1 dX5_cut_27 (by decide) ?_
        refine cW_iret S hr hk hH hS ?_ dX5_cut_28
        exact ⟨(-1), rfl, hI, hP, rfl, by exact ⟨KepM_of hp2 (fun v' hv' => by rw [eσ1, rs_v (by intro z9; subst z9; revert hv'; decide)]), Or.inl ⟨by decide, by omega⟩⟩⟩
