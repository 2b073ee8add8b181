set_option maxHeartbeats 4000000 in
set_option maxRecDepth 100000 in
theorem k_X5_finds (l : Launch) (D : va_G) (B : Nat → ClassId) (L : QL) (A : Nat → Prop) (σ : QS) (τ : Int64) (a : Int32)  (hI : InvM σ) (hp1 : ∀ s : Nat, σ 33 0 s = 0) : cW cntM gM l D B L A yX5_finds wsX5_finds 10 270 [.ref (L 0 0), .int a] σ τ (pI (fun x σ' τ' => InvM σ' ∧ Keep [0, 37, 34, 35, 36, 31, 30, 33] σ σ' ∧ τ' = τ ∧ (σ' 33 = σ 33 ∧ ((x.toInt = 0 ∧ ¬ (0 ≤ a.toInt ∧ a.toInt ≤ 500)) ∨ (x.toInt = 1 ∧ (0 ≤ a.toInt ∧ a.toInt ≤ 500) ∧ fbP σ σ' a))))) := by
  refine cW_of (cc := cX5_finds) (nL := 2) (ret := (some .boolean)) (by decide) rfl (Nat.le_of_ble_eq_true rfl) ?_
  intro p e s m below meth c S hr hk K hH hS ls hl
  have hnX5 : ∀ w ∈ wsX50, w ∈ wsX5_finds := fun w h => mG (tX5 w h)
  have lm1 : ((-1) : Int32).toInt = -1 := by decide
  have l0 : (0 : Int32).toInt = 0 := by decide
  have l1 : (1 : Int32).toInt = 1 := by decide
  have l500 : (500 : Int32).toInt = 500 := by decide
  have hP : Keep [0, 37, 34, 35, 36, 31, 30, 33] σ σ := Keep_r
  have hl : lv_has ls 2 [(0, .ref (L 0 0)), (1, .int a)] := hl
  refine lv_aload_n S.1 S.2.1 dX5_finds_0 rfl (lv_at hl 0 rfl) ?_
  refine lv_iconst (v := 0) S.1 S.2.1 dX5_finds_1 (by decide) ?_
  refine pM_0_0 S hnX5 K hH hS (mG wd_337) dX5_finds_2 (fun H locs hH hS => ?_)
  obtain ⟨σ1, eσ1⟩ : ∃ z_9 : QS, z_9 = rs σ 0 0 (fun _ => 0) := ⟨_, rfl⟩
  rw [← eσ1] at hH
  have hI := InvM_f eσ1 hI (by decide) (any32 _)
  have hP := Keep_w eσ1 hP (by decide)
  refine lv_iload_n S.1 S.2.1 dX5_finds_5 rfl (lv_at hl 1 rfl) ?_
  refine lv_iconst (v := 0) S.1 S.2.1 dX5_finds_6 (by decide) ?_
  refine lv_sipush (v := 500) S.1 S.2.1 dX5_finds_7 (by decide) ?_
  refine cW_bpi (cW_S (n := 3) (As := [.int a, .int 0, .int 500]) (rest := []) S K hH (k_X5_isIn l D B L A σ1 τ a 0 500 ) gX5_finds_X5_isIn rfl hdS_X5_isIn ⟨Nat.le_of_ble_eq_true rfl, Nat.le_of_ble_eq_true rfl⟩ rfl hl.1 (Nat.le_of_ble_eq_true rfl) dX5_finds_10) hS (fun v2 H locs q2 hH hS => ?_)
  refine lv_if_ne (tgt := 18) S.1 S.2.1 dX5_finds_13 (by decide) (fun c3 => ?_) (fun c3 => ?_)
  · have j3 := t_neq c3
    refine lv_aload_n S.1 S.2.1 dX5_finds_18 rfl (lv_at hl 0 rfl) ?_
    refine lv_iload_n S.1 S.2.1 dX5_finds_19 rfl (lv_at hl 1 rfl) ?_
    refine pM_0_37 S hnX5 K hH hS (mG wd_379) dX5_finds_20 (fun H locs hH hS => ?_)
    obtain ⟨σ4, eσ4⟩ : ∃ z_9 : QS, z_9 = rs σ1 37 0 (fun _ => a) := ⟨_, rfl⟩
    rw [← eσ4] at hH
    have hI := InvM_f eσ4 hI (by decide) (show (0 : Int) ≤ a.toInt ∧ a.toInt ≤ 500 by omega)
    have hP := Keep_w eσ4 hP (by decide)
    refine lv_aload_n S.1 S.2.1 dX5_finds_23 rfl (lv_at hl 0 rfl) ?_
    refine lv_iconst (v := (-1)) S.1 S.2.1 dX5_finds_24 (by decide) ?_
    refine pM_0_34 S hnX5 K hH hS (mG wd_380) dX5_finds_25 (fun H locs hH hS => ?_)
    obtain ⟨σ5, eσ5⟩ : ∃ z_9 : QS, z_9 = rs σ4 34 0 (fun _ => (-1)) := ⟨_, rfl⟩
    rw [← eσ5] at hH
    have hI := InvM_f eσ5 hI (by decide) (show ((-1) : Int) ≤ (-1 : Int32).toInt ∧ (-1 : Int32).toInt ≤ 8 by omega)
    have hP := Keep_w eσ5 hP (by decide)
    refine lv_aload_n S.1 S.2.1 dX5_finds_28 rfl (lv_at hl 0 rfl) ?_
    refine lv_iconst (v := 0) S.1 S.2.1 dX5_finds_29 (by decide) ?_
    refine lv_iconst (v := 0) S.1 S.2.1 dX5_finds_30 (by decide) ?_
    refine lv_iconst (v := 0) S.1 S.2.1 dX5_finds_31 (by decide) ?_
    refine lv_iconst (v := 0) S.1 S.2.1 dX5_finds_32 (by decide) ?_
    refine cW_bv (cW_V (n := 4) (As := [.int 0, .int 0, .int 0, .int 0]) (rest := []) (k := 0) (i := 0) S K hH (by decide) rfl rfl (k_X5_goes0 l D B L A σ5 τ 0 0 0 0 (by omega) (by omega) (by omega) (by omega) hI (by intro s; rw [eσ5, rs_v (by decide), eσ4, rs_v (by decide), eσ1, rs_v (by decide)]; exact hp1 s) (by rw [eσ5, rs_self]; decide)) gX5_finds_X5_goes rfl hdV_X5_goes ⟨Nat.le_of_ble_eq_true rfl, Nat.le_of_ble_eq_true rfl⟩ rfl hl.1 (Nat.le_of_ble_eq_true rfl) dX5_finds_33) hS (fun σ6 τ6 H locs q6 hH hS => ?_)
    obtain ⟨hI, hP6, hτ6, q6⟩ := q6
    rw [hτ6] at hH
    have hP := Keep_t hP hP6 (by decide)
    refine lv_iconst (v := 1) S.1 S.2.1 dX5_finds_36 (by decide) ?_
    refine cW_zret S hr hk hH hS (by decide) ?_ dX5_finds_37
    exact ⟨1, rfl, hI, hP, rfl, by exact ⟨(q6).1.trans (by rw [eσ5, rs_v (by decide), eσ4, rs_v (by decide), eσ1, rs_v (by decide)]), Or.inr ⟨by decide, by omega, gBest (fun v hv => hP v (fun z => by revert hv z; revert v; decide)) (by rw [hP6 37 (by decide), eσ5, rs_v (by decide), eσ4, rs_self]) (by omega) (q6).2.2⟩⟩⟩
  · have j3 := t_eq c3
    refine lv_iconst (v := 0) S.1 S.2.1 dX5_finds_16 (by decide) ?_
    refine cW_zret S hr hk hH hS (by decide) ?_ dX5_finds_17
    exact ⟨0, rfl, hI, hP, rfl, by exact ⟨by rw [eσ1, rs_v (by decide)], Or.inl ⟨by decide, by omega⟩⟩⟩
set_option maxHeartbeats 4000000 in
set_option maxRecDepth 100000 in
theorem k_X5_best (l : Launch) (D : va_G) (B : Nat → ClassId) (L : QL) (A : Nat → Prop) (σ : QS) (τ : Int64) (a : Int32) (b : Int32)  (hI : InvM σ) (hp1 : ∀ s : Nat, σ 33 0 s = 0) : cW cntM gM l D B L A yX5_best wsX5_best 11 291 [.ref (L 0 0), .int a, .int b] σ τ (pI (fun x σ' τ' => InvM σ' ∧ Keep [0, 37, 34, 35, 36, 31, 30, 33] σ σ' ∧ τ' = τ ∧ (σ' 33 = σ 33 ∧ b5P σ a b x))) := by
  refine cW_of (cc := cX5_best) (nL := 3) (ret := (some .int)) (by decide) rfl (Nat.le_of_ble_eq_true rfl) ?_
  intro p e s m below meth c S hr hk K hH hS ls hl
  have hnX5 : ∀ w ∈ wsX50, w ∈ wsX5_best := fun w h => mG (tX5 w h)
  have lm1 : ((-1) : Int32).toInt = -1 := by decide
  have l0 : (0 : Int32).toInt = 0 := by decide
  have l1 : (1 : Int32).toInt = 1 := by decide
  have l2 : (2 : Int32).toInt = 2 := by decide
  have hP : Keep [0, 37, 34, 35, 36, 31, 30, 33] σ σ := Keep_r
  have hl : lv_has ls 3 [(0, .ref (L 0 0)), (1, .int a), (2, .int b)] := hl
  refine lv_aload_n S.1 S.2.1 dX5_best_0 rfl (lv_at hl 0 rfl) ?_
  refine lv_iload_n S.1 S.2.1 dX5_best_1 rfl (lv_at hl 1 rfl) ?_
  refine cW_bi (cW_V (n := 1) (As := [.int a]) (rest := []) (k := 0) (i := 0) S K hH (by decide) rfl rfl (k_X5_finds l D B L A σ τ a hI (by omega)) gX5_best_X5_finds rfl hdV_X5_finds ⟨Nat.le_of_ble_eq_true rfl, Nat.le_of_ble_eq_true rfl⟩ rfl hl.1 (Nat.le_of_ble_eq_true rfl) dX5_best_2) hS (fun v1 σ1 τ1 H locs q1 hH hS => ?_)
  obtain ⟨hI, hP1, hτ1, q1⟩ := q1
  rw [hτ1] at hH
  have hP := Keep_t hP hP1 (by decide)
  refine lv_if_eq (tgt := 17) S.1 S.2.1 dX5_best_5 (by decide) (fun c2 => ?_) (fun c2 => ?_)
  · have j2 := t_eq c2
    refine lv_iconst (v := (-1)) S.1 S.2.1 dX5_best_17 (by decide) ?_
    refine cW_iret S hr hk hH hS ?_ dX5_best_18
    exact ⟨(-1), rfl, hI, hP, rfl, by refine ⟨(q1).1, ?_⟩; unfold b5P; rcases (q1).2 with ⟨q1, q2⟩ | ⟨q1, q2, q9⟩; exact Or.inl ⟨q2, by decide⟩; first | exact absurd q1 (by omega) | (obtain ⟨r, q3, q4, q5, q6, q7⟩ := q9; exact Or.inr ⟨q2, r, q3, Or.inr (Or.inr (Or.inr ⟨by omega, by decide⟩))⟩)⟩
  · have j2 := t_neq c2
    refine lv_iload_n S.1 S.2.1 dX5_best_8 rfl (lv_at hl 2 rfl) ?_
    refine lv_iconst (v := 0) S.1 S.2.1 dX5_best_9 (by decide) ?_
    refine lv_iconst (v := 2) S.1 S.2.1 dX5_best_10 (by decide) ?_
    refine cW_bpi (cW_S (n := 3) (As := [.int b, .int 0, .int 2]) (rest := []) S K hH (k_X5_isIn l D B L A σ1 τ b 0 2 ) gX5_best_X5_isIn rfl hdS_X5_isIn ⟨Nat.le_of_ble_eq_true rfl, Nat.le_of_ble_eq_true rfl⟩ rfl hl.1 (Nat.le_of_ble_eq_true rfl) dX5_best_11) hS (fun v3 H locs q3 hH hS => ?_)
    refine lv_if_ne (tgt := 19) S.1 S.2.1 dX5_best_14 (by decide) (fun c4 => ?_) (fun c4 => ?_)
    · have j4 := t_neq c4
      refine lv_iload_n S.1 S.2.1 dX5_best_19 rfl (lv_at hl 2 rfl) ?_
      refine lv_if_ne (tgt := 30) S.1 S.2.1 dX5_best_20 (by decide) (fun c5 => ?_) (fun c5 => ?_)
      · have j5 := t_neq c5
        refine lv_iload_n S.1 S.2.1 dX5_best_30 rfl (lv_at hl 2 rfl) ?_
        refine lv_iconst (v := 1) S.1 S.2.1 dX5_best_31 (by decide) ?_
        refine lv_icmp_ne (tgt := 42) S.1 S.2.1 dX5_best_32 (by decide) (fun c6 => ?_) (fun c6 => ?_)
        · have j6 := t_neq c6
          refine lv_aload_n S.1 S.2.1 dX5_best_42 rfl (lv_at hl 0 rfl) ?_
          refine rM_0_34 S hnX5 K hH (mG wd_380) dX5_best_43 ?_
          refine lv_topi (fun v7 e7 => ?_)
          have b7 : (-1) ≤ v7.toInt ∧ v7.toInt ≤ 8 := by rw [e7]; exact hI.1 34 0 0
          refine cW_iret S hr hk hH hS ?_ dX5_best_46
          exact ⟨v7, rfl, hI, hP, rfl, by refine ⟨(q1).1, ?_⟩; unfold b5P; rcases (q1).2 with ⟨q1, q2⟩ | ⟨q1, q2, q9⟩; exact absurd q1 (by omega); obtain ⟨r, q3, q4, q5, q6, q7⟩ := q9; refine Or.inr ⟨q2, r, q3, ?_⟩; first | exact Or.inl ⟨by omega, by rw [e9999]; exact q5⟩ | exact Or.inr (Or.inl ⟨by omega, by rw [e9999]; exact q6⟩) | exact Or.inr (Or.inr (Or.inl ⟨by omega, by rw [e7]; exact q4⟩))⟩
        · have j6 := t_eq c6
          refine lv_aload_n S.1 S.2.1 dX5_best_35 rfl (lv_at hl 0 rfl) ?_
          refine rM_0_36 S hnX5 K hH (mG wd_382) dX5_best_36 ?_
          refine lv_topi (fun v8 e8 => ?_)
          refine lv_goto (tgt := 46) S.1 S.2.1 dX5_best_39 (by decide) ?_
          refine cW_iret S hr hk hH hS ?_ dX5_best_46
          exact ⟨v8, rfl, hI, hP, rfl, by refine ⟨(q1).1, ?_⟩; unfold b5P; rcases (q1).2 with ⟨q1, q2⟩ | ⟨q1, q2, q9⟩; exact absurd q1 (by omega); obtain ⟨r, q3, q4, q5, q6, q7⟩ := q9; refine Or.inr ⟨q2, r, q3, ?_⟩; first | exact Or.inl ⟨by omega, by rw [e9999]; exact q5⟩ | exact Or.inr (Or.inl ⟨by omega, by rw [e8]; exact q6⟩) | exact Or.inr (Or.inr (Or.inl ⟨by omega, by rw [e7]; exact q4⟩))⟩
      · have j5 := t_eq c5
        refine lv_aload_n S.1 S.2.1 dX5_best_23 rfl (lv_at hl 0 rfl) ?_
        refine rM_0_35 S hnX5 K hH (mG wd_381) dX5_best_24 ?_
        refine lv_topi (fun v9 e9 => ?_)
        refine lv_goto (tgt := 46) S.1 S.2.1 dX5_best_27 (by decide) ?_
        refine cW_iret S hr hk hH hS ?_ dX5_best_46
        exact ⟨v9, rfl, hI, hP, rfl, by refine ⟨(q1).1, ?_⟩; unfold b5P; rcases (q1).2 with ⟨q1, q2⟩ | ⟨q1, q2, q9⟩; exact absurd q1 (by omega); obtain ⟨r, q3, q4, q5, q6, q7⟩ := q9; refine Or.inr ⟨q2, r, q3, ?_⟩; first | exact Or.inl ⟨by omega, by rw [e9]; exact q5⟩ | exact Or.inr (Or.inl ⟨by omega, by rw [e8]; exact q6⟩) | exact Or.inr (Or.inr (Or.inl ⟨by omega, by rw [e7]; exact q4⟩))⟩
    · have j4 := t_eq c4
      refine lv_iconst (v := (-1)) S.1 S.2.1 dX5_best_17 (by decide) ?_
      refine cW_iret S hr hk hH hS ?_ dX5_best_18
      exact ⟨(-1), rfl, hI, hP, rfl, by refine ⟨(q1).1, ?_⟩; unfold b5P; rcases (q1).2 with ⟨q1, q2⟩ | ⟨q1, q2, q9⟩; exact Or.inl ⟨q2, by decide⟩; first | exact absurd q1 (by omega) | (obtain ⟨r, q3, q4, q5, q6, q7⟩ := q9; exact Or.inr ⟨q2, r, q3, Or.inr (Or.inr (Or.inr ⟨by omega, by decide⟩))⟩)⟩
set_option maxHeartbeats 4000000 in
set_option maxRecDepth 100000 in
theorem k_X5_round (l : Launch) (D : va_G) (B : Nat → ClassId) (L : QL) (A : Nat → Prop) (σ : QS) (τ : Int64) (a : Int32) (b : Int32)  (hI : InvM σ) (hp1 : ∀ s : Nat, σ 33 0 s = 0) : cW cntM gM l D B L A yX5_round wsX5_round 11 291 [.ref (L 0 0), .int a, .int b] σ τ (pI (fun x σ' τ' => InvM σ' ∧ Keep [0, 37, 34, 35, 36, 31, 30, 33] σ σ' ∧ τ' = τ ∧ (σ' 33 = σ 33 ∧ r5P σ a b x))) := by
  refine cW_of (cc := cX5_round) (nL := 3) (ret := (some .int)) (by decide) rfl (Nat.le_of_ble_eq_true rfl) ?_
  intro p e s m below meth c S hr hk K hH hS ls hl
  have hnX5 : ∀ w ∈ wsX50, w ∈ wsX5_round := fun w h => mG (tX5 w h)
  have lm1 : ((-1) : Int32).toInt = -1 := by decide
  have l0 : (0 : Int32).toInt = 0 := by decide
  have hP : Keep [0, 37, 34, 35, 36, 31, 30, 33] σ σ := Keep_r
  have hl : lv_has ls 3 [(0, .ref (L 0 0)), (1, .int a), (2, .int b)] := hl
  refine lv_aload_n S.1 S.2.1 dX5_round_0 rfl (lv_at hl 0 rfl) ?_
  refine lv_iload_n S.1 S.2.1 dX5_round_1 rfl (lv_at hl 1 rfl) ?_
  refine cW_bi (cW_V (n := 1) (As := [.int a]) (rest := []) (k := 0) (i := 0) S K hH (by decide) rfl rfl (k_X5_finds l D B L A σ τ a hI (by omega)) gX5_round_X5_finds rfl hdV_X5_finds ⟨Nat.le_of_ble_eq_true rfl, Nat.le_of_ble_eq_true rfl⟩ rfl hl.1 (Nat.le_of_ble_eq_true rfl) dX5_round_2) hS (fun v1 σ1 τ1 H locs q1 hH hS => ?_)
  obtain ⟨hI, hP1, hτ1, q1⟩ := q1
  rw [hτ1] at hH
  have hP := Keep_t hP hP1 (by decide)
  refine lv_if_eq (tgt := 29) S.1 S.2.1 dX5_round_5 (by decide) (fun c2 => ?_) (fun c2 => ?_)
  · have j2 := t_eq c2
    refine lv_iconst (v := (-1)) S.1 S.2.1 dX5_round_29 (by decide) ?_
    refine cW_iret S hr hk hH hS ?_ dX5_round_30
    exact ⟨(-1), rfl, hI, hP, rfl, by refine ⟨(q1).1, ?_⟩; unfold r5P; rcases (q1).2 with ⟨q1, q2⟩ | ⟨q1, q2, q9⟩; (first | exact absurd q1 (by omega) | exact Or.inl ⟨q2, by decide⟩); first | exact absurd q1 (by omega) | (obtain ⟨r, q3, q4, q5, q6, q7⟩ := q9; first | exact Or.inr ⟨q2, r, q3, Or.inl ⟨by omega, by have h8 := cl_eq (j := b) (by omega); omega, by rw [e9999]; exact q7 _ _⟩⟩ | exact Or.inr ⟨q2, r, q3, Or.inr ⟨by omega, by decide⟩⟩)⟩
  · have j2 := t_neq c2
    refine lv_iload_n S.1 S.2.1 dX5_round_8 rfl (lv_at hl 2 rfl) ?_
    refine lv_if_lt (tgt := 29) S.1 S.2.1 dX5_round_9 (by decide) (fun c3 => ?_) (fun c3 => ?_)
    · have j3 := t_lt c3
      refine lv_iconst (v := (-1)) S.1 S.2.1 dX5_round_29 (by decide) ?_
      refine cW_iret S hr hk hH hS ?_ dX5_round_30
      exact ⟨(-1), rfl, hI, hP, rfl, by refine ⟨(q1).1, ?_⟩; unfold r5P; rcases (q1).2 with ⟨q1, q2⟩ | ⟨q1, q2, q9⟩; (first | exact absurd q1 (by omega) | exact Or.inl ⟨q2, by decide⟩); first | exact absurd q1 (by omega) | (obtain ⟨r, q3, q4, q5, q6, q7⟩ := q9; first | exact Or.inr ⟨q2, r, q3, Or.inl ⟨by omega, by have h8 := cl_eq (j := b) (by omega); omega, by rw [e9999]; exact q7 _ _⟩⟩ | exact Or.inr ⟨q2, r, q3, Or.inr ⟨by omega, by decide⟩⟩)⟩
    · have j3 := t_nlt c3
      refine lv_iload_n S.1 S.2.1 dX5_round_12 rfl (lv_at hl 2 rfl) ?_
      refine lv_aload_n S.1 S.2.1 dX5_round_13 rfl (lv_at hl 0 rfl) ?_
      refine rM_0_34 S hnX5 K hH (mG wd_380) dX5_round_14 ?_
      refine lv_topi (fun v4 e4 => ?_)
      have b4 : (-1) ≤ v4.toInt ∧ v4.toInt ≤ 8 := by rw [e4]; exact hI.1 34 0 0
      have f14 : v4.toInt = (σ1 34 0 0).toInt := by rw [e4]
      refine lv_icmp_ge (tgt := 29) S.1 S.2.1 dX5_round_17 (by decide) (fun c5 => ?_) (fun c5 => ?_)
      · have j5 := t_le c5
        refine lv_iconst (v := (-1)) S.1 S.2.1 dX5_round_29 (by decide) ?_
        refine cW_iret S hr hk hH hS ?_ dX5_round_30
        exact ⟨(-1), rfl, hI, hP, rfl, by refine ⟨(q1).1, ?_⟩; unfold r5P; rcases (q1).2 with ⟨q1, q2⟩ | ⟨q1, q2, q9⟩; (first | exact absurd q1 (by omega) | exact Or.inl ⟨q2, by decide⟩); first | exact absurd q1 (by omega) | (obtain ⟨r, q3, q4, q5, q6, q7⟩ := q9; first | exact Or.inr ⟨q2, r, q3, Or.inl ⟨by omega, by have h8 := cl_eq (j := b) (by omega); omega, by rw [e9999]; exact q7 _ _⟩⟩ | exact Or.inr ⟨q2, r, q3, Or.inr ⟨by omega, by decide⟩⟩)⟩
      · have j5 := t_nle c5
        refine lv_aload_n S.1 S.2.1 dX5_round_20 rfl (lv_at hl 0 rfl) ?_
        refine rM_0_31 S hnX5 K hH (mG wd_332) dX5_round_21 ?_
        refine lv_iload_n S.1 S.2.1 dX5_round_24 rfl (lv_at hl 2 rfl) ?_
        refine lM_31 S K hH (vin (by omega) (by omega)) dX5_round_25 ?_
        refine lv_topi (fun v6 e6 => ?_)
        refine lv_goto (tgt := 30) S.1 S.2.1 dX5_round_26 (by decide) ?_
        refine cW_iret S hr hk hH hS ?_ dX5_round_30
        exact ⟨v6, rfl, hI, hP, rfl, by refine ⟨(q1).1, ?_⟩; unfold r5P; rcases (q1).2 with ⟨q1, q2⟩ | ⟨q1, q2, q9⟩; (first | exact absurd q1 (by omega) | exact Or.inl ⟨q2, by decide⟩); first | exact absurd q1 (by omega) | (obtain ⟨r, q3, q4, q5, q6, q7⟩ := q9; first | exact Or.inr ⟨q2, r, q3, Or.inl ⟨by omega, by have h8 := cl_eq (j := b) (by omega); omega, by rw [e6]; exact q7 _ _⟩⟩ | exact Or.inr ⟨q2, r, q3, Or.inr ⟨by omega, by decide⟩⟩)⟩
