set_option maxHeartbeats 4000000 in
set_option maxRecDepth 100000 in
theorem k_X5_goesBy (l : Launch) (D : va_G) (B : Nat → ClassId) (L : QL) (A : Nat → Prop) (σ : QS) (τ : Int64)  (N : Net) (nn : Nat) (hI : InvM σ) (hp1 : RepM σ N) (hp2 : KepM σ N) (hp3 : wfA N (σ 1 0 0).toInt ((σ 1 0 0).toInt + 1) nn (pM σ)) (hp4 : (nn : Int) = (σ 4 0 0).toInt) (hp5 : (σ 1 0 0).toInt ≤ 4999) : cW cntM gM l D B L A yX5_goesBy wsX5_goesBy 4 104 [.ref (L 0 0)] σ τ (pV (fun σ' τ' => InvM σ' ∧ Keep [1, 10, 25, 14, 15, 16, 20, 21, 22, 23, 24, 26] σ σ' ∧ τ' = τ ∧ ((σ' 1 0 0).toInt = (σ 1 0 0).toInt + 1 ∧ KepM σ' N ∧ hrR N (capM σ) (farM σ) nn (σ' 1 0 0) (pM σ, eM σ) (pM σ', eM σ') ∧ ∀ i9 : Nat, nn ≤ i9 → σ' 26 0 i9 = σ 26 0 i9))) := by
  refine cW_of (cc := cX5_goesBy) (nL := 2) (ret := none) (by decide) rfl (Nat.le_of_ble_eq_true rfl) ?_
  intro p e s m below meth c S hr hk K hH hS ls hl
  have hnX5 : ∀ w ∈ wsX50, w ∈ wsX5_goesBy := fun w h => mG (tX5 w h)
  have lm1 : ((-1) : Int32).toInt = -1 := by decide
  have l0 : (0 : Int32).toInt = 0 := by decide
  have l1 : (1 : Int32).toInt = 1 := by decide
  have hP : Keep [1, 10, 25, 14, 15, 16, 20, 21, 22, 23, 24, 26] σ σ := Keep_r
  have hN9 := hp1.1
  have hw9 : 0 ≤ (σ 1 0 0).toInt ∧ (σ 1 0 0).toInt ≤ 5000 := hI.1 1 0 0
  have hn9 : (σ 1 0 0 + 1).toInt = (σ 1 0 0).toInt + 1 := i_addc (n := 1) rfl (by decide) (by omega) (by omega)
  have hl : lv_has ls 2 [(0, .ref (L 0 0))] := hl
  refine lv_aload_n S.1 S.2.1 dX5_goesBy_0 rfl (lv_at hl 0 rfl) ?_
  refine lv_dup S.1 S.2.1 dX5_goesBy_1 rfl ?_
  refine rM_0_1 S hnX5 K hH (mG wd_352) dX5_goesBy_2 ?_
  refine lv_topi (fun v1 e1 => ?_)
  have b1 : 0 ≤ v1.toInt ∧ v1.toInt ≤ 5000 := by rw [e1]; exact hI.1 1 0 0
  have fv1 : v1.toInt = (σ 1 0 0).toInt := by rw [e1]
  refine lv_iconst (v := 1) S.1 S.2.1 dX5_goesBy_5 (by decide) ?_
  refine lv_iadd S.1 S.2.1 dX5_goesBy_6 ?_
  refine lv_topi (fun v2 e2 => ?_)
  have i2 : v2.toInt = v1.toInt + (1 : Int32).toInt := i_add e2 (by omega) (by omega)
  refine pM_0_1 S hnX5 K hH hS (mG wd_352) dX5_goesBy_7 (fun H locs hH hS => ?_)
  obtain ⟨σ3, eσ3⟩ : ∃ z_9 : QS, z_9 = rs σ 1 0 (fun _ => v2) := ⟨_, rfl⟩
  rw [← eσ3] at hH
  have hI := InvM_f eσ3 hI (by decide) (show (0 : Int) ≤ v2.toInt ∧ v2.toInt ≤ 5000 by omega)
  have hP := Keep_w eσ3 hP (by decide)
  refine lv_iconst (v := 0) S.1 S.2.1 dX5_goesBy_10 (by decide) ?_
  refine lv_istore_n (lv' := [(1, .int 0), (0, .ref (L 0 0))]) S.1 S.2.1 dX5_goesBy_11 rfl hl (by decide) rfl (fun ls hl => ?_)
  have cut_12_4 : ∀ (n : Nat) (x1_4 : Int32) (σ_4 : QS) (H : Heap) (locs : List Loc) (ls : Array Slot), (60 - x1_4.toInt).toNat < n → 0 ≤ x1_4.toInt ∧ x1_4.toInt ≤ 60 → (σ_4 1 0 0 = (σ 1 0 0 + 1)) → (KepM σ_4 N) → ((pM σ_4, eM σ_4) = unN (farM σ) (σ 1 0 0 + 1) (pM σ, eM σ) x1_4.toNatClampNeg) → (x1_4.toInt ≤ nn) → (∀ i9 : Nat, nn ≤ i9 → σ_4 26 0 i9 = σ 26 0 i9) → InvM σ_4 → Keep [1, 10, 25, 14, 15, 16, 20, 21, 22, 23, 24, 26] σ σ_4 → hW cntM gM D B L σ_4 τ H → va_S A s.heap H locs → lv_has ls 2 [(0, .ref (L 0 0)), (1, .int x1_4)] → W p l e { frames := 4, cells := 0, slots := 0, locals := 104 } s m [.ref (L 0 0)].toArray below meth c H locs 0 0 (MQ below (QcW cntM gM D B L A (pV (fun σ' τ' => InvM σ' ∧ Keep [1, 10, 25, 14, 15, 16, 20, 21, 22, 23, 24, 26] σ σ' ∧ τ' = τ ∧ ((σ' 1 0 0).toInt = (σ 1 0 0).toInt + 1 ∧ KepM σ' N ∧ hrR N (capM σ) (farM σ) nn (σ' 1 0 0) (pM σ, eM σ) (pM σ', eM σ') ∧ ∀ i9 : Nat, nn ≤ i9 → σ' 26 0 i9 = σ 26 0 i9)))) [.ref (L 0 0)].toArray s 0 0 A) (F0 m 12 ls []) := by
    intro n
    induction n with
    | zero => intro x1_4 σ_4 H locs ls hm; exact absurd hm (Nat.not_lt_zero _)
    | succ n ih4 =>
      intro x1_4 σ_4 H locs ls hm4 h4_0 hw1 wk wu wl wr hI hP hH hS hl
      have y4 : (σ_4 4 0 0).toInt = (nn : Int) := by rw [hP 4 (by decide)]; exact hp4.symm
      have k1 := cl_eq (j := x1_4) (by omega)
      have yF : farM σ_4 = farM σ := by unfold farM; rw [hP 8 (by decide)]
      refine lv_iload_n S.1 S.2.1 dX5_goesBy_12 rfl (lv_at hl 1 rfl) ?_
      refine lv_aload_n S.1 S.2.1 dX5_goesBy_13 rfl (lv_at hl 0 rfl) ?_
      refine rM_0_4 S hnX5 K hH (mG wd_336) dX5_goesBy_14 ?_
      refine lv_topi (fun v5 e5 => ?_)
      have b5 : 0 ≤ v5.toInt ∧ v5.toInt ≤ 60 := by rw [e5]; exact hI.1 4 0 0
      have f14 : v5.toInt = (nn : Int) := by rw [e5]; omega
      refine lv_icmp_ge (tgt := 142) S.1 S.2.1 dX5_goesBy_17 (by decide) (fun c6 => ?_) (fun c6 => ?_)
      · have j6 := t_le c6
        have he9 : x1_4.toNatClampNeg = nn := by omega
        rw [he9] at wu
        have hwf : wfA N (σ 1 0 0 + 1).toInt ((σ 1 0 0 + 1).toInt + 1) nn (pM σ_4) := by have z1 : wfA N (σ 1 0 0 + 1).toInt (σ 1 0 0 + 1).toInt nn (pM σ) := (by have z2 := wf_later hp3 (now' := (σ 1 0 0 + 1).toInt) (by omega); rw [hn9] at z2 ⊢; exact z2); have z3 := wf_past (F := farM σ) (S := (pM σ, eM σ)) z1; rw [← wu] at z3; exact z3
        refine lv_iconst (v := 0) S.1 S.2.1 dX5_goesBy_142 (by decide) ?_
        refine lv_istore_n (lv' := [(1, .int 0), (0, .ref (L 0 0))]) S.1 S.2.1 dX5_goesBy_143 rfl hl (by decide) rfl (fun ls hl => ?_)
        have cut_144_7 : ∀ (n : Nat) (x1_7 : Int32) (σ_7 : QS) (H : Heap) (locs : List Loc) (ls : Array Slot), (60 - x1_7.toInt).toNat < n → 0 ≤ x1_7.toInt ∧ x1_7.toInt ≤ 60 → (σ_7 1 0 0 = (σ 1 0 0 + 1)) → (KepM σ_7 N) → (skN N (σ 1 0 0 + 1).toInt (capM σ) (pM σ_4) x1_7.toNatClampNeg (pM σ_7)) → (eM σ_7 = eM σ_4) → (x1_7.toInt ≤ nn) → (wfA N (σ 1 0 0 + 1).toInt ((σ 1 0 0 + 1).toInt + 1) nn (pM σ_7)) → (∀ i9 : Nat, nn ≤ i9 → σ_7 26 0 i9 = σ 26 0 i9) → InvM σ_7 → Keep [1, 10, 25, 14, 15, 16, 20, 21, 22, 23, 24, 26] σ σ_7 → hW cntM gM D B L σ_7 τ H → va_S A s.heap H locs → lv_has ls 2 [(0, .ref (L 0 0)), (1, .int x1_7)] → W p l e { frames := 4, cells := 0, slots := 0, locals := 104 } s m [.ref (L 0 0)].toArray below meth c H locs 0 0 (MQ below (QcW cntM gM D B L A (pV (fun σ' τ' => InvM σ' ∧ Keep [1, 10, 25, 14, 15, 16, 20, 21, 22, 23, 24, 26] σ σ' ∧ τ' = τ ∧ ((σ' 1 0 0).toInt = (σ 1 0 0).toInt + 1 ∧ KepM σ' N ∧ hrR N (capM σ) (farM σ) nn (σ' 1 0 0) (pM σ, eM σ) (pM σ', eM σ') ∧ ∀ i9 : Nat, nn ≤ i9 → σ' 26 0 i9 = σ 26 0 i9)))) [.ref (L 0 0)].toArray s 0 0 A) (F0 m 144 ls []) := by
          intro n
          induction n with
          | zero => intro x1_7 σ_7 H locs ls hm; exact absurd hm (Nat.not_lt_zero _)
          | succ n ih7 =>
            intro x1_7 σ_7 H locs ls hm7 h7_0 hw1 wk wq we wl ww wr hI hP hH hS hl
            have y4 : (σ_7 4 0 0).toInt = (nn : Int) := by rw [hP 4 (by decide)]; exact hp4.symm
            have k1 := cl_eq (j := x1_7) (by omega)
            have yC : capM σ_7 = capM σ := by unfold capM; rw [hP 7 (by decide)]
            refine lv_iload_n S.1 S.2.1 dX5_goesBy_144 rfl (lv_at hl 1 rfl) ?_
            refine lv_aload_n S.1 S.2.1 dX5_goesBy_145 rfl (lv_at hl 0 rfl) ?_
            refine rM_0_4 S hnX5 K hH (mG wd_336) dX5_goesBy_146 ?_
            refine lv_topi (fun v8 e8 => ?_)
            have b8 : 0 ≤ v8.toInt ∧ v8.toInt ≤ 60 := by rw [e8]; exact hI.1 4 0 0
            have f146 : v8.toInt = (nn : Int) := by rw [e8]; omega
            refine lv_icmp_ge (tgt := 183) S.1 S.2.1 dX5_goesBy_149 (by decide) (fun c9 => ?_) (fun c9 => ?_)
            · have j9 := t_le c9
              refine cW_vret S hr hk hH hS ?_ dX5_goesBy_183
              exact ⟨rfl, hI, hP, rfl, by refine ⟨by rw [hw1]; exact hn9, wk, ?_, wr⟩; rw [hw1]; have z1 : x1_7.toNatClampNeg = nn := (by omega); rw [z1] at wq; exact hr_M wu wq we⟩
            · have j9 := t_nle c9
              refine lv_aload_n S.1 S.2.1 dX5_goesBy_152 rfl (lv_at hl 0 rfl) ?_
              refine rM_0_20 S hnX5 K hH (mG wd_321) dX5_goesBy_153 ?_
              refine lv_iload_n S.1 S.2.1 dX5_goesBy_156 rfl (lv_at hl 1 rfl) ?_
              refine lM_20 S K hH (vin (by omega) (by omega)) dX5_goesBy_157 ?_
              refine lv_topi (fun v10 e10 => ?_)
              have b10 : (-1) ≤ v10.toInt ∧ v10.toInt ≤ 11 := by rw [e10]; exact hI.1 20 0 x1_7.toNatClampNeg
              have f157 : v10 = pM σ_7 x1_7.toNatClampNeg 2 := by rw [e10]; exact (pM_f (σ := σ_7) (f := 2) (by omega) (by decide) (by decide)).symm
              refine lv_iconst (v := (-1)) S.1 S.2.1 dX5_goesBy_158 (by decide) ?_
              refine lv_icmp_eq (tgt := 177) S.1 S.2.1 dX5_goesBy_159 (by decide) (fun c11 => ?_) (fun c11 => ?_)
              · have j11 := t_eq c11
                obtain ⟨v12, e12⟩ : ∃ y_9 : Int32, y_9 = x1_7 + 1 := ⟨_, rfl⟩
                have i12 : v12.toInt = x1_7.toInt + 1 := i_addc e12 (by decide) (by omega) (by omega)
                refine lv_iinc (v := v12) (lv' := [(1, .int v12), (0, .ref (L 0 0))]) S.1 S.2.1 dX5_goesBy_177 hl (k := 1) rfl (by rw [e12]; rfl) (by decide) rfl (fun ls hl => ?_)
                refine lv_goto (tgt := 144) S.1 S.2.1 dX5_goesBy_180 (by decide) ?_
                exact ih7 v12 σ_7 _ _ ls (by omega) (by omega) (by first | exact hw1 | (rw [hP9999 1 (by decide)]; exact hw1)) (by first | exact (q9999).2.1 | exact wk) (by rw [cl_n1 i12 (by omega)]; first | exact sk_more wq (Or.inl ⟨hwt, by have z1 := (q9999).1; rw [yC0, hw0] at z1; exact z1⟩) | exact sk_more wq (Or.inr ⟨fun z9 => absurd ((wf_wts ww (by omega)).mpr z9.1) (by rw [← f157]; omega), rfl⟩) | exact sk_more wq (Or.inr ⟨fun z9 => absurd z9.2 (by rw [← f167]; omega), rfl⟩)) (by first | exact we | (rw [eM_of (hP9999 10 (by decide))]; exact we)) (by omega) (by first | exact ww | exact wf_seek hN9 (by omega) ww (by omega) hwt (by have z1 := (q9999).1; rw [yC0, hw0] at z1; exact z1)) (by intro i9 z9; first | (rw [(q9999).2.2 i9 (by omega)]; exact wr i9 z9) | exact wr i9 z9) hI hP hH hS (lv_sub hl [1, 0] rfl)
              · have j11 := t_neq c11
                refine lv_aload_n S.1 S.2.1 dX5_goesBy_162 rfl (lv_at hl 0 rfl) ?_
                refine rM_0_25 S hnX5 K hH (mG wd_326) dX5_goesBy_163 ?_
                refine lv_iload_n S.1 S.2.1 dX5_goesBy_166 rfl (lv_at hl 1 rfl) ?_
                refine lM_25 S K hH (vin (by omega) (by omega)) dX5_goesBy_167 ?_
                refine lv_topi (fun v13 e13 => ?_)
                have f167 : v13 = pM σ_7 x1_7.toNatClampNeg 7 := by rw [e13]; exact (pM_f (σ := σ_7) (f := 7) (by omega) (by decide) (by decide)).symm
                refine lv_iconst (v := (-1)) S.1 S.2.1 dX5_goesBy_168 (by decide) ?_
                refine lv_icmp_ne (tgt := 177) S.1 S.2.1 dX5_goesBy_169 (by decide) (fun c14 => ?_) (fun c14 => ?_)
                · have j14 := t_neq c14
                  obtain ⟨v15, e15⟩ : ∃ y_9 : Int32, y_9 = x1_7 + 1 := ⟨_, rfl⟩
                  have i15 : v15.toInt = x1_7.toInt + 1 := i_addc e15 (by decide) (by omega) (by omega)
                  refine lv_iinc (v := v15) (lv' := [(1, .int v15), (0, .ref (L 0 0))]) S.1 S.2.1 dX5_goesBy_177 hl (k := 1) rfl (by rw [e15]; rfl) (by decide) rfl (fun ls hl => ?_)
                  refine lv_goto (tgt := 144) S.1 S.2.1 dX5_goesBy_180 (by decide) ?_
                  exact ih7 v15 σ_7 _ _ ls (by omega) (by omega) (by first | exact hw1 | (rw [hP9999 1 (by decide)]; exact hw1)) (by first | exact (q9999).2.1 | exact wk) (by rw [cl_n1 i15 (by omega)]; first | exact sk_more wq (Or.inl ⟨hwt, by have z1 := (q9999).1; rw [yC0, hw0] at z1; exact z1⟩) | exact sk_more wq (Or.inr ⟨fun z9 => absurd ((wf_wts ww (by omega)).mpr z9.1) (by rw [← f157]; omega), rfl⟩) | exact sk_more wq (Or.inr ⟨fun z9 => absurd z9.2 (by rw [← f167]; omega), rfl⟩)) (by first | exact we | (rw [eM_of (hP9999 10 (by decide))]; exact we)) (by omega) (by first | exact ww | exact wf_seek hN9 (by omega) ww (by omega) hwt (by have z1 := (q9999).1; rw [yC0, hw0] at z1; exact z1)) (by intro i9 z9; first | (rw [(q9999).2.2 i9 (by omega)]; exact wr i9 z9) | exact wr i9 z9) hI hP hH hS (lv_sub hl [1, 0] rfl)
                · have j14 := t_eq c14
                  have hwt : wts (pM σ_7) x1_7.toNatClampNeg := ⟨(wf_wts ww (by omega)).mp (by rw [← f157]; omega), by rw [← f167]; omega⟩
                  have yC0 := yC
                  have hw0 := hw1
                  refine lv_aload_n S.1 S.2.1 dX5_goesBy_172 rfl (lv_at hl 0 rfl) ?_
                  refine lv_iload_n S.1 S.2.1 dX5_goesBy_173 rfl (lv_at hl 1 rfl) ?_
                  refine cW_bv (cW_V (n := 1) (As := [.int x1_7]) (rest := []) (k := 0) (i := 0) S K hH (by decide) rfl rfl (k_X5_seeks l D B L A σ_7 τ x1_7 (N) (nn) (by omega) hI (RepM_k hp1 hP (by decide)) (wk) (by rw [hw1]; exact ww) (y4.symm) (hwt) (by omega)) gX5_goesBy_X5_seeks rfl hdV_X5_seeks ⟨Nat.le_of_ble_eq_true rfl, Nat.le_of_ble_eq_true rfl⟩ rfl hl.1 (Nat.le_of_ble_eq_true rfl) dX5_goesBy_174) hS (fun σ16 τ16 H locs q16 hH hS => ?_)
                  obtain ⟨hI, hP16, hτ16, q16⟩ := q16
                  rw [hτ16] at hH
                  have hP := Keep_t hP hP16 (by decide)
                  obtain ⟨v17, e17⟩ : ∃ y_9 : Int32, y_9 = x1_7 + 1 := ⟨_, rfl⟩
                  have i17 : v17.toInt = x1_7.toInt + 1 := i_addc e17 (by decide) (by omega) (by omega)
                  refine lv_iinc (v := v17) (lv' := [(1, .int v17), (0, .ref (L 0 0))]) S.1 S.2.1 dX5_goesBy_177 hl (k := 1) rfl (by rw [e17]; rfl) (by decide) rfl (fun ls hl => ?_)
                  refine lv_goto (tgt := 144) S.1 S.2.1 dX5_goesBy_180 (by decide) ?_
                  exact ih7 v17 σ16 _ _ ls (by omega) (by omega) (by first | exact hw1 | (rw [hP16 1 (by decide)]; exact hw1)) (by first | exact (q16).2.1 | exact wk) (by rw [cl_n1 i17 (by omega)]; first | exact sk_more wq (Or.inl ⟨hwt, by have z1 := (q16).1; rw [yC0, hw0] at z1; exact z1⟩) | exact sk_more wq (Or.inr ⟨fun z9 => absurd ((wf_wts ww (by omega)).mpr z9.1) (by rw [← f157]; omega), rfl⟩) | exact sk_more wq (Or.inr ⟨fun z9 => absurd z9.2 (by rw [← f167]; omega), rfl⟩)) (by first | exact we | (rw [eM_of (hP16 10 (by decide))]; exact we)) (by omega) (by first | exact ww | exact wf_seek hN9 (by omega) ww (by omega) hwt (by have z1 := (q16).1; rw [yC0, hw0] at z1; exact z1)) (by intro i9 z9; first | (rw [(q16).2.2 i9 (by omega)]; exact wr i9 z9) | exact wr i9 z9) hI hP hH hS (lv_sub hl [1, 0] rfl)
        exact cut_144_7 _ 0 σ_4 _ _ ls (Nat.lt_succ_self _) (by omega) (by exact hw1) (by exact wk) (by rw [show (0 : Int32).toNatClampNeg = 0 by decide]; exact rfl) (by rfl) (by omega) (by exact hwf) (by exact wr) hI hP hH hS (lv_sub hl [1, 0] rfl)
      · have j6 := t_nle c6
        refine lv_aload_n S.1 S.2.1 dX5_goesBy_20 rfl (lv_at hl 0 rfl) ?_
        refine rM_0_21 S hnX5 K hH (mG wd_322) dX5_goesBy_21 ?_
        refine lv_iload_n S.1 S.2.1 dX5_goesBy_24 rfl (lv_at hl 1 rfl) ?_
        refine lM_21 S K hH (vin (by omega) (by omega)) dX5_goesBy_25 ?_
        refine lv_topi (fun v18 e18 => ?_)
        have b18 : (-1) ≤ v18.toInt ∧ v18.toInt ≤ 11 := by rw [e18]; exact hI.1 21 0 x1_4.toNatClampNeg
        have f25 : v18 = σ_4 21 0 x1_4.toNatClampNeg := e18
        refine lv_iconst (v := (-1)) S.1 S.2.1 dX5_goesBy_26 (by decide) ?_
        refine lv_icmp_eq (tgt := 136) S.1 S.2.1 dX5_goesBy_27 (by decide) (fun c19 => ?_) (fun c19 => ?_)
        · have j19 := t_eq c19
          obtain ⟨v20, e20⟩ : ∃ y_9 : Int32, y_9 = x1_4 + 1 := ⟨_, rfl⟩
          have i20 : v20.toInt = x1_4.toInt + 1 := i_addc e20 (by decide) (by omega) (by omega)
          refine lv_iinc (v := v20) (lv' := [(1, .int v20), (0, .ref (L 0 0))]) S.1 S.2.1 dX5_goesBy_136 hl (k := 1) rfl (by rw [e20]; rfl) (by decide) rfl (fun ls hl => ?_)
          refine lv_goto (tgt := 12) S.1 S.2.1 dX5_goesBy_139 (by decide) ?_
          exact ih4 v20 σ_4 _ _ ls (by omega) (by omega) (by first | (rw [eσ9999, rs_v (by decide), eσ9999, rs_v (by decide), eσ9999, rs_v (by decide), eσ9999, rs_v (by decide), eσ9999, rs_v (by decide), eσ9999, rs_v (by decide)]; exact hw1) | (have zz := hu1; rw [eσ9999, rs_v (by decide), eσ9999, rs_v (by decide), eσ9999, rs_v (by decide), eσ9999, rs_v (by decide), eσ9999, rs_v (by decide)]; exact hw1) | exact hw1) (by first | (have zz := eσ9999; exact KepM_of wk (fun v' hv' => by rw [eσ9999, rs_v (by intro z9; subst z9; revert hv'; decide), eσ9999, rs_v (by intro z9; subst z9; revert hv'; decide), eσ9999, rs_v (by intro z9; subst z9; revert hv'; decide), eσ9999, rs_v (by intro z9; subst z9; revert hv'; decide), eσ9999, rs_v (by intro z9; subst z9; revert hv'; decide), eσ9999, rs_v (by intro z9; subst z9; revert hv'; decide)])) | (have zz := hu1; exact KepM_of wk (fun v' hv' => by rw [eσ9999, rs_v (by intro z9; subst z9; revert hv'; decide), eσ9999, rs_v (by intro z9; subst z9; revert hv'; decide), eσ9999, rs_v (by intro z9; subst z9; revert hv'; decide), eσ9999, rs_v (by intro z9; subst z9; revert hv'; decide), eσ9999, rs_v (by intro z9; subst z9; revert hv'; decide)])) | exact wk) (by rw [cl_n1 i20 (by omega)]; show _ = un1 _ _ (unN _ _ _ _) _; rw [← wu]; first | (have zz := eσ9999; rw [← yF]; exact un_M (c := v9999.toNatClampNeg) (size := v9999) (fare := v9999) (x := v9999) (by omega) hu1 hu2 (by rw [e9999]) (cl_lt (n := 12) (by omega) (by omega)) (by rw [e9999]) (by rw [e9999, cl_same (show v9999.toInt = v9999.toInt by omega)]) (by rw [eσ9999, rs_v (by decide), eσ9999, rs_v (by decide), eσ9999, rs_v (by decide), eσ9999, rs_v (by decide), eσ9999, rs_v (by decide), eσ9999, rs_self]) (by rw [e9999, e9999, e9999]) (lvM_p (by omega) hu1 (by rw [eσ9999, rs_v (by decide), eσ9999, rs_v (by decide), eσ9999, rs_v (by decide), eσ9999, rs_v (by decide), eσ9999, rs_self, e9999, eσ9999, rs_v (by decide), rs_v (by decide)]) (by rw [eσ9999, rs_v (by decide), eσ9999, rs_v (by decide), eσ9999, rs_v (by decide), eσ9999, rs_self, eσ9999, rs_v (by decide), eσ9999, rs_v (by decide)]) (by rw [eσ9999, rs_v (by decide), eσ9999, rs_v (by decide), eσ9999, rs_self, eσ9999, rs_v (by decide), eσ9999, rs_v (by decide), eσ9999, rs_v (by decide)]) (by rw [eσ9999, rs_v (by decide), eσ9999, rs_self, eσ9999, rs_v (by decide), eσ9999, rs_v (by decide), eσ9999, rs_v (by decide), eσ9999, rs_v (by decide)]) (Or.inl ⟨by have z9 := c9999; rw [e9999, e9999, eσ9999, rs_v (by decide), rs_v (by decide), eσ9999, rs_v (by decide), rs_v (by decide), eσ9999, rs_v (by decide), rs_v (by decide), eσ9999, rs_self, rs_v (by decide), upd_self, e9999, eσ9999, rs_v (by decide), rs_v (by decide)] at z9; exact z9, by rw [eσ9999, rs_self, f132, eσ9999, rs_v (by decide), eσ9999, rs_v (by decide), eσ9999, rs_v (by decide), eσ9999, rs_v (by decide), eσ9999, rs_v (by decide)]⟩) (fun v' hv' => by rw [eσ9999, rs_v (by intro z9; subst z9; revert hv'; decide), eσ9999, rs_v (by intro z9; subst z9; revert hv'; decide), eσ9999, rs_v (by intro z9; subst z9; revert hv'; decide), eσ9999, rs_v (by intro z9; subst z9; revert hv'; decide), eσ9999, rs_v (by intro z9; subst z9; revert hv'; decide), eσ9999, rs_v (by intro z9; subst z9; revert hv'; decide)]))) | (have zz := hu1; rw [← yF]; exact un_M (c := v9999.toNatClampNeg) (size := v9999) (fare := v9999) (x := v9999) (by omega) hu1 hu2 (by rw [e9999]) (cl_lt (n := 12) (by omega) (by omega)) (by rw [e9999]) (by rw [e9999, cl_same (show v9999.toInt = v9999.toInt by omega)]) (by rw [eσ9999, rs_v (by decide), eσ9999, rs_v (by decide), eσ9999, rs_v (by decide), eσ9999, rs_v (by decide), eσ9999, rs_self]) (by rw [e9999, e9999, e9999]) (lvM_p (by omega) hu1 (by rw [eσ9999, rs_v (by decide), eσ9999, rs_v (by decide), eσ9999, rs_v (by decide), eσ9999, rs_self, e9999, eσ9999, rs_v (by decide), rs_v (by decide)]) (by rw [eσ9999, rs_v (by decide), eσ9999, rs_v (by decide), eσ9999, rs_self, eσ9999, rs_v (by decide), eσ9999, rs_v (by decide)]) (by rw [eσ9999, rs_v (by decide), eσ9999, rs_self, eσ9999, rs_v (by decide), eσ9999, rs_v (by decide), eσ9999, rs_v (by decide)]) (by rw [eσ9999, rs_self, eσ9999, rs_v (by decide), eσ9999, rs_v (by decide), eσ9999, rs_v (by decide), eσ9999, rs_v (by decide)]) (Or.inr ⟨fun z9 => c9999 (by rw [e9999, e9999, eσ9999, rs_v (by decide), rs_v (by decide), eσ9999, rs_v (by decide), rs_v (by decide), eσ9999, rs_v (by decide), rs_v (by decide), eσ9999, rs_self, rs_v (by decide), upd_self, e9999, eσ9999, rs_v (by decide), rs_v (by decide)]; exact z9), by rw [eσ9999, rs_v (by decide), eσ9999, rs_v (by decide), eσ9999, rs_v (by decide), eσ9999, rs_v (by decide), eσ9999, rs_v (by decide)]⟩) (fun v' hv' => by rw [eσ9999, rs_v (by intro z9; subst z9; revert hv'; decide), eσ9999, rs_v (by intro z9; subst z9; revert hv'; decide), eσ9999, rs_v (by intro z9; subst z9; revert hv'; decide), eσ9999, rs_v (by intro z9; subst z9; revert hv'; decide), eσ9999, rs_v (by intro z9; subst z9; revert hv'; decide)]))) | (have zz := f35; exact un_M0 (by omega) (fun z9 => absurd z9.2 (by rw [← f35, ← f37]; assumption))) | exact un_M0 (by omega) (fun z9 => absurd z9.1 (by rw [← f25]; omega))) (by omega) (by intro i9 z9; first | (rw [eσ9999, rs_v (by decide), eσ9999, rs_v (by decide), eσ9999, rs_v (by decide), eσ9999, rs_v (by decide), eσ9999, rs_v (by decide), eσ9999, rs_v (by decide)]; exact wr i9 z9) | (have zz := hu1; rw [eσ9999, rs_v (by decide), eσ9999, rs_v (by decide), eσ9999, rs_v (by decide), eσ9999, rs_v (by decide), eσ9999, rs_v (by decide)]; exact wr i9 z9) | exact wr i9 z9) hI hP hH hS (lv_sub hl [1, 0] rfl)
        · have j19 := t_neq c19
          refine lv_aload_n S.1 S.2.1 dX5_goesBy_30 rfl (lv_at hl 0 rfl) ?_
          refine rM_0_23 S hnX5 K hH (mG wd_324) dX5_goesBy_31 ?_
          refine lv_iload_n S.1 S.2.1 dX5_goesBy_34 rfl (lv_at hl 1 rfl) ?_
          refine lM_23 S K hH (vin (by omega) (by omega)) dX5_goesBy_35 ?_
          refine lv_topi (fun v21 e21 => ?_)
          have f35 : v21 = σ_4 23 0 x1_4.toNatClampNeg := e21
          refine lv_aload_n S.1 S.2.1 dX5_goesBy_36 rfl (lv_at hl 0 rfl) ?_
          refine rM_0_1 S hnX5 K hH (mG wd_352) dX5_goesBy_37 ?_
          refine lv_topi (fun v22 e22 => ?_)
          have b22 : 0 ≤ v22.toInt ∧ v22.toInt ≤ 5000 := by rw [e22]; exact hI.1 1 0 0
          have k22 : v22.toInt = (σ_4 1 0 0).toInt := by rw [e22]
          have f37 : v22 = (σ 1 0 0 + 1) := by rw [e22, hw1]
          refine lv_icmp_eq (tgt := 46) S.1 S.2.1 dX5_goesBy_40 (by decide) (fun c23 => ?_) (fun c23 => ?_)
          · have j23 := t_eq c23
            have hu1 : (σ_4 21 0 x1_4.toNatClampNeg).toInt ≠ -1 := by rw [← f25]; omega
            have hu2 : σ_4 23 0 x1_4.toNatClampNeg = (σ 1 0 0 + 1) := by rw [← f35, ← f37]; assumption
            refine lv_aload_n S.1 S.2.1 dX5_goesBy_46 rfl (lv_at hl 0 rfl) ?_
            refine rM_0_10 S hnX5 K hH (mG wd_308) dX5_goesBy_47 ?_
            refine lv_aload_n S.1 S.2.1 dX5_goesBy_50 rfl (lv_at hl 0 rfl) ?_
            refine rM_0_21 S hnX5 K hH (mG wd_322) dX5_goesBy_51 ?_
            refine lv_iload_n S.1 S.2.1 dX5_goesBy_54 rfl (lv_at hl 1 rfl) ?_
            refine lM_21 S K hH (vin (by omega) (by omega)) dX5_goesBy_55 ?_
            refine lv_topi (fun v24 e24 => ?_)
            have b24 : (-1) ≤ v24.toInt ∧ v24.toInt ≤ 11 := by rw [e24]; exact hI.1 21 0 x1_4.toNatClampNeg
            have k24 : v24.toInt = v18.toInt := by rw [e24]; rw [← e18]
            refine lv_dup2_11 S.1 S.2.1 dX5_goesBy_56 rfl rfl ?_
            refine lM_10 S K hH (vin (by omega) (by omega)) dX5_goesBy_57 ?_
            refine lv_topi (fun v25 e25 => ?_)
            refine lv_aload_n S.1 S.2.1 dX5_goesBy_58 rfl (lv_at hl 0 rfl) ?_
            refine rM_0_19 S hnX5 K hH (mG wd_320) dX5_goesBy_59 ?_
            refine lv_iload_n S.1 S.2.1 dX5_goesBy_62 rfl (lv_at hl 1 rfl) ?_
            refine lM_19 S K hH (vin (by omega) (by omega)) dX5_goesBy_63 ?_
            refine lv_topi (fun v26 e26 => ?_)
            have b26 : 0 ≤ v26.toInt ∧ v26.toInt ≤ 20 := by rw [e26]; exact hI.1 19 0 x1_4.toNatClampNeg
            refine lv_aload_n S.1 S.2.1 dX5_goesBy_64 rfl (lv_at hl 0 rfl) ?_
            refine rM_0_8 S hnX5 K hH (mG wd_306) dX5_goesBy_65 ?_
            refine lv_aload_n S.1 S.2.1 dX5_goesBy_68 rfl (lv_at hl 0 rfl) ?_
            refine rM_0_21 S hnX5 K hH (mG wd_322) dX5_goesBy_69 ?_
            refine lv_iload_n S.1 S.2.1 dX5_goesBy_72 rfl (lv_at hl 1 rfl) ?_
            refine lM_21 S K hH (vin (by omega) (by omega)) dX5_goesBy_73 ?_
            refine lv_topi (fun v27 e27 => ?_)
            have b27 : (-1) ≤ v27.toInt ∧ v27.toInt ≤ 11 := by rw [e27]; exact hI.1 21 0 x1_4.toNatClampNeg
            have k27 : v27.toInt = v18.toInt := by rw [e27]; rw [← e18]
            refine lM_8 S K hH (vin (by omega) (by omega)) dX5_goesBy_74 ?_
            refine lv_topi (fun v28 e28 => ?_)
            refine lv_imul S.1 S.2.1 dX5_goesBy_75 ?_
            refine lv_topi (fun v29 e29 => ?_)
            refine lv_iadd S.1 S.2.1 dX5_goesBy_76 ?_
            refine lv_topi (fun v30 e30 => ?_)
            refine sM_10 S K hH hS (vin (by omega) (by omega)) dX5_goesBy_77 (fun H locs hH hS => ?_)
            obtain ⟨σ31, eσ31⟩ : ∃ z_9 : QS, z_9 = rs σ_4 10 0 (upd (σ_4 10 0) v24.toNatClampNeg v30) := ⟨_, rfl⟩
            rw [← eσ31] at hH
            have hI := InvM_a eσ31 hI (by decide) (any32 _)
            have hP := Keep_w eσ31 hP (by decide)
            refine lv_aload_n S.1 S.2.1 dX5_goesBy_78 rfl (lv_at hl 0 rfl) ?_
            refine rM_0_20 S hnX5 K hH (mG wd_321) dX5_goesBy_79 ?_
            refine lv_iload_n S.1 S.2.1 dX5_goesBy_82 rfl (lv_at hl 1 rfl) ?_
            refine lv_aload_n S.1 S.2.1 dX5_goesBy_83 rfl (lv_at hl 0 rfl) ?_
            refine rM_0_24 S hnX5 K hH (mG wd_325) dX5_goesBy_84 ?_
            refine lv_iload_n S.1 S.2.1 dX5_goesBy_87 rfl (lv_at hl 1 rfl) ?_
            refine lM_24 S K hH (vin (by omega) (by omega)) dX5_goesBy_88 ?_
            refine lv_topi (fun v32 e32 => ?_)
            have b32 : 0 ≤ v32.toInt ∧ v32.toInt ≤ 11 := by rw [e32]; exact hI.1 24 0 x1_4.toNatClampNeg
            refine sM_20 S K hH hS (vin (by omega) (by omega)) dX5_goesBy_89 (fun H locs hH hS => ?_)
            obtain ⟨σ33, eσ33⟩ : ∃ z_9 : QS, z_9 = rs σ31 20 0 (upd (σ31 20 0) x1_4.toNatClampNeg v32) := ⟨_, rfl⟩
            rw [← eσ33] at hH
            have hI := InvM_a eσ33 hI (by decide) (show ((-1) : Int) ≤ v32.toInt ∧ v32.toInt ≤ 11 by omega)
            have hP := Keep_w eσ33 hP (by decide)
            refine lv_aload_n S.1 S.2.1 dX5_goesBy_90 rfl (lv_at hl 0 rfl) ?_
            refine rM_0_21 S hnX5 K hH (mG wd_322) dX5_goesBy_91 ?_
            refine lv_iload_n S.1 S.2.1 dX5_goesBy_94 rfl (lv_at hl 1 rfl) ?_
            refine lv_iconst (v := (-1)) S.1 S.2.1 dX5_goesBy_95 (by decide) ?_
            refine sM_21 S K hH hS (vin (by omega) (by omega)) dX5_goesBy_96 (fun H locs hH hS => ?_)
            obtain ⟨σ34, eσ34⟩ : ∃ z_9 : QS, z_9 = rs σ33 21 0 (upd (σ33 21 0) x1_4.toNatClampNeg (-1)) := ⟨_, rfl⟩
            rw [← eσ34] at hH
            have hI := InvM_a eσ34 hI (by decide) (show ((-1) : Int) ≤ (-1 : Int32).toInt ∧ (-1 : Int32).toInt ≤ 11 by omega)
            have hP := Keep_w eσ34 hP (by decide)
            refine lv_aload_n S.1 S.2.1 dX5_goesBy_97 rfl (lv_at hl 0 rfl) ?_
            refine rM_0_22 S hnX5 K hH (mG wd_323) dX5_goesBy_98 ?_
            refine lv_iload_n S.1 S.2.1 dX5_goesBy_101 rfl (lv_at hl 1 rfl) ?_
            refine lv_iconst (v := (-1)) S.1 S.2.1 dX5_goesBy_102 (by decide) ?_
            refine sM_22 S K hH hS (vin (by omega) (by omega)) dX5_goesBy_103 (fun H locs hH hS => ?_)
            obtain ⟨σ35, eσ35⟩ : ∃ z_9 : QS, z_9 = rs σ34 22 0 (upd (σ34 22 0) x1_4.toNatClampNeg (-1)) := ⟨_, rfl⟩
            rw [← eσ35] at hH
            have hI := InvM_a eσ35 hI (by decide) (any32 _)
            have hP := Keep_w eσ35 hP (by decide)
            refine lv_aload_n S.1 S.2.1 dX5_goesBy_104 rfl (lv_at hl 0 rfl) ?_
            refine rM_0_23 S hnX5 K hH (mG wd_324) dX5_goesBy_105 ?_
            refine lv_iload_n S.1 S.2.1 dX5_goesBy_108 rfl (lv_at hl 1 rfl) ?_
            refine lv_iconst (v := (-1)) S.1 S.2.1 dX5_goesBy_109 (by decide) ?_
            refine sM_23 S K hH hS (vin (by omega) (by omega)) dX5_goesBy_110 (fun H locs hH hS => ?_)
            obtain ⟨σ36, eσ36⟩ : ∃ z_9 : QS, z_9 = rs σ35 23 0 (upd (σ35 23 0) x1_4.toNatClampNeg (-1)) := ⟨_, rfl⟩
            rw [← eσ36] at hH
            have hI := InvM_a eσ36 hI (by decide) (any32 _)
            have hP := Keep_w eσ36 hP (by decide)
            refine lv_aload_n S.1 S.2.1 dX5_goesBy_111 rfl (lv_at hl 0 rfl) ?_
            refine rM_0_20 S hnX5 K hH (mG wd_321) dX5_goesBy_112 ?_
            refine lv_iload_n S.1 S.2.1 dX5_goesBy_115 rfl (lv_at hl 1 rfl) ?_
            refine lM_20 S K hH (vin (by omega) (by omega)) dX5_goesBy_116 ?_
            refine lv_topi (fun v37 e37 => ?_)
            have b37 : (-1) ≤ v37.toInt ∧ v37.toInt ≤ 11 := by rw [e37]; exact hI.1 20 0 x1_4.toNatClampNeg
            refine lv_aload_n S.1 S.2.1 dX5_goesBy_117 rfl (lv_at hl 0 rfl) ?_
            refine rM_0_18 S hnX5 K hH (mG wd_319) dX5_goesBy_118 ?_
            refine lv_iload_n S.1 S.2.1 dX5_goesBy_121 rfl (lv_at hl 1 rfl) ?_
            refine lM_18 S K hH (vin (by omega) (by omega)) dX5_goesBy_122 ?_
            refine lv_topi (fun v38 e38 => ?_)
            have b38 : 0 ≤ v38.toInt ∧ v38.toInt ≤ 11 := by rw [e38]; exact hI.1 18 0 x1_4.toNatClampNeg
            refine lv_icmp_ne (tgt := 136) S.1 S.2.1 dX5_goesBy_123 (by decide) (fun c39 => ?_) (fun c39 => ?_)
            · have j39 := t_neq c39
              obtain ⟨v40, e40⟩ : ∃ y_9 : Int32, y_9 = x1_4 + 1 := ⟨_, rfl⟩
              have i40 : v40.toInt = x1_4.toInt + 1 := i_addc e40 (by decide) (by omega) (by omega)
              refine lv_iinc (v := v40) (lv' := [(1, .int v40), (0, .ref (L 0 0))]) S.1 S.2.1 dX5_goesBy_136 hl (k := 1) rfl (by rw [e40]; rfl) (by decide) rfl (fun ls hl => ?_)
              refine lv_goto (tgt := 12) S.1 S.2.1 dX5_goesBy_139 (by decide) ?_
              exact ih4 v40 σ36 _ _ ls (by omega) (by omega) (by first | (rw [eσ9999, rs_v (by decide), eσ36, rs_v (by decide), eσ35, rs_v (by decide), eσ34, rs_v (by decide), eσ33, rs_v (by decide), eσ31, rs_v (by decide)]; exact hw1) | (have zz := hu1; rw [eσ36, rs_v (by decide), eσ35, rs_v (by decide), eσ34, rs_v (by decide), eσ33, rs_v (by decide), eσ31, rs_v (by decide)]; exact hw1) | exact hw1) (by first | (have zz := eσ9999; exact KepM_of wk (fun v' hv' => by rw [eσ9999, rs_v (by intro z9; subst z9; revert hv'; decide), eσ36, rs_v (by intro z9; subst z9; revert hv'; decide), eσ35, rs_v (by intro z9; subst z9; revert hv'; decide), eσ34, rs_v (by intro z9; subst z9; revert hv'; decide), eσ33, rs_v (by intro z9; subst z9; revert hv'; decide), eσ31, rs_v (by intro z9; subst z9; revert hv'; decide)])) | (have zz := hu1; exact KepM_of wk (fun v' hv' => by rw [eσ36, rs_v (by intro z9; subst z9; revert hv'; decide), eσ35, rs_v (by intro z9; subst z9; revert hv'; decide), eσ34, rs_v (by intro z9; subst z9; revert hv'; decide), eσ33, rs_v (by intro z9; subst z9; revert hv'; decide), eσ31, rs_v (by intro z9; subst z9; revert hv'; decide)])) | exact wk) (by rw [cl_n1 i40 (by omega)]; show _ = un1 _ _ (unN _ _ _ _) _; rw [← wu]; first | (have zz := eσ9999; rw [← yF]; exact un_M (c := v24.toNatClampNeg) (size := v26) (fare := v28) (x := v30) (by omega) hu1 hu2 (by rw [e24]) (cl_lt (n := 12) (by omega) (by omega)) (by rw [e26]) (by rw [e28, cl_same (show v27.toInt = v24.toInt by omega)]) (by rw [eσ9999, rs_v (by decide), eσ36, rs_v (by decide), eσ35, rs_v (by decide), eσ34, rs_v (by decide), eσ33, rs_v (by decide), eσ31, rs_self]) (by rw [e30, e25, e29]) (lvM_p (by omega) hu1 (by rw [eσ9999, rs_v (by decide), eσ36, rs_v (by decide), eσ35, rs_v (by decide), eσ34, rs_v (by decide), eσ33, rs_self, e32, eσ31, rs_v (by decide), rs_v (by decide)]) (by rw [eσ9999, rs_v (by decide), eσ36, rs_v (by decide), eσ35, rs_v (by decide), eσ34, rs_self, eσ33, rs_v (by decide), eσ31, rs_v (by decide)]) (by rw [eσ9999, rs_v (by decide), eσ36, rs_v (by decide), eσ35, rs_self, eσ34, rs_v (by decide), eσ33, rs_v (by decide), eσ31, rs_v (by decide)]) (by rw [eσ9999, rs_v (by decide), eσ36, rs_self, eσ35, rs_v (by decide), eσ34, rs_v (by decide), eσ33, rs_v (by decide), eσ31, rs_v (by decide)]) (Or.inl ⟨by have z9 := c39; rw [e37, e38, eσ36, rs_v (by decide), rs_v (by decide), eσ35, rs_v (by decide), rs_v (by decide), eσ34, rs_v (by decide), rs_v (by decide), eσ33, rs_self, rs_v (by decide), upd_self, e32, eσ31, rs_v (by decide), rs_v (by decide)] at z9; exact z9, by rw [eσ9999, rs_self, f132, eσ36, rs_v (by decide), eσ35, rs_v (by decide), eσ34, rs_v (by decide), eσ33, rs_v (by decide), eσ31, rs_v (by decide)]⟩) (fun v' hv' => by rw [eσ9999, rs_v (by intro z9; subst z9; revert hv'; decide), eσ36, rs_v (by intro z9; subst z9; revert hv'; decide), eσ35, rs_v (by intro z9; subst z9; revert hv'; decide), eσ34, rs_v (by intro z9; subst z9; revert hv'; decide), eσ33, rs_v (by intro z9; subst z9; revert hv'; decide), eσ31, rs_v (by intro z9; subst z9; revert hv'; decide)]))) | (have zz := hu1; rw [← yF]; exact un_M (c := v24.toNatClampNeg) (size := v26) (fare := v28) (x := v30) (by omega) hu1 hu2 (by rw [e24]) (cl_lt (n := 12) (by omega) (by omega)) (by rw [e26]) (by rw [e28, cl_same (show v27.toInt = v24.toInt by omega)]) (by rw [eσ36, rs_v (by decide), eσ35, rs_v (by decide), eσ34, rs_v (by decide), eσ33, rs_v (by decide), eσ31, rs_self]) (by rw [e30, e25, e29]) (lvM_p (by omega) hu1 (by rw [eσ36, rs_v (by decide), eσ35, rs_v (by decide), eσ34, rs_v (by decide), eσ33, rs_self, e32, eσ31, rs_v (by decide), rs_v (by decide)]) (by rw [eσ36, rs_v (by decide), eσ35, rs_v (by decide), eσ34, rs_self, eσ33, rs_v (by decide), eσ31, rs_v (by decide)]) (by rw [eσ36, rs_v (by decide), eσ35, rs_self, eσ34, rs_v (by decide), eσ33, rs_v (by decide), eσ31, rs_v (by decide)]) (by rw [eσ36, rs_self, eσ35, rs_v (by decide), eσ34, rs_v (by decide), eσ33, rs_v (by decide), eσ31, rs_v (by decide)]) (Or.inr ⟨fun z9 => c39 (by rw [e37, e38, eσ36, rs_v (by decide), rs_v (by decide), eσ35, rs_v (by decide), rs_v (by decide), eσ34, rs_v (by decide), rs_v (by decide), eσ33, rs_self, rs_v (by decide), upd_self, e32, eσ31, rs_v (by decide), rs_v (by decide)]; exact z9), by rw [eσ36, rs_v (by decide), eσ35, rs_v (by decide), eσ34, rs_v (by decide), eσ33, rs_v (by decide), eσ31, rs_v (by decide)]⟩) (fun v' hv' => by rw [eσ36, rs_v (by intro z9; subst z9; revert hv'; decide), eσ35, rs_v (by intro z9; subst z9; revert hv'; decide), eσ34, rs_v (by intro z9; subst z9; revert hv'; decide), eσ33, rs_v (by intro z9; subst z9; revert hv'; decide), eσ31, rs_v (by intro z9; subst z9; revert hv'; decide)]))) | (have zz := f35; exact un_M0 (by omega) (fun z9 => absurd z9.2 (by rw [← f35, ← f37]; assumption))) | exact un_M0 (by omega) (fun z9 => absurd z9.1 (by rw [← f25]; omega))) (by omega) (by intro i9 z9; first | (rw [eσ9999, rs_v (by decide), eσ36, rs_v (by decide), eσ35, rs_v (by decide), eσ34, rs_v (by decide), eσ33, rs_v (by decide), eσ31, rs_v (by decide)]; exact wr i9 z9) | (have zz := hu1; rw [eσ36, rs_v (by decide), eσ35, rs_v (by decide), eσ34, rs_v (by decide), eσ33, rs_v (by decide), eσ31, rs_v (by decide)]; exact wr i9 z9) | exact wr i9 z9) hI hP hH hS (lv_sub hl [1, 0] rfl)
            · have j39 := t_eq c39
              refine lv_aload_n S.1 S.2.1 dX5_goesBy_126 rfl (lv_at hl 0 rfl) ?_
              refine rM_0_25 S hnX5 K hH (mG wd_326) dX5_goesBy_127 ?_
              refine lv_iload_n S.1 S.2.1 dX5_goesBy_130 rfl (lv_at hl 1 rfl) ?_
              refine lv_aload_n S.1 S.2.1 dX5_goesBy_131 rfl (lv_at hl 0 rfl) ?_
              refine rM_0_1 S hnX5 K hH (mG wd_352) dX5_goesBy_132 ?_
              refine lv_topi (fun v41 e41 => ?_)
              have b41 : 0 ≤ v41.toInt ∧ v41.toInt ≤ 5000 := by rw [e41]; exact hI.1 1 0 0
              have k41 : v41.toInt = (σ_4 1 0 0).toInt := by rw [e41, eσ36, rs_v (by decide), eσ35, rs_v (by decide), eσ34, rs_v (by decide), eσ33, rs_v (by decide), eσ31, rs_v (by decide)]
              have f132 : v41 = (σ 1 0 0 + 1) := by rw [e41, eσ36, rs_v (by decide), eσ35, rs_v (by decide), eσ34, rs_v (by decide), eσ33, rs_v (by decide), eσ31, rs_v (by decide), hw1]
              refine sM_25 S K hH hS (vin (by omega) (by omega)) dX5_goesBy_135 (fun H locs hH hS => ?_)
              obtain ⟨σ42, eσ42⟩ : ∃ z_9 : QS, z_9 = rs σ36 25 0 (upd (σ36 25 0) x1_4.toNatClampNeg v41) := ⟨_, rfl⟩
              rw [← eσ42] at hH
              have hI := InvM_a eσ42 hI (by decide) (any32 _)
              have hP := Keep_w eσ42 hP (by decide)
              obtain ⟨v43, e43⟩ : ∃ y_9 : Int32, y_9 = x1_4 + 1 := ⟨_, rfl⟩
              have i43 : v43.toInt = x1_4.toInt + 1 := i_addc e43 (by decide) (by omega) (by omega)
              refine lv_iinc (v := v43) (lv' := [(1, .int v43), (0, .ref (L 0 0))]) S.1 S.2.1 dX5_goesBy_136 hl (k := 1) rfl (by rw [e43]; rfl) (by decide) rfl (fun ls hl => ?_)
              refine lv_goto (tgt := 12) S.1 S.2.1 dX5_goesBy_139 (by decide) ?_
              exact ih4 v43 σ42 _ _ ls (by omega) (by omega) (by first | (rw [eσ42, rs_v (by decide), eσ36, rs_v (by decide), eσ35, rs_v (by decide), eσ34, rs_v (by decide), eσ33, rs_v (by decide), eσ31, rs_v (by decide)]; exact hw1) | (have zz := hu1; rw [eσ36, rs_v (by decide), eσ35, rs_v (by decide), eσ34, rs_v (by decide), eσ33, rs_v (by decide), eσ31, rs_v (by decide)]; exact hw1) | exact hw1) (by first | (have zz := eσ42; exact KepM_of wk (fun v' hv' => by rw [eσ42, rs_v (by intro z9; subst z9; revert hv'; decide), eσ36, rs_v (by intro z9; subst z9; revert hv'; decide), eσ35, rs_v (by intro z9; subst z9; revert hv'; decide), eσ34, rs_v (by intro z9; subst z9; revert hv'; decide), eσ33, rs_v (by intro z9; subst z9; revert hv'; decide), eσ31, rs_v (by intro z9; subst z9; revert hv'; decide)])) | (have zz := hu1; exact KepM_of wk (fun v' hv' => by rw [eσ36, rs_v (by intro z9; subst z9; revert hv'; decide), eσ35, rs_v (by intro z9; subst z9; revert hv'; decide), eσ34, rs_v (by intro z9; subst z9; revert hv'; decide), eσ33, rs_v (by intro z9; subst z9; revert hv'; decide), eσ31, rs_v (by intro z9; subst z9; revert hv'; decide)])) | exact wk) (by rw [cl_n1 i43 (by omega)]; show _ = un1 _ _ (unN _ _ _ _) _; rw [← wu]; first | (have zz := eσ42; rw [← yF]; exact un_M (c := v24.toNatClampNeg) (size := v26) (fare := v28) (x := v30) (by omega) hu1 hu2 (by rw [e24]) (cl_lt (n := 12) (by omega) (by omega)) (by rw [e26]) (by rw [e28, cl_same (show v27.toInt = v24.toInt by omega)]) (by rw [eσ42, rs_v (by decide), eσ36, rs_v (by decide), eσ35, rs_v (by decide), eσ34, rs_v (by decide), eσ33, rs_v (by decide), eσ31, rs_self]) (by rw [e30, e25, e29]) (lvM_p (by omega) hu1 (by rw [eσ42, rs_v (by decide), eσ36, rs_v (by decide), eσ35, rs_v (by decide), eσ34, rs_v (by decide), eσ33, rs_self, e32, eσ31, rs_v (by decide), rs_v (by decide)]) (by rw [eσ42, rs_v (by decide), eσ36, rs_v (by decide), eσ35, rs_v (by decide), eσ34, rs_self, eσ33, rs_v (by decide), eσ31, rs_v (by decide)]) (by rw [eσ42, rs_v (by decide), eσ36, rs_v (by decide), eσ35, rs_self, eσ34, rs_v (by decide), eσ33, rs_v (by decide), eσ31, rs_v (by decide)]) (by rw [eσ42, rs_v (by decide), eσ36, rs_self, eσ35, rs_v (by decide), eσ34, rs_v (by decide), eσ33, rs_v (by decide), eσ31, rs_v (by decide)]) (Or.inl ⟨by have z9 := c39; rw [e37, e38, eσ36, rs_v (by decide), rs_v (by decide), eσ35, rs_v (by decide), rs_v (by decide), eσ34, rs_v (by decide), rs_v (by decide), eσ33, rs_self, rs_v (by decide), upd_self, e32, eσ31, rs_v (by decide), rs_v (by decide)] at z9; exact z9, by rw [eσ42, rs_self, f132, eσ36, rs_v (by decide), eσ35, rs_v (by decide), eσ34, rs_v (by decide), eσ33, rs_v (by decide), eσ31, rs_v (by decide)]⟩) (fun v' hv' => by rw [eσ42, rs_v (by intro z9; subst z9; revert hv'; decide), eσ36, rs_v (by intro z9; subst z9; revert hv'; decide), eσ35, rs_v (by intro z9; subst z9; revert hv'; decide), eσ34, rs_v (by intro z9; subst z9; revert hv'; decide), eσ33, rs_v (by intro z9; subst z9; revert hv'; decide), eσ31, rs_v (by intro z9; subst z9; revert hv'; decide)]))) | (have zz := hu1; rw [← yF]; exact un_M (c := v24.toNatClampNeg) (size := v26) (fare := v28) (x := v30) (by omega) hu1 hu2 (by rw [e24]) (cl_lt (n := 12) (by omega) (by omega)) (by rw [e26]) (by rw [e28, cl_same (show v27.toInt = v24.toInt by omega)]) (by rw [eσ36, rs_v (by decide), eσ35, rs_v (by decide), eσ34, rs_v (by decide), eσ33, rs_v (by decide), eσ31, rs_self]) (by rw [e30, e25, e29]) (lvM_p (by omega) hu1 (by rw [eσ36, rs_v (by decide), eσ35, rs_v (by decide), eσ34, rs_v (by decide), eσ33, rs_self, e32, eσ31, rs_v (by decide), rs_v (by decide)]) (by rw [eσ36, rs_v (by decide), eσ35, rs_v (by decide), eσ34, rs_self, eσ33, rs_v (by decide), eσ31, rs_v (by decide)]) (by rw [eσ36, rs_v (by decide), eσ35, rs_self, eσ34, rs_v (by decide), eσ33, rs_v (by decide), eσ31, rs_v (by decide)]) (by rw [eσ36, rs_self, eσ35, rs_v (by decide), eσ34, rs_v (by decide), eσ33, rs_v (by decide), eσ31, rs_v (by decide)]) (Or.inr ⟨fun z9 => c39 (by rw [e37, e38, eσ36, rs_v (by decide), rs_v (by decide), eσ35, rs_v (by decide), rs_v (by decide), eσ34, rs_v (by decide), rs_v (by decide), eσ33, rs_self, rs_v (by decide), upd_self, e32, eσ31, rs_v (by decide), rs_v (by decide)]; exact z9), by rw [eσ36, rs_v (by decide), eσ35, rs_v (by decide), eσ34, rs_v (by decide), eσ33, rs_v (by decide), eσ31, rs_v (by decide)]⟩) (fun v' hv' => by rw [eσ36, rs_v (by intro z9; subst z9; revert hv'; decide), eσ35, rs_v (by intro z9; subst z9; revert hv'; decide), eσ34, rs_v (by intro z9; subst z9; revert hv'; decide), eσ33, rs_v (by intro z9; subst z9; revert hv'; decide), eσ31, rs_v (by intro z9; subst z9; revert hv'; decide)]))) | (have zz := f35; exact un_M0 (by omega) (fun z9 => absurd z9.2 (by rw [← f35, ← f37]; assumption))) | exact un_M0 (by omega) (fun z9 => absurd z9.1 (by rw [← f25]; omega))) (by omega) (by intro i9 z9; first | (rw [eσ42, rs_v (by decide), eσ36, rs_v (by decide), eσ35, rs_v (by decide), eσ34, rs_v (by decide), eσ33, rs_v (by decide), eσ31, rs_v (by decide)]; exact wr i9 z9) | (have zz := hu1; rw [eσ36, rs_v (by decide), eσ35, rs_v (by decide), eσ34, rs_v (by decide), eσ33, rs_v (by decide), eσ31, rs_v (by decide)]; exact wr i9 z9) | exact wr i9 z9) hI hP hH hS (lv_sub hl [1, 0] rfl)
          · have j23 := t_neq c23
            refine lv_goto (tgt := 136) S.1 S.2.1 dX5_goesBy_43 (by decide) ?_
            obtain ⟨v44, e44⟩ : ∃ y_9 : Int32, y_9 = x1_4 + 1 := ⟨_, rfl⟩
            have i44 : v44.toInt = x1_4.toInt + 1 := i_addc e44 (by decide) (by omega) (by omega)
            refine lv_iinc (v := v44) (lv' := [(1, .int v44), (0, .ref (L 0 0))]) S.1 S.2.1 dX5_goesBy_136 hl (k := 1) rfl (by rw [e44]; rfl) (by decide) rfl (fun ls hl => ?_)
            refine lv_goto (tgt := 12) S.1 S.2.1 dX5_goesBy_139 (by decide) ?_
            exact ih4 v44 σ_4 _ _ ls (by omega) (by omega) (by first | (rw [eσ42, rs_v (by decide), eσ36, rs_v (by decide), eσ35, rs_v (by decide), eσ34, rs_v (by decide), eσ33, rs_v (by decide), eσ31, rs_v (by decide)]; exact hw1) | (have zz := hu1; rw [eσ36, rs_v (by decide), eσ35, rs_v (by decide), eσ34, rs_v (by decide), eσ33, rs_v (by decide), eσ31, rs_v (by decide)]; exact hw1) | exact hw1) (by first | (have zz := eσ42; exact KepM_of wk (fun v' hv' => by rw [eσ42, rs_v (by intro z9; subst z9; revert hv'; decide), eσ36, rs_v (by intro z9; subst z9; revert hv'; decide), eσ35, rs_v (by intro z9; subst z9; revert hv'; decide), eσ34, rs_v (by intro z9; subst z9; revert hv'; decide), eσ33, rs_v (by intro z9; subst z9; revert hv'; decide), eσ31, rs_v (by intro z9; subst z9; revert hv'; decide)])) | (have zz := hu1; exact KepM_of wk (fun v' hv' => by rw [eσ36, rs_v (by intro z9; subst z9; revert hv'; decide), eσ35, rs_v (by intro z9; subst z9; revert hv'; decide), eσ34, rs_v (by intro z9; subst z9; revert hv'; decide), eσ33, rs_v (by intro z9; subst z9; revert hv'; decide), eσ31, rs_v (by intro z9; subst z9; revert hv'; decide)])) | exact wk) (by rw [cl_n1 i44 (by omega)]; show _ = un1 _ _ (unN _ _ _ _) _; rw [← wu]; first | (have zz := eσ42; rw [← yF]; exact un_M (c := v24.toNatClampNeg) (size := v26) (fare := v28) (x := v30) (by omega) hu1 hu2 (by rw [e24]) (cl_lt (n := 12) (by omega) (by omega)) (by rw [e26]) (by rw [e28, cl_same (show v27.toInt = v24.toInt by omega)]) (by rw [eσ42, rs_v (by decide), eσ36, rs_v (by decide), eσ35, rs_v (by decide), eσ34, rs_v (by decide), eσ33, rs_v (by decide), eσ31, rs_self]) (by rw [e30, e25, e29]) (lvM_p (by omega) hu1 (by rw [eσ42, rs_v (by decide), eσ36, rs_v (by decide), eσ35, rs_v (by decide), eσ34, rs_v (by decide), eσ33, rs_self, e32, eσ31, rs_v (by decide), rs_v (by decide)]) (by rw [eσ42, rs_v (by decide), eσ36, rs_v (by decide), eσ35, rs_v (by decide), eσ34, rs_self, eσ33, rs_v (by decide), eσ31, rs_v (by decide)]) (by rw [eσ42, rs_v (by decide), eσ36, rs_v (by decide), eσ35, rs_self, eσ34, rs_v (by decide), eσ33, rs_v (by decide), eσ31, rs_v (by decide)]) (by rw [eσ42, rs_v (by decide), eσ36, rs_self, eσ35, rs_v (by decide), eσ34, rs_v (by decide), eσ33, rs_v (by decide), eσ31, rs_v (by decide)]) (Or.inl ⟨by have z9 := c39; rw [e37, e38, eσ36, rs_v (by decide), rs_v (by decide), eσ35, rs_v (by decide), rs_v (by decide), eσ34, rs_v (by decide), rs_v (by decide), eσ33, rs_self, rs_v (by decide), upd_self, e32, eσ31, rs_v (by decide), rs_v (by decide)] at z9; exact z9, by rw [eσ42, rs_self, f132, eσ36, rs_v (by decide), eσ35, rs_v (by decide), eσ34, rs_v (by decide), eσ33, rs_v (by decide), eσ31, rs_v (by decide)]⟩) (fun v' hv' => by rw [eσ42, rs_v (by intro z9; subst z9; revert hv'; decide), eσ36, rs_v (by intro z9; subst z9; revert hv'; decide), eσ35, rs_v (by intro z9; subst z9; revert hv'; decide), eσ34, rs_v (by intro z9; subst z9; revert hv'; decide), eσ33, rs_v (by intro z9; subst z9; revert hv'; decide), eσ31, rs_v (by intro z9; subst z9; revert hv'; decide)]))) | (have zz := hu1; rw [← yF]; exact un_M (c := v24.toNatClampNeg) (size := v26) (fare := v28) (x := v30) (by omega) hu1 hu2 (by rw [e24]) (cl_lt (n := 12) (by omega) (by omega)) (by rw [e26]) (by rw [e28, cl_same (show v27.toInt = v24.toInt by omega)]) (by rw [eσ36, rs_v (by decide), eσ35, rs_v (by decide), eσ34, rs_v (by decide), eσ33, rs_v (by decide), eσ31, rs_self]) (by rw [e30, e25, e29]) (lvM_p (by omega) hu1 (by rw [eσ36, rs_v (by decide), eσ35, rs_v (by decide), eσ34, rs_v (by decide), eσ33, rs_self, e32, eσ31, rs_v (by decide), rs_v (by decide)]) (by rw [eσ36, rs_v (by decide), eσ35, rs_v (by decide), eσ34, rs_self, eσ33, rs_v (by decide), eσ31, rs_v (by decide)]) (by rw [eσ36, rs_v (by decide), eσ35, rs_self, eσ34, rs_v (by decide), eσ33, rs_v (by decide), eσ31, rs_v (by decide)]) (by rw [eσ36, rs_self, eσ35, rs_v (by decide), eσ34, rs_v (by decide), eσ33, rs_v (by decide), eσ31, rs_v (by decide)]) (Or.inr ⟨fun z9 => c39 (by rw [e37, e38, eσ36, rs_v (by decide), rs_v (by decide), eσ35, rs_v (by decide), rs_v (by decide), eσ34, rs_v (by decide), rs_v (by decide), eσ33, rs_self, rs_v (by decide), upd_self, e32, eσ31, rs_v (by decide), rs_v (by decide)]; exact z9), by rw [eσ36, rs_v (by decide), eσ35, rs_v (by decide), eσ34, rs_v (by decide), eσ33, rs_v (by decide), eσ31, rs_v (by decide)]⟩) (fun v' hv' => by rw [eσ36, rs_v (by intro z9; subst z9; revert hv'; decide), eσ35, rs_v (by intro z9; subst z9; revert hv'; decide), eσ34, rs_v (by intro z9; subst z9; revert hv'; decide), eσ33, rs_v (by intro z9; subst z9; revert hv'; decide), eσ31, rs_v (by intro z9; subst z9; revert hv'; decide)]))) | (have zz := f35; exact un_M0 (by omega) (fun z9 => absurd z9.2 (by rw [← f35, ← f37]; assumption))) | exact un_M0 (by omega) (fun z9 => absurd z9.1 (by rw [← f25]; omega))) (by omega) (by intro i9 z9; first | (rw [eσ42, rs_v (by decide), eσ36, rs_v (by decide), eσ35, rs_v (by decide), eσ34, rs_v (by decide), eσ33, rs_v (by decide), eσ31, rs_v (by decide)]; exact wr i9 z9) | (have zz := hu1; rw [eσ36, rs_v (by decide), eσ35, rs_v (by decide), eσ34, rs_v (by decide), eσ33, rs_v (by decide), eσ31, rs_v (by decide)]; exact wr i9 z9) | exact wr i9 z9) hI hP hH hS (lv_sub hl [1, 0] rfl)
  exact cut_12_4 _ 0 σ3 _ _ ls (Nat.lt_succ_self _) (by omega) (by rw [eσ3, rs_self, e2, e1]) (by exact KepM_of hp2 (fun v' hv' => by rw [eσ3, rs_v (by intro z9; subst z9; revert hv'; decide)])) (by rw [show (0 : Int32).toNatClampNeg = 0 by decide]; show _ = (pM σ, eM σ); rw [pM_of (fun v' hv' => by rw [eσ3, rs_v (by intro z9; subst z9; revert hv'; decide)]), eM_of (by rw [eσ3, rs_v (by decide)])]) (by omega) (by intro i9 z9; rw [eσ3, rs_v (by decide)]) hI hP hH hS (lv_sub hl [1, 0] rfl)
set_option maxHeartbeats 4000000 in
set_option maxRecDepth 100000 in
theorem k_X5_tick (l : Launch) (D : va_G) (B : Nat → ClassId) (L : QL) (A : Nat → Prop) (σ : QS) (τ : Int64) (n9 : Int32) (N : Net) (nn : Nat) (hI : InvM σ) (hp1 : RepM σ N) (hp2 : KepM σ N) (hp3 : wfA N (σ 1 0 0).toInt ((σ 1 0 0).toInt + 1) nn (pM σ)) (hp4 : (nn : Int) = (σ 4 0 0).toInt) : cW cntM gM l D B L A yX5_tick wsX5_tick 5 125 [.ref (L 0 0), .int n9] σ τ (pI (fun x σ' τ' => InvM σ' ∧ Keep [0, 1, 10, 25, 14, 15, 16, 20, 21, 22, 23, 24, 26] σ σ' ∧ τ' = τ ∧ (((x.toInt = -1 ∧ σ' 1 = σ 1 ∧ ¬ (0 ≤ n9.toInt ∧ n9.toInt ≤ 500 ∧ n9.toInt + (σ 1 0 0).toInt ≤ 5000)) ∨ ((0 ≤ n9.toInt ∧ n9.toInt ≤ 500 ∧ n9.toInt + (σ 1 0 0).toInt ≤ 5000) ∧ x.toInt = (σ 1 0 0).toInt + n9.toInt ∧ (σ' 1 0 0).toInt = (σ 1 0 0).toInt + n9.toInt)) ∧ ((x.toInt = -1 ∧ Keep [0] σ σ') ∨ (x.toInt ≠ -1 ∧ tkR N (capM σ) (farM σ) nn (σ 1 0 0).toInt (pM σ, eM σ) n9.toNatClampNeg (pM σ', eM σ') ∧ KepM σ' N ∧ ∀ i9 : Nat, nn ≤ i9 → σ' 26 0 i9 = σ 26 0 i9))))) := by
  refine cW_of (cc := cX5_tick) (nL := 3) (ret := (some .int)) (by decide) rfl (Nat.le_of_ble_eq_true rfl) ?_
  intro p e s m below meth c S hr hk K hH hS ls hl
  have hnX5 : ∀ w ∈ wsX50, w ∈ wsX5_tick := fun w h => mG (tX5 w h)
  have lm1 : ((-1) : Int32).toInt = -1 := by decide
  have l0 : (0 : Int32).toInt = 0 := by decide
  have l1 : (1 : Int32).toInt = 1 := by decide
  have l500 : (500 : Int32).toInt = 500 := by decide
  have l5000 : (5000 : Int32).toInt = 5000 := by decide
  have hP : Keep [0, 1, 10, 25, 14, 15, 16, 20, 21, 22, 23, 24, 26] σ σ := Keep_r
  have hN9 := hp1.1
  have hw9 : 0 ≤ (σ 1 0 0).toInt ∧ (σ 1 0 0).toInt ≤ 5000 := hI.1 1 0 0
  have hl : lv_has ls 3 [(0, .ref (L 0 0)), (1, .int n9)] := hl
  refine lv_aload_n S.1 S.2.1 dX5_tick_0 rfl (lv_at hl 0 rfl) ?_
  refine lv_iconst (v := 0) S.1 S.2.1 dX5_tick_1 (by decide) ?_
  refine pM_0_0 S hnX5 K hH hS (mG wd_337) dX5_tick_2 (fun H locs hH hS => ?_)
  obtain ⟨σ1, eσ1⟩ : ∃ z_9 : QS, z_9 = rs σ 0 0 (fun _ => 0) := ⟨_, rfl⟩
  rw [← eσ1] at hH
  have hI := InvM_f eσ1 hI (by decide) (any32 _)
  have hP := Keep_w eσ1 hP (by decide)
  refine lv_iload_n S.1 S.2.1 dX5_tick_5 rfl (lv_at hl 1 rfl) ?_
  refine lv_iconst (v := 0) S.1 S.2.1 dX5_tick_6 (by decide) ?_
  refine lv_sipush (v := 500) S.1 S.2.1 dX5_tick_7 (by decide) ?_
  refine cW_bpi (cW_S (n := 3) (As := [.int n9, .int 0, .int 500]) (rest := []) S K hH (k_X5_isIn l D B L A σ1 τ n9 0 500 ) gX5_tick_X5_isIn rfl hdS_X5_isIn ⟨Nat.le_of_ble_eq_true rfl, Nat.le_of_ble_eq_true rfl⟩ rfl hl.1 (Nat.le_of_ble_eq_true rfl) dX5_tick_10) hS (fun v2 H locs q2 hH hS => ?_)
  refine lv_if_eq (tgt := 28) S.1 S.2.1 dX5_tick_13 (by decide) (fun c3 => ?_) (fun c3 => ?_)
  · have j3 := t_eq c3
    refine lv_iconst (v := (-1)) S.1 S.2.1 dX5_tick_28 (by decide) ?_
    refine cW_iret S hr hk hH hS ?_ dX5_tick_29
    exact ⟨(-1), rfl, hI, hP, rfl, by exact ⟨Or.inl ⟨by decide, by rw [eσ1, rs_v (by decide)], by omega⟩, Or.inl ⟨by decide, Keep_w eσ1 Keep_r (by decide)⟩⟩⟩
  · have j3 := t_neq c3
    refine lv_aload_n S.1 S.2.1 dX5_tick_16 rfl (lv_at hl 0 rfl) ?_
    refine rM_0_1 S hnX5 K hH (mG wd_352) dX5_tick_17 ?_
    refine lv_topi (fun v4 e4 => ?_)
    have b4 : 0 ≤ v4.toInt ∧ v4.toInt ≤ 5000 := by rw [e4]; exact hI.1 1 0 0
    have fv4 : v4.toInt = (σ 1 0 0).toInt := by rw [e4, eσ1, rs_v (by decide)]
    refine lv_iload_n S.1 S.2.1 dX5_tick_20 rfl (lv_at hl 1 rfl) ?_
    refine lv_iadd S.1 S.2.1 dX5_tick_21 ?_
    refine lv_topi (fun v5 e5 => ?_)
    have i5 : v5.toInt = v4.toInt + n9.toInt := i_add e5 (by omega) (by omega)
    refine lv_sipush (v := 5000) S.1 S.2.1 dX5_tick_22 (by decide) ?_
    refine lv_icmp_le (tgt := 30) S.1 S.2.1 dX5_tick_25 (by decide) (fun c6 => ?_) (fun c6 => ?_)
    · have j6 := t_le c6
      refine lv_iconst (v := 0) S.1 S.2.1 dX5_tick_30 (by decide) ?_
      refine lv_istore_n (lv' := [(2, .int 0), (0, .ref (L 0 0)), (1, .int n9)]) S.1 S.2.1 dX5_tick_31 rfl hl (by decide) rfl (fun ls hl => ?_)
      have cut_32_7 : ∀ (n : Nat) (x2_7 : Int32) (σ_7 : QS) (H : Heap) (locs : List Loc) (ls : Array Slot), (500 - x2_7.toInt).toNat < n → 0 ≤ x2_7.toInt ∧ x2_7.toInt ≤ 500 → ((σ_7 1 0 0).toInt = (σ 1 0 0).toInt + x2_7.toInt) → (x2_7.toInt ≤ n9.toInt) → (tkR N (capM σ) (farM σ) nn (σ 1 0 0).toInt (pM σ, eM σ) x2_7.toNatClampNeg (pM σ_7, eM σ_7)) → (KepM σ_7 N) → (wfA N (σ_7 1 0 0).toInt ((σ_7 1 0 0).toInt + 1) nn (pM σ_7)) → (∀ i9 : Nat, nn ≤ i9 → σ_7 26 0 i9 = σ 26 0 i9) → InvM σ_7 → Keep [0, 1, 10, 25, 14, 15, 16, 20, 21, 22, 23, 24, 26] σ σ_7 → hW cntM gM D B L σ_7 τ H → va_S A s.heap H locs → lv_has ls 3 [(0, .ref (L 0 0)), (1, .int n9), (2, .int x2_7)] → W p l e { frames := 5, cells := 0, slots := 0, locals := 125 } s m [.ref (L 0 0), .int n9].toArray below meth c H locs 0 0 (MQ below (QcW cntM gM D B L A (pI (fun x σ' τ' => InvM σ' ∧ Keep [0, 1, 10, 25, 14, 15, 16, 20, 21, 22, 23, 24, 26] σ σ' ∧ τ' = τ ∧ (((x.toInt = -1 ∧ σ' 1 = σ 1 ∧ ¬ (0 ≤ n9.toInt ∧ n9.toInt ≤ 500 ∧ n9.toInt + (σ 1 0 0).toInt ≤ 5000)) ∨ ((0 ≤ n9.toInt ∧ n9.toInt ≤ 500 ∧ n9.toInt + (σ 1 0 0).toInt ≤ 5000) ∧ x.toInt = (σ 1 0 0).toInt + n9.toInt ∧ (σ' 1 0 0).toInt = (σ 1 0 0).toInt + n9.toInt)) ∧ ((x.toInt = -1 ∧ Keep [0] σ σ') ∨ (x.toInt ≠ -1 ∧ tkR N (capM σ) (farM σ) nn (σ 1 0 0).toInt (pM σ, eM σ) n9.toNatClampNeg (pM σ', eM σ') ∧ KepM σ' N ∧ ∀ i9 : Nat, nn ≤ i9 → σ' 26 0 i9 = σ 26 0 i9)))))) [.ref (L 0 0), .int n9].toArray s 0 0 A) (F0 m 32 ls []) := by
        intro n
        induction n with
        | zero => intro x2_7 σ_7 H locs ls hm; exact absurd hm (Nat.not_lt_zero _)
        | succ n ih7 =>
          intro x2_7 σ_7 H locs ls hm7 h7_0 hnow hle wt wk ww wr hI hP hH hS hl
          have yC : capM σ_7 = capM σ := by unfold capM; rw [hP 7 (by decide)]
          have yF : farM σ_7 = farM σ := by unfold farM; rw [hP 8 (by decide)]
          have y4 : (nn : Int) = (σ_7 4 0 0).toInt := by rw [hP 4 (by decide)]; exact hp4
          refine lv_iload_n S.1 S.2.1 dX5_tick_32 rfl (lv_at hl 2 rfl) ?_
          refine lv_iload_n S.1 S.2.1 dX5_tick_33 rfl (lv_at hl 1 rfl) ?_
          refine lv_icmp_ge (tgt := 47) S.1 S.2.1 dX5_tick_34 (by decide) (fun c8 => ?_) (fun c8 => ?_)
          · have j8 := t_le c8
            refine lv_aload_n S.1 S.2.1 dX5_tick_47 rfl (lv_at hl 0 rfl) ?_
            refine rM_0_1 S hnX5 K hH (mG wd_352) dX5_tick_48 ?_
            refine lv_topi (fun v9 e9 => ?_)
            have b9 : 0 ≤ v9.toInt ∧ v9.toInt ≤ 5000 := by rw [e9]; exact hI.1 1 0 0
            have fv9 : v9.toInt = (σ_7 1 0 0).toInt := by rw [e9]
            refine cW_iret S hr hk hH hS ?_ dX5_tick_51
            exact ⟨v9, rfl, hI, hP, rfl, by refine ⟨Or.inr ⟨by omega, by omega, by omega⟩, Or.inr ⟨by omega, ?_, wk, wr⟩⟩; rw [cl_same (show n9.toInt = x2_7.toInt by omega)]; exact wt⟩
          · have j8 := t_nle c8
            refine lv_aload_n S.1 S.2.1 dX5_tick_37 rfl (lv_at hl 0 rfl) ?_
            refine cW_bv (cW_V (n := 0) (As := []) (rest := []) (k := 0) (i := 0) S K hH (by decide) rfl rfl (k_X5_goesBy l D B L A σ_7 τ  (N) (nn) hI (RepM_k hp1 hP (by decide)) (wk) (ww) (y4) (by omega)) gX5_tick_X5_goesBy rfl hdV_X5_goesBy ⟨Nat.le_of_ble_eq_true rfl, Nat.le_of_ble_eq_true rfl⟩ rfl hl.1 (Nat.le_of_ble_eq_true rfl) dX5_tick_38) hS (fun σ10 τ10 H locs q10 hH hS => ?_)
            obtain ⟨hI, hP10, hτ10, q10⟩ := q10
            rw [hτ10] at hH
            have hP := Keep_t hP hP10 (by decide)
            have hr9 := (q10).2.2.1
            rw [yC, yF] at hr9
            have hn9 := (q10).1
            obtain ⟨v11, e11⟩ : ∃ y_9 : Int32, y_9 = x2_7 + 1 := ⟨_, rfl⟩
            have i11 : v11.toInt = x2_7.toInt + 1 := i_addc e11 (by decide) (by omega) (by omega)
            refine lv_iinc (v := v11) (lv' := [(2, .int v11), (0, .ref (L 0 0)), (1, .int n9)]) S.1 S.2.1 dX5_tick_41 hl (k := 2) rfl (by rw [e11]; rfl) (by decide) rfl (fun ls hl => ?_)
            refine lv_goto (tgt := 32) S.1 S.2.1 dX5_tick_44 (by decide) ?_
            exact ih7 v11 σ10 _ _ ls (by omega) (by omega) (by omega) (by omega) (by rw [cl_n1 i11 (by omega)]; exact hr_next wt hr9 (by have h9 := cl_eq (j := x2_7) (by omega); omega)) (by exact (q10).2.1) (by exact wf_next hN9 (by omega) (by rw [show (σ10 1 0 0).toInt - 1 = (σ_7 1 0 0).toInt by omega]; exact ww) hr9) (by intro i9 z9; rw [(q10).2.2.2 i9 z9]; exact wr i9 z9) hI hP hH hS (lv_sub hl [1, 2, 0] rfl)
      exact cut_32_7 _ 0 σ1 _ _ ls (Nat.lt_succ_self _) (by omega) (by rw [eσ1, rs_v (by decide)]; omega) (by omega) (by rw [show (0 : Int32).toNatClampNeg = 0 by decide]; show _ = (pM σ, eM σ); rw [pM_of (fun v' hv' => by rw [eσ1, rs_v (by intro z9; subst z9; revert hv'; decide)]), eM_of (by rw [eσ1, rs_v (by decide)])]) (by exact KepM_of hp2 (fun v' hv' => by rw [eσ1, rs_v (by intro z9; subst z9; revert hv'; decide)])) (by rw [pM_of (fun v' hv' => by rw [eσ1, rs_v (by intro z9; subst z9; revert hv'; decide)]), eσ1, rs_v (by decide)]; exact hp3) (by intro i9 z9; rw [eσ1, rs_v (by decide)]) hI hP hH hS (lv_sub hl [1, 2, 0] rfl)
    · have j6 := t_nle c6
      refine lv_iconst (v := (-1)) S.1 S.2.1 dX5_tick_28 (by decide) ?_
      refine cW_iret S hr hk hH hS ?_ dX5_tick_29
      exact ⟨(-1), rfl, hI, hP, rfl, by exact ⟨Or.inl ⟨by decide, by rw [eσ1, rs_v (by decide)], by omega⟩, Or.inl ⟨by decide, Keep_w eσ1 Keep_r (by decide)⟩⟩⟩
