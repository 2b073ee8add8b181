/-- a cart's cells, a parcel's -/
abbrev wCart (B : Nat → ClassId) (h : Nat) (a : Nat × Nat × Nat × Nat × Nat) : va_W := [(h, .inr (0, [.int 0, .int 0, .int 0, .int 0, .int 0, .int 0, .ref a.1, .ref a.2.1, .ref a.2.2.1, .ref a.2.2.2.1, .ref a.2.2.2.2])), (a.1, .inl (B 0, 6, .inl (fun _ => 0))), (a.2.1, .inl (B 0, 6, .inl (fun _ => 0))), (a.2.2.1, .inl (B 0, 10, .inl (fun _ => 0))), (a.2.2.2.1, .inl (B 0, 4, .inl (fun _ => 0))), (a.2.2.2.2, .inl (B 0, 4, .inl (fun _ => 0)))]
abbrev wParc (B : Nat → ClassId) (h : Nat) (a : Nat) : va_W := [(h, .inr (2, [.int (-1), .int 0, .int (-1), .int (-1), .int (-1), .int (-1), .int (-1), .int (-1), .int 0, .int (-1), .int 0, .ref a])), (a, .inl (B 0, 12, .inl (fun _ => 0)))]
set_option maxHeartbeats 4000000 in
set_option maxRecDepth 100000 in
theorem i_Cart (l : Launch) (D : va_G) (B : Nat → ClassId) (h0 sz : Nat) : cI l D B yX0_init wsX0_init 1 12 5 30 sz h0 [(h0, .inr (0, [.int 0, .int 0, .int 0, .int 0, .int 0, .int 0, .null, .null, .null, .null, .null]))] (fun u : Nat × Nat × Nat × Nat × Nat => wCart B h0 u) (fun _ => True) := by
  refine cI_of (cc := cX0_init) (nL := 1) (by decide) rfl (Nat.le_of_ble_eq_true rfl) ?_
  intro p e s m below meth c A eA S hr hk hin hA hP hD hK a1 a2 n1 n2 hS ls hl
  clear eA
  have hnX0 : ∀ w ∈ wsX00, w ∈ wsX0_init := fun w h => mG (tX0 w h)
  refine lv_aload_n S.1 S.2.1 dX0_init_0 rfl (lv_at hl 0 rfl) ?_
  refine W.objInit S.1 S.2.1 S.2.2.2.1 (S.2.2.2.2 (.methodLink RX0 3 objectInit) (mG wd_0)) (S.2.2.2.2 (.instanceMethod objectInit) (mG wd_1)) (S.2.2.2.2 (.code objectInit ⟨#[0xb1]⟩ 1 none) (mG wd_645)) rfl (by rw [S.2.2.1]; exact hl.1) rfl dX0_init_1 (Nat.le_of_ble_eq_true rfl) (Nat.le_of_ble_eq_true rfl) ?_
  refine W.eq (g2 := F0 m 4 ls []) rfl ?_
  refine lv_aload_n S.1 S.2.1 dX0_init_4 rfl (lv_at hl 0 rfl) ?_
  refine lv_iconst (v := 0) S.1 S.2.1 dX0_init_5 (by decide) ?_
  refine va_put (D := D) (ci := 0) (v := .int 0) (ty := .int) (C := RX0) (T := TX0) (N := 11) S.1 S.2.1 S.2.2.2.2 hnX0 tyX0 tyX0_ok nmX0 S.2.2.2.1 hK hP hD hS 0 rfl rfl 0 (by decide) (S.2.2.2.2 (.fieldLink RX0 9 "CarrierNet$Cart" "weekdays" "I") (mG wd_2)) (fun _ h9 => h9) rfl (by decide +kernel) rfl rfl (Nat.le_of_ble_eq_true rfl) dX0_init_6 (fun H locs hP hD hS => ?_)
  have hP : va_P D vwCl [(h0, .inr (0, [.int 0, .int 0, .int 0, .int 0, .int 0, .int 0, .null, .null, .null, .null, .null]))] H := hP
  have hD : va_D A [(h0, .inr (0, [.int 0, .int 0, .int 0, .int 0, .int 0, .int 0, .null, .null, .null, .null, .null]))] := hD
  refine lv_aload_n S.1 S.2.1 dX0_init_9 rfl (lv_at hl 0 rfl) ?_
  refine lv_iconst (v := 0) S.1 S.2.1 dX0_init_10 (by decide) ?_
  refine va_put (D := D) (ci := 0) (v := .int 0) (ty := .int) (C := RX0) (T := TX0) (N := 11) S.1 S.2.1 S.2.2.2.2 hnX0 tyX0 tyX0_ok nmX0 S.2.2.2.1 hK hP hD hS 0 rfl rfl 1 (by decide) (S.2.2.2.2 (.fieldLink RX0 15 "CarrierNet$Cart" "hour" "I") (mG wd_3)) (fun _ h9 => h9) rfl (by decide +kernel) rfl rfl (Nat.le_of_ble_eq_true rfl) dX0_init_11 (fun H locs hP hD hS => ?_)
  have hP : va_P D vwCl [(h0, .inr (0, [.int 0, .int 0, .int 0, .int 0, .int 0, .int 0, .null, .null, .null, .null, .null]))] H := hP
  have hD : va_D A [(h0, .inr (0, [.int 0, .int 0, .int 0, .int 0, .int 0, .int 0, .null, .null, .null, .null, .null]))] := hD
  refine lv_aload_n S.1 S.2.1 dX0_init_14 rfl (lv_at hl 0 rfl) ?_
  refine lv_iconst (v := 0) S.1 S.2.1 dX0_init_15 (by decide) ?_
  refine va_put (D := D) (ci := 0) (v := .int 0) (ty := .int) (C := RX0) (T := TX0) (N := 11) S.1 S.2.1 S.2.2.2.2 hnX0 tyX0 tyX0_ok nmX0 S.2.2.2.1 hK hP hD hS 0 rfl rfl 2 (by decide) (S.2.2.2.2 (.fieldLink RX0 18 "CarrierNet$Cart" "capacity" "I") (mG wd_4)) (fun _ h9 => h9) rfl (by decide +kernel) rfl rfl (Nat.le_of_ble_eq_true rfl) dX0_init_16 (fun H locs hP hD hS => ?_)
  have hP : va_P D vwCl [(h0, .inr (0, [.int 0, .int 0, .int 0, .int 0, .int 0, .int 0, .null, .null, .null, .null, .null]))] H := hP
  have hD : va_D A [(h0, .inr (0, [.int 0, .int 0, .int 0, .int 0, .int 0, .int 0, .null, .null, .null, .null, .null]))] := hD
  refine lv_aload_n S.1 S.2.1 dX0_init_19 rfl (lv_at hl 0 rfl) ?_
  refine lv_iconst (v := 0) S.1 S.2.1 dX0_init_20 (by decide) ?_
  refine va_put (D := D) (ci := 0) (v := .int 0) (ty := .int) (C := RX0) (T := TX0) (N := 11) S.1 S.2.1 S.2.2.2.2 hnX0 tyX0 tyX0_ok nmX0 S.2.2.2.1 hK hP hD hS 0 rfl rfl 3 (by decide) (S.2.2.2.2 (.fieldLink RX0 21 "CarrierNet$Cart" "fare" "I") (mG wd_5)) (fun _ h9 => h9) rfl (by decide +kernel) rfl rfl (Nat.le_of_ble_eq_true rfl) dX0_init_21 (fun H locs hP hD hS => ?_)
  have hP : va_P D vwCl [(h0, .inr (0, [.int 0, .int 0, .int 0, .int 0, .int 0, .int 0, .null, .null, .null, .null, .null]))] H := hP
  have hD : va_D A [(h0, .inr (0, [.int 0, .int 0, .int 0, .int 0, .int 0, .int 0, .null, .null, .null, .null, .null]))] := hD
  refine lv_aload_n S.1 S.2.1 dX0_init_24 rfl (lv_at hl 0 rfl) ?_
  refine lv_iconst (v := 0) S.1 S.2.1 dX0_init_25 (by decide) ?_
  refine va_put (D := D) (ci := 0) (v := .int 0) (ty := .int) (C := RX0) (T := TX0) (N := 11) S.1 S.2.1 S.2.2.2.2 hnX0 tyX0 tyX0_ok nmX0 S.2.2.2.1 hK hP hD hS 0 rfl rfl 4 (by decide) (S.2.2.2.2 (.fieldLink RX0 24 "CarrierNet$Cart" "earned" "I") (mG wd_6)) (fun _ h9 => h9) rfl (by decide +kernel) rfl rfl (Nat.le_of_ble_eq_true rfl) dX0_init_26 (fun H locs hP hD hS => ?_)
  have hP : va_P D vwCl [(h0, .inr (0, [.int 0, .int 0, .int 0, .int 0, .int 0, .int 0, .null, .null, .null, .null, .null]))] H := hP
  have hD : va_D A [(h0, .inr (0, [.int 0, .int 0, .int 0, .int 0, .int 0, .int 0, .null, .null, .null, .null, .null]))] := hD
  refine lv_aload_n S.1 S.2.1 dX0_init_29 rfl (lv_at hl 0 rfl) ?_
  refine lv_iconst (v := 0) S.1 S.2.1 dX0_init_30 (by decide) ?_
  refine va_put (D := D) (ci := 0) (v := .int 0) (ty := .int) (C := RX0) (T := TX0) (N := 11) S.1 S.2.1 S.2.2.2.2 hnX0 tyX0 tyX0_ok nmX0 S.2.2.2.1 hK hP hD hS 0 rfl rfl 5 (by decide) (S.2.2.2.2 (.fieldLink RX0 27 "CarrierNet$Cart" "stops" "I") (mG wd_7)) (fun _ h9 => h9) rfl (by decide +kernel) rfl rfl (Nat.le_of_ble_eq_true rfl) dX0_init_31 (fun H locs hP hD hS => ?_)
  have hP : va_P D vwCl [(h0, .inr (0, [.int 0, .int 0, .int 0, .int 0, .int 0, .int 0, .null, .null, .null, .null, .null]))] H := hP
  have hD : va_D A [(h0, .inr (0, [.int 0, .int 0, .int 0, .int 0, .int 0, .int 0, .null, .null, .null, .null, .null]))] := hD
  refine lv_aload_n S.1 S.2.1 dX0_init_34 rfl (lv_at hl 0 rfl) ?_
  refine lv_bipush (v := 6) S.1 S.2.1 dX0_init_35 (by decide) ?_
  refine w_newI (N' := 6) S (by decide +kernel) hK hP hD hS hA (by decide) (by decide) (by decide) (Nat.le_of_ble_eq_true rfl) (Nat.le_of_ble_eq_true rfl) dX0_init_37 (fun q1 H hP hD hS => ?_)
  have hP : va_P D vwCl [(h0, .inr (0, [.int 0, .int 0, .int 0, .int 0, .int 0, .int 0, .null, .null, .null, .null, .null])), (q1, .inl (B 0, 6, .inl (fun _ => 0)))] H := hP
  have hD : va_D A [(h0, .inr (0, [.int 0, .int 0, .int 0, .int 0, .int 0, .int 0, .null, .null, .null, .null, .null])), (q1, .inl (B 0, 6, .inl (fun _ => 0)))] := hD
  refine va_putF (D := D) (ci := 0) (v := .ref q1) (ty := .array .int) (C := RX0) (T := TX0) (N := 11) S.1 S.2.1 S.2.2.2.2 hnX0 tyX0 tyX0_ok nmX0 S.2.2.2.1 hK hP hD hS 0 rfl rfl 6 (by decide) (S.2.2.2.2 (.fieldLink RX0 30 "CarrierNet$Cart" "places" "[I") (mG wd_9)) (fun _ h9 => h9) rfl hin rfl (by decide +kernel) rfl rfl (Nat.le_of_ble_eq_true rfl) dX0_init_39 (fun H locs hP hD hS => ?_)
  have hP : va_P D vwCl [(h0, .inr (0, [.int 0, .int 0, .int 0, .int 0, .int 0, .int 0, .ref q1, .null, .null, .null, .null])), (q1, .inl (B 0, 6, .inl (fun _ => 0)))] H := hP
  have hD : va_D A [(h0, .inr (0, [.int 0, .int 0, .int 0, .int 0, .int 0, .int 0, .ref q1, .null, .null, .null, .null])), (q1, .inl (B 0, 6, .inl (fun _ => 0)))] := hD
  refine lv_aload_n S.1 S.2.1 dX0_init_42 rfl (lv_at hl 0 rfl) ?_
  refine lv_bipush (v := 6) S.1 S.2.1 dX0_init_43 (by decide) ?_
  refine w_newI (N' := 6) S (by decide +kernel) hK hP hD hS hA (by decide) (by decide) (by decide) (Nat.le_of_ble_eq_true rfl) (Nat.le_of_ble_eq_true rfl) dX0_init_45 (fun q2 H hP hD hS => ?_)
  have hP : va_P D vwCl [(h0, .inr (0, [.int 0, .int 0, .int 0, .int 0, .int 0, .int 0, .ref q1, .null, .null, .null, .null])), (q1, .inl (B 0, 6, .inl (fun _ => 0))), (q2, .inl (B 0, 6, .inl (fun _ => 0)))] H := hP
  have hD : va_D A [(h0, .inr (0, [.int 0, .int 0, .int 0, .int 0, .int 0, .int 0, .ref q1, .null, .null, .null, .null])), (q1, .inl (B 0, 6, .inl (fun _ => 0))), (q2, .inl (B 0, 6, .inl (fun _ => 0)))] := hD
  refine va_putF (D := D) (ci := 0) (v := .ref q2) (ty := .array .int) (C := RX0) (T := TX0) (N := 11) S.1 S.2.1 S.2.2.2.2 hnX0 tyX0 tyX0_ok nmX0 S.2.2.2.1 hK hP hD hS 0 rfl rfl 7 (by decide) (S.2.2.2.2 (.fieldLink RX0 34 "CarrierNet$Cart" "offsets" "[I") (mG wd_10)) (fun _ h9 => h9) rfl hin rfl (by decide +kernel) rfl rfl (Nat.le_of_ble_eq_true rfl) dX0_init_47 (fun H locs hP hD hS => ?_)
  have hP : va_P D vwCl [(h0, .inr (0, [.int 0, .int 0, .int 0, .int 0, .int 0, .int 0, .ref q1, .ref q2, .null, .null, .null])), (q1, .inl (B 0, 6, .inl (fun _ => 0))), (q2, .inl (B 0, 6, .inl (fun _ => 0)))] H := hP
  have hD : va_D A [(h0, .inr (0, [.int 0, .int 0, .int 0, .int 0, .int 0, .int 0, .ref q1, .ref q2, .null, .null, .null])), (q1, .inl (B 0, 6, .inl (fun _ => 0))), (q2, .inl (B 0, 6, .inl (fun _ => 0)))] := hD
  refine lv_aload_n S.1 S.2.1 dX0_init_50 rfl (lv_at hl 0 rfl) ?_
  refine lv_bipush (v := 10) S.1 S.2.1 dX0_init_51 (by decide) ?_
  refine w_newI (N' := 10) S (by decide +kernel) hK hP hD hS hA (by decide) (by decide) (by decide) (Nat.le_of_ble_eq_true rfl) (Nat.le_of_ble_eq_true rfl) dX0_init_53 (fun q3 H hP hD hS => ?_)
  have hP : va_P D vwCl [(h0, .inr (0, [.int 0, .int 0, .int 0, .int 0, .int 0, .int 0, .ref q1, .ref q2, .null, .null, .null])), (q1, .inl (B 0, 6, .inl (fun _ => 0))), (q2, .inl (B 0, 6, .inl (fun _ => 0))), (q3, .inl (B 0, 10, .inl (fun _ => 0)))] H := hP
  have hD : va_D A [(h0, .inr (0, [.int 0, .int 0, .int 0, .int 0, .int 0, .int 0, .ref q1, .ref q2, .null, .null, .null])), (q1, .inl (B 0, 6, .inl (fun _ => 0))), (q2, .inl (B 0, 6, .inl (fun _ => 0))), (q3, .inl (B 0, 10, .inl (fun _ => 0)))] := hD
  refine va_putF (D := D) (ci := 0) (v := .ref q3) (ty := .array .int) (C := RX0) (T := TX0) (N := 11) S.1 S.2.1 S.2.2.2.2 hnX0 tyX0 tyX0_ok nmX0 S.2.2.2.1 hK hP hD hS 0 rfl rfl 8 (by decide) (S.2.2.2.2 (.fieldLink RX0 37 "CarrierNet$Cart" "snowDays" "[I") (mG wd_11)) (fun _ h9 => h9) rfl hin rfl (by decide +kernel) rfl rfl (Nat.le_of_ble_eq_true rfl) dX0_init_55 (fun H locs hP hD hS => ?_)
  have hP : va_P D vwCl [(h0, .inr (0, [.int 0, .int 0, .int 0, .int 0, .int 0, .int 0, .ref q1, .ref q2, .ref q3, .null, .null])), (q1, .inl (B 0, 6, .inl (fun _ => 0))), (q2, .inl (B 0, 6, .inl (fun _ => 0))), (q3, .inl (B 0, 10, .inl (fun _ => 0)))] H := hP
  have hD : va_D A [(h0, .inr (0, [.int 0, .int 0, .int 0, .int 0, .int 0, .int 0, .ref q1, .ref q2, .ref q3, .null, .null])), (q1, .inl (B 0, 6, .inl (fun _ => 0))), (q2, .inl (B 0, 6, .inl (fun _ => 0))), (q3, .inl (B 0, 10, .inl (fun _ => 0)))] := hD
  refine lv_aload_n S.1 S.2.1 dX0_init_58 rfl (lv_at hl 0 rfl) ?_
  refine lv_iconst (v := 4) S.1 S.2.1 dX0_init_59 (by decide) ?_
  refine w_newI (N' := 4) S (by decide +kernel) hK hP hD hS hA (by decide) (by decide) (by decide) (Nat.le_of_ble_eq_true rfl) (Nat.le_of_ble_eq_true rfl) dX0_init_60 (fun q4 H hP hD hS => ?_)
  have hP : va_P D vwCl [(h0, .inr (0, [.int 0, .int 0, .int 0, .int 0, .int 0, .int 0, .ref q1, .ref q2, .ref q3, .null, .null])), (q1, .inl (B 0, 6, .inl (fun _ => 0))), (q2, .inl (B 0, 6, .inl (fun _ => 0))), (q3, .inl (B 0, 10, .inl (fun _ => 0))), (q4, .inl (B 0, 4, .inl (fun _ => 0)))] H := hP
  have hD : va_D A [(h0, .inr (0, [.int 0, .int 0, .int 0, .int 0, .int 0, .int 0, .ref q1, .ref q2, .ref q3, .null, .null])), (q1, .inl (B 0, 6, .inl (fun _ => 0))), (q2, .inl (B 0, 6, .inl (fun _ => 0))), (q3, .inl (B 0, 10, .inl (fun _ => 0))), (q4, .inl (B 0, 4, .inl (fun _ => 0)))] := hD
  refine va_putF (D := D) (ci := 0) (v := .ref q4) (ty := .array .int) (C := RX0) (T := TX0) (N := 11) S.1 S.2.1 S.2.2.2.2 hnX0 tyX0 tyX0_ok nmX0 S.2.2.2.1 hK hP hD hS 0 rfl rfl 9 (by decide) (S.2.2.2.2 (.fieldLink RX0 40 "CarrierNet$Cart" "loads" "[I") (mG wd_12)) (fun _ h9 => h9) rfl hin rfl (by decide +kernel) rfl rfl (Nat.le_of_ble_eq_true rfl) dX0_init_62 (fun H locs hP hD hS => ?_)
  have hP : va_P D vwCl [(h0, .inr (0, [.int 0, .int 0, .int 0, .int 0, .int 0, .int 0, .ref q1, .ref q2, .ref q3, .ref q4, .null])), (q1, .inl (B 0, 6, .inl (fun _ => 0))), (q2, .inl (B 0, 6, .inl (fun _ => 0))), (q3, .inl (B 0, 10, .inl (fun _ => 0))), (q4, .inl (B 0, 4, .inl (fun _ => 0)))] H := hP
  have hD : va_D A [(h0, .inr (0, [.int 0, .int 0, .int 0, .int 0, .int 0, .int 0, .ref q1, .ref q2, .ref q3, .ref q4, .null])), (q1, .inl (B 0, 6, .inl (fun _ => 0))), (q2, .inl (B 0, 6, .inl (fun _ => 0))), (q3, .inl (B 0, 10, .inl (fun _ => 0))), (q4, .inl (B 0, 4, .inl (fun _ => 0)))] := hD
  refine lv_aload_n S.1 S.2.1 dX0_init_65 rfl (lv_at hl 0 rfl) ?_
  refine lv_iconst (v := 4) S.1 S.2.1 dX0_init_66 (by decide) ?_
  refine w_newI (N' := 4) S (by decide +kernel) hK hP hD hS hA (by decide) (by decide) (by decide) (Nat.le_of_ble_eq_true rfl) (Nat.le_of_ble_eq_true rfl) dX0_init_67 (fun q5 H hP hD hS => ?_)
  have hP : va_P D vwCl [(h0, .inr (0, [.int 0, .int 0, .int 0, .int 0, .int 0, .int 0, .ref q1, .ref q2, .ref q3, .ref q4, .null])), (q1, .inl (B 0, 6, .inl (fun _ => 0))), (q2, .inl (B 0, 6, .inl (fun _ => 0))), (q3, .inl (B 0, 10, .inl (fun _ => 0))), (q4, .inl (B 0, 4, .inl (fun _ => 0))), (q5, .inl (B 0, 4, .inl (fun _ => 0)))] H := hP
  have hD : va_D A [(h0, .inr (0, [.int 0, .int 0, .int 0, .int 0, .int 0, .int 0, .ref q1, .ref q2, .ref q3, .ref q4, .null])), (q1, .inl (B 0, 6, .inl (fun _ => 0))), (q2, .inl (B 0, 6, .inl (fun _ => 0))), (q3, .inl (B 0, 10, .inl (fun _ => 0))), (q4, .inl (B 0, 4, .inl (fun _ => 0))), (q5, .inl (B 0, 4, .inl (fun _ => 0)))] := hD
  refine va_putF (D := D) (ci := 0) (v := .ref q5) (ty := .array .int) (C := RX0) (T := TX0) (N := 11) S.1 S.2.1 S.2.2.2.2 hnX0 tyX0 tyX0_ok nmX0 S.2.2.2.1 hK hP hD hS 0 rfl rfl 10 (by decide) (S.2.2.2.2 (.fieldLink RX0 43 "CarrierNet$Cart" "loadDays" "[I") (mG wd_13)) (fun _ h9 => h9) rfl hin rfl (by decide +kernel) rfl rfl (Nat.le_of_ble_eq_true rfl) dX0_init_69 (fun H locs hP hD hS => ?_)
  have hP : va_P D vwCl [(h0, .inr (0, [.int 0, .int 0, .int 0, .int 0, .int 0, .int 0, .ref q1, .ref q2, .ref q3, .ref q4, .ref q5])), (q1, .inl (B 0, 6, .inl (fun _ => 0))), (q2, .inl (B 0, 6, .inl (fun _ => 0))), (q3, .inl (B 0, 10, .inl (fun _ => 0))), (q4, .inl (B 0, 4, .inl (fun _ => 0))), (q5, .inl (B 0, 4, .inl (fun _ => 0)))] H := hP
  have hD : va_D A [(h0, .inr (0, [.int 0, .int 0, .int 0, .int 0, .int 0, .int 0, .ref q1, .ref q2, .ref q3, .ref q4, .ref q5])), (q1, .inl (B 0, 6, .inl (fun _ => 0))), (q2, .inl (B 0, 6, .inl (fun _ => 0))), (q3, .inl (B 0, 10, .inl (fun _ => 0))), (q4, .inl (B 0, 4, .inl (fun _ => 0))), (q5, .inl (B 0, 4, .inl (fun _ => 0)))] := hD
  refine W.widen (k := 5) (n := 30) (Nat.le_of_ble_eq_true rfl) (Nat.le_of_ble_eq_true rfl) ?_
  exact cI_ret S hr hk hS (q1, q2, q3, q4, q5) trivial hP hD dX0_init_72
set_option maxHeartbeats 4000000 in
set_option maxRecDepth 100000 in
theorem i_Parc (l : Launch) (D : va_G) (B : Nat → ClassId) (h0 sz : Nat) : cI l D B yX2_init wsX2_init 1 12 1 12 sz h0 [(h0, .inr (2, [.int 0, .int 0, .int 0, .int 0, .int 0, .int 0, .int 0, .int 0, .int 0, .int 0, .int 0, .null]))] (fun u : Nat => wParc B h0 u) (fun _ => True) := by
  refine cI_of (cc := cX2_init) (nL := 1) (by decide) rfl (Nat.le_of_ble_eq_true rfl) ?_
  intro p e s m below meth c A eA S hr hk hin hA hP hD hK a1 a2 n1 n2 hS ls hl
  clear eA
  have hnX2 : ∀ w ∈ wsX20, w ∈ wsX2_init := fun w h => mG (tX2 w h)
  refine lv_aload_n S.1 S.2.1 dX2_init_0 rfl (lv_at hl 0 rfl) ?_
  refine W.objInit S.1 S.2.1 S.2.2.2.1 (S.2.2.2.2 (.methodLink RX2 3 objectInit) (mG wd_66)) (S.2.2.2.2 (.instanceMethod objectInit) (mG wd_1)) (S.2.2.2.2 (.code objectInit ⟨#[0xb1]⟩ 1 none) (mG wd_645)) rfl (by rw [S.2.2.1]; exact hl.1) rfl dX2_init_1 (Nat.le_of_ble_eq_true rfl) (Nat.le_of_ble_eq_true rfl) ?_
  refine W.eq (g2 := F0 m 4 ls []) rfl ?_
  refine lv_aload_n S.1 S.2.1 dX2_init_4 rfl (lv_at hl 0 rfl) ?_
  refine lv_iconst (v := (-1)) S.1 S.2.1 dX2_init_5 (by decide) ?_
  refine va_put (D := D) (ci := 2) (v := .int (-1)) (ty := .int) (C := RX2) (T := TX2) (N := 12) S.1 S.2.1 S.2.2.2.2 hnX2 tyX2 tyX2_ok nmX2 S.2.2.2.1 hK hP hD hS 0 rfl rfl 0 (by decide) (S.2.2.2.2 (.fieldLink RX2 9 "CarrierNet$Parcel" "to" "I") (mG wd_67)) (fun _ h9 => h9) rfl (by decide +kernel) rfl rfl (Nat.le_of_ble_eq_true rfl) dX2_init_6 (fun H locs hP hD hS => ?_)
  have hP : va_P D vwCl [(h0, .inr (2, [.int (-1), .int 0, .int 0, .int 0, .int 0, .int 0, .int 0, .int 0, .int 0, .int 0, .int 0, .null]))] H := hP
  have hD : va_D A [(h0, .inr (2, [.int (-1), .int 0, .int 0, .int 0, .int 0, .int 0, .int 0, .int 0, .int 0, .int 0, .int 0, .null]))] := hD
  refine lv_aload_n S.1 S.2.1 dX2_init_9 rfl (lv_at hl 0 rfl) ?_
  refine lv_iconst (v := 0) S.1 S.2.1 dX2_init_10 (by decide) ?_
  refine va_put (D := D) (ci := 2) (v := .int 0) (ty := .int) (C := RX2) (T := TX2) (N := 12) S.1 S.2.1 S.2.2.2.2 hnX2 tyX2 tyX2_ok nmX2 S.2.2.2.1 hK hP hD hS 0 rfl rfl 1 (by decide) (S.2.2.2.2 (.fieldLink RX2 15 "CarrierNet$Parcel" "size" "I") (mG wd_68)) (fun _ h9 => h9) rfl (by decide +kernel) rfl rfl (Nat.le_of_ble_eq_true rfl) dX2_init_11 (fun H locs hP hD hS => ?_)
  have hP : va_P D vwCl [(h0, .inr (2, [.int (-1), .int 0, .int 0, .int 0, .int 0, .int 0, .int 0, .int 0, .int 0, .int 0, .int 0, .null]))] H := hP
  have hD : va_D A [(h0, .inr (2, [.int (-1), .int 0, .int 0, .int 0, .int 0, .int 0, .int 0, .int 0, .int 0, .int 0, .int 0, .null]))] := hD
  refine lv_aload_n S.1 S.2.1 dX2_init_14 rfl (lv_at hl 0 rfl) ?_
  refine lv_iconst (v := (-1)) S.1 S.2.1 dX2_init_15 (by decide) ?_
  refine va_put (D := D) (ci := 2) (v := .int (-1)) (ty := .int) (C := RX2) (T := TX2) (N := 12) S.1 S.2.1 S.2.2.2.2 hnX2 tyX2 tyX2_ok nmX2 S.2.2.2.1 hK hP hD hS 0 rfl rfl 2 (by decide) (S.2.2.2.2 (.fieldLink RX2 18 "CarrierNet$Parcel" "place" "I") (mG wd_69)) (fun _ h9 => h9) rfl (by decide +kernel) rfl rfl (Nat.le_of_ble_eq_true rfl) dX2_init_16 (fun H locs hP hD hS => ?_)
  have hP : va_P D vwCl [(h0, .inr (2, [.int (-1), .int 0, .int (-1), .int 0, .int 0, .int 0, .int 0, .int 0, .int 0, .int 0, .int 0, .null]))] H := hP
  have hD : va_D A [(h0, .inr (2, [.int (-1), .int 0, .int (-1), .int 0, .int 0, .int 0, .int 0, .int 0, .int 0, .int 0, .int 0, .null]))] := hD
  refine lv_aload_n S.1 S.2.1 dX2_init_19 rfl (lv_at hl 0 rfl) ?_
  refine lv_iconst (v := (-1)) S.1 S.2.1 dX2_init_20 (by decide) ?_
  refine va_put (D := D) (ci := 2) (v := .int (-1)) (ty := .int) (C := RX2) (T := TX2) (N := 12) S.1 S.2.1 S.2.2.2.2 hnX2 tyX2 tyX2_ok nmX2 S.2.2.2.1 hK hP hD hS 0 rfl rfl 3 (by decide) (S.2.2.2.2 (.fieldLink RX2 21 "CarrierNet$Parcel" "cart" "I") (mG wd_70)) (fun _ h9 => h9) rfl (by decide +kernel) rfl rfl (Nat.le_of_ble_eq_true rfl) dX2_init_21 (fun H locs hP hD hS => ?_)
  have hP : va_P D vwCl [(h0, .inr (2, [.int (-1), .int 0, .int (-1), .int (-1), .int 0, .int 0, .int 0, .int 0, .int 0, .int 0, .int 0, .null]))] H := hP
  have hD : va_D A [(h0, .inr (2, [.int (-1), .int 0, .int (-1), .int (-1), .int 0, .int 0, .int 0, .int 0, .int 0, .int 0, .int 0, .null]))] := hD
  refine lv_aload_n S.1 S.2.1 dX2_init_24 rfl (lv_at hl 0 rfl) ?_
  refine lv_iconst (v := (-1)) S.1 S.2.1 dX2_init_25 (by decide) ?_
  refine va_put (D := D) (ci := 2) (v := .int (-1)) (ty := .int) (C := RX2) (T := TX2) (N := 12) S.1 S.2.1 S.2.2.2.2 hnX2 tyX2 tyX2_ok nmX2 S.2.2.2.1 hK hP hD hS 0 rfl rfl 4 (by decide) (S.2.2.2.2 (.fieldLink RX2 24 "CarrierNet$Parcel" "day" "I") (mG wd_71)) (fun _ h9 => h9) rfl (by decide +kernel) rfl rfl (Nat.le_of_ble_eq_true rfl) dX2_init_26 (fun H locs hP hD hS => ?_)
  have hP : va_P D vwCl [(h0, .inr (2, [.int (-1), .int 0, .int (-1), .int (-1), .int (-1), .int 0, .int 0, .int 0, .int 0, .int 0, .int 0, .null]))] H := hP
  have hD : va_D A [(h0, .inr (2, [.int (-1), .int 0, .int (-1), .int (-1), .int (-1), .int 0, .int 0, .int 0, .int 0, .int 0, .int 0, .null]))] := hD
  refine lv_aload_n S.1 S.2.1 dX2_init_29 rfl (lv_at hl 0 rfl) ?_
  refine lv_iconst (v := (-1)) S.1 S.2.1 dX2_init_30 (by decide) ?_
  refine va_put (D := D) (ci := 2) (v := .int (-1)) (ty := .int) (C := RX2) (T := TX2) (N := 12) S.1 S.2.1 S.2.2.2.2 hnX2 tyX2 tyX2_ok nmX2 S.2.2.2.1 hK hP hD hS 0 rfl rfl 5 (by decide) (S.2.2.2.2 (.fieldLink RX2 27 "CarrierNet$Parcel" "leaves" "I") (mG wd_72)) (fun _ h9 => h9) rfl (by decide +kernel) rfl rfl (Nat.le_of_ble_eq_true rfl) dX2_init_31 (fun H locs hP hD hS => ?_)
  have hP : va_P D vwCl [(h0, .inr (2, [.int (-1), .int 0, .int (-1), .int (-1), .int (-1), .int (-1), .int 0, .int 0, .int 0, .int 0, .int 0, .null]))] H := hP
  have hD : va_D A [(h0, .inr (2, [.int (-1), .int 0, .int (-1), .int (-1), .int (-1), .int (-1), .int 0, .int 0, .int 0, .int 0, .int 0, .null]))] := hD
  refine lv_aload_n S.1 S.2.1 dX2_init_34 rfl (lv_at hl 0 rfl) ?_
  refine lv_iconst (v := (-1)) S.1 S.2.1 dX2_init_35 (by decide) ?_
  refine va_put (D := D) (ci := 2) (v := .int (-1)) (ty := .int) (C := RX2) (T := TX2) (N := 12) S.1 S.2.1 S.2.2.2.2 hnX2 tyX2 tyX2_ok nmX2 S.2.2.2.1 hK hP hD hS 0 rfl rfl 6 (by decide) (S.2.2.2.2 (.fieldLink RX2 30 "CarrierNet$Parcel" "leavesAt" "I") (mG wd_73)) (fun _ h9 => h9) rfl (by decide +kernel) rfl rfl (Nat.le_of_ble_eq_true rfl) dX2_init_36 (fun H locs hP hD hS => ?_)
  have hP : va_P D vwCl [(h0, .inr (2, [.int (-1), .int 0, .int (-1), .int (-1), .int (-1), .int (-1), .int (-1), .int 0, .int 0, .int 0, .int 0, .null]))] H := hP
  have hD : va_D A [(h0, .inr (2, [.int (-1), .int 0, .int (-1), .int (-1), .int (-1), .int (-1), .int (-1), .int 0, .int 0, .int 0, .int 0, .null]))] := hD
  refine lv_aload_n S.1 S.2.1 dX2_init_39 rfl (lv_at hl 0 rfl) ?_
  refine lv_iconst (v := (-1)) S.1 S.2.1 dX2_init_40 (by decide) ?_
  refine va_put (D := D) (ci := 2) (v := .int (-1)) (ty := .int) (C := RX2) (T := TX2) (N := 12) S.1 S.2.1 S.2.2.2.2 hnX2 tyX2 tyX2_ok nmX2 S.2.2.2.1 hK hP hD hS 0 rfl rfl 7 (by decide) (S.2.2.2.2 (.fieldLink RX2 33 "CarrierNet$Parcel" "came" "I") (mG wd_74)) (fun _ h9 => h9) rfl (by decide +kernel) rfl rfl (Nat.le_of_ble_eq_true rfl) dX2_init_41 (fun H locs hP hD hS => ?_)
  have hP : va_P D vwCl [(h0, .inr (2, [.int (-1), .int 0, .int (-1), .int (-1), .int (-1), .int (-1), .int (-1), .int (-1), .int 0, .int 0, .int 0, .null]))] H := hP
  have hD : va_D A [(h0, .inr (2, [.int (-1), .int 0, .int (-1), .int (-1), .int (-1), .int (-1), .int (-1), .int (-1), .int 0, .int 0, .int 0, .null]))] := hD
  refine lv_aload_n S.1 S.2.1 dX2_init_44 rfl (lv_at hl 0 rfl) ?_
  refine lv_iconst (v := 0) S.1 S.2.1 dX2_init_45 (by decide) ?_
  refine va_put (D := D) (ci := 2) (v := .int 0) (ty := .int) (C := RX2) (T := TX2) (N := 12) S.1 S.2.1 S.2.2.2.2 hnX2 tyX2 tyX2_ok nmX2 S.2.2.2.1 hK hP hD hS 0 rfl rfl 8 (by decide) (S.2.2.2.2 (.fieldLink RX2 36 "CarrierNet$Parcel" "rides" "I") (mG wd_75)) (fun _ h9 => h9) rfl (by decide +kernel) rfl rfl (Nat.le_of_ble_eq_true rfl) dX2_init_46 (fun H locs hP hD hS => ?_)
  have hP : va_P D vwCl [(h0, .inr (2, [.int (-1), .int 0, .int (-1), .int (-1), .int (-1), .int (-1), .int (-1), .int (-1), .int 0, .int 0, .int 0, .null]))] H := hP
  have hD : va_D A [(h0, .inr (2, [.int (-1), .int 0, .int (-1), .int (-1), .int (-1), .int (-1), .int (-1), .int (-1), .int 0, .int 0, .int 0, .null]))] := hD
  refine lv_aload_n S.1 S.2.1 dX2_init_49 rfl (lv_at hl 0 rfl) ?_
  refine lv_iconst (v := (-1)) S.1 S.2.1 dX2_init_50 (by decide) ?_
  refine va_put (D := D) (ci := 2) (v := .int (-1)) (ty := .int) (C := RX2) (T := TX2) (N := 12) S.1 S.2.1 S.2.2.2.2 hnX2 tyX2 tyX2_ok nmX2 S.2.2.2.1 hK hP hD hS 0 rfl rfl 9 (by decide) (S.2.2.2.2 (.fieldLink RX2 39 "CarrierNet$Parcel" "plannedBy" "I") (mG wd_76)) (fun _ h9 => h9) rfl (by decide +kernel) rfl rfl (Nat.le_of_ble_eq_true rfl) dX2_init_51 (fun H locs hP hD hS => ?_)
  have hP : va_P D vwCl [(h0, .inr (2, [.int (-1), .int 0, .int (-1), .int (-1), .int (-1), .int (-1), .int (-1), .int (-1), .int 0, .int (-1), .int 0, .null]))] H := hP
  have hD : va_D A [(h0, .inr (2, [.int (-1), .int 0, .int (-1), .int (-1), .int (-1), .int (-1), .int (-1), .int (-1), .int 0, .int (-1), .int 0, .null]))] := hD
  refine lv_aload_n S.1 S.2.1 dX2_init_54 rfl (lv_at hl 0 rfl) ?_
  refine lv_iconst (v := 0) S.1 S.2.1 dX2_init_55 (by decide) ?_
  refine va_put (D := D) (ci := 2) (v := .int 0) (ty := .int) (C := RX2) (T := TX2) (N := 12) S.1 S.2.1 S.2.2.2.2 hnX2 tyX2 tyX2_ok nmX2 S.2.2.2.1 hK hP hD hS 0 rfl rfl 10 (by decide) (S.2.2.2.2 (.fieldLink RX2 42 "CarrierNet$Parcel" "hopefulFrom" "I") (mG wd_77)) (fun _ h9 => h9) rfl (by decide +kernel) rfl rfl (Nat.le_of_ble_eq_true rfl) dX2_init_56 (fun H locs hP hD hS => ?_)
  have hP : va_P D vwCl [(h0, .inr (2, [.int (-1), .int 0, .int (-1), .int (-1), .int (-1), .int (-1), .int (-1), .int (-1), .int 0, .int (-1), .int 0, .null]))] H := hP
  have hD : va_D A [(h0, .inr (2, [.int (-1), .int 0, .int (-1), .int (-1), .int (-1), .int (-1), .int (-1), .int (-1), .int 0, .int (-1), .int 0, .null]))] := hD
  refine lv_aload_n S.1 S.2.1 dX2_init_59 rfl (lv_at hl 0 rfl) ?_
  refine lv_bipush (v := 12) S.1 S.2.1 dX2_init_60 (by decide) ?_
  refine w_newI (N' := 12) S (by decide +kernel) hK hP hD hS hA (by decide) (by decide) (by decide) (Nat.le_of_ble_eq_true rfl) (Nat.le_of_ble_eq_true rfl) dX2_init_62 (fun q1 H hP hD hS => ?_)
  have hP : va_P D vwCl [(h0, .inr (2, [.int (-1), .int 0, .int (-1), .int (-1), .int (-1), .int (-1), .int (-1), .int (-1), .int 0, .int (-1), .int 0, .null])), (q1, .inl (B 0, 12, .inl (fun _ => 0)))] H := hP
  have hD : va_D A [(h0, .inr (2, [.int (-1), .int 0, .int (-1), .int (-1), .int (-1), .int (-1), .int (-1), .int (-1), .int 0, .int (-1), .int 0, .null])), (q1, .inl (B 0, 12, .inl (fun _ => 0)))] := hD
  refine va_putF (D := D) (ci := 2) (v := .ref q1) (ty := .array .int) (C := RX2) (T := TX2) (N := 12) S.1 S.2.1 S.2.2.2.2 hnX2 tyX2 tyX2_ok nmX2 S.2.2.2.1 hK hP hD hS 0 rfl rfl 11 (by decide) (S.2.2.2.2 (.fieldLink RX2 45 "CarrierNet$Parcel" "latest" "[I") (mG wd_78)) (fun _ h9 => h9) rfl hin rfl (by decide +kernel) rfl rfl (Nat.le_of_ble_eq_true rfl) dX2_init_64 (fun H locs hP hD hS => ?_)
  have hP : va_P D vwCl [(h0, .inr (2, [.int (-1), .int 0, .int (-1), .int (-1), .int (-1), .int (-1), .int (-1), .int (-1), .int 0, .int (-1), .int 0, .ref q1])), (q1, .inl (B 0, 12, .inl (fun _ => 0)))] H := hP
  have hD : va_D A [(h0, .inr (2, [.int (-1), .int 0, .int (-1), .int (-1), .int (-1), .int (-1), .int (-1), .int (-1), .int 0, .int (-1), .int 0, .ref q1])), (q1, .inl (B 0, 12, .inl (fun _ => 0)))] := hD
  refine W.widen (k := 1) (n := 12) (Nat.le_of_ble_eq_true rfl) (Nat.le_of_ble_eq_true rfl) ?_
  exact cI_ret S hr hk hS q1 trivial hP hD dX2_init_67
abbrev wErr (B : Nat → ClassId) (h : Nat) (u : (Nat × Nat × Nat × Nat) × (Nat → Int32)) : va_W := [(h, .inr (1, [.ref u.1.1, .ref u.1.2.1, .ref u.1.2.2.1, .ref u.1.2.2.2, .int 0, .int 0, .int (-1), .int 0, .int 0, .int 0, .long 0])), (u.1.1, .inl (B 0, 81, .inl u.2)), (u.1.2.1, .inl (B 0, 9, .inl (fun _ => 0))), (u.1.2.2.1, .inl (B 0, 9, .inl (fun _ => 0))), (u.1.2.2.2, .inl (B 0, 2304, .inl (fun _ => 0)))]
set_option maxHeartbeats 4000000 in
set_option maxRecDepth 100000 in
theorem i_Err (l : Launch) (D : va_G) (B : Nat → ClassId) (h0 sz : Nat) : cI l D B yX1_init wsX1_init 1 12 4 2403 sz h0 [(h0, .inr (1, [.null, .null, .null, .null, .int 0, .int 0, .int 0, .int 0, .int 0, .int 0, .long 0]))] (fun u : (Nat × Nat × Nat × Nat) × (Nat → Int32) => wErr B h0 u) (fun u : (Nat × Nat × Nat × Nat) × (Nat → Int32) => okE u.2) := by
  refine cI_of (cc := cX1_init) (nL := 3) (by decide) rfl (Nat.le_of_ble_eq_true rfl) ?_
  intro p e s m below meth c A eA S hr hk hin hA hP hD hK a1 a2 n1 n2 hS ls hl
  clear eA
  have hnX1 : ∀ w ∈ wsX10, w ∈ wsX1_init := fun w h => mG (tX1 w h)
  refine lv_aload_n S.1 S.2.1 dX1_init_0 rfl (lv_at hl 0 rfl) ?_
  refine W.objInit S.1 S.2.1 S.2.2.2.1 (S.2.2.2.2 (.methodLink RX1 5 objectInit) (mG wd_20)) (S.2.2.2.2 (.instanceMethod objectInit) (mG wd_1)) (S.2.2.2.2 (.code objectInit ⟨#[0xb1]⟩ 1 none) (mG wd_645)) rfl (by rw [S.2.2.1]; exact hl.1) rfl dX1_init_1 (Nat.le_of_ble_eq_true rfl) (Nat.le_of_ble_eq_true rfl) ?_
  refine W.eq (g2 := F0 m 4 ls []) rfl ?_
  refine lv_aload_n S.1 S.2.1 dX1_init_4 rfl (lv_at hl 0 rfl) ?_
  refine lv_bipush (v := 81) S.1 S.2.1 dX1_init_5 (by decide) ?_
  refine w_newI (N' := 81) S (by decide +kernel) hK hP hD hS hA (by decide) (by decide) (by decide) (Nat.le_of_ble_eq_true rfl) (Nat.le_of_ble_eq_true rfl) dX1_init_7 (fun q1 H hP hD hS => ?_)
  have hP : va_P D vwCl [(h0, .inr (1, [.null, .null, .null, .null, .int 0, .int 0, .int 0, .int 0, .int 0, .int 0, .long 0])), (q1, .inl (B 0, 81, .inl (fun _ => 0)))] H := hP
  have hD : va_D A [(h0, .inr (1, [.null, .null, .null, .null, .int 0, .int 0, .int 0, .int 0, .int 0, .int 0, .long 0])), (q1, .inl (B 0, 81, .inl (fun _ => 0)))] := hD
  refine va_putF (D := D) (ci := 1) (v := .ref q1) (ty := .array .int) (C := RX1) (T := TX1) (N := 11) S.1 S.2.1 S.2.2.2.2 hnX1 tyX1 tyX1_ok nmX1 S.2.2.2.1 hK hP hD hS 0 rfl rfl 0 (by decide) (S.2.2.2.2 (.fieldLink RX1 11 "CarrierNet$Errands" "walks" "[I") (mG wd_21)) (fun _ h9 => h9) rfl hin rfl (by decide +kernel) rfl rfl (Nat.le_of_ble_eq_true rfl) dX1_init_9 (fun H locs hP hD hS => ?_)
  have hP : va_P D vwCl [(h0, .inr (1, [.ref q1, .null, .null, .null, .int 0, .int 0, .int 0, .int 0, .int 0, .int 0, .long 0])), (q1, .inl (B 0, 81, .inl (fun _ => 0)))] H := hP
  have hD : va_D A [(h0, .inr (1, [.ref q1, .null, .null, .null, .int 0, .int 0, .int 0, .int 0, .int 0, .int 0, .long 0])), (q1, .inl (B 0, 81, .inl (fun _ => 0)))] := hD
  refine lv_aload_n S.1 S.2.1 dX1_init_12 rfl (lv_at hl 0 rfl) ?_
  refine lv_bipush (v := 9) S.1 S.2.1 dX1_init_13 (by decide) ?_
  refine w_newI (N' := 9) S (by decide +kernel) hK hP hD hS hA (by decide) (by decide) (by decide) (Nat.le_of_ble_eq_true rfl) (Nat.le_of_ble_eq_true rfl) dX1_init_15 (fun q2 H hP hD hS => ?_)
  have hP : va_P D vwCl [(h0, .inr (1, [.ref q1, .null, .null, .null, .int 0, .int 0, .int 0, .int 0, .int 0, .int 0, .long 0])), (q1, .inl (B 0, 81, .inl (fun _ => 0))), (q2, .inl (B 0, 9, .inl (fun _ => 0)))] H := hP
  have hD : va_D A [(h0, .inr (1, [.ref q1, .null, .null, .null, .int 0, .int 0, .int 0, .int 0, .int 0, .int 0, .long 0])), (q1, .inl (B 0, 81, .inl (fun _ => 0))), (q2, .inl (B 0, 9, .inl (fun _ => 0)))] := hD
  refine va_putF (D := D) (ci := 1) (v := .ref q2) (ty := .array .int) (C := RX1) (T := TX1) (N := 11) S.1 S.2.1 S.2.2.2.2 hnX1 tyX1 tyX1_ok nmX1 S.2.2.2.1 hK hP hD hS 0 rfl rfl 1 (by decide) (S.2.2.2.2 (.fieldLink RX1 15 "CarrierNet$Errands" "minutes" "[I") (mG wd_22)) (fun _ h9 => h9) rfl hin rfl (by decide +kernel) rfl rfl (Nat.le_of_ble_eq_true rfl) dX1_init_17 (fun H locs hP hD hS => ?_)
  have hP : va_P D vwCl [(h0, .inr (1, [.ref q1, .ref q2, .null, .null, .int 0, .int 0, .int 0, .int 0, .int 0, .int 0, .long 0])), (q1, .inl (B 0, 81, .inl (fun _ => 0))), (q2, .inl (B 0, 9, .inl (fun _ => 0)))] H := hP
  have hD : va_D A [(h0, .inr (1, [.ref q1, .ref q2, .null, .null, .int 0, .int 0, .int 0, .int 0, .int 0, .int 0, .long 0])), (q1, .inl (B 0, 81, .inl (fun _ => 0))), (q2, .inl (B 0, 9, .inl (fun _ => 0)))] := hD
  refine lv_aload_n S.1 S.2.1 dX1_init_20 rfl (lv_at hl 0 rfl) ?_
  refine lv_bipush (v := 9) S.1 S.2.1 dX1_init_21 (by decide) ?_
  refine w_newI (N' := 9) S (by decide +kernel) hK hP hD hS hA (by decide) (by decide) (by decide) (Nat.le_of_ble_eq_true rfl) (Nat.le_of_ble_eq_true rfl) dX1_init_23 (fun q3 H hP hD hS => ?_)
  have hP : va_P D vwCl [(h0, .inr (1, [.ref q1, .ref q2, .null, .null, .int 0, .int 0, .int 0, .int 0, .int 0, .int 0, .long 0])), (q1, .inl (B 0, 81, .inl (fun _ => 0))), (q2, .inl (B 0, 9, .inl (fun _ => 0))), (q3, .inl (B 0, 9, .inl (fun _ => 0)))] H := hP
  have hD : va_D A [(h0, .inr (1, [.ref q1, .ref q2, .null, .null, .int 0, .int 0, .int 0, .int 0, .int 0, .int 0, .long 0])), (q1, .inl (B 0, 81, .inl (fun _ => 0))), (q2, .inl (B 0, 9, .inl (fun _ => 0))), (q3, .inl (B 0, 9, .inl (fun _ => 0)))] := hD
  refine va_putF (D := D) (ci := 1) (v := .ref q3) (ty := .array .int) (C := RX1) (T := TX1) (N := 11) S.1 S.2.1 S.2.2.2.2 hnX1 tyX1 tyX1_ok nmX1 S.2.2.2.1 hK hP hD hS 0 rfl rfl 2 (by decide) (S.2.2.2.2 (.fieldLink RX1 18 "CarrierNet$Errands" "worths" "[I") (mG wd_23)) (fun _ h9 => h9) rfl hin rfl (by decide +kernel) rfl rfl (Nat.le_of_ble_eq_true rfl) dX1_init_25 (fun H locs hP hD hS => ?_)
  have hP : va_P D vwCl [(h0, .inr (1, [.ref q1, .ref q2, .ref q3, .null, .int 0, .int 0, .int 0, .int 0, .int 0, .int 0, .long 0])), (q1, .inl (B 0, 81, .inl (fun _ => 0))), (q2, .inl (B 0, 9, .inl (fun _ => 0))), (q3, .inl (B 0, 9, .inl (fun _ => 0)))] H := hP
  have hD : va_D A [(h0, .inr (1, [.ref q1, .ref q2, .ref q3, .null, .int 0, .int 0, .int 0, .int 0, .int 0, .int 0, .long 0])), (q1, .inl (B 0, 81, .inl (fun _ => 0))), (q2, .inl (B 0, 9, .inl (fun _ => 0))), (q3, .inl (B 0, 9, .inl (fun _ => 0)))] := hD
  refine lv_aload_n S.1 S.2.1 dX1_init_28 rfl (lv_at hl 0 rfl) ?_
  refine lv_sipush (v := 2304) S.1 S.2.1 dX1_init_29 (by decide) ?_
  refine w_newI (N' := 2304) S (by decide +kernel) hK hP hD hS hA (by decide) (by decide) (by decide) (Nat.le_of_ble_eq_true rfl) (Nat.le_of_ble_eq_true rfl) dX1_init_32 (fun q4 H hP hD hS => ?_)
  have hP : va_P D vwCl [(h0, .inr (1, [.ref q1, .ref q2, .ref q3, .null, .int 0, .int 0, .int 0, .int 0, .int 0, .int 0, .long 0])), (q1, .inl (B 0, 81, .inl (fun _ => 0))), (q2, .inl (B 0, 9, .inl (fun _ => 0))), (q3, .inl (B 0, 9, .inl (fun _ => 0))), (q4, .inl (B 0, 2304, .inl (fun _ => 0)))] H := hP
  have hD : va_D A [(h0, .inr (1, [.ref q1, .ref q2, .ref q3, .null, .int 0, .int 0, .int 0, .int 0, .int 0, .int 0, .long 0])), (q1, .inl (B 0, 81, .inl (fun _ => 0))), (q2, .inl (B 0, 9, .inl (fun _ => 0))), (q3, .inl (B 0, 9, .inl (fun _ => 0))), (q4, .inl (B 0, 2304, .inl (fun _ => 0)))] := hD
  refine va_putF (D := D) (ci := 1) (v := .ref q4) (ty := .array .int) (C := RX1) (T := TX1) (N := 11) S.1 S.2.1 S.2.2.2.2 hnX1 tyX1 tyX1_ok nmX1 S.2.2.2.1 hK hP hD hS 0 rfl rfl 3 (by decide) (S.2.2.2.2 (.fieldLink RX1 21 "CarrierNet$Errands" "ways" "[I") (mG wd_24)) (fun _ h9 => h9) rfl hin rfl (by decide +kernel) rfl rfl (Nat.le_of_ble_eq_true rfl) dX1_init_34 (fun H locs hP hD hS => ?_)
  have hP : va_P D vwCl [(h0, .inr (1, [.ref q1, .ref q2, .ref q3, .ref q4, .int 0, .int 0, .int 0, .int 0, .int 0, .int 0, .long 0])), (q1, .inl (B 0, 81, .inl (fun _ => 0))), (q2, .inl (B 0, 9, .inl (fun _ => 0))), (q3, .inl (B 0, 9, .inl (fun _ => 0))), (q4, .inl (B 0, 2304, .inl (fun _ => 0)))] H := hP
  have hD : va_D A [(h0, .inr (1, [.ref q1, .ref q2, .ref q3, .ref q4, .int 0, .int 0, .int 0, .int 0, .int 0, .int 0, .long 0])), (q1, .inl (B 0, 81, .inl (fun _ => 0))), (q2, .inl (B 0, 9, .inl (fun _ => 0))), (q3, .inl (B 0, 9, .inl (fun _ => 0))), (q4, .inl (B 0, 2304, .inl (fun _ => 0)))] := hD
  refine lv_aload_n S.1 S.2.1 dX1_init_37 rfl (lv_at hl 0 rfl) ?_
  refine lv_iconst (v := 0) S.1 S.2.1 dX1_init_38 (by decide) ?_
  refine va_put (D := D) (ci := 1) (v := .int 0) (ty := .int) (C := RX1) (T := TX1) (N := 11) S.1 S.2.1 S.2.2.2.2 hnX1 tyX1 tyX1_ok nmX1 S.2.2.2.1 hK hP hD hS 0 rfl rfl 4 (by decide) (S.2.2.2.2 (.fieldLink RX1 24 "CarrierNet$Errands" "listed" "I") (mG wd_25)) (fun _ h9 => h9) rfl (by decide +kernel) rfl rfl (Nat.le_of_ble_eq_true rfl) dX1_init_39 (fun H locs hP hD hS => ?_)
  have hP : va_P D vwCl [(h0, .inr (1, [.ref q1, .ref q2, .ref q3, .ref q4, .int 0, .int 0, .int 0, .int 0, .int 0, .int 0, .long 0])), (q1, .inl (B 0, 81, .inl (fun _ => 0))), (q2, .inl (B 0, 9, .inl (fun _ => 0))), (q3, .inl (B 0, 9, .inl (fun _ => 0))), (q4, .inl (B 0, 2304, .inl (fun _ => 0)))] H := hP
  have hD : va_D A [(h0, .inr (1, [.ref q1, .ref q2, .ref q3, .ref q4, .int 0, .int 0, .int 0, .int 0, .int 0, .int 0, .long 0])), (q1, .inl (B 0, 81, .inl (fun _ => 0))), (q2, .inl (B 0, 9, .inl (fun _ => 0))), (q3, .inl (B 0, 9, .inl (fun _ => 0))), (q4, .inl (B 0, 2304, .inl (fun _ => 0)))] := hD
  refine lv_aload_n S.1 S.2.1 dX1_init_42 rfl (lv_at hl 0 rfl) ?_
  refine lv_iconst (v := 0) S.1 S.2.1 dX1_init_43 (by decide) ?_
  refine va_put (D := D) (ci := 1) (v := .int 0) (ty := .boolean) (C := RX1) (T := TX1) (N := 11) S.1 S.2.1 S.2.2.2.2 hnX1 tyX1 tyX1_ok nmX1 S.2.2.2.1 hK hP hD hS 0 rfl rfl 5 (by decide) (S.2.2.2.2 (.fieldLink RX1 28 "CarrierNet$Errands" "measured" "Z") (mG wd_26)) (fun _ h9 => h9) rfl (by decide +kernel) (by decide) (by decide) (Nat.le_of_ble_eq_true rfl) dX1_init_44 (fun H locs hP hD hS => ?_)
  have hP : va_P D vwCl [(h0, .inr (1, [.ref q1, .ref q2, .ref q3, .ref q4, .int 0, .int 0, .int 0, .int 0, .int 0, .int 0, .long 0])), (q1, .inl (B 0, 81, .inl (fun _ => 0))), (q2, .inl (B 0, 9, .inl (fun _ => 0))), (q3, .inl (B 0, 9, .inl (fun _ => 0))), (q4, .inl (B 0, 2304, .inl (fun _ => 0)))] H := hP
  have hD : va_D A [(h0, .inr (1, [.ref q1, .ref q2, .ref q3, .ref q4, .int 0, .int 0, .int 0, .int 0, .int 0, .int 0, .long 0])), (q1, .inl (B 0, 81, .inl (fun _ => 0))), (q2, .inl (B 0, 9, .inl (fun _ => 0))), (q3, .inl (B 0, 9, .inl (fun _ => 0))), (q4, .inl (B 0, 2304, .inl (fun _ => 0)))] := hD
  refine lv_aload_n S.1 S.2.1 dX1_init_47 rfl (lv_at hl 0 rfl) ?_
  refine lv_iconst (v := (-1)) S.1 S.2.1 dX1_init_48 (by decide) ?_
  refine va_put (D := D) (ci := 1) (v := .int (-1)) (ty := .int) (C := RX1) (T := TX1) (N := 11) S.1 S.2.1 S.2.2.2.2 hnX1 tyX1 tyX1_ok nmX1 S.2.2.2.1 hK hP hD hS 0 rfl rfl 6 (by decide) (S.2.2.2.2 (.fieldLink RX1 32 "CarrierNet$Errands" "chosenFor" "I") (mG wd_27)) (fun _ h9 => h9) rfl (by decide +kernel) rfl rfl (Nat.le_of_ble_eq_true rfl) dX1_init_49 (fun H locs hP hD hS => ?_)
  have hP : va_P D vwCl [(h0, .inr (1, [.ref q1, .ref q2, .ref q3, .ref q4, .int 0, .int 0, .int (-1), .int 0, .int 0, .int 0, .long 0])), (q1, .inl (B 0, 81, .inl (fun _ => 0))), (q2, .inl (B 0, 9, .inl (fun _ => 0))), (q3, .inl (B 0, 9, .inl (fun _ => 0))), (q4, .inl (B 0, 2304, .inl (fun _ => 0)))] H := hP
  have hD : va_D A [(h0, .inr (1, [.ref q1, .ref q2, .ref q3, .ref q4, .int 0, .int 0, .int (-1), .int 0, .int 0, .int 0, .long 0])), (q1, .inl (B 0, 81, .inl (fun _ => 0))), (q2, .inl (B 0, 9, .inl (fun _ => 0))), (q3, .inl (B 0, 9, .inl (fun _ => 0))), (q4, .inl (B 0, 2304, .inl (fun _ => 0)))] := hD
  refine lv_aload_n S.1 S.2.1 dX1_init_52 rfl (lv_at hl 0 rfl) ?_
  refine lv_iconst (v := 0) S.1 S.2.1 dX1_init_53 (by decide) ?_
  refine va_put (D := D) (ci := 1) (v := .int 0) (ty := .int) (C := RX1) (T := TX1) (N := 11) S.1 S.2.1 S.2.2.2.2 hnX1 tyX1 tyX1_ok nmX1 S.2.2.2.1 hK hP hD hS 0 rfl rfl 7 (by decide) (S.2.2.2.2 (.fieldLink RX1 35 "CarrierNet$Errands" "chosen" "I") (mG wd_28)) (fun _ h9 => h9) rfl (by decide +kernel) rfl rfl (Nat.le_of_ble_eq_true rfl) dX1_init_54 (fun H locs hP hD hS => ?_)
  have hP : va_P D vwCl [(h0, .inr (1, [.ref q1, .ref q2, .ref q3, .ref q4, .int 0, .int 0, .int (-1), .int 0, .int 0, .int 0, .long 0])), (q1, .inl (B 0, 81, .inl (fun _ => 0))), (q2, .inl (B 0, 9, .inl (fun _ => 0))), (q3, .inl (B 0, 9, .inl (fun _ => 0))), (q4, .inl (B 0, 2304, .inl (fun _ => 0)))] H := hP
  have hD : va_D A [(h0, .inr (1, [.ref q1, .ref q2, .ref q3, .ref q4, .int 0, .int 0, .int (-1), .int 0, .int 0, .int 0, .long 0])), (q1, .inl (B 0, 81, .inl (fun _ => 0))), (q2, .inl (B 0, 9, .inl (fun _ => 0))), (q3, .inl (B 0, 9, .inl (fun _ => 0))), (q4, .inl (B 0, 2304, .inl (fun _ => 0)))] := hD
  refine lv_aload_n S.1 S.2.1 dX1_init_57 rfl (lv_at hl 0 rfl) ?_
  refine lv_iconst (v := 0) S.1 S.2.1 dX1_init_58 (by decide) ?_
  refine va_put (D := D) (ci := 1) (v := .int 0) (ty := .int) (C := RX1) (T := TX1) (N := 11) S.1 S.2.1 S.2.2.2.2 hnX1 tyX1 tyX1_ok nmX1 S.2.2.2.1 hK hP hD hS 0 rfl rfl 8 (by decide) (S.2.2.2.2 (.fieldLink RX1 38 "CarrierNet$Errands" "chosenWorth" "I") (mG wd_29)) (fun _ h9 => h9) rfl (by decide +kernel) rfl rfl (Nat.le_of_ble_eq_true rfl) dX1_init_59 (fun H locs hP hD hS => ?_)
  have hP : va_P D vwCl [(h0, .inr (1, [.ref q1, .ref q2, .ref q3, .ref q4, .int 0, .int 0, .int (-1), .int 0, .int 0, .int 0, .long 0])), (q1, .inl (B 0, 81, .inl (fun _ => 0))), (q2, .inl (B 0, 9, .inl (fun _ => 0))), (q3, .inl (B 0, 9, .inl (fun _ => 0))), (q4, .inl (B 0, 2304, .inl (fun _ => 0)))] H := hP
  have hD : va_D A [(h0, .inr (1, [.ref q1, .ref q2, .ref q3, .ref q4, .int 0, .int 0, .int (-1), .int 0, .int 0, .int 0, .long 0])), (q1, .inl (B 0, 81, .inl (fun _ => 0))), (q2, .inl (B 0, 9, .inl (fun _ => 0))), (q3, .inl (B 0, 9, .inl (fun _ => 0))), (q4, .inl (B 0, 2304, .inl (fun _ => 0)))] := hD
  refine lv_aload_n S.1 S.2.1 dX1_init_62 rfl (lv_at hl 0 rfl) ?_
  refine lv_iconst (v := 0) S.1 S.2.1 dX1_init_63 (by decide) ?_
  refine va_put (D := D) (ci := 1) (v := .int 0) (ty := .int) (C := RX1) (T := TX1) (N := 11) S.1 S.2.1 S.2.2.2.2 hnX1 tyX1 tyX1_ok nmX1 S.2.2.2.1 hK hP hD hS 0 rfl rfl 9 (by decide) (S.2.2.2.2 (.fieldLink RX1 41 "CarrierNet$Errands" "chosenMinutes" "I") (mG wd_30)) (fun _ h9 => h9) rfl (by decide +kernel) rfl rfl (Nat.le_of_ble_eq_true rfl) dX1_init_64 (fun H locs hP hD hS => ?_)
  have hP : va_P D vwCl [(h0, .inr (1, [.ref q1, .ref q2, .ref q3, .ref q4, .int 0, .int 0, .int (-1), .int 0, .int 0, .int 0, .long 0])), (q1, .inl (B 0, 81, .inl (fun _ => 0))), (q2, .inl (B 0, 9, .inl (fun _ => 0))), (q3, .inl (B 0, 9, .inl (fun _ => 0))), (q4, .inl (B 0, 2304, .inl (fun _ => 0)))] H := hP
  have hD : va_D A [(h0, .inr (1, [.ref q1, .ref q2, .ref q3, .ref q4, .int 0, .int 0, .int (-1), .int 0, .int 0, .int 0, .long 0])), (q1, .inl (B 0, 81, .inl (fun _ => 0))), (q2, .inl (B 0, 9, .inl (fun _ => 0))), (q3, .inl (B 0, 9, .inl (fun _ => 0))), (q4, .inl (B 0, 2304, .inl (fun _ => 0)))] := hD
  refine lv_aload_n S.1 S.2.1 dX1_init_67 rfl (lv_at hl 0 rfl) ?_
  refine lv_lconst (v := 0) S.1 S.2.1 dX1_init_68 (by decide) ?_
  refine va_put (D := D) (ci := 1) (v := .long 0) (ty := .long) (C := RX1) (T := TX1) (N := 11) S.1 S.2.1 S.2.2.2.2 hnX1 tyX1 tyX1_ok nmX1 S.2.2.2.1 hK hP hD hS 0 rfl rfl 10 (by decide) (S.2.2.2.2 (.fieldLink RX1 44 "CarrierNet$Errands" "chosenOrder" "J") (mG wd_31)) (fun _ h9 => h9) rfl (by decide +kernel) rfl rfl (Nat.le_of_ble_eq_true rfl) dX1_init_69 (fun H locs hP hD hS => ?_)
  have hP : va_P D vwCl [(h0, .inr (1, [.ref q1, .ref q2, .ref q3, .ref q4, .int 0, .int 0, .int (-1), .int 0, .int 0, .int 0, .long 0])), (q1, .inl (B 0, 81, .inl (fun _ => 0))), (q2, .inl (B 0, 9, .inl (fun _ => 0))), (q3, .inl (B 0, 9, .inl (fun _ => 0))), (q4, .inl (B 0, 2304, .inl (fun _ => 0)))] H := hP
  have hD : va_D A [(h0, .inr (1, [.ref q1, .ref q2, .ref q3, .ref q4, .int 0, .int 0, .int (-1), .int 0, .int 0, .int 0, .long 0])), (q1, .inl (B 0, 81, .inl (fun _ => 0))), (q2, .inl (B 0, 9, .inl (fun _ => 0))), (q3, .inl (B 0, 9, .inl (fun _ => 0))), (q4, .inl (B 0, 2304, .inl (fun _ => 0)))] := hD
  refine W.widen (k := 4) (n := 2403) (Nat.le_of_ble_eq_true rfl) (Nat.le_of_ble_eq_true rfl) ?_
  have l9 : (9 : Int32).toInt = 9 := by decide
  have l0 : (0 : Int32).toInt = 0 := by decide
  refine lv_iconst (v := 0) S.1 S.2.1 dX1_init_72 (by decide) ?_
  refine lv_istore_n (lv' := [(1, .int 0), (0, .ref h0)]) S.1 S.2.1 dX1_init_73 rfl hl (by decide) rfl (fun ls hl => ?_)
  have outer : ∀ (n : Nat) (x1 : Int32) (f : Nat → Int32) (H : Heap) (locs : List Loc) (ls : Array Slot), (9 - x1.toInt).toNat < n → (0 ≤ x1.toInt ∧ x1.toInt ≤ 9) → oE f x1.toInt 0 → va_P D vwCl (wErr B h0 ((q1, q2, q3, q4), f)) H → va_D A (wErr B h0 ((q1, q2, q3, q4), f)) → va_S A s.heap H locs → lv_has ls 3 [(0, .ref h0), (1, .int x1)] → W p l e { frames := 1, cells := 4, slots := 2403, locals := 12 } s m [Value.ref h0].toArray below meth c H locs (4) (2403) (MQ below (QI D A (fun u : (Nat × Nat × Nat × Nat) × (Nat → Int32) => wErr B h0 u) (fun u : (Nat × Nat × Nat × Nat) × (Nat → Int32) => okE u.2)) [Value.ref h0].toArray s 4 2403 A) (F0 m 74 ls []) := by
    intro n
    induction n with
    | zero => intro x1 f H locs ls hm; exact absurd hm (Nat.not_lt_zero _)
    | succ n ih =>
      intro x1 f H locs ls hm hb hq hP hD hS hl
      refine lv_iload_n S.1 S.2.1 dX1_init_74 rfl (lv_at hl 1 rfl) ?_
      refine lv_bipush (v := 9) S.1 S.2.1 dX1_init_75 (by decide) ?_
      refine lv_icmp_ge (tgt := 122) S.1 S.2.1 dX1_init_77 (by decide) (fun c1 => ?_) (fun c1 => ?_)
      · exact cI_ret S hr hk hS ((q1, q2, q3, q4), f) (oE_end hq (by have j1 := t_le c1; omega)) hP hD dX1_init_122
      · have j1 := t_nle c1
        refine lv_iconst (v := 0) S.1 S.2.1 dX1_init_80 (by decide) ?_
        refine lv_istore_n (lv' := [(2, .int 0), (0, .ref h0), (1, .int x1)]) S.1 S.2.1 dX1_init_81 rfl hl (by decide) rfl (fun ls hl => ?_)
        have inner : ∀ (k : Nat) (x2 : Int32) (f : Nat → Int32) (H : Heap) (locs : List Loc) (ls : Array Slot), (9 - x2.toInt).toNat < k → (0 ≤ x2.toInt ∧ x2.toInt ≤ 9) → oE f x1.toInt x2.toInt → va_P D vwCl (wErr B h0 ((q1, q2, q3, q4), f)) H → va_D A (wErr B h0 ((q1, q2, q3, q4), f)) → va_S A s.heap H locs → lv_has ls 3 [(0, .ref h0), (1, .int x1), (2, .int x2)] → W p l e { frames := 1, cells := 4, slots := 2403, locals := 12 } s m [Value.ref h0].toArray below meth c H locs (4) (2403) (MQ below (QI D A (fun u : (Nat × Nat × Nat × Nat) × (Nat → Int32) => wErr B h0 u) (fun u : (Nat × Nat × Nat × Nat) × (Nat → Int32) => okE u.2)) [Value.ref h0].toArray s 4 2403 A) (F0 m 82 ls []) := by
          intro k
          induction k with
          | zero => intro x2 f H locs ls hm; exact absurd hm (Nat.not_lt_zero _)
          | succ k ihk =>
            intro x2 f H locs ls hm2 hb2 hq2 hP hD hS hl
            refine lv_iload_n S.1 S.2.1 dX1_init_82 rfl (lv_at hl 2 rfl) ?_
            refine lv_bipush (v := 9) S.1 S.2.1 dX1_init_83 (by decide) ?_
            refine lv_icmp_ge (tgt := 116) S.1 S.2.1 dX1_init_85 (by decide) (fun c2 => ?_) (fun c2 => ?_)
            · obtain ⟨y1, ey⟩ : ∃ y_9 : Int32, y_9 = x1 + 1 := ⟨_, rfl⟩
              have iy : y1.toInt = x1.toInt + 1 := i_addc ey (by decide) (by omega) (by omega)
              refine lv_iinc (v := y1) (lv' := [(1, .int y1), (0, .ref h0), (2, .int x2)]) S.1 S.2.1 dX1_init_116 hl (k := 1) rfl (by rw [ey]; rfl) (by decide) rfl (fun ls hl => ?_)
              refine lv_goto (tgt := 74) S.1 S.2.1 dX1_init_119 (by decide) ?_
              exact ih y1 f _ _ ls (by omega) (by omega) (by rw [iy]; exact oE_next hq2 (by have j2 := t_le c2; omega)) hP hD hS (lv_sub hl [1, 0] rfl)
            · have j2 := t_nle c2
              refine lv_aload_n S.1 S.2.1 dX1_init_88 rfl (lv_at hl 0 rfl) ?_
              refine va_get (D := D) (ci := 1) (v := .ref q1) (C := RX1) (T := TX1) (N := 11) S.1 S.2.1 S.2.2.2.2 hnX1 S.2.2.2.1 hK hP 0 rfl rfl 0 (by decide) (S.2.2.2.2 (.fieldLink RX1 11 "CarrierNet$Errands" "walks" "[I") (mG wd_21)) (fun _ h9 => h9) rfl dX1_init_89 ?_
              refine lv_iload_n S.1 S.2.1 dX1_init_92 rfl (lv_at hl 1 rfl) ?_
              refine lv_bipush (v := 9) S.1 S.2.1 dX1_init_93 (by decide) ?_
              refine lv_imul S.1 S.2.1 dX1_init_95 ?_
              refine lv_topi (fun v1 e1 => ?_)
              have i1 : v1.toInt = 9 * x1.toInt := i_mulcr e1 (by decide) (by omega) (by omega)
              refine lv_iload_n S.1 S.2.1 dX1_init_96 rfl (lv_at hl 2 rfl) ?_
              refine lv_iadd S.1 S.2.1 dX1_init_97 ?_
              refine lv_topi (fun v2 e2 => ?_)
              have i2 : v2.toInt = v1.toInt + x2.toInt := i_add e2 (by omega) (by omega)
              refine lv_iload_n S.1 S.2.1 dX1_init_98 rfl (lv_at hl 1 rfl) ?_
              refine lv_iload_n S.1 S.2.1 dX1_init_99 rfl (lv_at hl 2 rfl) ?_
              have fin : ∀ x9 : Int32, x9 = (if x1.toInt = x2.toInt then 0 else 10) → W p l e { frames := 1, cells := 4, slots := 2403, locals := 12 } s m [Value.ref h0].toArray below meth c H locs (4) (2403) (MQ below (QI D A (fun u : (Nat × Nat × Nat × Nat) × (Nat → Int32) => wErr B h0 u) (fun u : (Nat × Nat × Nat × Nat) × (Nat → Int32) => okE u.2)) [Value.ref h0].toArray s 4 2403 A) (F0 m 109 ls [.int x9, .int v2, .ref q1]) := by
                intro x9 hx9
                refine va_iast S.1 S.2.1 hK hP hD hS 1 0 rfl rfl (vin (by omega) (by omega)) dX1_init_109 (fun H locs hP hD hS => ?_)
                obtain ⟨y1, ey⟩ : ∃ y_9 : Int32, y_9 = x2 + 1 := ⟨_, rfl⟩
                have iy : y1.toInt = x2.toInt + 1 := i_addc ey (by decide) (by omega) (by omega)
                refine lv_iinc (v := y1) (lv' := [(2, .int y1), (0, .ref h0), (1, .int x1)]) S.1 S.2.1 dX1_init_110 hl (k := 2) rfl (by rw [ey]; rfl) (by decide) rfl (fun ls hl => ?_)
                refine lv_goto (tgt := 82) S.1 S.2.1 dX1_init_113 (by decide) ?_
                exact ihk y1 (upd f v2.toNatClampNeg x9) _ _ ls (by omega) (by omega) (by rw [iy, ix9 i1 i2 (by omega) (by omega)]; exact oE_w hq2 (by omega) (by omega) (by omega) hx9) hP hD hS (lv_sub hl [1, 2, 0] rfl)
              refine lv_icmp_ne (tgt := 107) S.1 S.2.1 dX1_init_100 (by decide) (fun c3 => ?_) (fun c3 => ?_)
              · refine lv_bipush (v := 10) S.1 S.2.1 dX1_init_107 (by decide) ?_
                exact fin 10 (by rw [if_neg (t_neq c3)])
              · refine lv_iconst (v := 0) S.1 S.2.1 dX1_init_103 (by decide) ?_
                refine lv_goto (tgt := 109) S.1 S.2.1 dX1_init_104 (by decide) ?_
                exact fin 0 (by rw [if_pos (t_eq c3)])
        exact inner _ 0 f _ _ ls (Nat.lt_succ_self _) (by omega) (by rw [l0]; exact hq) hP hD hS (lv_sub hl [1, 2, 0] rfl)
  exact outer _ 0 (fun _ => 0) _ _ ls (Nat.lt_succ_self _) (by omega) (by rw [l0]; exact oE_0) hP hD hS (lv_sub hl [1, 0] rfl)
