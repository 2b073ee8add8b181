theorem pm4 (a b : Nat × va_E) (X Y : va_W) : List.Perm ([a, b] ++ (X ++ Y)) ((([a] ++ X) ++ Y) ++ [b]) := by
  have h : (([a] ++ X) ++ Y) ++ [b] = a :: ((X ++ Y) ++ [b]) := by simp
  rw [h]
  exact List.Perm.cons _ (List.perm_append_singleton _ _).symm
abbrev tE : Type := (Nat × Nat × Nat × Nat) × (Nat → Int32)
abbrev tN : Type := Nat × tU × Nat × tE × Nat × (Nat → Nat) × (Nat → Nat)
abbrev fxN (B : Nat → ClassId) (h t e pa : Nat) (g : Nat → Option Nat) : va_W := [(h, .inr (4, [.ref t, .ref e, .ref pa, .int 0, .int 0, .int 0])), (pa, .inl (B 3, 60, .inr (.inr (.inr (.inr g)))))]
def wNet (B : Nat → ClassId) (h : Nat) (u : tN) : va_W := fxN B h u.1 u.2.2.1 u.2.2.2.2.1 (uptoN u.2.2.2.2.2.1 60) ++ ((wTT B u.1 u.2.1 ++ wErr B u.2.2.1 u.2.2.2.1) ++ xP B u.2.2.2.2.2.1 u.2.2.2.2.2.2 60)
set_option maxHeartbeats 4000000 in
set_option maxRecDepth 100000 in
theorem i_Net (l : Launch) (D : va_G) (B : Nat → ClassId) (h0 sz : Nat) : cI l D B yX4_init wsX4_init 3 53 205 4560 sz h0 [(h0, .inr (4, [.null, .null, .null, .int 0, .int 0, .int 0]))] (fun u : tN => wNet B h0 u) (fun u : tN => okT u.2.1.2.2.2 ∧ okE u.2.2.2.1.2) := by
  refine cI_of (cc := cX4_init) (nL := 2) (by decide) rfl (Nat.le_of_ble_eq_true rfl) ?_
  intro p e s m below meth c A eA S hr hk hin hA hP hD hK a1 a2 n1 n2 hS ls hl
  clear eA
  have hnX3 : ∀ w ∈ wsX30, w ∈ wsX4_init := fun w h => mG (tX3 w h)
  have hnX4 : ∀ w ∈ wsX40, w ∈ wsX4_init := fun w h => mG (tX4 w h)
  have hnX1 : ∀ w ∈ wsX10, w ∈ wsX4_init := fun w h => mG (tX1 w h)
  have hnX2 : ∀ w ∈ wsX20, w ∈ wsX4_init := fun w h => mG (tX2 w h)
  have hnX0 : ∀ w ∈ wsX00, w ∈ wsX4_init := fun w h => mG (tX0 w h)
  refine lv_aload_n S.1 S.2.1 dX4_init_0 rfl (lv_at hl 0 rfl) ?_
  refine W.objInit S.1 S.2.1 S.2.2.2.1 (S.2.2.2.2 (.methodLink RX4 1 objectInit) (mG wd_146)) (S.2.2.2.2 (.instanceMethod objectInit) (mG wd_1)) (S.2.2.2.2 (.code objectInit ⟨#[0xb1]⟩ 1 none) (mG wd_645)) rfl (by rw [S.2.2.1]; exact hl.1) rfl dX4_init_1 (Nat.le_of_ble_eq_true rfl) (Nat.le_of_ble_eq_true rfl) ?_
  refine W.eq (g2 := F0 m 4 ls []) rfl ?_
  refine lv_aload_n S.1 S.2.1 dX4_init_4 rfl (lv_at hl 0 rfl) ?_
  refine va_new (ci := 3) (fs := [.null, .int 0, .int 0, .null, .null, .null, .null, .null, .int 0]) (C := RX3) (T := TX3) (N := 9) S.1 S.2.1 S.2.2.2.2 hnX3 tyX3 tyX3_ok S.2.2.2.1 (S.2.2.2.2 (.classLink RX4 7 RX3) (mG wd_147)) (S.2.2.2.2 (.instantiable RX3 9) (mG wd_148)) (S.2.2.2.2 (.initialized RX3) (mG wd_98)) hK hP hD hS hA rfl (fun j hj => by rcases (show j = 0 ∨ j = 1 ∨ j = 2 ∨ j = 3 ∨ j = 4 ∨ j = 5 ∨ j = 6 ∨ j = 7 ∨ j = 8 by omega) with rfl | rfl | rfl | rfl | rfl | rfl | rfl | rfl | rfl <;> rfl) (Nat.le_of_ble_eq_true rfl) (Nat.le_of_ble_eq_true rfl) dX4_init_5 (fun qt H hP hD hS => ?_)
  refine lv_dup S.1 S.2.1 dX4_init_8 rfl ?_
  refine w_back (va_runI (As := []) (rest := [.ref qt, .ref h0]) S (i_TT l D B qt H.size) (cwI 0 S.2.2.2.2 gX4_init_X3_init rfl rfl rfl (S.2.2.2.2 (.initialized RX3) (mG wd_98)) (S.2.2.2.2 (.methodLink RX4 9 yX3_init) (mG wd_160)) (S.2.2.2.2 (.instanceMethod yX3_init) (mG wd_161)) rfl (by decide +kernel) ⟨Nat.le_of_ble_eq_true rfl, Nat.le_of_ble_eq_true rfl⟩) ⟨PcI_blind, fun U hU hW => ⟨rfl, PcI_at hU hW (w_last hP) hK w_lastD a1 a2 n1 n2⟩⟩ rfl rfl hl.1 rfl (lv_room (Nat.le_of_ble_eq_true rfl)) dX4_init_9 ⟨Nat.le_of_ble_eq_true rfl, Nat.le_of_ble_eq_true rfl⟩) (X := [(h0, .inr (4, [.null, .null, .null, .int 0, .int 0, .int 0]))]) hP hD hS hA (fun ut H locs hoT hP hD hS => ?_)
  refine va_putF (D := D) (ci := 4) (v := .ref qt) (ty := .object "CarrierNet$Timetable") (C := RX4) (T := TX4) (N := 6) S.1 S.2.1 S.2.2.2.2 hnX4 tyX4 tyX4_ok nmX4 S.2.2.2.1 hK hP hD hS 0 rfl rfl 0 (by decide) (S.2.2.2.2 (.fieldLink RX4 10 "CarrierNet" "timetable" "LCarrierNet$Timetable;") (mG wd_149)) (fun _ h9 => h9) rfl hin rfl (by decide +kernel) rfl rfl (Nat.le_of_ble_eq_true rfl) dX4_init_12 (fun H locs hP hD hS => ?_)
  have hP : va_P D vwCl ([(h0, .inr (4, [.ref qt, .null, .null, .int 0, .int 0, .int 0]))] ++ wTT B qt ut) H := hP
  have hD : va_D A ([(h0, .inr (4, [.ref qt, .null, .null, .int 0, .int 0, .int 0]))] ++ wTT B qt ut) := hD
  refine lv_aload_n S.1 S.2.1 dX4_init_15 rfl (lv_at hl 0 rfl) ?_
  refine va_new (ci := 1) (fs := [.null, .null, .null, .null, .int 0, .int 0, .int 0, .int 0, .int 0, .int 0, .long 0]) (C := RX1) (T := TX1) (N := 11) S.1 S.2.1 S.2.2.2.2 hnX1 tyX1 tyX1_ok S.2.2.2.1 (S.2.2.2.2 (.classLink RX4 16 RX1) (mG wd_150)) (S.2.2.2.2 (.instantiable RX1 11) (mG wd_151)) (S.2.2.2.2 (.initialized RX1) (mG wd_35)) hK hP hD hS hA rfl (fun j hj => by rcases (show j = 0 ∨ j = 1 ∨ j = 2 ∨ j = 3 ∨ j = 4 ∨ j = 5 ∨ j = 6 ∨ j = 7 ∨ j = 8 ∨ j = 9 ∨ j = 10 by omega) with rfl | rfl | rfl | rfl | rfl | rfl | rfl | rfl | rfl | rfl | rfl <;> rfl) (Nat.le_of_ble_eq_true rfl) (Nat.le_of_ble_eq_true rfl) dX4_init_16 (fun qe H hP hD hS => ?_)
  refine lv_dup S.1 S.2.1 dX4_init_19 rfl ?_
  refine w_back (va_runI (As := []) (rest := [.ref qe, .ref h0]) S (i_Err l D B qe H.size) (cwI 0 S.2.2.2.2 gX4_init_X1_init rfl rfl rfl (S.2.2.2.2 (.initialized RX1) (mG wd_35)) (S.2.2.2.2 (.methodLink RX4 18 yX1_init) (mG wd_162)) (S.2.2.2.2 (.instanceMethod yX1_init) (mG wd_163)) rfl (by decide +kernel) ⟨Nat.le_of_ble_eq_true rfl, Nat.le_of_ble_eq_true rfl⟩) ⟨PcI_blind, fun U hU hW => ⟨rfl, PcI_at hU hW (w_last hP) hK w_lastD a1 a2 n1 n2⟩⟩ rfl rfl hl.1 rfl (lv_room (Nat.le_of_ble_eq_true rfl)) dX4_init_20 ⟨Nat.le_of_ble_eq_true rfl, Nat.le_of_ble_eq_true rfl⟩) hP hD hS hA (fun ue H locs hoE hP hD hS => ?_)
  refine va_putF (D := D) (ci := 4) (v := .ref qe) (ty := .object "CarrierNet$Errands") (C := RX4) (T := TX4) (N := 6) S.1 S.2.1 S.2.2.2.2 hnX4 tyX4 tyX4_ok nmX4 S.2.2.2.1 hK hP hD hS 0 rfl rfl 1 (by decide) (S.2.2.2.2 (.fieldLink RX4 19 "CarrierNet" "errands" "LCarrierNet$Errands;") (mG wd_152)) (fun _ h9 => h9) rfl hin rfl (by decide +kernel) rfl rfl (Nat.le_of_ble_eq_true rfl) dX4_init_23 (fun H locs hP hD hS => ?_)
  have hP : va_P D vwCl (([(h0, .inr (4, [.ref qt, .ref qe, .null, .int 0, .int 0, .int 0]))] ++ wTT B qt ut) ++ wErr B qe ue) H := hP
  have hD : va_D A (([(h0, .inr (4, [.ref qt, .ref qe, .null, .int 0, .int 0, .int 0]))] ++ wTT B qt ut) ++ wErr B qe ue) := hD
  refine lv_aload_n S.1 S.2.1 dX4_init_26 rfl (lv_at hl 0 rfl) ?_
  refine lv_bipush (v := 60) S.1 S.2.1 dX4_init_27 (by decide) ?_
  refine w_newQ (N' := 60) S (C := RX2) 3 rfl (by decide +kernel) a2 hK hP hD hS hA (by decide) (by decide) (by decide) (Nat.le_of_ble_eq_true rfl) (Nat.le_of_ble_eq_true rfl) dX4_init_29 (fun qp H hP hD hS => ?_)
  obtain ⟨X0, eX0⟩ : ∃ z_9 : va_W, z_9 = wTT B qt ut ++ wErr B qe ue := ⟨_, rfl⟩
  have hpm : List.Perm (([(h0, .inr (4, [.ref qt, .ref qe, .null, .int 0, .int 0, .int 0])), (qp, .inl (B 3, 60, .inr (.inr (.inr (.inr (fun _ => none))))))] : va_W) ++ X0) ((([(h0, .inr (4, [.ref qt, .ref qe, .null, .int 0, .int 0, .int 0]))] : va_W) ++ wTT B qt ut) ++ wErr B qe ue ++ ([(qp, .inl (B 3, 60, .inr (.inr (.inr (.inr (fun _ => none))))))] : va_W)) := by
    rw [eX0]
    exact pm4 _ _ _ _
  have hP := vp_perm hP hpm
  have hD := vd_perm hD hpm
  refine va_putF (D := D) (ci := 4) (v := .ref qp) (ty := .array (.object "CarrierNet$Parcel")) (C := RX4) (T := TX4) (N := 6) S.1 S.2.1 S.2.2.2.2 hnX4 tyX4 tyX4_ok nmX4 S.2.2.2.1 hK hP hD hS 0 rfl rfl 2 (by decide) (S.2.2.2.2 (.fieldLink RX4 25 "CarrierNet" "parcels" "[LCarrierNet$Parcel;") (mG wd_154)) (fun _ h9 => h9) rfl hin rfl (by decide +kernel) rfl rfl (Nat.le_of_ble_eq_true rfl) dX4_init_32 (fun H locs hP hD hS => ?_)
  have hP : va_P D vwCl (fxN B h0 qt qe qp (fun _ => none) ++ X0) H := hP
  have hD : va_D A (fxN B h0 qt qe qp (fun _ => none) ++ X0) := hD
  refine lv_aload_n S.1 S.2.1 dX4_init_35 rfl (lv_at hl 0 rfl) ?_
  refine lv_iconst (v := 0) S.1 S.2.1 dX4_init_36 (by decide) ?_
  refine va_put (D := D) (ci := 4) (v := .int 0) (ty := .int) (C := RX4) (T := TX4) (N := 6) S.1 S.2.1 S.2.2.2.2 hnX4 tyX4 tyX4_ok nmX4 S.2.2.2.1 hK hP hD hS 0 rfl rfl 3 (by decide) (S.2.2.2.2 (.fieldLink RX4 29 "CarrierNet" "parcelCount" "I") (mG wd_155)) (fun _ h9 => h9) rfl (by decide +kernel) rfl rfl (Nat.le_of_ble_eq_true rfl) dX4_init_37 (fun H locs hP hD hS => ?_)
  have hP : va_P D vwCl (fxN B h0 qt qe qp (fun _ => none) ++ X0) H := hP
  have hD : va_D A (fxN B h0 qt qe qp (fun _ => none) ++ X0) := hD
  refine lv_aload_n S.1 S.2.1 dX4_init_40 rfl (lv_at hl 0 rfl) ?_
  refine lv_iconst (v := 0) S.1 S.2.1 dX4_init_41 (by decide) ?_
  refine va_put (D := D) (ci := 4) (v := .int 0) (ty := .int) (C := RX4) (T := TX4) (N := 6) S.1 S.2.1 S.2.2.2.2 hnX4 tyX4 tyX4_ok nmX4 S.2.2.2.1 hK hP hD hS 0 rfl rfl 4 (by decide) (S.2.2.2.2 (.fieldLink RX4 33 "CarrierNet" "now" "I") (mG wd_156)) (fun _ h9 => h9) rfl (by decide +kernel) rfl rfl (Nat.le_of_ble_eq_true rfl) dX4_init_42 (fun H locs hP hD hS => ?_)
  have hP : va_P D vwCl (fxN B h0 qt qe qp (fun _ => none) ++ X0) H := hP
  have hD : va_D A (fxN B h0 qt qe qp (fun _ => none) ++ X0) := hD
  refine lv_aload_n S.1 S.2.1 dX4_init_45 rfl (lv_at hl 0 rfl) ?_
  refine lv_iconst (v := 0) S.1 S.2.1 dX4_init_46 (by decide) ?_
  refine va_put (D := D) (ci := 4) (v := .int 0) (ty := .int) (C := RX4) (T := TX4) (N := 6) S.1 S.2.1 S.2.2.2.2 hnX4 tyX4 tyX4_ok nmX4 S.2.2.2.1 hK hP hD hS 0 rfl rfl 5 (by decide) (S.2.2.2.2 (.fieldLink RX4 36 "CarrierNet" "snowTold" "I") (mG wd_157)) (fun _ h9 => h9) rfl (by decide +kernel) rfl rfl (Nat.le_of_ble_eq_true rfl) dX4_init_47 (fun H locs hP hD hS => ?_)
  have hP : va_P D vwCl (fxN B h0 qt qe qp (fun _ => none) ++ X0) H := hP
  have hD : va_D A (fxN B h0 qt qe qp (fun _ => none) ++ X0) := hD
  have l60 : (60 : Int32).toInt = 60 := by decide
  have l0 : (0 : Int32).toInt = 0 := by decide
  have hP : va_P D vwCl (fxN B h0 qt qe qp (uptoN (fun _ => 0) 0) ++ (X0 ++ xP B (fun _ => 0) (fun _ => 0) 0)) H := by have e9 : X0 ++ xP B (fun _ => 0) (fun _ => 0) 0 = X0 := List.append_nil X0; rw [e9]; exact hP
  have hD : va_D A (fxN B h0 qt qe qp (uptoN (fun _ => 0) 0) ++ (X0 ++ xP B (fun _ => 0) (fun _ => 0) 0)) := by have e9 : X0 ++ xP B (fun _ => 0) (fun _ => 0) 0 = X0 := List.append_nil X0; rw [e9]; exact hD
  refine W.widen (k := 85 + 2 * 0) (n := 3120 + 24 * 0) (Nat.le_of_ble_eq_true rfl) (Nat.le_of_ble_eq_true rfl) ?_
  refine lv_iconst (v := 0) S.1 S.2.1 dX4_init_50 (by decide) ?_
  refine lv_istore_n (lv' := [(1, .int 0), (0, .ref h0)]) S.1 S.2.1 dX4_init_51 rfl hl (by decide) rfl (fun ls hl => ?_)
  have loop1 : ∀ (n i : Nat) (x1 : Int32) (cs : Nat → Nat) (ca : Nat → Nat) (H : Heap) (locs : List Loc) (ls : Array Slot), 60 - i < n → i ≤ 60 → x1.toInt = (i : Int) → va_P D vwCl (fxN B h0 qt qe qp (uptoN cs i) ++ (X0 ++ xP B cs ca i)) H → va_D A (fxN B h0 qt qe qp (uptoN cs i) ++ (X0 ++ xP B cs ca i)) → va_S A s.heap H locs → lv_has ls 2 [(0, .ref h0), (1, .int x1)] → W p l e { frames := 3, cells := 205, slots := 4560, locals := 53 } s m [Value.ref h0].toArray below meth c H locs (85 + 2 * i) (3120 + 24 * i) (MQ below (QI D A (fun u : tN => wNet B h0 u) (fun u : tN => okT u.2.1.2.2.2 ∧ okE u.2.2.2.1.2)) [Value.ref h0].toArray s 205 4560 A) (F0 m 52 ls []) := by
    intro n
    induction n with
    | zero => intro i x1 cs ca H locs ls hm; exact absurd hm (Nat.not_lt_zero _)
    | succ n ih =>
      intro i x1 cs ca H locs ls hm hi hx hP hD hS hl
      refine lv_iload_n S.1 S.2.1 dX4_init_52 rfl (lv_at hl 1 rfl) ?_
      refine lv_bipush (v := 60) S.1 S.2.1 dX4_init_53 (by decide) ?_
      refine lv_icmp_ge (tgt := 77) S.1 S.2.1 dX4_init_55 (by decide) (fun c1 => ?_) (fun c1 => ?_)
      · have j1 := t_le c1
        have hi12 : i = 60 := by omega
        subst hi12
        refine W.widen (k := 205) (n := 4560) (Nat.le_of_ble_eq_true rfl) (Nat.le_of_ble_eq_true rfl) ?_
        rw [eX0] at hP hD
        exact cI_ret S hr hk hS (qt, ut, qe, ue, qp, cs, ca) ⟨hoT, hoE⟩ hP hD dX4_init_77
      · have j1 := t_nle c1
        have hcl := cl_eq (j := x1) (by omega)
        refine lv_aload_n S.1 S.2.1 dX4_init_58 rfl (lv_at hl 0 rfl) ?_
        refine va_get (D := D) (ci := 4) (v := .ref qp) (C := RX4) (T := TX4) (N := 6) S.1 S.2.1 S.2.2.2.2 hnX4 S.2.2.2.1 hK hP 0 rfl rfl 2 (by decide) (S.2.2.2.2 (.fieldLink RX4 25 "CarrierNet" "parcels" "[LCarrierNet$Parcel;") (mG wd_154)) (fun _ h9 => h9) rfl dX4_init_59 ?_
        refine lv_iload_n S.1 S.2.1 dX4_init_62 rfl (lv_at hl 1 rfl) ?_
        refine va_new (ci := 2) (fs := [.int 0, .int 0, .int 0, .int 0, .int 0, .int 0, .int 0, .int 0, .int 0, .int 0, .int 0, .null]) (C := RX2) (T := TX2) (N := 12) S.1 S.2.1 S.2.2.2.2 hnX2 tyX2 tyX2_ok S.2.2.2.1 (S.2.2.2.2 (.classLink RX4 23 RX2) (mG wd_153)) (S.2.2.2.2 (.instantiable RX2 12) (mG wd_158)) (S.2.2.2.2 (.initialized RX2) (mG wd_159)) hK hP hD hS hA rfl (fun j hj => by rcases (show j = 0 ∨ j = 1 ∨ j = 2 ∨ j = 3 ∨ j = 4 ∨ j = 5 ∨ j = 6 ∨ j = 7 ∨ j = 8 ∨ j = 9 ∨ j = 10 ∨ j = 11 by omega) with rfl | rfl | rfl | rfl | rfl | rfl | rfl | rfl | rfl | rfl | rfl | rfl <;> rfl) (show 85 + 2 * i + 1 ≤ 205 by omega) (show 3120 + 24 * i + 12 ≤ 4560 by omega) dX4_init_63 (fun qn H hP hD hS => ?_)
        refine lv_dup S.1 S.2.1 dX4_init_66 rfl ?_
        refine w_back (va_runIN (As := []) (rest := [.ref qn, .int x1, .ref qp]) S (i_Parc l D B qn H.size) ⟨va_cnB 0 S.2.2.2.2 gX4_init_X2_init_n39 rfl rfl rfl n2 (S.2.2.2.2 (.initialized RX2) (mG wd_159)) (by decide +kernel) ⟨Nat.le_of_ble_eq_true rfl, Nat.le_of_ble_eq_true rfl⟩, rfl, S.2.2.2.2 (.instanceMethod yX2_init) (mG wd_164)⟩ ⟨PcI_blind, fun U hU hW => ⟨rfl, PcI_at hU hW (w_last hP) hK w_lastD a1 a2 n1 n2⟩⟩ rfl rfl hl.1 rfl (lv_room (Nat.le_of_ble_eq_true rfl)) dX4_init_67 ⟨show 85 + 2 * i + 1 + 1 ≤ 205 by omega, show 3120 + 24 * i + 12 + 12 ≤ 4560 by omega⟩) hP hD hS hA (fun u H locs _ hP hD hS => ?_)
        refine va_astq S.1 S.2.1 hK hP hD hS 1 3 (fxN B h0 qt qe qp (uptoN cs i) ++ (X0 ++ xP B cs ca i)).length 2 rfl rfl (by rw [List.getElem?_append_right (Nat.le_refl _), Nat.sub_self]; rfl) rfl (vin (by omega) (by omega)) dX4_init_70 (fun H locs hP hD hS => ?_)
        have e9 : (((fxN B h0 qt qe qp (uptoN cs i) ++ (X0 ++ xP B cs ca i)) ++ wParc B qn u).set 1 (qp, .inl (B 3, 60, .inr (.inr (.inr (.inr (va_up (uptoN cs i) x1.toNatClampNeg (some qn)))))))) = fxN B h0 qt qe qp (uptoN (va_up cs i qn) (i + 1)) ++ (X0 ++ xP B (va_up cs i qn) (va_up ca i u) (i + 1)) := by
          rw [xP_succ, ← upto_succ, show x1.toNatClampNeg = i by omega, List.append_assoc, List.append_assoc]
          rfl
        rw [e9] at hP hD
        obtain ⟨y1, ey⟩ : ∃ y_9 : Int32, y_9 = x1 + 1 := ⟨_, rfl⟩
        have iy : y1.toInt = x1.toInt + 1 := i_addc ey (by decide) (by omega) (by omega)
        refine lv_iinc (v := y1) (lv' := [(1, .int y1), (0, .ref h0)]) S.1 S.2.1 dX4_init_71 hl (k := 1) rfl (by rw [ey]; rfl) (by decide) rfl (fun ls hl => ?_)
        refine lv_goto (tgt := 52) S.1 S.2.1 dX4_init_74 (by decide) ?_
        refine W.widen (k := 85 + 2 * (i + 1)) (n := 3120 + 24 * (i + 1)) (by omega) (by omega) ?_
        exact ih (i + 1) y1 (va_up cs i qn) (va_up ca i u) _ _ ls (by omega) (by omega) (by omega) hP hD hS (lv_sub hl [1, 0] rfl)
  exact loop1 _ 0 0 _ _ _ _ ls (Nat.lt_succ_self _) (by omega) (by decide) hP hD hS (lv_sub hl [1, 0] rfl)
