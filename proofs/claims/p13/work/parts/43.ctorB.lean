/-! lists of cells in any order, and in any number -/
theorem vd_nd {A : Nat → Prop} {ws : va_W} : va_D A ws ↔ (ws.map Prod.fst).Nodup ∧ ∀ x ∈ ws, A x.1 := by
  constructor
  · intro h
    refine ⟨?_, fun x hx => ?_⟩
    · rw [List.nodup_iff_pairwise_ne, List.pairwise_iff_getElem]
      intro i j hi hj hij hq
      simp only [List.length_map] at hi hj
      simp only [List.getElem_map] at hq
      have := h.1 i j _ _ (List.getElem?_eq_getElem hi) (List.getElem?_eq_getElem hj) hq
      omega
    · obtain ⟨i, hi⟩ := List.getElem?_of_mem hx
      exact h.2 i x hi
  · intro h
    refine ⟨fun i j p q hi hj hpq => ?_, fun k q hk => h.2 q (List.mem_of_getElem? hk)⟩
    have hp := h.1
    rw [List.nodup_iff_pairwise_ne, List.pairwise_iff_getElem] at hp
    obtain ⟨li, ei⟩ := List.getElem?_eq_some_iff.mp hi
    obtain ⟨lj, ej⟩ := List.getElem?_eq_some_iff.mp hj
    rcases Nat.lt_trichotomy i j with hij | hij | hij
    · have h9 := hp i j (by simpa using li) (by simpa using lj) hij
      simp only [List.getElem_map] at h9
      rw [ei, ej] at h9
      exact absurd hpq h9
    · exact hij
    · have h9 := hp j i (by simpa using lj) (by simpa using li) hij
      simp only [List.getElem_map] at h9
      rw [ei, ej] at h9
      exact absurd hpq.symm h9
theorem vd_perm {A : Nat → Prop} {ws ws' : va_W} (h : va_D A ws) (hp : ws'.Perm ws) : va_D A ws' := by
  rw [vd_nd] at h ⊢
  exact ⟨(hp.map Prod.fst).nodup_iff.mpr h.1, fun x hx => h.2 x (hp.mem_iff.mp hx)⟩
theorem vp_perm {D : va_G} {cl : List vw_C} {ws ws' : va_W} {H : Heap} (h : va_P D cl ws H) (hp : ws'.Perm ws) : va_P D cl ws' H := fun k q hk => by
  obtain ⟨i, hi⟩ := List.getElem?_of_mem (hp.mem_iff.mp (List.mem_of_getElem? hk))
  exact h i q hi
theorem fm_cong {α β : Type} {f g : α → List β} {l : List α} (h : ∀ a ∈ l, f a = g a) : l.flatMap f = l.flatMap g := by
  induction l with
  | nil => rfl
  | cons a l ih =>
    rw [List.flatMap_cons, List.flatMap_cons, h a List.mem_cons_self, ih (fun b hb => h b (List.mem_cons_of_mem _ hb))]
abbrev tA : Type := Nat × Nat × Nat × Nat × Nat
def xC (B : Nat → ClassId) (cs : Nat → Nat) (ca : Nat → tA) (n : Nat) : va_W := (List.range n).flatMap (fun j => wCart B (cs j) (ca j))
theorem xC_succ (B : Nat → ClassId) (cs : Nat → Nat) (ca : Nat → tA) (n q : Nat) (u : tA) : xC B (va_up cs n q) (va_up ca n u) (n + 1) = xC B cs ca n ++ wCart B q u := by
  unfold xC
  rw [List.range_succ, List.flatMap_append]
  congr 1
  · apply fm_cong
    intro a ha
    have : a ≠ n := Nat.ne_of_lt (List.mem_range.mp ha)
    simp [va_up, this]
  · simp [va_up]
def xP (B : Nat → ClassId) (cs : Nat → Nat) (ca : Nat → Nat) (n : Nat) : va_W := (List.range n).flatMap (fun j => wParc B (cs j) (ca j))
theorem xP_succ (B : Nat → ClassId) (cs : Nat → Nat) (ca : Nat → Nat) (n q : Nat) (u : Nat) : xP B (va_up cs n q) (va_up ca n u) (n + 1) = xP B cs ca n ++ wParc B q u := by
  unfold xP
  rw [List.range_succ, List.flatMap_append]
  congr 1
  · apply fm_cong
    intro a ha
    have : a ≠ n := Nat.ne_of_lt (List.mem_range.mp ha)
    simp [va_up, this]
  · simp [va_up]
def uptoN (cs : Nat → Nat) (n : Nat) : Nat → Option Nat := fun j => if j < n then some (cs j) else none
theorem upto_succ (cs : Nat → Nat) (n q : Nat) : va_up (uptoN cs n) n (some q) = uptoN (va_up cs n q) (n + 1) := by
  funext j
  unfold uptoN va_up
  by_cases h : j = n
  · subst h
    simp
  · simp only [h, if_false]
    by_cases h2 : j < n
    · simp [h2, show j < n + 1 by omega]
    · simp [h2, show ¬ j < n + 1 by omega]
abbrev tT : Type := Nat × Nat × Nat × Nat × Nat × Nat
abbrev fxT (B : Nat → ClassId) (h : Nat) (a : tT) (g : Nat → Option Nat) (f : Nat → Int32) : va_W := [(h, .inr (3, [.ref a.1, .int 0, .int 0, .ref a.2.1, .ref a.2.2.1, .ref a.2.2.2.1, .ref a.2.2.2.2.1, .ref a.2.2.2.2.2, .int 0])), (a.1, .inl (B 2, 12, .inr (.inr (.inr (.inr g))))), (a.2.1, .inl (B 0, 72, .inl (fun _ => 0))), (a.2.2.1, .inl (B 0, 25, .inl (fun _ => 0))), (a.2.2.2.1, .inl (B 0, 12, .inl f)), (a.2.2.2.2.1, .inl (B 0, 12, .inl (fun _ => 0))), (a.2.2.2.2.2, .inl (B 0, 12, .inl (fun _ => 0)))]
abbrev tU : Type := tT × (Nat → Nat) × (Nat → tA) × (Nat → Int32)
def wTT (B : Nat → ClassId) (h : Nat) (u : tU) : va_W := fxT B h u.1 (uptoN u.2.1 12) u.2.2.2 ++ xC B u.2.1 u.2.2.1 12
set_option maxHeartbeats 4000000 in
set_option maxRecDepth 100000 in
theorem i_TT (l : Launch) (D : va_G) (B : Nat → ClassId) (h0 sz : Nat) : cI l D B yX3_init wsX3_init 2 32 78 637 sz h0 [(h0, .inr (3, [.null, .int 0, .int 0, .null, .null, .null, .null, .null, .int 0]))] (fun u : tU => wTT B h0 u) (fun u : tU => okT u.2.2.2) := by
  refine cI_of (cc := cX3_init) (nL := 2) (by decide) rfl (Nat.le_of_ble_eq_true rfl) ?_
  intro p e s m below meth c A eA S hr hk hin hA hP hD hK a1 a2 n1 n2 hS ls hl
  clear eA
  have hnX3 : ∀ w ∈ wsX30, w ∈ wsX3_init := fun w h => mG (tX3 w h)
  have hnX0 : ∀ w ∈ wsX00, w ∈ wsX3_init := fun w h => mG (tX0 w h)
  refine lv_aload_n S.1 S.2.1 dX3_init_0 rfl (lv_at hl 0 rfl) ?_
  refine W.objInit S.1 S.2.1 S.2.2.2.1 (S.2.2.2.2 (.methodLink RX3 3 objectInit) (mG wd_79)) (S.2.2.2.2 (.instanceMethod objectInit) (mG wd_1)) (S.2.2.2.2 (.code objectInit ⟨#[0xb1]⟩ 1 none) (mG wd_645)) rfl (by rw [S.2.2.1]; exact hl.1) rfl dX3_init_1 (Nat.le_of_ble_eq_true rfl) (Nat.le_of_ble_eq_true rfl) ?_
  refine W.eq (g2 := F0 m 4 ls []) rfl ?_
  refine lv_aload_n S.1 S.2.1 dX3_init_4 rfl (lv_at hl 0 rfl) ?_
  refine lv_bipush (v := 12) S.1 S.2.1 dX3_init_5 (by decide) ?_
  refine w_newQ (N' := 12) S (C := RX0) 2 rfl (by decide +kernel) a1 hK hP hD hS hA (by decide) (by decide) (by decide) (Nat.le_of_ble_eq_true rfl) (Nat.le_of_ble_eq_true rfl) dX3_init_7 (fun q1 H hP hD hS => ?_)
  have hP : va_P D vwCl [(h0, .inr (3, [.null, .int 0, .int 0, .null, .null, .null, .null, .null, .int 0])), (q1, .inl (B 2, 12, .inr (.inr (.inr (.inr (fun _ => none))))))] H := hP
  have hD : va_D A [(h0, .inr (3, [.null, .int 0, .int 0, .null, .null, .null, .null, .null, .int 0])), (q1, .inl (B 2, 12, .inr (.inr (.inr (.inr (fun _ => none))))))] := hD
  refine va_putF (D := D) (ci := 3) (v := .ref q1) (ty := .array (.object "CarrierNet$Cart")) (C := RX3) (T := TX3) (N := 9) S.1 S.2.1 S.2.2.2.2 hnX3 tyX3 tyX3_ok nmX3 S.2.2.2.1 hK hP hD hS 0 rfl rfl 0 (by decide) (S.2.2.2.2 (.fieldLink RX3 11 "CarrierNet$Timetable" "carts" "[LCarrierNet$Cart;") (mG wd_81)) (fun _ h9 => h9) rfl hin rfl (by decide +kernel) rfl rfl (Nat.le_of_ble_eq_true rfl) dX3_init_10 (fun H locs hP hD hS => ?_)
  have hP : va_P D vwCl [(h0, .inr (3, [.ref q1, .int 0, .int 0, .null, .null, .null, .null, .null, .int 0])), (q1, .inl (B 2, 12, .inr (.inr (.inr (.inr (fun _ => none))))))] H := hP
  have hD : va_D A [(h0, .inr (3, [.ref q1, .int 0, .int 0, .null, .null, .null, .null, .null, .int 0])), (q1, .inl (B 2, 12, .inr (.inr (.inr (.inr (fun _ => none))))))] := hD
  refine lv_aload_n S.1 S.2.1 dX3_init_13 rfl (lv_at hl 0 rfl) ?_
  refine lv_iconst (v := 0) S.1 S.2.1 dX3_init_14 (by decide) ?_
  refine va_put (D := D) (ci := 3) (v := .int 0) (ty := .int) (C := RX3) (T := TX3) (N := 9) S.1 S.2.1 S.2.2.2.2 hnX3 tyX3 tyX3_ok nmX3 S.2.2.2.1 hK hP hD hS 0 rfl rfl 1 (by decide) (S.2.2.2.2 (.fieldLink RX3 17 "CarrierNet$Timetable" "cartCount" "I") (mG wd_82)) (fun _ h9 => h9) rfl (by decide +kernel) rfl rfl (Nat.le_of_ble_eq_true rfl) dX3_init_15 (fun H locs hP hD hS => ?_)
  have hP : va_P D vwCl [(h0, .inr (3, [.ref q1, .int 0, .int 0, .null, .null, .null, .null, .null, .int 0])), (q1, .inl (B 2, 12, .inr (.inr (.inr (.inr (fun _ => none))))))] H := hP
  have hD : va_D A [(h0, .inr (3, [.ref q1, .int 0, .int 0, .null, .null, .null, .null, .null, .int 0])), (q1, .inl (B 2, 12, .inr (.inr (.inr (.inr (fun _ => none))))))] := hD
  refine lv_aload_n S.1 S.2.1 dX3_init_18 rfl (lv_at hl 0 rfl) ?_
  refine lv_iconst (v := 0) S.1 S.2.1 dX3_init_19 (by decide) ?_
  refine va_put (D := D) (ci := 3) (v := .int 0) (ty := .int) (C := RX3) (T := TX3) (N := 9) S.1 S.2.1 S.2.2.2.2 hnX3 tyX3 tyX3_ok nmX3 S.2.2.2.1 hK hP hD hS 0 rfl rfl 2 (by decide) (S.2.2.2.2 (.fieldLink RX3 21 "CarrierNet$Timetable" "version" "I") (mG wd_83)) (fun _ h9 => h9) rfl (by decide +kernel) rfl rfl (Nat.le_of_ble_eq_true rfl) dX3_init_20 (fun H locs hP hD hS => ?_)
  have hP : va_P D vwCl [(h0, .inr (3, [.ref q1, .int 0, .int 0, .null, .null, .null, .null, .null, .int 0])), (q1, .inl (B 2, 12, .inr (.inr (.inr (.inr (fun _ => none))))))] H := hP
  have hD : va_D A [(h0, .inr (3, [.ref q1, .int 0, .int 0, .null, .null, .null, .null, .null, .int 0])), (q1, .inl (B 2, 12, .inr (.inr (.inr (.inr (fun _ => none))))))] := hD
  refine lv_aload_n S.1 S.2.1 dX3_init_23 rfl (lv_at hl 0 rfl) ?_
  refine lv_bipush (v := 72) S.1 S.2.1 dX3_init_24 (by decide) ?_
  refine w_newI (N' := 72) S (by decide +kernel) hK hP hD hS hA (by decide) (by decide) (by decide) (Nat.le_of_ble_eq_true rfl) (Nat.le_of_ble_eq_true rfl) dX3_init_26 (fun q2 H hP hD hS => ?_)
  have hP : va_P D vwCl [(h0, .inr (3, [.ref q1, .int 0, .int 0, .null, .null, .null, .null, .null, .int 0])), (q1, .inl (B 2, 12, .inr (.inr (.inr (.inr (fun _ => none)))))), (q2, .inl (B 0, 72, .inl (fun _ => 0)))] H := hP
  have hD : va_D A [(h0, .inr (3, [.ref q1, .int 0, .int 0, .null, .null, .null, .null, .null, .int 0])), (q1, .inl (B 2, 12, .inr (.inr (.inr (.inr (fun _ => none)))))), (q2, .inl (B 0, 72, .inl (fun _ => 0)))] := hD
  refine va_putF (D := D) (ci := 3) (v := .ref q2) (ty := .array .int) (C := RX3) (T := TX3) (N := 9) S.1 S.2.1 S.2.2.2.2 hnX3 tyX3 tyX3_ok nmX3 S.2.2.2.1 hK hP hD hS 0 rfl rfl 3 (by decide) (S.2.2.2.2 (.fieldLink RX3 24 "CarrierNet$Timetable" "halts" "[I") (mG wd_84)) (fun _ h9 => h9) rfl hin rfl (by decide +kernel) rfl rfl (Nat.le_of_ble_eq_true rfl) dX3_init_28 (fun H locs hP hD hS => ?_)
  have hP : va_P D vwCl [(h0, .inr (3, [.ref q1, .int 0, .int 0, .ref q2, .null, .null, .null, .null, .int 0])), (q1, .inl (B 2, 12, .inr (.inr (.inr (.inr (fun _ => none)))))), (q2, .inl (B 0, 72, .inl (fun _ => 0)))] H := hP
  have hD : va_D A [(h0, .inr (3, [.ref q1, .int 0, .int 0, .ref q2, .null, .null, .null, .null, .int 0])), (q1, .inl (B 2, 12, .inr (.inr (.inr (.inr (fun _ => none)))))), (q2, .inl (B 0, 72, .inl (fun _ => 0)))] := hD
  refine lv_aload_n S.1 S.2.1 dX3_init_31 rfl (lv_at hl 0 rfl) ?_
  refine lv_bipush (v := 25) S.1 S.2.1 dX3_init_32 (by decide) ?_
  refine w_newI (N' := 25) S (by decide +kernel) hK hP hD hS hA (by decide) (by decide) (by decide) (Nat.le_of_ble_eq_true rfl) (Nat.le_of_ble_eq_true rfl) dX3_init_34 (fun q3 H hP hD hS => ?_)
  have hP : va_P D vwCl [(h0, .inr (3, [.ref q1, .int 0, .int 0, .ref q2, .null, .null, .null, .null, .int 0])), (q1, .inl (B 2, 12, .inr (.inr (.inr (.inr (fun _ => none)))))), (q2, .inl (B 0, 72, .inl (fun _ => 0))), (q3, .inl (B 0, 25, .inl (fun _ => 0)))] H := hP
  have hD : va_D A [(h0, .inr (3, [.ref q1, .int 0, .int 0, .ref q2, .null, .null, .null, .null, .int 0])), (q1, .inl (B 2, 12, .inr (.inr (.inr (.inr (fun _ => none)))))), (q2, .inl (B 0, 72, .inl (fun _ => 0))), (q3, .inl (B 0, 25, .inl (fun _ => 0)))] := hD
  refine va_putF (D := D) (ci := 3) (v := .ref q3) (ty := .array .int) (C := RX3) (T := TX3) (N := 9) S.1 S.2.1 S.2.2.2.2 hnX3 tyX3 tyX3_ok nmX3 S.2.2.2.1 hK hP hD hS 0 rfl rfl 4 (by decide) (S.2.2.2.2 (.fieldLink RX3 28 "CarrierNet$Timetable" "firsts" "[I") (mG wd_85)) (fun _ h9 => h9) rfl hin rfl (by decide +kernel) rfl rfl (Nat.le_of_ble_eq_true rfl) dX3_init_36 (fun H locs hP hD hS => ?_)
  have hP : va_P D vwCl [(h0, .inr (3, [.ref q1, .int 0, .int 0, .ref q2, .ref q3, .null, .null, .null, .int 0])), (q1, .inl (B 2, 12, .inr (.inr (.inr (.inr (fun _ => none)))))), (q2, .inl (B 0, 72, .inl (fun _ => 0))), (q3, .inl (B 0, 25, .inl (fun _ => 0)))] H := hP
  have hD : va_D A [(h0, .inr (3, [.ref q1, .int 0, .int 0, .ref q2, .ref q3, .null, .null, .null, .int 0])), (q1, .inl (B 2, 12, .inr (.inr (.inr (.inr (fun _ => none)))))), (q2, .inl (B 0, 72, .inl (fun _ => 0))), (q3, .inl (B 0, 25, .inl (fun _ => 0)))] := hD
  refine lv_aload_n S.1 S.2.1 dX3_init_39 rfl (lv_at hl 0 rfl) ?_
  refine lv_bipush (v := 12) S.1 S.2.1 dX3_init_40 (by decide) ?_
  refine w_newI (N' := 12) S (by decide +kernel) hK hP hD hS hA (by decide) (by decide) (by decide) (Nat.le_of_ble_eq_true rfl) (Nat.le_of_ble_eq_true rfl) dX3_init_42 (fun q4 H hP hD hS => ?_)
  have hP : va_P D vwCl [(h0, .inr (3, [.ref q1, .int 0, .int 0, .ref q2, .ref q3, .null, .null, .null, .int 0])), (q1, .inl (B 2, 12, .inr (.inr (.inr (.inr (fun _ => none)))))), (q2, .inl (B 0, 72, .inl (fun _ => 0))), (q3, .inl (B 0, 25, .inl (fun _ => 0))), (q4, .inl (B 0, 12, .inl (fun _ => 0)))] H := hP
  have hD : va_D A [(h0, .inr (3, [.ref q1, .int 0, .int 0, .ref q2, .ref q3, .null, .null, .null, .int 0])), (q1, .inl (B 2, 12, .inr (.inr (.inr (.inr (fun _ => none)))))), (q2, .inl (B 0, 72, .inl (fun _ => 0))), (q3, .inl (B 0, 25, .inl (fun _ => 0))), (q4, .inl (B 0, 12, .inl (fun _ => 0)))] := hD
  refine va_putF (D := D) (ci := 3) (v := .ref q4) (ty := .array .int) (C := RX3) (T := TX3) (N := 9) S.1 S.2.1 S.2.2.2.2 hnX3 tyX3 tyX3_ok nmX3 S.2.2.2.1 hK hP hD hS 0 rfl rfl 5 (by decide) (S.2.2.2.2 (.fieldLink RX3 31 "CarrierNet$Timetable" "links" "[I") (mG wd_86)) (fun _ h9 => h9) rfl hin rfl (by decide +kernel) rfl rfl (Nat.le_of_ble_eq_true rfl) dX3_init_44 (fun H locs hP hD hS => ?_)
  have hP : va_P D vwCl [(h0, .inr (3, [.ref q1, .int 0, .int 0, .ref q2, .ref q3, .ref q4, .null, .null, .int 0])), (q1, .inl (B 2, 12, .inr (.inr (.inr (.inr (fun _ => none)))))), (q2, .inl (B 0, 72, .inl (fun _ => 0))), (q3, .inl (B 0, 25, .inl (fun _ => 0))), (q4, .inl (B 0, 12, .inl (fun _ => 0)))] H := hP
  have hD : va_D A [(h0, .inr (3, [.ref q1, .int 0, .int 0, .ref q2, .ref q3, .ref q4, .null, .null, .int 0])), (q1, .inl (B 2, 12, .inr (.inr (.inr (.inr (fun _ => none)))))), (q2, .inl (B 0, 72, .inl (fun _ => 0))), (q3, .inl (B 0, 25, .inl (fun _ => 0))), (q4, .inl (B 0, 12, .inl (fun _ => 0)))] := hD
  refine lv_aload_n S.1 S.2.1 dX3_init_47 rfl (lv_at hl 0 rfl) ?_
  refine lv_bipush (v := 12) S.1 S.2.1 dX3_init_48 (by decide) ?_
  refine w_newI (N' := 12) S (by decide +kernel) hK hP hD hS hA (by decide) (by decide) (by decide) (Nat.le_of_ble_eq_true rfl) (Nat.le_of_ble_eq_true rfl) dX3_init_50 (fun q5 H hP hD hS => ?_)
  have hP : va_P D vwCl [(h0, .inr (3, [.ref q1, .int 0, .int 0, .ref q2, .ref q3, .ref q4, .null, .null, .int 0])), (q1, .inl (B 2, 12, .inr (.inr (.inr (.inr (fun _ => none)))))), (q2, .inl (B 0, 72, .inl (fun _ => 0))), (q3, .inl (B 0, 25, .inl (fun _ => 0))), (q4, .inl (B 0, 12, .inl (fun _ => 0))), (q5, .inl (B 0, 12, .inl (fun _ => 0)))] H := hP
  have hD : va_D A [(h0, .inr (3, [.ref q1, .int 0, .int 0, .ref q2, .ref q3, .ref q4, .null, .null, .int 0])), (q1, .inl (B 2, 12, .inr (.inr (.inr (.inr (fun _ => none)))))), (q2, .inl (B 0, 72, .inl (fun _ => 0))), (q3, .inl (B 0, 25, .inl (fun _ => 0))), (q4, .inl (B 0, 12, .inl (fun _ => 0))), (q5, .inl (B 0, 12, .inl (fun _ => 0)))] := hD
  refine va_putF (D := D) (ci := 3) (v := .ref q5) (ty := .array .int) (C := RX3) (T := TX3) (N := 9) S.1 S.2.1 S.2.2.2.2 hnX3 tyX3 tyX3_ok nmX3 S.2.2.2.1 hK hP hD hS 0 rfl rfl 6 (by decide) (S.2.2.2.2 (.fieldLink RX3 34 "CarrierNet$Timetable" "riding" "[I") (mG wd_87)) (fun _ h9 => h9) rfl hin rfl (by decide +kernel) rfl rfl (Nat.le_of_ble_eq_true rfl) dX3_init_52 (fun H locs hP hD hS => ?_)
  have hP : va_P D vwCl [(h0, .inr (3, [.ref q1, .int 0, .int 0, .ref q2, .ref q3, .ref q4, .ref q5, .null, .int 0])), (q1, .inl (B 2, 12, .inr (.inr (.inr (.inr (fun _ => none)))))), (q2, .inl (B 0, 72, .inl (fun _ => 0))), (q3, .inl (B 0, 25, .inl (fun _ => 0))), (q4, .inl (B 0, 12, .inl (fun _ => 0))), (q5, .inl (B 0, 12, .inl (fun _ => 0)))] H := hP
  have hD : va_D A [(h0, .inr (3, [.ref q1, .int 0, .int 0, .ref q2, .ref q3, .ref q4, .ref q5, .null, .int 0])), (q1, .inl (B 2, 12, .inr (.inr (.inr (.inr (fun _ => none)))))), (q2, .inl (B 0, 72, .inl (fun _ => 0))), (q3, .inl (B 0, 25, .inl (fun _ => 0))), (q4, .inl (B 0, 12, .inl (fun _ => 0))), (q5, .inl (B 0, 12, .inl (fun _ => 0)))] := hD
  refine lv_aload_n S.1 S.2.1 dX3_init_55 rfl (lv_at hl 0 rfl) ?_
  refine lv_bipush (v := 12) S.1 S.2.1 dX3_init_56 (by decide) ?_
  refine w_newI (N' := 12) S (by decide +kernel) hK hP hD hS hA (by decide) (by decide) (by decide) (Nat.le_of_ble_eq_true rfl) (Nat.le_of_ble_eq_true rfl) dX3_init_58 (fun q6 H hP hD hS => ?_)
  have hP : va_P D vwCl [(h0, .inr (3, [.ref q1, .int 0, .int 0, .ref q2, .ref q3, .ref q4, .ref q5, .null, .int 0])), (q1, .inl (B 2, 12, .inr (.inr (.inr (.inr (fun _ => none)))))), (q2, .inl (B 0, 72, .inl (fun _ => 0))), (q3, .inl (B 0, 25, .inl (fun _ => 0))), (q4, .inl (B 0, 12, .inl (fun _ => 0))), (q5, .inl (B 0, 12, .inl (fun _ => 0))), (q6, .inl (B 0, 12, .inl (fun _ => 0)))] H := hP
  have hD : va_D A [(h0, .inr (3, [.ref q1, .int 0, .int 0, .ref q2, .ref q3, .ref q4, .ref q5, .null, .int 0])), (q1, .inl (B 2, 12, .inr (.inr (.inr (.inr (fun _ => none)))))), (q2, .inl (B 0, 72, .inl (fun _ => 0))), (q3, .inl (B 0, 25, .inl (fun _ => 0))), (q4, .inl (B 0, 12, .inl (fun _ => 0))), (q5, .inl (B 0, 12, .inl (fun _ => 0))), (q6, .inl (B 0, 12, .inl (fun _ => 0)))] := hD
  refine va_putF (D := D) (ci := 3) (v := .ref q6) (ty := .array .int) (C := RX3) (T := TX3) (N := 9) S.1 S.2.1 S.2.2.2.2 hnX3 tyX3 tyX3_ok nmX3 S.2.2.2.1 hK hP hD hS 0 rfl rfl 7 (by decide) (S.2.2.2.2 (.fieldLink RX3 37 "CarrierNet$Timetable" "latestRow" "[I") (mG wd_88)) (fun _ h9 => h9) rfl hin rfl (by decide +kernel) rfl rfl (Nat.le_of_ble_eq_true rfl) dX3_init_60 (fun H locs hP hD hS => ?_)
  have hP : va_P D vwCl [(h0, .inr (3, [.ref q1, .int 0, .int 0, .ref q2, .ref q3, .ref q4, .ref q5, .ref q6, .int 0])), (q1, .inl (B 2, 12, .inr (.inr (.inr (.inr (fun _ => none)))))), (q2, .inl (B 0, 72, .inl (fun _ => 0))), (q3, .inl (B 0, 25, .inl (fun _ => 0))), (q4, .inl (B 0, 12, .inl (fun _ => 0))), (q5, .inl (B 0, 12, .inl (fun _ => 0))), (q6, .inl (B 0, 12, .inl (fun _ => 0)))] H := hP
  have hD : va_D A [(h0, .inr (3, [.ref q1, .int 0, .int 0, .ref q2, .ref q3, .ref q4, .ref q5, .ref q6, .int 0])), (q1, .inl (B 2, 12, .inr (.inr (.inr (.inr (fun _ => none)))))), (q2, .inl (B 0, 72, .inl (fun _ => 0))), (q3, .inl (B 0, 25, .inl (fun _ => 0))), (q4, .inl (B 0, 12, .inl (fun _ => 0))), (q5, .inl (B 0, 12, .inl (fun _ => 0))), (q6, .inl (B 0, 12, .inl (fun _ => 0)))] := hD
  refine lv_aload_n S.1 S.2.1 dX3_init_63 rfl (lv_at hl 0 rfl) ?_
  refine lv_iconst (v := 0) S.1 S.2.1 dX3_init_64 (by decide) ?_
  refine va_put (D := D) (ci := 3) (v := .int 0) (ty := .int) (C := RX3) (T := TX3) (N := 9) S.1 S.2.1 S.2.2.2.2 hnX3 tyX3 tyX3_ok nmX3 S.2.2.2.1 hK hP hD hS 0 rfl rfl 8 (by decide) (S.2.2.2.2 (.fieldLink RX3 40 "CarrierNet$Timetable" "reached" "I") (mG wd_89)) (fun _ h9 => h9) rfl (by decide +kernel) rfl rfl (Nat.le_of_ble_eq_true rfl) dX3_init_65 (fun H locs hP hD hS => ?_)
  have hP : va_P D vwCl [(h0, .inr (3, [.ref q1, .int 0, .int 0, .ref q2, .ref q3, .ref q4, .ref q5, .ref q6, .int 0])), (q1, .inl (B 2, 12, .inr (.inr (.inr (.inr (fun _ => none)))))), (q2, .inl (B 0, 72, .inl (fun _ => 0))), (q3, .inl (B 0, 25, .inl (fun _ => 0))), (q4, .inl (B 0, 12, .inl (fun _ => 0))), (q5, .inl (B 0, 12, .inl (fun _ => 0))), (q6, .inl (B 0, 12, .inl (fun _ => 0)))] H := hP
  have hD : va_D A [(h0, .inr (3, [.ref q1, .int 0, .int 0, .ref q2, .ref q3, .ref q4, .ref q5, .ref q6, .int 0])), (q1, .inl (B 2, 12, .inr (.inr (.inr (.inr (fun _ => none)))))), (q2, .inl (B 0, 72, .inl (fun _ => 0))), (q3, .inl (B 0, 25, .inl (fun _ => 0))), (q4, .inl (B 0, 12, .inl (fun _ => 0))), (q5, .inl (B 0, 12, .inl (fun _ => 0))), (q6, .inl (B 0, 12, .inl (fun _ => 0)))] := hD
  obtain ⟨a, ea⟩ : ∃ z_9 : tT, z_9 = (q1, q2, q3, q4, q5, q6) := ⟨_, rfl⟩
  have l12 : (12 : Int32).toInt = 12 := by decide
  have l0 : (0 : Int32).toInt = 0 := by decide
  have hP : va_P D vwCl (fxT B h0 a (uptoN (fun _ => 0) 0) (fun _ => 0) ++ xC B (fun _ => 0) (fun _ => (0, 0, 0, 0, 0)) 0) H := by rw [ea]; exact hP
  have hD : va_D A (fxT B h0 a (uptoN (fun _ => 0) 0) (fun _ => 0) ++ xC B (fun _ => 0) (fun _ => (0, 0, 0, 0, 0)) 0) := by rw [ea]; exact hD
  refine W.widen (k := 6 + 6 * 0) (n := 145 + 41 * 0) (Nat.le_of_ble_eq_true rfl) (Nat.le_of_ble_eq_true rfl) ?_
  refine lv_iconst (v := 0) S.1 S.2.1 dX3_init_68 (by decide) ?_
  refine lv_istore_n (lv' := [(1, .int 0), (0, .ref h0)]) S.1 S.2.1 dX3_init_69 rfl hl (by decide) rfl (fun ls hl => ?_)
  have loop2 : ∀ (n : Nat) (x1 : Int32) (f : Nat → Int32) (cs : Nat → Nat) (ca : Nat → tA) (H : Heap) (locs : List Loc) (ls : Array Slot), (12 - x1.toInt).toNat < n → (0 ≤ x1.toInt ∧ x1.toInt ≤ 12) → oT f x1.toInt → va_P D vwCl (fxT B h0 a (uptoN cs 12) f ++ xC B cs ca 12) H → va_D A (fxT B h0 a (uptoN cs 12) f ++ xC B cs ca 12) → va_S A s.heap H locs → lv_has ls 2 [(0, .ref h0), (1, .int x1)] → W p l e { frames := 2, cells := 78, slots := 637, locals := 32 } s m [Value.ref h0].toArray below meth c H locs (78) (637) (MQ below (QI D A (fun u : tU => wTT B h0 u) (fun u : tU => okT u.2.2.2)) [Value.ref h0].toArray s 78 637 A) (F0 m 97 ls []) := by
    intro n
    induction n with
    | zero => intro x1 f cs ca H locs ls hm; exact absurd hm (Nat.not_lt_zero _)
    | succ n ih =>
      intro x1 f cs ca H locs ls hm hb hq hP hD hS hl
      refine lv_iload_n S.1 S.2.1 dX3_init_97 rfl (lv_at hl 1 rfl) ?_
      refine lv_bipush (v := 12) S.1 S.2.1 dX3_init_98 (by decide) ?_
      refine lv_icmp_ge (tgt := 118) S.1 S.2.1 dX3_init_100 (by decide) (fun c1 => ?_) (fun c1 => ?_)
      · exact cI_ret S hr hk hS (a, cs, ca, f) (oT_end hq (by have j1 := t_le c1; omega)) hP hD dX3_init_118
      · have j1 := t_nle c1
        refine lv_aload_n S.1 S.2.1 dX3_init_103 rfl (lv_at hl 0 rfl) ?_
        refine va_get (D := D) (ci := 3) (v := .ref a.2.2.2.1) (C := RX3) (T := TX3) (N := 9) S.1 S.2.1 S.2.2.2.2 hnX3 S.2.2.2.1 hK hP 0 rfl rfl 5 (by decide) (S.2.2.2.2 (.fieldLink RX3 31 "CarrierNet$Timetable" "links" "[I") (mG wd_86)) (fun _ h9 => h9) rfl dX3_init_104 ?_
        refine lv_iload_n S.1 S.2.1 dX3_init_107 rfl (lv_at hl 1 rfl) ?_
        refine lv_iconst (v := 1) S.1 S.2.1 dX3_init_108 (by decide) ?_
        refine lv_iload_n S.1 S.2.1 dX3_init_109 rfl (lv_at hl 1 rfl) ?_
        refine lv_ishl S.1 S.2.1 dX3_init_110 ?_
        refine lv_topi (fun v1 e1 => ?_)
        refine va_iast S.1 S.2.1 hK hP hD hS 4 0 rfl rfl (vin (by omega) (by omega)) dX3_init_111 (fun H locs hP hD hS => ?_)
        obtain ⟨y1, ey⟩ : ∃ y_9 : Int32, y_9 = x1 + 1 := ⟨_, rfl⟩
        have iy : y1.toInt = x1.toInt + 1 := i_addc ey (by decide) (by omega) (by omega)
        refine lv_iinc (v := y1) (lv' := [(1, .int y1), (0, .ref h0)]) S.1 S.2.1 dX3_init_112 hl (k := 1) rfl (by rw [ey]; rfl) (by decide) rfl (fun ls hl => ?_)
        refine lv_goto (tgt := 97) S.1 S.2.1 dX3_init_115 (by decide) ?_
        exact ih y1 (upd f x1.toNatClampNeg v1) cs ca _ _ ls (by omega) (by omega) (by rw [iy]; exact oT_w hq (by omega) e1) hP hD hS (lv_sub hl [1, 0] rfl)
  have loop1 : ∀ (n i : Nat) (x1 : Int32) (cs : Nat → Nat) (ca : Nat → tA) (H : Heap) (locs : List Loc) (ls : Array Slot), 12 - i < n → i ≤ 12 → x1.toInt = (i : Int) → va_P D vwCl (fxT B h0 a (uptoN cs i) (fun _ => 0) ++ xC B cs ca i) H → va_D A (fxT B h0 a (uptoN cs i) (fun _ => 0) ++ xC B cs ca i) → va_S A s.heap H locs → lv_has ls 2 [(0, .ref h0), (1, .int x1)] → W p l e { frames := 2, cells := 78, slots := 637, locals := 32 } s m [Value.ref h0].toArray below meth c H locs (6 + 6 * i) (145 + 41 * i) (MQ below (QI D A (fun u : tU => wTT B h0 u) (fun u : tU => okT u.2.2.2)) [Value.ref h0].toArray s 78 637 A) (F0 m 70 ls []) := by
    intro n
    induction n with
    | zero => intro i x1 cs ca H locs ls hm; exact absurd hm (Nat.not_lt_zero _)
    | succ n ih =>
      intro i x1 cs ca H locs ls hm hi hx hP hD hS hl
      refine lv_iload_n S.1 S.2.1 dX3_init_70 rfl (lv_at hl 1 rfl) ?_
      refine lv_bipush (v := 12) S.1 S.2.1 dX3_init_71 (by decide) ?_
      refine lv_icmp_ge (tgt := 95) S.1 S.2.1 dX3_init_73 (by decide) (fun c1 => ?_) (fun c1 => ?_)
      · have j1 := t_le c1
        have hi12 : i = 12 := by omega
        subst hi12
        refine W.widen (k := 78) (n := 637) (Nat.le_of_ble_eq_true rfl) (Nat.le_of_ble_eq_true rfl) ?_
        refine lv_iconst (v := 0) S.1 S.2.1 dX3_init_95 (by decide) ?_
        refine lv_istore_n (lv' := [(1, .int 0), (0, .ref h0)]) S.1 S.2.1 dX3_init_96 rfl hl (by decide) rfl (fun ls hl => ?_)
        exact loop2 _ 0 (fun _ => 0) cs ca _ _ ls (Nat.lt_succ_self _) (by omega) (by rw [show (0 : Int32).toInt = 0 by decide]; exact oT_0) hP hD hS (lv_sub hl [1, 0] rfl)
      · have j1 := t_nle c1
        have hcl := cl_eq (j := x1) (by omega)
        refine lv_aload_n S.1 S.2.1 dX3_init_76 rfl (lv_at hl 0 rfl) ?_
        refine va_get (D := D) (ci := 3) (v := .ref a.1) (C := RX3) (T := TX3) (N := 9) S.1 S.2.1 S.2.2.2.2 hnX3 S.2.2.2.1 hK hP 0 rfl rfl 0 (by decide) (S.2.2.2.2 (.fieldLink RX3 11 "CarrierNet$Timetable" "carts" "[LCarrierNet$Cart;") (mG wd_81)) (fun _ h9 => h9) rfl dX3_init_77 ?_
        refine lv_iload_n S.1 S.2.1 dX3_init_80 rfl (lv_at hl 1 rfl) ?_
        refine va_new (ci := 0) (fs := [.int 0, .int 0, .int 0, .int 0, .int 0, .int 0, .null, .null, .null, .null, .null]) (C := RX0) (T := TX0) (N := 11) S.1 S.2.1 S.2.2.2.2 hnX0 tyX0 tyX0_ok S.2.2.2.1 (S.2.2.2.2 (.classLink RX3 9 RX0) (mG wd_80)) (S.2.2.2.2 (.instantiable RX0 11) (mG wd_90)) (S.2.2.2.2 (.initialized RX0) (mG wd_19)) hK hP hD hS hA rfl (fun j hj => by rcases (show j = 0 ∨ j = 1 ∨ j = 2 ∨ j = 3 ∨ j = 4 ∨ j = 5 ∨ j = 6 ∨ j = 7 ∨ j = 8 ∨ j = 9 ∨ j = 10 by omega) with rfl | rfl | rfl | rfl | rfl | rfl | rfl | rfl | rfl | rfl | rfl <;> rfl) (show 6 + 6 * i + 1 ≤ 78 by omega) (show 145 + 41 * i + 11 ≤ 637 by omega) dX3_init_81 (fun qn H hP hD hS => ?_)
        refine lv_dup S.1 S.2.1 dX3_init_84 rfl ?_
        refine w_back (va_runIN (As := []) (rest := [.ref qn, .int x1, .ref a.1]) S (i_Cart l D B qn H.size) ⟨va_cnB 0 S.2.2.2.2 gX3_init_X0_init_n43 rfl rfl rfl n1 (S.2.2.2.2 (.initialized RX0) (mG wd_19)) (by decide +kernel) ⟨Nat.le_of_ble_eq_true rfl, Nat.le_of_ble_eq_true rfl⟩, rfl, S.2.2.2.2 (.instanceMethod yX0_init) (mG wd_91)⟩ ⟨PcI_blind, fun U hU hW => ⟨rfl, PcI_at hU hW (w_last hP) hK w_lastD a1 a2 n1 n2⟩⟩ rfl rfl hl.1 rfl (lv_room (Nat.le_of_ble_eq_true rfl)) dX3_init_85 ⟨show 6 + 6 * i + 1 + 5 ≤ 78 by omega, show 145 + 41 * i + 11 + 30 ≤ 637 by omega⟩) hP hD hS hA (fun u H locs _ hP hD hS => ?_)
        refine va_astq S.1 S.2.1 hK hP hD hS 1 2 (fxT B h0 a (uptoN cs i) (fun _ => 0) ++ xC B cs ca i).length 0 rfl rfl (by rw [List.getElem?_append_right (Nat.le_refl _), Nat.sub_self]; rfl) rfl (vin (by omega) (by omega)) dX3_init_88 (fun H locs hP hD hS => ?_)
        have e9 : (((fxT B h0 a (uptoN cs i) (fun _ => 0) ++ xC B cs ca i) ++ wCart B qn u).set 1 (a.1, .inl (B 2, 12, .inr (.inr (.inr (.inr (va_up (uptoN cs i) x1.toNatClampNeg (some qn)))))))) = fxT B h0 a (uptoN (va_up cs i qn) (i + 1)) (fun _ => 0) ++ xC B (va_up cs i qn) (va_up ca i u) (i + 1) := by
          rw [xC_succ, ← upto_succ, show x1.toNatClampNeg = i by omega, List.append_assoc]
          rfl
        rw [e9] at hP hD
        obtain ⟨y1, ey⟩ : ∃ y_9 : Int32, y_9 = x1 + 1 := ⟨_, rfl⟩
        have iy : y1.toInt = x1.toInt + 1 := i_addc ey (by decide) (by omega) (by omega)
        refine lv_iinc (v := y1) (lv' := [(1, .int y1), (0, .ref h0)]) S.1 S.2.1 dX3_init_89 hl (k := 1) rfl (by rw [ey]; rfl) (by decide) rfl (fun ls hl => ?_)
        refine lv_goto (tgt := 70) S.1 S.2.1 dX3_init_92 (by decide) ?_
        refine W.widen (k := 6 + 6 * (i + 1)) (n := 145 + 41 * (i + 1)) (by omega) (by omega) ?_
        exact ih (i + 1) y1 (va_up cs i qn) (va_up ca i u) _ _ ls (by omega) (by omega) (by omega) hP hD hS (lv_sub hl [1, 0] rfl)
  exact loop1 _ 0 0 _ _ _ _ ls (Nat.lt_succ_self _) (by omega) (by decide) hP hD hS (lv_sub hl [1, 0] rfl)
