/-! the law from its entry -/
theorem ap_Pl {D : va_G} {cl : List vw_C} {a b : va_W} {H : Heap} (h : va_P D cl (a ++ b) H) : va_P D cl a H := fun k q hk => h k q (by rw [List.getElem?_append_left (List.getElem?_eq_some_iff.mp hk).1]; exact hk)
theorem ap_Pr {D : va_G} {cl : List vw_C} {a b : va_W} {H : Heap} (h : va_P D cl (a ++ b) H) : va_P D cl b H := fun k q hk => h (a.length + k) q (by rw [List.getElem?_append_right (Nat.le_add_right _ _), Nat.add_sub_cancel_left]; exact hk)
theorem ap_Dl {A : Nat → Prop} {a b : va_W} (h : va_D A (a ++ b)) : va_D A a := by
  have h1 := vd_nd.mp h
  refine vd_nd.mpr ⟨?_, fun q hq => h1.2 q (List.mem_append_left _ hq)⟩
  have h2 := h1.1
  rw [List.map_append] at h2
  exact (List.nodup_append.mp h2).1
theorem ap_Dr {A : Nat → Prop} {a b : va_W} (h : va_D A (a ++ b)) : va_D A b := by
  have h1 := vd_nd.mp h
  refine vd_nd.mpr ⟨?_, fun q hq => h1.2 q (List.mem_append_right _ hq)⟩
  have h2 := h1.1
  rw [List.map_append] at h2
  exact (List.nodup_append.mp h2).2.1
theorem ap_ne {A : Nat → Prop} {a b : va_W} (h : va_D A (a ++ b)) : ∀ x ∈ a.map Prod.fst, ∀ y ∈ b.map Prod.fst, x ≠ y := by
  have h2 := (vd_nd.mp h).1
  rw [List.map_append] at h2
  exact (List.nodup_append.mp h2).2.2
theorem AW_C {B : Nat → ClassId} {h : Nat} {u : tN} {q : Nat} (hq : AW cntC (LN h u) q) : q ∈ (wNet B h u).map Prod.fst := by
  obtain ⟨k, i, hi, rfl⟩ := hq
  rw [wNet_keys, List.map_map]
  exact List.mem_map.mpr ⟨(k, i), keysC_ok k i hi, rfl⟩
theorem AW_M {B : Nat → ClassId} {h : Nat} {u : (Nat → Nat) × (Nat → Int32)} {q : Nat} (hq : AW cntM (LM h u) q) : q ∈ (wMod B h u).map Prod.fst := by
  obtain ⟨k, i, hi, rfl⟩ := hq
  rw [wMod_keys, List.map_map]
  exact List.mem_map.mpr ⟨(k, i), keysM_ok k i hi, rfl⟩
theorem arr_of {args : Array Value} {s : State} {ty : FieldType} (h : (Cond.arrayClass ty).before args s = true) : ∃ cA : ClassId, ArrOfT s cA ty ∧ s.vm.findClass ("[" ++ ty.toString) = some cA := by
  obtain ⟨cA, k, comp, h1, h2, h3⟩ := Cond.arrayClass_spec h
  exact ⟨cA, fun n z => ⟨fun q hq => (by cases hq), k, h2, comp, h3⟩, h1⟩
theorem arrO_of {args : Array Value} {s : State} {C : String} (h : (Cond.arrayOver (.object C)).before args s = true) : ∃ cA : ClassId, ArrOfT s cA (.object C) ∧ va_RA s cA (.object C) := by
  obtain ⟨comp, cA, k, h1, h2, h3, h4, h5⟩ := Cond.arrayOver_spec h
  exact ⟨cA, fun n z => ⟨fun q hq => (by cases hq), k, h3, comp, h4⟩, k, comp, h3, h4, h1, h5⟩
theorem str_of {args : Array Value} {s : State} {own tx : String} {k : Nat} (h1 : (Cond.stringRef own k tx).before args s = true) (h2 : (Cond.exactly (.string own k) "java/lang/String").before args s = true) : ∃ a, vk_R own k tx a s := by
  obtain ⟨a, c, cA, kA, q1, -⟩ := Cond.exactly_spec (args := args) (first := s) (o := none) (s := s) (idx := []) (t := .string own k) (cls := "java/lang/String") h2
  exact ⟨a, vk_R.of h1 q1⟩
def tMore : List Cond := [Cond.laysStatic Bundle.tN "UNASSIGNED_STACK" Bundle.steD, Cond.laysStatic Bundle.tN "SUPPRESSED_SENTINEL" Bundle.listD, Cond.initialized Bundle.tN, Cond.castable sNSE sNSE, Cond.stringRef RX4 133 "no such parcel", Cond.stringRef RX4 162 "nothing is told of that", Cond.arrayOver (.object RX0), Cond.arrayOver (.object RX2), Cond.methodLinkNest RX3 43 yX0_init "CarrierNet", Cond.methodLinkNest RX4 39 yX2_init "CarrierNet", Cond.methodLinkNest RX0 46 yX4_isIn "CarrierNet"]
set_option maxRecDepth 20000 in
theorem t_more : ∀ w ∈ tMore, w ∈ lw_tbl := List.forall_mem_cons.mpr ⟨tb3 (List.mem_of_getElem? (i := 117) rfl), List.forall_mem_cons.mpr ⟨tb3 (List.mem_of_getElem? (i := 119) rfl), List.forall_mem_cons.mpr ⟨tb1 (List.mem_of_getElem? (i := 9) rfl), List.forall_mem_cons.mpr ⟨tb3 (List.mem_of_getElem? (i := 92) rfl), List.forall_mem_cons.mpr ⟨tb3 (List.mem_of_getElem? (i := 129) rfl), List.forall_mem_cons.mpr ⟨tb3 (List.mem_of_getElem? (i := 156) rfl), List.forall_mem_cons.mpr ⟨tb1 (List.mem_of_getElem? (i := 29) rfl), List.forall_mem_cons.mpr ⟨tb1 (List.mem_of_getElem? (i := 158) rfl), List.forall_mem_cons.mpr ⟨tb1 (List.mem_of_getElem? (i := 31) rfl), List.forall_mem_cons.mpr ⟨tb1 (List.mem_of_getElem? (i := 160) rfl), List.forall_mem_cons.mpr ⟨tb2 (List.mem_of_getElem? (i := 53) rfl), fun _ h => absurd h List.not_mem_nil⟩⟩⟩⟩⟩⟩⟩⟩⟩⟩⟩
def ws_At (D : va_G) (B : Nat → ClassId) (sa1 sa2 : Nat) (s : State) : Prop := va_K D vwCl (tyW B) s ∧ va_AO RX0 s ∧ va_AO RX2 s ∧ va_Nw (.methodLinkNest RX3 43 yX0_init "CarrierNet") s ∧ va_Nw (.methodLinkNest RX4 39 yX2_init "CarrierNet") s ∧ va_Nw (.methodLinkNest RX0 46 yX4_isIn "CarrierNet") s ∧ kT (fun q : Nat => s.heap.size ≤ q) sa1 sa2 s ∧ va_Nw (.castable sNSE sNSE) s
set_option maxHeartbeats 4000000 in
set_option maxRecDepth 100000 in
theorem ws_known {p : Program} {s : State} {m : MethodId} {meth : Method} {c : Code} {b L : Nat} {xs : Nat → Int32} (C0 : lw_At p s m meth c b L xs) : ∃ (D : va_G) (B : Nat → ClassId) (sa1 sa2 : Nat), ws_At D B sa1 sa2 s := by
  obtain ⟨hx, hb, hr, hml, hown, hts, hX, hbl, hlocks, hgv⟩ := id C0
  have S : CallFix p m c cL_law 7 s #[Value.ref b] wsL_law RL := ⟨hx, hb, hml, hown, fun w h => hts w (wsL_law_in w h)⟩
  have htm : ∀ w ∈ tMore, w.before #[Value.ref b] s = true := fun w hw => hts w (t_more w hw)
  have hfl := flat_of_before _ hgv
  have hA : ∀ q : Nat, s.heap.size ≤ q → (fun q : Nat => s.heap.size ≤ q) q := fun _ h => h
  have hnA : ∀ a : Nat, a < s.heap.size → ¬ (fun q : Nat => s.heap.size ≤ q) a := fun a h => Nat.not_le.mpr h
  obtain ⟨c0, iS0, hKn0⟩ := u_known (C := RX0) (T := TX0) (N := 11) (n := 11) S.2.2.2.2 inlX0 (S.2.2.2.2 (.instantiable RX0 11) (mG wd_90))
  obtain ⟨c1, iS1, hKn1⟩ := u_known (C := RX1) (T := TX1) (N := 11) (n := 11) S.2.2.2.2 inlX1 (S.2.2.2.2 (.instantiable RX1 11) (mG wd_151))
  obtain ⟨c2, iS2, hKn2⟩ := u_known (C := RX2) (T := TX2) (N := 12) (n := 12) S.2.2.2.2 inlX2 (S.2.2.2.2 (.instantiable RX2 12) (mG wd_158))
  obtain ⟨c3, iS3, hKn3⟩ := u_known (C := RX3) (T := TX3) (N := 9) (n := 9) S.2.2.2.2 inlX3 (S.2.2.2.2 (.instantiable RX3 9) (mG wd_148))
  obtain ⟨c4, iS4, hKn4⟩ := u_known (C := RX4) (T := TX4) (N := 6) (n := 6) S.2.2.2.2 inlX4 (S.2.2.2.2 (.instantiable RX4 6) (mG wd_394))
  obtain ⟨c5, iS5, hKn5⟩ := u_known (C := RX5) (T := TX5) (N := 38) (n := 38) S.2.2.2.2 inlX5 (S.2.2.2.2 (.instantiable RX5 38) (mG wd_396))
  obtain ⟨dC, dI, hKc⟩ : ∃ (dC : Nat → ClassId) (dI : Nat → Nat → Nat), ∀ (k : Nat) (q : vw_C), vwCl[k]? = some q → u_Kn s q.1 q.2.1 q.2.2 (dC k) (dI k) := by
    refine ⟨fun k => match k with | 0 => c0 | 1 => c1 | 2 => c2 | 3 => c3 | 4 => c4 | _ => c5, fun k => match k with | 0 => iS0 | 1 => iS1 | 2 => iS2 | 3 => iS3 | 4 => iS4 | _ => iS5, ?_⟩
    intro k q hq
    match k, hq with
    | 0, hq => cases hq; exact hKn0
    | 1, hq => cases hq; exact hKn1
    | 2, hq => cases hq; exact hKn2
    | 3, hq => cases hq; exact hKn3
    | 4, hq => cases hq; exact hKn4
    | 5, hq => cases hq; exact hKn5
    | k + 6, hq => simp [vwCl] at hq
  obtain ⟨b0, f0, g0⟩ := arr_of (S.2.2.2.2 (.arrayClass .int) (mG wd_8))
  obtain ⟨b1, f1, g1⟩ := arr_of (S.2.2.2.2 (.arrayClass .boolean) (mG wd_311))
  obtain ⟨b2, f2, g2⟩ := arrO_of (htm (.arrayOver (.object RX0)) (by decide +kernel))
  obtain ⟨b3, f3, g3⟩ := arrO_of (htm (.arrayOver (.object RX2)) (by decide +kernel))
  obtain ⟨B, hK⟩ : ∃ B : Nat → ClassId, va_K (dC, dI) vwCl (tyW B) s := by
    refine ⟨fun k => match k with | 0 => b0 | 1 => b1 | 2 => b2 | _ => b3, hKc, ?_⟩
    intro k q hq
    match k, hq with
    | 0, hq => cases hq; exact ⟨f0, g0⟩
    | 1, hq => cases hq; exact ⟨f1, g1⟩
    | 2, hq => cases hq; exact ⟨f2, g2⟩
    | 3, hq => cases hq; exact ⟨f3, g3⟩
    | k + 4, hq => simp [tyW] at hq
  have a1 : va_AO RX0 s := va_AO.of (htm (.arrayOver (.object RX0)) (by decide +kernel))
  have a2 : va_AO RX2 s := va_AO.of (htm (.arrayOver (.object RX2)) (by decide +kernel))
  have n1 : va_Nw (.methodLinkNest RX3 43 yX0_init "CarrierNet") s := va_Nw.of rfl (htm (.methodLinkNest RX3 43 yX0_init "CarrierNet") (by decide +kernel))
  have n2 : va_Nw (.methodLinkNest RX4 39 yX2_init "CarrierNet") s := va_Nw.of rfl (htm (.methodLinkNest RX4 39 yX2_init "CarrierNet") (by decide +kernel))
  have n3 : va_Nw (.methodLinkNest RX0 46 yX4_isIn "CarrierNet") s := va_Nw.of rfl (htm (.methodLinkNest RX0 46 yX4_isIn "CarrierNet") (by decide +kernel))
  obtain ⟨sa1, hs1⟩ := str_of (htm (.stringRef RX4 133 "no such parcel") (by decide +kernel)) (hfl (.exactly (.string RX4 133) "java/lang/String") (by decide +kernel))
  obtain ⟨sa2, hs2⟩ := str_of (htm (.stringRef RX4 162 "nothing is told of that") (by decide +kernel)) (hfl (.exactly (.string RX4 162) "java/lang/String") (by decide +kernel))
  have hT : kT (fun q : Nat => s.heap.size ≤ q) sa1 sa2 s := ⟨fun w hw => vx_ot_at (State.WarmedH.refl s) rfl (oxB_ot w hw) (hts w (t_oxB w hw)),
    vx_Zqof (htm (.laysStatic Bundle.tN "UNASSIGNED_STACK" Bundle.steD) (by decide +kernel)) (htm (.initialized Bundle.tN) (by decide +kernel)) (hfl (.isRef (.static Bundle.tN "UNASSIGNED_STACK" Bundle.steD)) (by decide +kernel)) hnA,
    vx_Zqof (htm (.laysStatic Bundle.tN "SUPPRESSED_SENTINEL" Bundle.listD) (by decide +kernel)) (htm (.initialized Bundle.tN) (by decide +kernel)) (hfl (.isRef (.static Bundle.tN "SUPPRESSED_SENTINEL" Bundle.listD)) (by decide +kernel)) hnA, hs1, hs2⟩
  have hcs : va_Nw (.castable sNSE sNSE) s := va_Nw.of rfl (htm (.castable sNSE sNSE) (by decide +kernel))
  exact ⟨(dC, dI), B, sa1, sa2, hK, a1, a2, n1, n2, n3, hT, hcs⟩
set_option maxHeartbeats 4000000 in
set_option maxRecDepth 100000 in
theorem ws_go {p : Program} {e : Env} {s : State} {m : MethodId} {below : List Frame} {meth : Method} {c : Code} (l : Launch) (hl9 : l.stackTraces = false) {b L : Nat} {xs : Nat → Int32} (hL : L ≤ 3072) (C0 : lw_At p s m meth c b L xs) {D : va_G} {B : Nat → ClassId} {sa1 sa2 q0 q1 : Nat} (Z : ws_At D B sa1 sa2 s) {u : tN} {v : (Nat → Nat) × (Nat → Int32)} {H : Heap} {locs : List Loc} {ls : Array Slot} (hP : va_P D vwCl (wNet B q0 u ++ wMod B q1 v) H) (hD : va_D (fun q : Nat => s.heap.size ≤ q) (wNet B q0 u ++ wMod B q1 v)) (hS : va_S (fun q : Nat => s.heap.size ≤ q) s.heap H locs) (hl : lv_has ls 7 [(2, .ref q1), (1, .ref q0), (0, .ref b)]) (hu : okT u.2.1.2.2.2 ∧ okE u.2.2.2.1.2) (hv : okM v.2) : W p l e room_1 s m #[Value.ref b] below meth c H locs 240 1009000 (lw_Z below #[Value.ref b] s) (F0 m 16 ls []) := by
  obtain ⟨hx, hb, hr, hml, hown, hts, hX, hbl, hlocks, hgv⟩ := id C0
  obtain ⟨hK, a1, a2, n1, n2, n3, hT, hcs⟩ := id Z
  have S : CallFix p m c cL_law 7 s #[Value.ref b] wsL_law RL := ⟨hx, hb, hml, hown, fun w h => hts w (wsL_law_in w h)⟩
  have hA : ∀ q : Nat, s.heap.size ≤ q → (fun q : Nat => s.heap.size ≤ q) q := fun _ h => h
  refine lv_iconst (v := 1) S.1 S.2.1 dL_law_16 (by decide) ?_
  refine va_newa (atype := .long) (ty := .long) (N' := 1) (a0 := (1, .inr (.inl (fun _ => 0)))) S.1 S.2.1 (S.2.2.2.2 (.arrayClass .long) (mG wd_397)) rfl hK hP hD hS hA (fun cA => by rw [vp_cell_l]; rfl) (by decide) (by decide) (by decide) (Nat.le_of_ble_eq_true rfl) (Nat.le_of_ble_eq_true rfl) dL_law_17 (fun o cJ H hK9 hP hD hS => ?_)
  refine lv_astore_n (lv' := [(3, .ref o), (2, .ref q1), (1, .ref q0), (0, .ref b)]) S.1 S.2.1 dL_law_19 rfl hl (by decide) rfl (fun ls hl => ?_)
  refine lv_iconst (v := 0) S.1 S.2.1 dL_law_20 (by decide) ?_
  refine lv_istore (lv' := [(4, .int 0), (3, .ref o), (2, .ref q1), (1, .ref q0), (0, .ref b)]) S.1 S.2.1 dL_law_21 hl (by decide) rfl (fun ls hl => ?_)
  have hP1 : va_P D vwCl ((wNet B q0 u ++ wMod B q1 v) ++ [(o, eO cJ (fun _ => 0))]) H := hP
  have hD1 : va_D (fun q : Nat => s.heap.size ≤ q) ((wNet B q0 u ++ wMod B q1 v) ++ [(o, eO cJ (fun _ => 0))]) := hD
  obtain ⟨w1, j1⟩ := net_world (ap_Pl (ap_Pl hP1)) (ap_Dl (ap_Dl hD1))
  obtain ⟨w2, j2⟩ := mod_world (ap_Pr (ap_Pl hP1)) (ap_Dr (ap_Dl hD1))
  have hO : va_at D vwCl (o, eO cJ (fun _ => 0)) H := ap_Pr hP1 0 _ rfl
  have hoA : s.heap.size ≤ o := (vd_nd.mp hD1).2 _ (List.mem_append_right _ List.mem_cons_self)
  have hmO : o ∈ [(o, eO cJ (fun _ => 0))].map Prod.fst := List.mem_cons_self
  have K : LKd D B (LN q0 u) (LM q1 v) o cJ sa1 sa2 s := by
    refine ⟨⟨hK, ⟨j1.1, fun k i hi => ⟨k, i, hi, rfl⟩, j1.2.2⟩, n3⟩, ⟨hK, ⟨j2.1, fun k i hi => ⟨k, i, hi, rfl⟩, j2.2.2⟩, n3⟩, ?_, ?_, hoA, ⟨hK.1, fun k q hq => ?_⟩, hT, hcs⟩
    · intro q hq
      have h1 : q ∈ (wNet B q0 u).map Prod.fst := AW_C hq
      refine ⟨?_, fun h2 => ap_ne (ap_Dl hD1) q h1 q (AW_M h2) rfl, fun h2 => ap_ne hD1 q (by rw [List.map_append]; exact List.mem_append_left _ h1) o hmO h2⟩
      obtain ⟨k, i, hi, rfl⟩ := hq
      exact j1.2.1 k i hi
    · intro q hq
      have h1 : q ∈ (wMod B q1 v).map Prod.fst := AW_M hq
      refine ⟨?_, fun h2 => ap_ne hD1 q (by rw [List.map_append]; exact List.mem_append_right _ h1) o hmO h2⟩
      obtain ⟨k, i, hi, rfl⟩ := hq
      exact j2.2.1 k i hi
    · have hk : k < 1 := (List.getElem?_eq_some_iff.mp hq).1
      have hk0 : k = 0 := by omega
      subst hk0
      cases hq
      exact hK9.2 4 _ rfl
  refine W.widen (k := 300 + 0) (n := 1010000 + 6 * 0) (Nat.le_of_ble_eq_true rfl) (Nat.le_of_ble_eq_true rfl) ?_
  exact law_loop l hl9 hL C0 K (L + 7) 0 0 (sN u) 0 (sM v) 0 H _ ls (by decide) (by decide) (by rw [show (0 : Int32).toInt = 0 by decide]; omega) ⟨sN_inv u hu.2, (sM_inv v hv).1, (sM_inv v hv).2, rfl, rfl, rfl, snow_0 u v, TEr_0 u v hu.2 hv, rfl, TNk_0 u v hu.1⟩ ⟨w1, w2, _, hO⟩ hS (lv_sub hl [4, 3, 2, 1, 0] rfl)
set_option maxHeartbeats 4000000 in
set_option maxRecDepth 100000 in
theorem ws_mod {p : Program} {e : Env} {s : State} {m : MethodId} {below : List Frame} {meth : Method} {c : Code} (l : Launch) (hl9 : l.stackTraces = false) {b L : Nat} {xs : Nat → Int32} (hL : L ≤ 3072) (C0 : lw_At p s m meth c b L xs) {D : va_G} {B : Nat → ClassId} {sa1 sa2 q0 : Nat} (Z : ws_At D B sa1 sa2 s) {u : tN} {H : Heap} {locs : List Loc} {ls : Array Slot} (hP : va_P D vwCl (wNet B q0 u) H) (hD : va_D (fun q : Nat => s.heap.size ≤ q) (wNet B q0 u)) (hS : va_S (fun q : Nat => s.heap.size ≤ q) s.heap H locs) (hl : lv_has ls 7 [(1, .ref q0), (0, .ref b)]) (hu : okT u.2.1.2.2.2 ∧ okE u.2.2.2.1.2) : W p l e room_1 s m #[Value.ref b] below meth c H locs 206 4566 (lw_Z below #[Value.ref b] s) (F0 m 8 ls []) := by
  obtain ⟨hx, hb, hr, hml, hown, hts, hX, hbl, hlocks, hgv⟩ := id C0
  obtain ⟨hK, a1, a2, n1, n2, n3, hT, hcs⟩ := id Z
  have S : CallFix p m c cL_law 7 s #[Value.ref b] wsL_law RL := ⟨hx, hb, hml, hown, fun w h => hts w (wsL_law_in w h)⟩
  have hA : ∀ q : Nat, s.heap.size ≤ q → (fun q : Nat => s.heap.size ≤ q) q := fun _ h => h
  refine va_new (ci := 5) (fs := [.int 0, .int 0, .int 0, .int 0, .int 0, .null, .null, .null, .null, .null, .null, .null, .null, .null, .null, .null, .null, .int 0, .null, .null, .null, .null, .null, .null, .null, .null, .null, .null, .null, .null, .null, .null, .null, .null, .int 0, .int 0, .int 0, .int 0]) (C := RX5) (T := TX5) (N := 38) S.1 S.2.1 S.2.2.2.2 inlX5 tyX5 tyX5_ok S.2.2.2.1 (S.2.2.2.2 (.classLink RL 16 RX5) (mG wd_395)) (S.2.2.2.2 (.instantiable RX5 38) (mG wd_396)) (S.2.2.2.2 (.initialized RX5) (mG wd_340)) hK hP hD hS hA rfl (fun j hj => by rcases (show j = 0 ∨ j = 1 ∨ j = 2 ∨ j = 3 ∨ j = 4 ∨ j = 5 ∨ j = 6 ∨ j = 7 ∨ j = 8 ∨ j = 9 ∨ j = 10 ∨ j = 11 ∨ j = 12 ∨ j = 13 ∨ j = 14 ∨ j = 15 ∨ j = 16 ∨ j = 17 ∨ j = 18 ∨ j = 19 ∨ j = 20 ∨ j = 21 ∨ j = 22 ∨ j = 23 ∨ j = 24 ∨ j = 25 ∨ j = 26 ∨ j = 27 ∨ j = 28 ∨ j = 29 ∨ j = 30 ∨ j = 31 ∨ j = 32 ∨ j = 33 ∨ j = 34 ∨ j = 35 ∨ j = 36 ∨ j = 37 by omega) with rfl | rfl | rfl | rfl | rfl | rfl | rfl | rfl | rfl | rfl | rfl | rfl | rfl | rfl | rfl | rfl | rfl | rfl | rfl | rfl | rfl | rfl | rfl | rfl | rfl | rfl | rfl | rfl | rfl | rfl | rfl | rfl | rfl | rfl | rfl | rfl | rfl | rfl <;> rfl) (Nat.le_of_ble_eq_true rfl) (Nat.le_of_ble_eq_true rfl) dL_law_8 (fun q1 H hP hD hS => ?_)
  refine lv_dup S.1 S.2.1 dL_law_11 rfl ?_
  refine w_back (va_runI (As := []) (rest := [.ref q1]) S (i_Mod l D B q1 H.size) (cwI 0 S.2.2.2.2 ggL_law_X5_init rfl rfl rfl (S.2.2.2.2 (.initialized RX5) (mG wd_340)) (S.2.2.2.2 (.methodLink RL 18 yX5_init) (mG wd_400)) (S.2.2.2.2 (.instanceMethod yX5_init) (mG wd_401)) rfl (by decide +kernel) ⟨Nat.le_of_ble_eq_true rfl, Nat.le_of_ble_eq_true rfl⟩) ⟨PcI_blind, fun U hU hW => ⟨rfl, PcI_at hU hW (w_last hP) hK w_lastD a1 a2 n1 n2⟩⟩ rfl rfl hl.1 rfl (lv_room (Nat.le_of_ble_eq_true rfl)) dL_law_12 ⟨Nat.le_of_ble_eq_true rfl, Nat.le_of_ble_eq_true rfl⟩) hP hD hS hA (fun v H locs hv hP hD hS => ?_)
  refine lv_astore_n (lv' := [(2, .ref q1), (1, .ref q0), (0, .ref b)]) S.1 S.2.1 dL_law_15 rfl hl (by decide) rfl (fun ls hl => ?_)
  refine W.widen (k := 240) (n := 1009000) (Nat.le_of_ble_eq_true rfl) (Nat.le_of_ble_eq_true rfl) ?_
  exact ws_go l hl9 hL C0 Z hP hD hS hl hu hv
set_option maxHeartbeats 4000000 in
set_option maxRecDepth 100000 in
theorem whole_start {p : Program} {e : Env} {s : State} {m : MethodId} {below : List Frame} {meth : Method} {c : Code} (l : Launch) (hl9 : l.stackTraces = false) {b L : Nat} {xs : Nat → Int32} (hL : L ≤ 3072) (C0 : lw_At p s m meth c b L xs) : W p l e room_1 s m #[Value.ref b] below meth c s.heap [] 0 0 (lw_Z below #[Value.ref b] s) (entryFrame m ([Value.ref b] : List Value).toArray 7) := by
  obtain ⟨hx, hb, hr, hml, hown, hts, hX, hbl, hlocks, hgv⟩ := id C0
  obtain ⟨D, B, sa1, sa2, Z⟩ := ws_known C0
  obtain ⟨hK, a1, a2, n1, n2, n3, hT, hcs⟩ := id Z
  have S : CallFix p m c cL_law 7 s #[Value.ref b] wsL_law RL := ⟨hx, hb, hml, hown, fun w h => hts w (wsL_law_in w h)⟩
  have hA : ∀ q : Nat, s.heap.size ≤ q → (fun q : Nat => s.heap.size ≤ q) q := fun _ h => h
  have hS : va_S (fun q : Nat => s.heap.size ≤ q) s.heap s.heap [] := va_S.rf
  have hP : va_P D vwCl [] s.heap := fun k q h => by simp at h
  have hD : va_D (fun q : Nat => s.heap.size ≤ q) [] := ⟨fun i j p q h => by simp at h, fun k q h => by simp at h⟩
  have hl := lv_entry ([.ref b]) (n := 7) (Nat.le_of_ble_eq_true rfl)
  rw [lg_entry_eq]
  generalize (lg_sl ([.ref b]) ++ List.replicate (7 - (lg_sl ([.ref b])).length) Slot.unset).toArray = ls at hl ⊢
  have hl : lv_has ls 7 [(0, .ref b)] := hl
  refine va_new (ci := 4) (fs := [.null, .null, .null, .int 0, .int 0, .int 0]) (C := RX4) (T := TX4) (N := 6) S.1 S.2.1 S.2.2.2.2 inlX4 tyX4 tyX4_ok S.2.2.2.1 (S.2.2.2.2 (.classLink RL 8 RX4) (mG wd_393)) (S.2.2.2.2 (.instantiable RX4 6) (mG wd_394)) (S.2.2.2.2 (.initialized RX4) (mG wd_15)) hK hP hD hS hA rfl (fun j hj => by rcases (show j = 0 ∨ j = 1 ∨ j = 2 ∨ j = 3 ∨ j = 4 ∨ j = 5 by omega) with rfl | rfl | rfl | rfl | rfl | rfl <;> rfl) (Nat.le_of_ble_eq_true rfl) (Nat.le_of_ble_eq_true rfl) dL_law_0 (fun q0 H hP hD hS => ?_)
  refine lv_dup S.1 S.2.1 dL_law_3 rfl ?_
  refine w_back (va_runI (As := []) (rest := [.ref q0]) S (i_Net l D B q0 H.size) (cwI 0 S.2.2.2.2 ggL_law_X4_init rfl rfl rfl (S.2.2.2.2 (.initialized RX4) (mG wd_15)) (S.2.2.2.2 (.methodLink RL 15 yX4_init) (mG wd_398)) (S.2.2.2.2 (.instanceMethod yX4_init) (mG wd_399)) rfl (by decide +kernel) ⟨Nat.le_of_ble_eq_true rfl, Nat.le_of_ble_eq_true rfl⟩) ⟨PcI_blind, fun U hU hW => ⟨rfl, PcI_at hU hW (w_last hP) hK w_lastD a1 a2 n1 n2⟩⟩ rfl rfl hl.1 rfl (lv_room (Nat.le_of_ble_eq_true rfl)) dL_law_4 ⟨Nat.le_of_ble_eq_true rfl, Nat.le_of_ble_eq_true rfl⟩) (X := []) hP hD hS hA (fun u H locs hu hP hD hS => ?_)
  refine lv_astore_n (lv' := [(1, .ref q0), (0, .ref b)]) S.1 S.2.1 dL_law_7 rfl hl (by decide) rfl (fun ls hl => ?_)
  exact ws_mod l hl9 hL C0 Z hP hD hS hl hu
