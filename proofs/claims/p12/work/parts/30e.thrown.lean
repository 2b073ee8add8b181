set_option maxHeartbeats 4000000 in
set_option maxRecDepth 100000 in
theorem k_X5_thrown (l : Launch) (D : va_G) (B : Nat → ClassId) (L : QL) (A : Nat → Prop) (σ : QS) (τ : Int64)    : cW cntM gM l D B L A yX5_thrown wsX5_thrown 0 0 [.ref (L 0 0)] σ τ (pI (fun x σ' τ' => σ' = σ ∧ τ' = τ ∧ x = σ 0 0 0)) := by
  refine cW_of (cc := cX5_thrown) (nL := 1) (ret := (some .int)) (by decide) rfl (Nat.le_of_ble_eq_true rfl) ?_
  intro p e s m below meth c S hr hk K hH hS ls hl
  have hnX5 : ∀ w ∈ wsX50, w ∈ wsX5_thrown := fun w h => mG (tX5 w h)
  have hl : lv_has ls 1 [(0, .ref (L 0 0))] := hl
  refine lv_aload_n S.1 S.2.1 dX5_thrown_0 rfl (lv_at hl 0 rfl) ?_
  refine rM_0_0 S hnX5 K hH (mG wd_335) dX5_thrown_1 ?_
  refine lv_topi (fun v1 e1 => ?_)
  refine cW_iret S hr hk hH hS ?_ dX5_thrown_4
  exact ⟨v1, rfl, rfl, rfl, by exact e1⟩
