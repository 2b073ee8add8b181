/-! the cases of the law's switch, each from its first row to the loop's last -/
abbrev lvL (b : Nat) (LC LM : QL) (o : Nat) (x4 : Int32) : List (Nat × Value) := [(0, .ref b), (1, .ref (LC 0 0)), (2, .ref (LM 0 0)), (3, .ref o), (4, .int x4)]
def LCont (p : Program) (l : Launch) (e : Env) (s : State) (m : MethodId) (below : List Frame) (meth : Method) (c : Code) (cells slots : Nat) (Q : State → Prop) (b : Nat) (D : va_G) (B : Nat → ClassId) (LC LM : QL) (o : Nat) (cJ : ClassId) (x4 : Int32) (kN : Nat) : Prop :=
  ∀ (σ : QS) (τ : Int64) (σM : QS) (τM : Int64) (H : Heap) (locs : List Loc) (ls : Array Slot), Tie σ τ σM (kN + 1) → LWd D B LC LM o cJ σ τ σM τM H → va_S (fun q => s.heap.size ≤ q) s.heap H locs → lv_has ls 7 (lvL b LC LM o x4) → W p l e room_1 s m #[Value.ref b] below meth c H locs (cells + 1) (slots + 6) Q (F0 m 949 ls [])
section LF
variable {p : Program} {l : Launch} {e : Env} {s : State} {m : MethodId} {below : List Frame} {meth : Method} {c : Code} {H : Heap} {locs : List Loc} {cells slots : Nat} {Q : State → Prop}
variable {b Ls : Nat} {ls : Array Slot} {D : va_G} {B : Nat → ClassId} {LC LM : QL} {o : Nat} {cJ : ClassId} {sa1 sa2 : Nat} {σ σM : QS} {τ τM : Int64} {xs : Nat → Int32} {x4 : Int32} {kN : Nat}
set_option maxHeartbeats 4000000 in
set_option maxRecDepth 100000 in
theorem law_cart (S : CallFix p m c cL_law 7 s #[Value.ref b] wsL_law RL) (hl9 : l.stackTraces = false) (hX : va_X b Ls xs s s.heap) (hbl : b < s.heap.size) (K : LKd D B LC LM o cJ sa1 sa2 s) (hT : Tie σ τ σM kN) (hkN : kN < 1000) (hL : LWd D B LC LM o cJ σ τ σM τM H) (hS : va_S (fun q => s.heap.size ≤ q) s.heap H locs) (hl : lv_has ls 7 (lvL b LC LM o x4)) (hf : cells ≤ room_1.cells ∧ slots ≤ room_1.slots) (hg : cells + 1 ≤ room_1.cells ∧ slots + 6 ≤ room_1.slots) (h1 : vp_in (x4 + 1) Ls) (h2 : vp_in (x4 + 2) Ls) (h3 : vp_in (x4 + 3) Ls) (h4 : vp_in (x4 + 4) Ls) (h5 : vp_in (x4 + 5) Ls)
    (kk : LCont p l e s m below meth c cells slots Q b D B LC LM o cJ x4 kN) : W p l e room_1 s m #[Value.ref b] below meth c H locs cells slots Q (F0 m 136 ls []) := by
  have hl : lv_has ls 7 (lvL b LC LM o x4) := hl
  obtain ⟨N9, nn9, hN9⟩ := id hT.2.2.2.2.2.2.2.2.2
  refine lv_aload_n S.1 S.2.1 dL_law_136 rfl (lv_at hl 1 rfl) ?_
  refine lw_arg (k := 1) S hX hbl hS (lv_at hl 0 rfl) (lv_at hl 4 rfl) h1 dL_law_137 dL_law_138 dL_law_140 (by decide) dL_law_141 dL_law_142 ?_
  refine lw_arg (k := 2) S hX hbl hS (lv_at hl 0 rfl) (lv_at hl 4 rfl) h2 dL_law_143 dL_law_144 dL_law_146 (by decide) dL_law_147 dL_law_148 ?_
  refine lw_arg (k := 3) S hX hbl hS (lv_at hl 0 rfl) (lv_at hl 4 rfl) h3 dL_law_149 dL_law_150 dL_law_152 (by decide) dL_law_153 dL_law_154 ?_
  refine lw_arg (k := 4) S hX hbl hS (lv_at hl 0 rfl) (lv_at hl 4 rfl) h4 dL_law_155 dL_law_156 dL_law_158 (by decide) dL_law_159 dL_law_160 ?_
  refine lw_arg (k := 5) S hX hbl hS (lv_at hl 0 rfl) (lv_at hl 4 rfl) h5 dL_law_161 dL_law_162 dL_law_164 (by decide) dL_law_165 dL_law_166 ?_
  refine lw_C (n := 5) (As := [.int (xs (x4 + 1).toNatClampNeg), .int (xs (x4 + 2).toNatClampNeg), .int (xs (x4 + 3).toNatClampNeg), .int (xs (x4 + 4).toNatClampNeg), .int (xs (x4 + 5).toNatClampNeg)]) (rest := []) S K hL hS (k_X4_cart l D B LC _ σ τ _ _ _ _ _ N9 hT.1 hN9.1.1) gL_law_X4_cart rfl hdV_X4_cart ⟨Nat.le_of_ble_eq_true rfl, Nat.le_of_ble_eq_true rfl⟩ rfl hl.1 (Nat.le_of_ble_eq_true rfl) dL_law_167 hf (fun r1 σ1 τ1 H locs q1 hL hS => ?_)
  obtain ⟨x1, rfl, q1⟩ := q1
  show W p l e room_1 s m #[Value.ref b] below meth c H locs cells slots Q (F0 m 170 ls [.int x1])
  refine lv_pop S.1 S.2.1 dL_law_170 rfl ?_
  refine lv_aload_n S.1 S.2.1 dL_law_171 rfl (lv_at hl 2 rfl) ?_
  refine lw_arg (k := 1) S hX hbl hS (lv_at hl 0 rfl) (lv_at hl 4 rfl) h1 dL_law_172 dL_law_173 dL_law_175 (by decide) dL_law_176 dL_law_177 ?_
  refine lw_arg (k := 2) S hX hbl hS (lv_at hl 0 rfl) (lv_at hl 4 rfl) h2 dL_law_178 dL_law_179 dL_law_181 (by decide) dL_law_182 dL_law_183 ?_
  refine lw_arg (k := 3) S hX hbl hS (lv_at hl 0 rfl) (lv_at hl 4 rfl) h3 dL_law_184 dL_law_185 dL_law_187 (by decide) dL_law_188 dL_law_189 ?_
  refine lw_arg (k := 4) S hX hbl hS (lv_at hl 0 rfl) (lv_at hl 4 rfl) h4 dL_law_190 dL_law_191 dL_law_193 (by decide) dL_law_194 dL_law_195 ?_
  refine lw_arg (k := 5) S hX hbl hS (lv_at hl 0 rfl) (lv_at hl 4 rfl) h5 dL_law_196 dL_law_197 dL_law_199 (by decide) dL_law_200 dL_law_201 ?_
  refine lw_M (n := 5) (As := [.int (xs (x4 + 1).toNatClampNeg), .int (xs (x4 + 2).toNatClampNeg), .int (xs (x4 + 3).toNatClampNeg), .int (xs (x4 + 4).toNatClampNeg), .int (xs (x4 + 5).toNatClampNeg)]) (rest := []) S K hL hS (k_X5_cart l D B LM _ σM τM _ _ _ _ _ N9 (fun d => snB (σ 29 (nK N9)) (nI d) ≠ 0) hT.2.1 hN9.1.2.1 (fun z d hd => (hT.2.2.2.2.2.2.1.2.2 (nK N9) d z hd).symm)) gL_law_X5_cart rfl hdV_X5_cart ⟨Nat.le_of_ble_eq_true rfl, Nat.le_of_ble_eq_true rfl⟩ rfl hl.1 (Nat.le_of_ble_eq_true rfl) dL_law_202 hf (fun r2 σ2 τ2 H locs q2 hL hS => ?_)
  obtain ⟨x2, rfl, q2⟩ := q2
  show W p l e room_1 s m #[Value.ref b] below meth c H locs cells slots Q (F0 m 205 ls [.int x2])
  refine lv_pop S.1 S.2.1 dL_law_205 rfl ?_
  refine lv_goto (tgt := 949) S.1 S.2.1 dL_law_206 (by decide) ?_
  refine W.widen (k := cells + 1) (n := slots + 6) (by omega) (by omega) ?_
  have a0 : (σ1 0 0 0).toInt = (σ 0 0 0).toInt := by rw [show σ1 0 = σ 0 from (q1.2.1 0 (by decide))]
  have a0M : (σ2 4 0 0).toInt = (σM 4 0 0).toInt := by rw [show σ2 4 = σM 4 from (q2.2.1 4 (by decide))]
  have a1 : (σ1 1 0 0).toInt = (σ 1 0 0).toInt := by rw [show σ1 1 = σ 1 from (q1.2.1 1 (by decide))]
  have a1M : (σ2 1 0 0).toInt = (σM 1 0 0).toInt := by rw [show σ2 1 = σM 1 from (q2.2.1 1 (by decide))]
  obtain ⟨t1, t2, t3, t4, t5, t6, t7, t8, t9, t10⟩ := id hT
  have t7 : TSn (σ1 2) (σ1 29) (σ2 3) (σ2 13) := by rw [show σ1 2 = σ 2 from (q1.2.1 2 (by decide)), show σ1 29 = σ 29 from (q1.2.1 29 (by decide)), show σ2 3 = σM 3 from (q2.2.1 3 (by decide)), show σ2 13 = σM 13 from (q2.2.1 13 (by decide))]; exact t7
  have t8 : TEr σ1 τ σ2 := TEr_of t8 (fun v hv => q1.2.1 v (fun z => by revert hv z; revert v; decide)) (fun v hv => q2.2.1 v (fun z => by revert hv z; revert v; decide))
  have et : τ1 = τ := q1.2.2.1
  have t9 : σ2 32 0 0 = 0 := by rw [show σ2 32 = σM 32 from (q2.2.1 32 (by decide))]; exact t9
  have t10 : TNk σ1 σ2 (kN + 1) := cart_N hN9 hkN t6 q1.2.2.2 q2.2.2.2 q1.2.1 q2.2.1
  have hxy : (σ1 3 0 0).toInt = (σ2 2 0 0).toInt ∧ x1.toInt = x2.toInt := by
    rcases q1.2.2.2.1 with ⟨u1, u2, u3⟩ | ⟨u1, u2, u3⟩ <;> rcases q2.2.2.2.1 with ⟨w1, w2, w3⟩ | ⟨w1, w2, w3⟩
    · exact ⟨by rw [u2, w2]; exact t6, by rw [u1, w1]⟩
    · exact absurd w1 (by rw [← t6]; exact u3)
    · exact absurd u1 (by rw [t6]; exact w3)
    · constructor <;> omega
  exact kk σ1 τ1 σ2 τ2 H locs ls (tie_of hT q1.1 q2.1 (q2.2.1 33 (by decide)) (by omega) (by omega) (hxy.1) t7 (by rw [et]; exact t8) t9 t10) hL hS (lv_sub hl [0, 1, 2, 3, 4] rfl)
set_option maxHeartbeats 4000000 in
set_option maxRecDepth 100000 in
theorem law_stop (S : CallFix p m c cL_law 7 s #[Value.ref b] wsL_law RL) (hl9 : l.stackTraces = false) (hX : va_X b Ls xs s s.heap) (hbl : b < s.heap.size) (K : LKd D B LC LM o cJ sa1 sa2 s) (hT : Tie σ τ σM kN) (hkN : kN < 1000) (hL : LWd D B LC LM o cJ σ τ σM τM H) (hS : va_S (fun q => s.heap.size ≤ q) s.heap H locs) (hl : lv_has ls 7 (lvL b LC LM o x4)) (hf : cells ≤ room_1.cells ∧ slots ≤ room_1.slots) (hg : cells + 1 ≤ room_1.cells ∧ slots + 6 ≤ room_1.slots) (h1 : vp_in (x4 + 1) Ls) (h2 : vp_in (x4 + 2) Ls) (h3 : vp_in (x4 + 3) Ls) (h4 : vp_in (x4 + 4) Ls) (h5 : vp_in (x4 + 5) Ls)
    (kk : LCont p l e s m below meth c cells slots Q b D B LC LM o cJ x4 kN) : W p l e room_1 s m #[Value.ref b] below meth c H locs cells slots Q (F0 m 209 ls []) := by
  have hl : lv_has ls 7 (lvL b LC LM o x4) := hl
  obtain ⟨N9, nn9, hN9⟩ := id hT.2.2.2.2.2.2.2.2.2
  refine lv_aload_n S.1 S.2.1 dL_law_209 rfl (lv_at hl 1 rfl) ?_
  refine lw_arg (k := 1) S hX hbl hS (lv_at hl 0 rfl) (lv_at hl 4 rfl) h1 dL_law_210 dL_law_211 dL_law_213 (by decide) dL_law_214 dL_law_215 ?_
  refine lw_arg (k := 2) S hX hbl hS (lv_at hl 0 rfl) (lv_at hl 4 rfl) h2 dL_law_216 dL_law_217 dL_law_219 (by decide) dL_law_220 dL_law_221 ?_
  refine lw_arg (k := 3) S hX hbl hS (lv_at hl 0 rfl) (lv_at hl 4 rfl) h3 dL_law_222 dL_law_223 dL_law_225 (by decide) dL_law_226 dL_law_227 ?_
  refine lw_C (n := 3) (As := [.int (xs (x4 + 1).toNatClampNeg), .int (xs (x4 + 2).toNatClampNeg), .int (xs (x4 + 3).toNatClampNeg)]) (rest := []) S K hL hS (k_X4_stop l D B LC _ σ τ _ _ _ N9 hT.1 hN9.1.1) gL_law_X4_stop rfl hdV_X4_stop ⟨Nat.le_of_ble_eq_true rfl, Nat.le_of_ble_eq_true rfl⟩ rfl hl.1 (Nat.le_of_ble_eq_true rfl) dL_law_228 hf (fun r1 σ1 τ1 H locs q1 hL hS => ?_)
  obtain ⟨x1, rfl, q1⟩ := q1
  show W p l e room_1 s m #[Value.ref b] below meth c H locs cells slots Q (F0 m 231 ls [.int x1])
  refine lv_pop S.1 S.2.1 dL_law_231 rfl ?_
  refine lv_aload_n S.1 S.2.1 dL_law_232 rfl (lv_at hl 2 rfl) ?_
  refine lw_arg (k := 1) S hX hbl hS (lv_at hl 0 rfl) (lv_at hl 4 rfl) h1 dL_law_233 dL_law_234 dL_law_236 (by decide) dL_law_237 dL_law_238 ?_
  refine lw_arg (k := 2) S hX hbl hS (lv_at hl 0 rfl) (lv_at hl 4 rfl) h2 dL_law_239 dL_law_240 dL_law_242 (by decide) dL_law_243 dL_law_244 ?_
  refine lw_arg (k := 3) S hX hbl hS (lv_at hl 0 rfl) (lv_at hl 4 rfl) h3 dL_law_245 dL_law_246 dL_law_248 (by decide) dL_law_249 dL_law_250 ?_
  refine lw_M (n := 3) (As := [.int (xs (x4 + 1).toNatClampNeg), .int (xs (x4 + 2).toNatClampNeg), .int (xs (x4 + 3).toNatClampNeg)]) (rest := []) S K hL hS (k_X5_stop l D B LM _ σM τM _ _ _ N9 hT.2.1 hN9.1.2.1) gL_law_X5_stop rfl hdV_X5_stop ⟨Nat.le_of_ble_eq_true rfl, Nat.le_of_ble_eq_true rfl⟩ rfl hl.1 (Nat.le_of_ble_eq_true rfl) dL_law_251 hf (fun r2 σ2 τ2 H locs q2 hL hS => ?_)
  obtain ⟨x2, rfl, q2⟩ := q2
  show W p l e room_1 s m #[Value.ref b] below meth c H locs cells slots Q (F0 m 254 ls [.int x2])
  refine lv_pop S.1 S.2.1 dL_law_254 rfl ?_
  refine lv_goto (tgt := 949) S.1 S.2.1 dL_law_255 (by decide) ?_
  refine W.widen (k := cells + 1) (n := slots + 6) (by omega) (by omega) ?_
  have a0 : (σ1 0 0 0).toInt = (σ 0 0 0).toInt := by rw [show σ1 0 = σ 0 from (q1.2.1 0 (by decide))]
  have a0M : (σ2 4 0 0).toInt = (σM 4 0 0).toInt := by rw [show σ2 4 = σM 4 from (q2.2.1 4 (by decide))]
  have a1 : (σ1 1 0 0).toInt = (σ 1 0 0).toInt := by rw [show σ1 1 = σ 1 from (q1.2.1 1 (by decide))]
  have a1M : (σ2 1 0 0).toInt = (σM 1 0 0).toInt := by rw [show σ2 1 = σM 1 from (q2.2.1 1 (by decide))]
  have a3 : (σ1 3 0 0).toInt = (σ 3 0 0).toInt := by rw [show σ1 3 = σ 3 from (q1.2.1 3 (by decide))]
  have a3M : (σ2 2 0 0).toInt = (σM 2 0 0).toInt := by rw [show σ2 2 = σM 2 from (q2.2.1 2 (by decide))]
  obtain ⟨t1, t2, t3, t4, t5, t6, t7, t8, t9, t10⟩ := id hT
  have t7 : TSn (σ1 2) (σ1 29) (σ2 3) (σ2 13) := by rw [show σ1 2 = σ 2 from (q1.2.1 2 (by decide)), show σ1 29 = σ 29 from (q1.2.1 29 (by decide)), show σ2 3 = σM 3 from (q2.2.1 3 (by decide)), show σ2 13 = σM 13 from (q2.2.1 13 (by decide))]; exact t7
  have t8 : TEr σ1 τ σ2 := TEr_of t8 (fun v hv => q1.2.1 v (fun z => by revert hv z; revert v; decide)) (fun v hv => q2.2.1 v (fun z => by revert hv z; revert v; decide))
  have et : τ1 = τ := q1.2.2.1
  have t9 : σ2 32 0 0 = 0 := by rw [show σ2 32 = σM 32 from (q2.2.1 32 (by decide))]; exact t9
  have hst := stop_N hN9 hkN t6 t4 q1.2.2.2 q2.2.2.2 q1.2.1 q2.2.1
  have t10 := hst.2
  exact kk σ1 τ1 σ2 τ2 H locs ls (tie_of hT q1.1 q2.1 (q2.2.1 33 (by decide)) (by omega) (by omega) (by omega) t7 (by rw [et]; exact t8) t9 t10) hL hS (lv_sub hl [0, 1, 2, 3, 4] rfl)
set_option maxHeartbeats 4000000 in
set_option maxRecDepth 100000 in
theorem law_change (S : CallFix p m c cL_law 7 s #[Value.ref b] wsL_law RL) (hl9 : l.stackTraces = false) (hX : va_X b Ls xs s s.heap) (hbl : b < s.heap.size) (K : LKd D B LC LM o cJ sa1 sa2 s) (hT : Tie σ τ σM kN) (hkN : kN < 1000) (hL : LWd D B LC LM o cJ σ τ σM τM H) (hS : va_S (fun q => s.heap.size ≤ q) s.heap H locs) (hl : lv_has ls 7 (lvL b LC LM o x4)) (hf : cells ≤ room_1.cells ∧ slots ≤ room_1.slots) (hg : cells + 1 ≤ room_1.cells ∧ slots + 6 ≤ room_1.slots) (h1 : vp_in (x4 + 1) Ls) (h2 : vp_in (x4 + 2) Ls) (h3 : vp_in (x4 + 3) Ls) (h4 : vp_in (x4 + 4) Ls) (h5 : vp_in (x4 + 5) Ls)
    (kk : LCont p l e s m below meth c cells slots Q b D B LC LM o cJ x4 kN) : W p l e room_1 s m #[Value.ref b] below meth c H locs cells slots Q (F0 m 258 ls []) := by
  have hl : lv_has ls 7 (lvL b LC LM o x4) := hl
  obtain ⟨N9, nn9, hN9⟩ := id hT.2.2.2.2.2.2.2.2.2
  refine lv_aload_n S.1 S.2.1 dL_law_258 rfl (lv_at hl 1 rfl) ?_
  refine lw_arg (k := 1) S hX hbl hS (lv_at hl 0 rfl) (lv_at hl 4 rfl) h1 dL_law_259 dL_law_260 dL_law_262 (by decide) dL_law_263 dL_law_264 ?_
  refine lw_arg (k := 2) S hX hbl hS (lv_at hl 0 rfl) (lv_at hl 4 rfl) h2 dL_law_265 dL_law_266 dL_law_268 (by decide) dL_law_269 dL_law_270 ?_
  refine lw_arg (k := 3) S hX hbl hS (lv_at hl 0 rfl) (lv_at hl 4 rfl) h3 dL_law_271 dL_law_272 dL_law_274 (by decide) dL_law_275 dL_law_276 ?_
  refine lw_arg (k := 4) S hX hbl hS (lv_at hl 0 rfl) (lv_at hl 4 rfl) h4 dL_law_277 dL_law_278 dL_law_280 (by decide) dL_law_281 dL_law_282 ?_
  refine lw_C (n := 4) (As := [.int (xs (x4 + 1).toNatClampNeg), .int (xs (x4 + 2).toNatClampNeg), .int (xs (x4 + 3).toNatClampNeg), .int (xs (x4 + 4).toNatClampNeg)]) (rest := []) S K hL hS (k_X4_change l D B LC _ σ τ _ _ _ _ N9 hT.1 hN9.1.1) gL_law_X4_change rfl hdV_X4_change ⟨Nat.le_of_ble_eq_true rfl, Nat.le_of_ble_eq_true rfl⟩ rfl hl.1 (Nat.le_of_ble_eq_true rfl) dL_law_283 hf (fun r1 σ1 τ1 H locs q1 hL hS => ?_)
  obtain ⟨x1, rfl, q1⟩ := q1
  show W p l e room_1 s m #[Value.ref b] below meth c H locs cells slots Q (F0 m 286 ls [.int x1])
  refine lv_pop S.1 S.2.1 dL_law_286 rfl ?_
  refine lv_aload_n S.1 S.2.1 dL_law_287 rfl (lv_at hl 2 rfl) ?_
  refine lw_arg (k := 1) S hX hbl hS (lv_at hl 0 rfl) (lv_at hl 4 rfl) h1 dL_law_288 dL_law_289 dL_law_291 (by decide) dL_law_292 dL_law_293 ?_
  refine lw_arg (k := 2) S hX hbl hS (lv_at hl 0 rfl) (lv_at hl 4 rfl) h2 dL_law_294 dL_law_295 dL_law_297 (by decide) dL_law_298 dL_law_299 ?_
  refine lw_arg (k := 3) S hX hbl hS (lv_at hl 0 rfl) (lv_at hl 4 rfl) h3 dL_law_300 dL_law_301 dL_law_303 (by decide) dL_law_304 dL_law_305 ?_
  refine lw_arg (k := 4) S hX hbl hS (lv_at hl 0 rfl) (lv_at hl 4 rfl) h4 dL_law_306 dL_law_307 dL_law_309 (by decide) dL_law_310 dL_law_311 ?_
  refine lw_M (n := 4) (As := [.int (xs (x4 + 1).toNatClampNeg), .int (xs (x4 + 2).toNatClampNeg), .int (xs (x4 + 3).toNatClampNeg), .int (xs (x4 + 4).toNatClampNeg)]) (rest := []) S K hL hS (k_X5_change l D B LM _ σM τM _ _ _ _ N9 hT.2.1 hN9.1.2.1) gL_law_X5_change rfl hdV_X5_change ⟨Nat.le_of_ble_eq_true rfl, Nat.le_of_ble_eq_true rfl⟩ rfl hl.1 (Nat.le_of_ble_eq_true rfl) dL_law_312 hf (fun r2 σ2 τ2 H locs q2 hL hS => ?_)
  obtain ⟨x2, rfl, q2⟩ := q2
  show W p l e room_1 s m #[Value.ref b] below meth c H locs cells slots Q (F0 m 315 ls [.int x2])
  refine lv_pop S.1 S.2.1 dL_law_315 rfl ?_
  refine lv_goto (tgt := 949) S.1 S.2.1 dL_law_316 (by decide) ?_
  refine W.widen (k := cells + 1) (n := slots + 6) (by omega) (by omega) ?_
  have a0 : (σ1 0 0 0).toInt = (σ 0 0 0).toInt := by rw [show σ1 0 = σ 0 from (q1.2.1 0 (by decide))]
  have a0M : (σ2 4 0 0).toInt = (σM 4 0 0).toInt := by rw [show σ2 4 = σM 4 from (q2.2.1 4 (by decide))]
  have a1 : (σ1 1 0 0).toInt = (σ 1 0 0).toInt := by rw [show σ1 1 = σ 1 from (q1.2.1 1 (by decide))]
  have a1M : (σ2 1 0 0).toInt = (σM 1 0 0).toInt := by rw [show σ2 1 = σM 1 from (q2.2.1 1 (by decide))]
  have a3 : (σ1 3 0 0).toInt = (σ 3 0 0).toInt := by rw [show σ1 3 = σ 3 from (q1.2.1 3 (by decide))]
  have a3M : (σ2 2 0 0).toInt = (σM 2 0 0).toInt := by rw [show σ2 2 = σM 2 from (q2.2.1 2 (by decide))]
  obtain ⟨t1, t2, t3, t4, t5, t6, t7, t8, t9, t10⟩ := id hT
  have t7 : TSn (σ1 2) (σ1 29) (σ2 3) (σ2 13) := by rw [show σ1 2 = σ 2 from (q1.2.1 2 (by decide)), show σ1 29 = σ 29 from (q1.2.1 29 (by decide)), show σ2 3 = σM 3 from (q2.2.1 3 (by decide)), show σ2 13 = σM 13 from (q2.2.1 13 (by decide))]; exact t7
  have t8 : TEr σ1 τ σ2 := TEr_of t8 (fun v hv => q1.2.1 v (fun z => by revert hv z; revert v; decide)) (fun v hv => q2.2.1 v (fun z => by revert hv z; revert v; decide))
  have et : τ1 = τ := q1.2.2.1
  have t9 : σ2 32 0 0 = 0 := by rw [show σ2 32 = σM 32 from (q2.2.1 32 (by decide))]; exact t9
  have hst := change_N hN9 hkN t6 t4 q1.2.2.2 q2.2.2.2 q1.2.1 q2.2.1
  have t10 := hst.2
  exact kk σ1 τ1 σ2 τ2 H locs ls (tie_of hT q1.1 q2.1 (q2.2.1 33 (by decide)) (by omega) (by omega) (by omega) t7 (by rw [et]; exact t8) t9 t10) hL hS (lv_sub hl [0, 1, 2, 3, 4] rfl)
set_option maxHeartbeats 4000000 in
set_option maxRecDepth 100000 in
theorem law_snow (S : CallFix p m c cL_law 7 s #[Value.ref b] wsL_law RL) (hl9 : l.stackTraces = false) (hX : va_X b Ls xs s s.heap) (hbl : b < s.heap.size) (K : LKd D B LC LM o cJ sa1 sa2 s) (hT : Tie σ τ σM kN) (hkN : kN < 1000) (hL : LWd D B LC LM o cJ σ τ σM τM H) (hS : va_S (fun q => s.heap.size ≤ q) s.heap H locs) (hl : lv_has ls 7 (lvL b LC LM o x4)) (hf : cells ≤ room_1.cells ∧ slots ≤ room_1.slots) (hg : cells + 1 ≤ room_1.cells ∧ slots + 6 ≤ room_1.slots) (h1 : vp_in (x4 + 1) Ls) (h2 : vp_in (x4 + 2) Ls) (h3 : vp_in (x4 + 3) Ls) (h4 : vp_in (x4 + 4) Ls) (h5 : vp_in (x4 + 5) Ls)
    (kk : LCont p l e s m below meth c cells slots Q b D B LC LM o cJ x4 kN) : W p l e room_1 s m #[Value.ref b] below meth c H locs cells slots Q (F0 m 319 ls []) := by
  have hl : lv_has ls 7 (lvL b LC LM o x4) := hl
  obtain ⟨N9, nn9, hN9⟩ := id hT.2.2.2.2.2.2.2.2.2
  refine lv_aload_n S.1 S.2.1 dL_law_319 rfl (lv_at hl 1 rfl) ?_
  refine lw_arg (k := 1) S hX hbl hS (lv_at hl 0 rfl) (lv_at hl 4 rfl) h1 dL_law_320 dL_law_321 dL_law_323 (by decide) dL_law_324 dL_law_325 ?_
  refine lw_arg (k := 2) S hX hbl hS (lv_at hl 0 rfl) (lv_at hl 4 rfl) h2 dL_law_326 dL_law_327 dL_law_329 (by decide) dL_law_330 dL_law_331 ?_
  refine lw_C (n := 2) (As := [.int (xs (x4 + 1).toNatClampNeg), .int (xs (x4 + 2).toNatClampNeg)]) (rest := []) S K hL hS (k_X4_snow l D B LC _ σ τ _ _ N9 hT.1 hN9.1.1) gL_law_X4_snow rfl hdV_X4_snow ⟨Nat.le_of_ble_eq_true rfl, Nat.le_of_ble_eq_true rfl⟩ rfl hl.1 (Nat.le_of_ble_eq_true rfl) dL_law_332 hf (fun r1 σ1 τ1 H locs q1 hL hS => ?_)
  obtain ⟨x1, rfl, q1⟩ := q1
  show W p l e room_1 s m #[Value.ref b] below meth c H locs cells slots Q (F0 m 335 ls [.int x1])
  refine lv_pop S.1 S.2.1 dL_law_335 rfl ?_
  refine lv_aload_n S.1 S.2.1 dL_law_336 rfl (lv_at hl 2 rfl) ?_
  refine lw_arg (k := 1) S hX hbl hS (lv_at hl 0 rfl) (lv_at hl 4 rfl) h1 dL_law_337 dL_law_338 dL_law_340 (by decide) dL_law_341 dL_law_342 ?_
  refine lw_arg (k := 2) S hX hbl hS (lv_at hl 0 rfl) (lv_at hl 4 rfl) h2 dL_law_343 dL_law_344 dL_law_346 (by decide) dL_law_347 dL_law_348 ?_
  refine lw_M (n := 2) (As := [.int (xs (x4 + 1).toNatClampNeg), .int (xs (x4 + 2).toNatClampNeg)]) (rest := []) S K hL hS (k_X5_snow l D B LM _ σM τM _ _ N9 hT.2.1 hN9.1.2.1) gL_law_X5_snow rfl hdV_X5_snow ⟨Nat.le_of_ble_eq_true rfl, Nat.le_of_ble_eq_true rfl⟩ rfl hl.1 (Nat.le_of_ble_eq_true rfl) dL_law_349 hf (fun r2 σ2 τ2 H locs q2 hL hS => ?_)
  obtain ⟨x2, rfl, q2⟩ := q2
  show W p l e room_1 s m #[Value.ref b] below meth c H locs cells slots Q (F0 m 352 ls [.int x2])
  refine lv_pop S.1 S.2.1 dL_law_352 rfl ?_
  refine lv_goto (tgt := 949) S.1 S.2.1 dL_law_353 (by decide) ?_
  refine W.widen (k := cells + 1) (n := slots + 6) (by omega) (by omega) ?_
  have a0 : (σ1 0 0 0).toInt = (σ 0 0 0).toInt := by rw [show σ1 0 = σ 0 from (q1.2.1 0 (by decide))]
  have a0M : (σ2 4 0 0).toInt = (σM 4 0 0).toInt := by rw [show σ2 4 = σM 4 from (q2.2.1 4 (by decide))]
  have a1 : (σ1 1 0 0).toInt = (σ 1 0 0).toInt := by rw [show σ1 1 = σ 1 from (q1.2.1 1 (by decide))]
  have a1M : (σ2 1 0 0).toInt = (σM 1 0 0).toInt := by rw [show σ2 1 = σM 1 from (q2.2.1 1 (by decide))]
  have a3 : (σ1 3 0 0).toInt = (σ 3 0 0).toInt := by rw [show σ1 3 = σ 3 from (q1.2.1 3 (by decide))]
  have a3M : (σ2 2 0 0).toInt = (σM 2 0 0).toInt := by rw [show σ2 2 = σM 2 from (q2.2.1 2 (by decide))]
  obtain ⟨t1, t2, t3, t4, t5, t6, t7, t8, t9, t10⟩ := id hT
  have hsn := snow_tie (t1.1 3 0 0).2 (t1.1 1 0 0).1 t5 t6 t7 q1.2.2.2.1 q2.2.2.2.1
  have t7 := hsn.2
  have t8 : TEr σ1 τ σ2 := TEr_of t8 (fun v hv => q1.2.1 v (fun z => by revert hv z; revert v; decide)) (fun v hv => q2.2.1 v (fun z => by revert hv z; revert v; decide))
  have et : τ1 = τ := q1.2.2.1
  have t9 : σ2 32 0 0 = 0 := by rw [show σ2 32 = σM 32 from (q2.2.1 32 (by decide))]; exact t9
  have t10 : TNk σ1 σ2 (kN + 1) := snow_N hN9 hkN hsn.1 q1.2.2.2.2 q2.2.2.2.2 q1.2.1 q2.2.1
  exact kk σ1 τ1 σ2 τ2 H locs ls (tie_of hT q1.1 q2.1 (q2.2.1 33 (by decide)) (by omega) (by omega) (by omega) t7 (by rw [et]; exact t8) t9 t10) hL hS (lv_sub hl [0, 1, 2, 3, 4] rfl)
set_option maxHeartbeats 4000000 in
set_option maxRecDepth 100000 in
theorem law_runs (S : CallFix p m c cL_law 7 s #[Value.ref b] wsL_law RL) (hl9 : l.stackTraces = false) (hX : va_X b Ls xs s s.heap) (hbl : b < s.heap.size) (K : LKd D B LC LM o cJ sa1 sa2 s) (hT : Tie σ τ σM kN) (hkN : kN < 1000) (hL : LWd D B LC LM o cJ σ τ σM τM H) (hS : va_S (fun q => s.heap.size ≤ q) s.heap H locs) (hl : lv_has ls 7 (lvL b LC LM o x4)) (hf : cells ≤ room_1.cells ∧ slots ≤ room_1.slots) (hg : cells + 1 ≤ room_1.cells ∧ slots + 6 ≤ room_1.slots) (h1 : vp_in (x4 + 1) Ls) (h2 : vp_in (x4 + 2) Ls) (h3 : vp_in (x4 + 3) Ls) (h4 : vp_in (x4 + 4) Ls) (h5 : vp_in (x4 + 5) Ls)
    (kk : LCont p l e s m below meth c cells slots Q b D B LC LM o cJ x4 kN) : W p l e room_1 s m #[Value.ref b] below meth c H locs cells slots Q (F0 m 356 ls []) := by
  have hl : lv_has ls 7 (lvL b LC LM o x4) := hl
  obtain ⟨N9, nn9, hN9⟩ := id hT.2.2.2.2.2.2.2.2.2
  refine lv_aload_n S.1 S.2.1 dL_law_356 rfl (lv_at hl 1 rfl) ?_
  refine lw_arg (k := 1) S hX hbl hS (lv_at hl 0 rfl) (lv_at hl 4 rfl) h1 dL_law_357 dL_law_358 dL_law_360 (by decide) dL_law_361 dL_law_362 ?_
  refine lw_arg (k := 2) S hX hbl hS (lv_at hl 0 rfl) (lv_at hl 4 rfl) h2 dL_law_363 dL_law_364 dL_law_366 (by decide) dL_law_367 dL_law_368 ?_
  refine lw_C (n := 2) (As := [.int (xs (x4 + 1).toNatClampNeg), .int (xs (x4 + 2).toNatClampNeg)]) (rest := []) S K hL hS (k_X4_runs l D B LC _ σ τ _ _ N9 hT.1 hN9.1.1) gL_law_X4_runs rfl hdV_X4_runs ⟨Nat.le_of_ble_eq_true rfl, Nat.le_of_ble_eq_true rfl⟩ rfl hl.1 (Nat.le_of_ble_eq_true rfl) dL_law_369 hf (fun r1 σ1 τ1 H locs q1 hL hS => ?_)
  obtain ⟨x1, rfl, q1⟩ := q1
  show W p l e room_1 s m #[Value.ref b] below meth c H locs cells slots Q (F0 m 372 ls [.int x1])
  refine lv_pop S.1 S.2.1 dL_law_372 rfl ?_
  refine lv_aload_n S.1 S.2.1 dL_law_373 rfl (lv_at hl 2 rfl) ?_
  refine lw_arg (k := 1) S hX hbl hS (lv_at hl 0 rfl) (lv_at hl 4 rfl) h1 dL_law_374 dL_law_375 dL_law_377 (by decide) dL_law_378 dL_law_379 ?_
  refine lw_arg (k := 2) S hX hbl hS (lv_at hl 0 rfl) (lv_at hl 4 rfl) h2 dL_law_380 dL_law_381 dL_law_383 (by decide) dL_law_384 dL_law_385 ?_
  refine lw_M (n := 2) (As := [.int (xs (x4 + 1).toNatClampNeg), .int (xs (x4 + 2).toNatClampNeg)]) (rest := []) S K hL hS (k_X5_runs l D B LM _ σM τM _ _ N9 hT.2.1 hN9.1.2.1) gL_law_X5_runs rfl hdV_X5_runs ⟨Nat.le_of_ble_eq_true rfl, Nat.le_of_ble_eq_true rfl⟩ rfl hl.1 (Nat.le_of_ble_eq_true rfl) dL_law_386 hf (fun r2 σ2 τ2 H locs q2 hL hS => ?_)
  obtain ⟨x2, rfl, q2⟩ := q2
  show W p l e room_1 s m #[Value.ref b] below meth c H locs cells slots Q (F0 m 389 ls [.int x2])
  refine lv_pop S.1 S.2.1 dL_law_389 rfl ?_
  refine lv_goto (tgt := 949) S.1 S.2.1 dL_law_390 (by decide) ?_
  refine W.widen (k := cells + 1) (n := slots + 6) (by omega) (by omega) ?_
  have a0 : (σ1 0 0 0).toInt = (σ 0 0 0).toInt := by rw [show σ1 0 = σ 0 from (by rw [q1.1])]
  have a0M : (σ2 4 0 0).toInt = (σM 4 0 0).toInt := by rw [show σ2 4 = σM 4 from (q2.2.1 4 (by decide))]
  have a1 : (σ1 1 0 0).toInt = (σ 1 0 0).toInt := by rw [show σ1 1 = σ 1 from (by rw [q1.1])]
  have a1M : (σ2 1 0 0).toInt = (σM 1 0 0).toInt := by rw [show σ2 1 = σM 1 from (q2.2.1 1 (by decide))]
  have a3 : (σ1 3 0 0).toInt = (σ 3 0 0).toInt := by rw [show σ1 3 = σ 3 from (by rw [q1.1])]
  have a3M : (σ2 2 0 0).toInt = (σM 2 0 0).toInt := by rw [show σ2 2 = σM 2 from (q2.2.1 2 (by decide))]
  obtain ⟨t1, t2, t3, t4, t5, t6, t7, t8, t9, t10⟩ := id hT
  have t7 : TSn (σ1 2) (σ1 29) (σ2 3) (σ2 13) := by rw [show σ1 2 = σ 2 from (by rw [q1.1]), show σ1 29 = σ 29 from (by rw [q1.1]), show σ2 3 = σM 3 from (q2.2.1 3 (by decide)), show σ2 13 = σM 13 from (q2.2.1 13 (by decide))]; exact t7
  have t8 : TEr σ1 τ σ2 := TEr_of t8 (fun v _ => by rw [q1.1]) (fun v hv => q2.2.1 v (fun z => by revert hv z; revert v; decide))
  have et : τ1 = τ := q1.2.1
  have t9 : σ2 32 0 0 = 0 := by rw [show σ2 32 = σM 32 from (q2.2.1 32 (by decide))]; exact t9
  have t10 : TNk σ1 σ2 (kN + 1) := ⟨N9, nn9, TN_of hN9 (fun v _ => by rw [q1.1]) (fun v hv => q2.2.1 v (fun z => by revert hv z; revert v; decide))⟩
  exact kk σ1 τ1 σ2 τ2 H locs ls (tie_of hT (by rw [q1.1]; exact hT.1) q2.1 (q2.2.1 33 (by decide)) (by omega) (by omega) (by omega) t7 (by rw [et]; exact t8) t9 t10) hL hS (lv_sub hl [0, 1, 2, 3, 4] rfl)
set_option maxHeartbeats 4000000 in
set_option maxRecDepth 100000 in
theorem law_soon (S : CallFix p m c cL_law 7 s #[Value.ref b] wsL_law RL) (hl9 : l.stackTraces = false) (hX : va_X b Ls xs s s.heap) (hbl : b < s.heap.size) (K : LKd D B LC LM o cJ sa1 sa2 s) (hT : Tie σ τ σM kN) (hkN : kN < 1000) (hL : LWd D B LC LM o cJ σ τ σM τM H) (hS : va_S (fun q => s.heap.size ≤ q) s.heap H locs) (hl : lv_has ls 7 (lvL b LC LM o x4)) (hf : cells ≤ room_1.cells ∧ slots ≤ room_1.slots) (hg : cells + 1 ≤ room_1.cells ∧ slots + 6 ≤ room_1.slots) (h1 : vp_in (x4 + 1) Ls) (h2 : vp_in (x4 + 2) Ls) (h3 : vp_in (x4 + 3) Ls) (h4 : vp_in (x4 + 4) Ls) (h5 : vp_in (x4 + 5) Ls)
    (kk : LCont p l e s m below meth c cells slots Q b D B LC LM o cJ x4 kN) : W p l e room_1 s m #[Value.ref b] below meth c H locs cells slots Q (F0 m 393 ls []) := by
  have hl : lv_has ls 7 (lvL b LC LM o x4) := hl
  obtain ⟨N9, nn9, hN9⟩ := id hT.2.2.2.2.2.2.2.2.2
  refine lv_aload_n S.1 S.2.1 dL_law_393 rfl (lv_at hl 1 rfl) ?_
  refine lw_arg (k := 1) S hX hbl hS (lv_at hl 0 rfl) (lv_at hl 4 rfl) h1 dL_law_394 dL_law_395 dL_law_397 (by decide) dL_law_398 dL_law_399 ?_
  refine lw_arg (k := 2) S hX hbl hS (lv_at hl 0 rfl) (lv_at hl 4 rfl) h2 dL_law_400 dL_law_401 dL_law_403 (by decide) dL_law_404 dL_law_405 ?_
  refine lw_arg (k := 3) S hX hbl hS (lv_at hl 0 rfl) (lv_at hl 4 rfl) h3 dL_law_406 dL_law_407 dL_law_409 (by decide) dL_law_410 dL_law_411 ?_
  refine lw_C (n := 3) (As := [.int (xs (x4 + 1).toNatClampNeg), .int (xs (x4 + 2).toNatClampNeg), .int (xs (x4 + 3).toNatClampNeg)]) (rest := []) S K hL hS (k_X4_soon l D B LC _ σ τ _ _ _ N9 hT.1 hN9.1.1) gL_law_X4_soon rfl hdV_X4_soon ⟨Nat.le_of_ble_eq_true rfl, Nat.le_of_ble_eq_true rfl⟩ rfl hl.1 (Nat.le_of_ble_eq_true rfl) dL_law_412 hf (fun r1 σ1 τ1 H locs q1 hL hS => ?_)
  obtain ⟨x1, rfl, q1⟩ := q1
  show W p l e room_1 s m #[Value.ref b] below meth c H locs cells slots Q (F0 m 415 ls [.int x1])
  refine lv_pop S.1 S.2.1 dL_law_415 rfl ?_
  refine lv_aload_n S.1 S.2.1 dL_law_416 rfl (lv_at hl 2 rfl) ?_
  refine lw_arg (k := 1) S hX hbl hS (lv_at hl 0 rfl) (lv_at hl 4 rfl) h1 dL_law_417 dL_law_418 dL_law_420 (by decide) dL_law_421 dL_law_422 ?_
  refine lw_arg (k := 2) S hX hbl hS (lv_at hl 0 rfl) (lv_at hl 4 rfl) h2 dL_law_423 dL_law_424 dL_law_426 (by decide) dL_law_427 dL_law_428 ?_
  refine lw_arg (k := 3) S hX hbl hS (lv_at hl 0 rfl) (lv_at hl 4 rfl) h3 dL_law_429 dL_law_430 dL_law_432 (by decide) dL_law_433 dL_law_434 ?_
  refine lw_M (n := 3) (As := [.int (xs (x4 + 1).toNatClampNeg), .int (xs (x4 + 2).toNatClampNeg), .int (xs (x4 + 3).toNatClampNeg)]) (rest := []) S K hL hS (k_X5_soon l D B LM _ σM τM _ _ _ N9 hT.2.1 hN9.1.2.1 hN9.1.2.2) gL_law_X5_soon rfl hdV_X5_soon ⟨Nat.le_of_ble_eq_true rfl, Nat.le_of_ble_eq_true rfl⟩ rfl hl.1 (Nat.le_of_ble_eq_true rfl) dL_law_435 hf (fun r2 σ2 τ2 H locs q2 hL hS => ?_)
  obtain ⟨x2, rfl, q2⟩ := q2
  show W p l e room_1 s m #[Value.ref b] below meth c H locs cells slots Q (F0 m 438 ls [.int x2])
  refine lv_pop S.1 S.2.1 dL_law_438 rfl ?_
  refine lv_goto (tgt := 949) S.1 S.2.1 dL_law_439 (by decide) ?_
  refine W.widen (k := cells + 1) (n := slots + 6) (by omega) (by omega) ?_
  have a0 : (σ1 0 0 0).toInt = (σ 0 0 0).toInt := by rw [show σ1 0 = σ 0 from (q1.2.1 0 (by decide))]
  have a0M : (σ2 4 0 0).toInt = (σM 4 0 0).toInt := by rw [show σ2 4 = σM 4 from (q2.2.1 4 (by decide))]
  have a1 : (σ1 1 0 0).toInt = (σ 1 0 0).toInt := by rw [show σ1 1 = σ 1 from (q1.2.1 1 (by decide))]
  have a1M : (σ2 1 0 0).toInt = (σM 1 0 0).toInt := by rw [show σ2 1 = σM 1 from (q2.2.1 1 (by decide))]
  have a3 : (σ1 3 0 0).toInt = (σ 3 0 0).toInt := by rw [show σ1 3 = σ 3 from (q1.2.1 3 (by decide))]
  have a3M : (σ2 2 0 0).toInt = (σM 2 0 0).toInt := by rw [show σ2 2 = σM 2 from (q2.2.1 2 (by decide))]
  obtain ⟨t1, t2, t3, t4, t5, t6, t7, t8, t9, t10⟩ := id hT
  have t7 : TSn (σ1 2) (σ1 29) (σ2 3) (σ2 13) := by rw [show σ1 2 = σ 2 from (q1.2.1 2 (by decide)), show σ1 29 = σ 29 from (q1.2.1 29 (by decide)), show σ2 3 = σM 3 from (q2.2.1 3 (by decide)), show σ2 13 = σM 13 from (q2.2.1 13 (by decide))]; exact t7
  have t8 : TEr σ1 τ σ2 := TEr_of t8 (fun v hv => q1.2.1 v (fun z => by revert hv z; revert v; decide)) (fun v hv => q2.2.1 v (fun z => by revert hv z; revert v; decide))
  have et : τ1 = τ := q1.2.2.1
  have t9 : σ2 32 0 0 = 0 := by rw [show σ2 32 = σM 32 from (q2.2.1 32 (by decide))]; exact t9
  have t10 : TNk σ1 σ2 (kN + 1) := ⟨N9, nn9, TN_q hN9 q2.2.2.2.1 (fun v hv => q1.2.1 v (fun z => by revert hv z; revert v; decide)) (fun v hv => q2.2.1 v (fun z => by revert hv z; revert v; decide))⟩
  exact kk σ1 τ1 σ2 τ2 H locs ls (tie_of hT q1.1 q2.1 (q2.2.1 33 (by decide)) (by omega) (by omega) (by omega) t7 (by rw [et]; exact t8) t9 t10) hL hS (lv_sub hl [0, 1, 2, 3, 4] rfl)
set_option maxHeartbeats 4000000 in
set_option maxRecDepth 100000 in
theorem law_reach (S : CallFix p m c cL_law 7 s #[Value.ref b] wsL_law RL) (hl9 : l.stackTraces = false) (hX : va_X b Ls xs s s.heap) (hbl : b < s.heap.size) (K : LKd D B LC LM o cJ sa1 sa2 s) (hT : Tie σ τ σM kN) (hkN : kN < 1000) (hL : LWd D B LC LM o cJ σ τ σM τM H) (hS : va_S (fun q => s.heap.size ≤ q) s.heap H locs) (hl : lv_has ls 7 (lvL b LC LM o x4)) (hf : cells ≤ room_1.cells ∧ slots ≤ room_1.slots) (hg : cells + 1 ≤ room_1.cells ∧ slots + 6 ≤ room_1.slots) (h1 : vp_in (x4 + 1) Ls) (h2 : vp_in (x4 + 2) Ls) (h3 : vp_in (x4 + 3) Ls) (h4 : vp_in (x4 + 4) Ls) (h5 : vp_in (x4 + 5) Ls)
    (kk : LCont p l e s m below meth c cells slots Q b D B LC LM o cJ x4 kN) : W p l e room_1 s m #[Value.ref b] below meth c H locs cells slots Q (F0 m 442 ls []) := by
  have hl : lv_has ls 7 (lvL b LC LM o x4) := hl
  obtain ⟨N9, nn9, hN9⟩ := id hT.2.2.2.2.2.2.2.2.2
  refine lv_aload_n S.1 S.2.1 dL_law_442 rfl (lv_at hl 1 rfl) ?_
  refine lw_arg (k := 1) S hX hbl hS (lv_at hl 0 rfl) (lv_at hl 4 rfl) h1 dL_law_443 dL_law_444 dL_law_446 (by decide) dL_law_447 dL_law_448 ?_
  refine lw_arg (k := 2) S hX hbl hS (lv_at hl 0 rfl) (lv_at hl 4 rfl) h2 dL_law_449 dL_law_450 dL_law_452 (by decide) dL_law_453 dL_law_454 ?_
  refine lw_arg (k := 3) S hX hbl hS (lv_at hl 0 rfl) (lv_at hl 4 rfl) h3 dL_law_455 dL_law_456 dL_law_458 (by decide) dL_law_459 dL_law_460 ?_
  refine lw_C (n := 3) (As := [.int (xs (x4 + 1).toNatClampNeg), .int (xs (x4 + 2).toNatClampNeg), .int (xs (x4 + 3).toNatClampNeg)]) (rest := []) S K hL hS (k_X4_reach l D B LC _ σ τ _ _ _ N9 hT.1 hN9.1.1) gL_law_X4_reach rfl hdV_X4_reach ⟨Nat.le_of_ble_eq_true rfl, Nat.le_of_ble_eq_true rfl⟩ rfl hl.1 (Nat.le_of_ble_eq_true rfl) dL_law_461 hf (fun r1 σ1 τ1 H locs q1 hL hS => ?_)
  obtain ⟨x1, rfl, q1⟩ := q1
  show W p l e room_1 s m #[Value.ref b] below meth c H locs cells slots Q (F0 m 464 ls [.int x1])
  refine lv_pop S.1 S.2.1 dL_law_464 rfl ?_
  refine lv_aload_n S.1 S.2.1 dL_law_465 rfl (lv_at hl 2 rfl) ?_
  refine lw_arg (k := 1) S hX hbl hS (lv_at hl 0 rfl) (lv_at hl 4 rfl) h1 dL_law_466 dL_law_467 dL_law_469 (by decide) dL_law_470 dL_law_471 ?_
  refine lw_arg (k := 2) S hX hbl hS (lv_at hl 0 rfl) (lv_at hl 4 rfl) h2 dL_law_472 dL_law_473 dL_law_475 (by decide) dL_law_476 dL_law_477 ?_
  refine lw_arg (k := 3) S hX hbl hS (lv_at hl 0 rfl) (lv_at hl 4 rfl) h3 dL_law_478 dL_law_479 dL_law_481 (by decide) dL_law_482 dL_law_483 ?_
  refine lw_M (n := 3) (As := [.int (xs (x4 + 1).toNatClampNeg), .int (xs (x4 + 2).toNatClampNeg), .int (xs (x4 + 3).toNatClampNeg)]) (rest := []) S K hL hS (k_X5_reach l D B LM _ σM τM _ _ _ N9 hT.2.1 hN9.1.2.1 hN9.1.2.2) gL_law_X5_reach rfl hdV_X5_reach ⟨Nat.le_of_ble_eq_true rfl, Nat.le_of_ble_eq_true rfl⟩ rfl hl.1 (Nat.le_of_ble_eq_true rfl) dL_law_484 hf (fun r2 σ2 τ2 H locs q2 hL hS => ?_)
  obtain ⟨x2, rfl, q2⟩ := q2
  show W p l e room_1 s m #[Value.ref b] below meth c H locs cells slots Q (F0 m 487 ls [.int x2])
  refine lv_pop S.1 S.2.1 dL_law_487 rfl ?_
  refine lv_goto (tgt := 949) S.1 S.2.1 dL_law_488 (by decide) ?_
  refine W.widen (k := cells + 1) (n := slots + 6) (by omega) (by omega) ?_
  have a0 : (σ1 0 0 0).toInt = (σ 0 0 0).toInt := by rw [show σ1 0 = σ 0 from (q1.2.1 0 (by decide))]
  have a0M : (σ2 4 0 0).toInt = (σM 4 0 0).toInt := by rw [show σ2 4 = σM 4 from (q2.2.1 4 (by decide))]
  have a1 : (σ1 1 0 0).toInt = (σ 1 0 0).toInt := by rw [show σ1 1 = σ 1 from (q1.2.1 1 (by decide))]
  have a1M : (σ2 1 0 0).toInt = (σM 1 0 0).toInt := by rw [show σ2 1 = σM 1 from (q2.2.1 1 (by decide))]
  have a3 : (σ1 3 0 0).toInt = (σ 3 0 0).toInt := by rw [show σ1 3 = σ 3 from (q1.2.1 3 (by decide))]
  have a3M : (σ2 2 0 0).toInt = (σM 2 0 0).toInt := by rw [show σ2 2 = σM 2 from (q2.2.1 2 (by decide))]
  obtain ⟨t1, t2, t3, t4, t5, t6, t7, t8, t9, t10⟩ := id hT
  have t7 : TSn (σ1 2) (σ1 29) (σ2 3) (σ2 13) := by rw [show σ1 2 = σ 2 from (q1.2.1 2 (by decide)), show σ1 29 = σ 29 from (q1.2.1 29 (by decide)), show σ2 3 = σM 3 from (q2.2.1 3 (by decide)), show σ2 13 = σM 13 from (q2.2.1 13 (by decide))]; exact t7
  have t8 : TEr σ1 τ σ2 := TEr_of t8 (fun v hv => q1.2.1 v (fun z => by revert hv z; revert v; decide)) (fun v hv => q2.2.1 v (fun z => by revert hv z; revert v; decide))
  have et : τ1 = τ := q1.2.2.1
  have t9 : σ2 32 0 0 = 0 := by rw [show σ2 32 = σM 32 from (q2.2.1 32 (by decide))]; exact t9
  have t10 : TNk σ1 σ2 (kN + 1) := ⟨N9, nn9, TN_q hN9 q2.2.2.2 (fun v hv => q1.2.1 v (fun z => by revert hv z; revert v; decide)) (fun v hv => q2.2.1 v (fun z => by revert hv z; revert v; decide))⟩
  exact kk σ1 τ1 σ2 τ2 H locs ls (tie_of hT q1.1 q2.1 (q2.2.1 33 (by decide)) (by omega) (by omega) (by omega) t7 (by rw [et]; exact t8) t9 t10) hL hS (lv_sub hl [0, 1, 2, 3, 4] rfl)
set_option maxHeartbeats 4000000 in
set_option maxRecDepth 100000 in
theorem law_cut (S : CallFix p m c cL_law 7 s #[Value.ref b] wsL_law RL) (hl9 : l.stackTraces = false) (hX : va_X b Ls xs s s.heap) (hbl : b < s.heap.size) (K : LKd D B LC LM o cJ sa1 sa2 s) (hT : Tie σ τ σM kN) (hkN : kN < 1000) (hL : LWd D B LC LM o cJ σ τ σM τM H) (hS : va_S (fun q => s.heap.size ≤ q) s.heap H locs) (hl : lv_has ls 7 (lvL b LC LM o x4)) (hf : cells ≤ room_1.cells ∧ slots ≤ room_1.slots) (hg : cells + 1 ≤ room_1.cells ∧ slots + 6 ≤ room_1.slots) (h1 : vp_in (x4 + 1) Ls) (h2 : vp_in (x4 + 2) Ls) (h3 : vp_in (x4 + 3) Ls) (h4 : vp_in (x4 + 4) Ls) (h5 : vp_in (x4 + 5) Ls)
    (kk : LCont p l e s m below meth c cells slots Q b D B LC LM o cJ x4 kN) : W p l e room_1 s m #[Value.ref b] below meth c H locs cells slots Q (F0 m 491 ls []) := by
  have hl : lv_has ls 7 (lvL b LC LM o x4) := hl
  obtain ⟨N9, nn9, hN9⟩ := id hT.2.2.2.2.2.2.2.2.2
  refine lv_aload_n S.1 S.2.1 dL_law_491 rfl (lv_at hl 1 rfl) ?_
  refine lw_arg (k := 1) S hX hbl hS (lv_at hl 0 rfl) (lv_at hl 4 rfl) h1 dL_law_492 dL_law_493 dL_law_495 (by decide) dL_law_496 dL_law_497 ?_
  refine lw_arg (k := 2) S hX hbl hS (lv_at hl 0 rfl) (lv_at hl 4 rfl) h2 dL_law_498 dL_law_499 dL_law_501 (by decide) dL_law_502 dL_law_503 ?_
  refine lw_arg (k := 3) S hX hbl hS (lv_at hl 0 rfl) (lv_at hl 4 rfl) h3 dL_law_504 dL_law_505 dL_law_507 (by decide) dL_law_508 dL_law_509 ?_
  refine lw_C (n := 3) (As := [.int (xs (x4 + 1).toNatClampNeg), .int (xs (x4 + 2).toNatClampNeg), .int (xs (x4 + 3).toNatClampNeg)]) (rest := []) S K hL hS (k_X4_cut l D B LC _ σ τ _ _ _ N9 hT.1 hN9.1.1) gL_law_X4_cut rfl hdV_X4_cut ⟨Nat.le_of_ble_eq_true rfl, Nat.le_of_ble_eq_true rfl⟩ rfl hl.1 (Nat.le_of_ble_eq_true rfl) dL_law_510 hf (fun r1 σ1 τ1 H locs q1 hL hS => ?_)
  obtain ⟨x1, rfl, q1⟩ := q1
  show W p l e room_1 s m #[Value.ref b] below meth c H locs cells slots Q (F0 m 513 ls [.int x1])
  refine lv_pop S.1 S.2.1 dL_law_513 rfl ?_
  refine lv_aload_n S.1 S.2.1 dL_law_514 rfl (lv_at hl 2 rfl) ?_
  refine lw_arg (k := 1) S hX hbl hS (lv_at hl 0 rfl) (lv_at hl 4 rfl) h1 dL_law_515 dL_law_516 dL_law_518 (by decide) dL_law_519 dL_law_520 ?_
  refine lw_arg (k := 2) S hX hbl hS (lv_at hl 0 rfl) (lv_at hl 4 rfl) h2 dL_law_521 dL_law_522 dL_law_524 (by decide) dL_law_525 dL_law_526 ?_
  refine lw_arg (k := 3) S hX hbl hS (lv_at hl 0 rfl) (lv_at hl 4 rfl) h3 dL_law_527 dL_law_528 dL_law_530 (by decide) dL_law_531 dL_law_532 ?_
  refine lw_M (n := 3) (As := [.int (xs (x4 + 1).toNatClampNeg), .int (xs (x4 + 2).toNatClampNeg), .int (xs (x4 + 3).toNatClampNeg)]) (rest := []) S K hL hS (k_X5_cut l D B LM _ σM τM _ _ _ N9 hT.2.1 hN9.1.2.1 hN9.1.2.2) gL_law_X5_cut rfl hdV_X5_cut ⟨Nat.le_of_ble_eq_true rfl, Nat.le_of_ble_eq_true rfl⟩ rfl hl.1 (Nat.le_of_ble_eq_true rfl) dL_law_533 hf (fun r2 σ2 τ2 H locs q2 hL hS => ?_)
  obtain ⟨x2, rfl, q2⟩ := q2
  show W p l e room_1 s m #[Value.ref b] below meth c H locs cells slots Q (F0 m 536 ls [.int x2])
  refine lv_pop S.1 S.2.1 dL_law_536 rfl ?_
  refine lv_goto (tgt := 949) S.1 S.2.1 dL_law_537 (by decide) ?_
  refine W.widen (k := cells + 1) (n := slots + 6) (by omega) (by omega) ?_
  have a0 : (σ1 0 0 0).toInt = (σ 0 0 0).toInt := by rw [show σ1 0 = σ 0 from (q1.2.1 0 (by decide))]
  have a0M : (σ2 4 0 0).toInt = (σM 4 0 0).toInt := by rw [show σ2 4 = σM 4 from (q2.2.1 4 (by decide))]
  have a1 : (σ1 1 0 0).toInt = (σ 1 0 0).toInt := by rw [show σ1 1 = σ 1 from (q1.2.1 1 (by decide))]
  have a1M : (σ2 1 0 0).toInt = (σM 1 0 0).toInt := by rw [show σ2 1 = σM 1 from (q2.2.1 1 (by decide))]
  have a3 : (σ1 3 0 0).toInt = (σ 3 0 0).toInt := by rw [show σ1 3 = σ 3 from (q1.2.1 3 (by decide))]
  have a3M : (σ2 2 0 0).toInt = (σM 2 0 0).toInt := by rw [show σ2 2 = σM 2 from (q2.2.1 2 (by decide))]
  obtain ⟨t1, t2, t3, t4, t5, t6, t7, t8, t9, t10⟩ := id hT
  have t7 : TSn (σ1 2) (σ1 29) (σ2 3) (σ2 13) := by rw [show σ1 2 = σ 2 from (q1.2.1 2 (by decide)), show σ1 29 = σ 29 from (q1.2.1 29 (by decide)), show σ2 3 = σM 3 from (q2.2.1 3 (by decide)), show σ2 13 = σM 13 from (q2.2.1 13 (by decide))]; exact t7
  have t8 : TEr σ1 τ σ2 := TEr_of t8 (fun v hv => q1.2.1 v (fun z => by revert hv z; revert v; decide)) (fun v hv => q2.2.1 v (fun z => by revert hv z; revert v; decide))
  have et : τ1 = τ := q1.2.2.1
  have t9 : σ2 32 0 0 = 0 := by rw [show σ2 32 = σM 32 from (q2.2.1 32 (by decide))]; exact t9
  have t10 : TNk σ1 σ2 (kN + 1) := ⟨N9, nn9, TN_q hN9 q2.2.2.2.1 (fun v hv => q1.2.1 v (fun z => by revert hv z; revert v; decide)) (fun v hv => q2.2.1 v (fun z => by revert hv z; revert v; decide))⟩
  exact kk σ1 τ1 σ2 τ2 H locs ls (tie_of hT q1.1 q2.1 (q2.2.1 33 (by decide)) (by omega) (by omega) (by omega) t7 (by rw [et]; exact t8) t9 t10) hL hS (lv_sub hl [0, 1, 2, 3, 4] rfl)
set_option maxHeartbeats 4000000 in
set_option maxRecDepth 100000 in
theorem law_parcel (S : CallFix p m c cL_law 7 s #[Value.ref b] wsL_law RL) (hl9 : l.stackTraces = false) (hX : va_X b Ls xs s s.heap) (hbl : b < s.heap.size) (K : LKd D B LC LM o cJ sa1 sa2 s) (hT : Tie σ τ σM kN) (hkN : kN < 1000) (hL : LWd D B LC LM o cJ σ τ σM τM H) (hS : va_S (fun q => s.heap.size ≤ q) s.heap H locs) (hl : lv_has ls 7 (lvL b LC LM o x4)) (hf : cells ≤ room_1.cells ∧ slots ≤ room_1.slots) (hg : cells + 1 ≤ room_1.cells ∧ slots + 6 ≤ room_1.slots) (h1 : vp_in (x4 + 1) Ls) (h2 : vp_in (x4 + 2) Ls) (h3 : vp_in (x4 + 3) Ls) (h4 : vp_in (x4 + 4) Ls) (h5 : vp_in (x4 + 5) Ls)
    (kk : LCont p l e s m below meth c cells slots Q b D B LC LM o cJ x4 kN) : W p l e room_1 s m #[Value.ref b] below meth c H locs cells slots Q (F0 m 540 ls []) := by
  have hl : lv_has ls 7 (lvL b LC LM o x4) := hl
  obtain ⟨N9, nn9, hN9⟩ := id hT.2.2.2.2.2.2.2.2.2
  refine lv_aload_n S.1 S.2.1 dL_law_540 rfl (lv_at hl 1 rfl) ?_
  refine lw_arg (k := 1) S hX hbl hS (lv_at hl 0 rfl) (lv_at hl 4 rfl) h1 dL_law_541 dL_law_542 dL_law_544 (by decide) dL_law_545 dL_law_546 ?_
  refine lw_arg (k := 2) S hX hbl hS (lv_at hl 0 rfl) (lv_at hl 4 rfl) h2 dL_law_547 dL_law_548 dL_law_550 (by decide) dL_law_551 dL_law_552 ?_
  refine lw_arg (k := 3) S hX hbl hS (lv_at hl 0 rfl) (lv_at hl 4 rfl) h3 dL_law_553 dL_law_554 dL_law_556 (by decide) dL_law_557 dL_law_558 ?_
  refine lw_C (n := 3) (As := [.int (xs (x4 + 1).toNatClampNeg), .int (xs (x4 + 2).toNatClampNeg), .int (xs (x4 + 3).toNatClampNeg)]) (rest := []) S K hL hS (k_X4_parcel l D B LC _ σ τ _ _ _ hT.1) gL_law_X4_parcel rfl hdV_X4_parcel ⟨Nat.le_of_ble_eq_true rfl, Nat.le_of_ble_eq_true rfl⟩ rfl hl.1 (Nat.le_of_ble_eq_true rfl) dL_law_559 hf (fun r1 σ1 τ1 H locs q1 hL hS => ?_)
  obtain ⟨x1, rfl, q1⟩ := q1
  show W p l e room_1 s m #[Value.ref b] below meth c H locs cells slots Q (F0 m 562 ls [.int x1])
  refine lv_pop S.1 S.2.1 dL_law_562 rfl ?_
  refine lv_aload_n S.1 S.2.1 dL_law_563 rfl (lv_at hl 2 rfl) ?_
  refine lw_arg (k := 1) S hX hbl hS (lv_at hl 0 rfl) (lv_at hl 4 rfl) h1 dL_law_564 dL_law_565 dL_law_567 (by decide) dL_law_568 dL_law_569 ?_
  refine lw_arg (k := 2) S hX hbl hS (lv_at hl 0 rfl) (lv_at hl 4 rfl) h2 dL_law_570 dL_law_571 dL_law_573 (by decide) dL_law_574 dL_law_575 ?_
  refine lw_arg (k := 3) S hX hbl hS (lv_at hl 0 rfl) (lv_at hl 4 rfl) h3 dL_law_576 dL_law_577 dL_law_579 (by decide) dL_law_580 dL_law_581 ?_
  refine lw_M (n := 3) (As := [.int (xs (x4 + 1).toNatClampNeg), .int (xs (x4 + 2).toNatClampNeg), .int (xs (x4 + 3).toNatClampNeg)]) (rest := []) S K hL hS (k_X5_parcel l D B LM _ σM τM _ _ _ hT.2.1 (fun z => hN9.2.2.2.2.1 _ (by have e9 := hT.2.2.2.1; have e8 := hN9.2.2.1; have e7 := cl_eq (j := σM 4 0 0) (by omega); omega) (by have e9 := hT.2.2.2.1; have e8 := hN9.2.2.1; have e7 := cl_eq (j := σM 4 0 0) (by omega); omega))) gL_law_X5_parcel rfl hdV_X5_parcel ⟨Nat.le_of_ble_eq_true rfl, Nat.le_of_ble_eq_true rfl⟩ rfl hl.1 (Nat.le_of_ble_eq_true rfl) dL_law_582 hf (fun r2 σ2 τ2 H locs q2 hL hS => ?_)
  obtain ⟨x2, rfl, q2⟩ := q2
  show W p l e room_1 s m #[Value.ref b] below meth c H locs cells slots Q (F0 m 585 ls [.int x2])
  refine lv_pop S.1 S.2.1 dL_law_585 rfl ?_
  refine lv_goto (tgt := 949) S.1 S.2.1 dL_law_586 (by decide) ?_
  refine W.widen (k := cells + 1) (n := slots + 6) (by omega) (by omega) ?_
  have a1 : (σ1 1 0 0).toInt = (σ 1 0 0).toInt := by rw [show σ1 1 = σ 1 from (q1.2.1 1 (by decide))]
  have a1M : (σ2 1 0 0).toInt = (σM 1 0 0).toInt := by rw [show σ2 1 = σM 1 from (q2.2.1 1 (by decide))]
  have a3 : (σ1 3 0 0).toInt = (σ 3 0 0).toInt := by rw [show σ1 3 = σ 3 from (q1.2.1 3 (by decide))]
  have a3M : (σ2 2 0 0).toInt = (σM 2 0 0).toInt := by rw [show σ2 2 = σM 2 from (q2.2.1 2 (by decide))]
  obtain ⟨t1, t2, t3, t4, t5, t6, t7, t8, t9, t10⟩ := id hT
  have t7 : TSn (σ1 2) (σ1 29) (σ2 3) (σ2 13) := by rw [show σ1 2 = σ 2 from (q1.2.1 2 (by decide)), show σ1 29 = σ 29 from (q1.2.1 29 (by decide)), show σ2 3 = σM 3 from (q2.2.1 3 (by decide)), show σ2 13 = σM 13 from (q2.2.1 13 (by decide))]; exact t7
  have t8 : TEr σ1 τ σ2 := TEr_of t8 (fun v hv => q1.2.1 v (fun z => by revert hv z; revert v; decide)) (fun v hv => q2.2.1 v (fun z => by revert hv z; revert v; decide))
  have et : τ1 = τ := q1.2.2.1
  have t9 : σ2 32 0 0 = 0 := by rw [show σ2 32 = σM 32 from (q2.2.1 32 (by decide))]; exact t9
  have t10 : TNk σ1 σ2 (kN + 1) := parcel_N hN9 t4 q1.2.2.2 q2.2.2.2 q1.2.1 q2.2.1
  have hxy : (σ1 0 0 0).toInt = (σ2 4 0 0).toInt ∧ x1.toInt = x2.toInt := by
    rcases q1.2.2.2.1 with ⟨u1, u2, u3⟩ | ⟨u1, u2, u3⟩ <;> rcases q2.2.2.2.1 with ⟨w1, w2, w3⟩ | ⟨w1, w2, w3⟩
    · exact ⟨by rw [u2, w2]; exact t4, by rw [u1, w1]⟩
    · exact absurd w1 (by rw [← t4]; exact u3)
    · exact absurd u1 (by rw [t4]; exact w3)
    · constructor <;> omega
  exact kk σ1 τ1 σ2 τ2 H locs ls (tie_of hT q1.1 q2.1 (q2.2.1 33 (by decide)) (hxy.1) (by omega) (by omega) t7 (by rw [et]; exact t8) t9 t10) hL hS (lv_sub hl [0, 1, 2, 3, 4] rfl)
set_option maxHeartbeats 4000000 in
set_option maxRecDepth 100000 in
theorem law_tick (S : CallFix p m c cL_law 7 s #[Value.ref b] wsL_law RL) (hl9 : l.stackTraces = false) (hX : va_X b Ls xs s s.heap) (hbl : b < s.heap.size) (K : LKd D B LC LM o cJ sa1 sa2 s) (hT : Tie σ τ σM kN) (hkN : kN < 1000) (hL : LWd D B LC LM o cJ σ τ σM τM H) (hS : va_S (fun q => s.heap.size ≤ q) s.heap H locs) (hl : lv_has ls 7 (lvL b LC LM o x4)) (hf : cells ≤ room_1.cells ∧ slots ≤ room_1.slots) (hg : cells + 1 ≤ room_1.cells ∧ slots + 6 ≤ room_1.slots) (h1 : vp_in (x4 + 1) Ls) (h2 : vp_in (x4 + 2) Ls) (h3 : vp_in (x4 + 3) Ls) (h4 : vp_in (x4 + 4) Ls) (h5 : vp_in (x4 + 5) Ls)
    (kk : LCont p l e s m below meth c cells slots Q b D B LC LM o cJ x4 kN) : W p l e room_1 s m #[Value.ref b] below meth c H locs cells slots Q (F0 m 589 ls []) := by
  have hl : lv_has ls 7 (lvL b LC LM o x4) := hl
  obtain ⟨N9, nn9, hN9⟩ := id hT.2.2.2.2.2.2.2.2.2
  refine lv_aload_n S.1 S.2.1 dL_law_589 rfl (lv_at hl 1 rfl) ?_
  refine lw_arg (k := 1) S hX hbl hS (lv_at hl 0 rfl) (lv_at hl 4 rfl) h1 dL_law_590 dL_law_591 dL_law_593 (by decide) dL_law_594 dL_law_595 ?_
  refine lw_C (n := 1) (As := [.int (xs (x4 + 1).toNatClampNeg)]) (rest := []) S K hL hS (k_X4_tick l D B LC _ σ τ _ N9 nn9 hT.1 hN9.1.1 hN9.2.1 hN9.2.2.1) gL_law_X4_tick rfl hdV_X4_tick ⟨Nat.le_of_ble_eq_true rfl, Nat.le_of_ble_eq_true rfl⟩ rfl hl.1 (Nat.le_of_ble_eq_true rfl) dL_law_596 hf (fun r1 σ1 τ1 H locs q1 hL hS => ?_)
  obtain ⟨x1, rfl, q1⟩ := q1
  show W p l e room_1 s m #[Value.ref b] below meth c H locs cells slots Q (F0 m 599 ls [.int x1])
  refine lv_pop S.1 S.2.1 dL_law_599 rfl ?_
  refine lv_aload_n S.1 S.2.1 dL_law_600 rfl (lv_at hl 2 rfl) ?_
  refine lw_arg (k := 1) S hX hbl hS (lv_at hl 0 rfl) (lv_at hl 4 rfl) h1 dL_law_601 dL_law_602 dL_law_604 (by decide) dL_law_605 dL_law_606 ?_
  refine lw_M (n := 1) (As := [.int (xs (x4 + 1).toNatClampNeg)]) (rest := []) S K hL hS (k_X5_tick l D B LM _ σM τM _ N9 nn9 hT.2.1 hN9.1.2.1 hN9.1.2.2 (by rw [← hN9.2.2.2.1.1, ← hT.2.2.2.2.1]; exact hN9.2.1.1) (hN9.2.2.1.trans hT.2.2.2.1)) gL_law_X5_tick rfl hdV_X5_tick ⟨Nat.le_of_ble_eq_true rfl, Nat.le_of_ble_eq_true rfl⟩ rfl hl.1 (Nat.le_of_ble_eq_true rfl) dL_law_607 hf (fun r2 σ2 τ2 H locs q2 hL hS => ?_)
  obtain ⟨x2, rfl, q2⟩ := q2
  show W p l e room_1 s m #[Value.ref b] below meth c H locs cells slots Q (F0 m 610 ls [.int x2])
  refine lv_pop S.1 S.2.1 dL_law_610 rfl ?_
  refine lv_goto (tgt := 949) S.1 S.2.1 dL_law_611 (by decide) ?_
  refine W.widen (k := cells + 1) (n := slots + 6) (by omega) (by omega) ?_
  have a0 : (σ1 0 0 0).toInt = (σ 0 0 0).toInt := by rw [show σ1 0 = σ 0 from (q1.2.1 0 (by decide))]
  have a0M : (σ2 4 0 0).toInt = (σM 4 0 0).toInt := by rw [show σ2 4 = σM 4 from (q2.2.1 4 (by decide))]
  have a3 : (σ1 3 0 0).toInt = (σ 3 0 0).toInt := by rw [show σ1 3 = σ 3 from (q1.2.1 3 (by decide))]
  have a3M : (σ2 2 0 0).toInt = (σM 2 0 0).toInt := by rw [show σ2 2 = σM 2 from (q2.2.1 2 (by decide))]
  obtain ⟨t1, t2, t3, t4, t5, t6, t7, t8, t9, t10⟩ := id hT
  have t7 : TSn (σ1 2) (σ1 29) (σ2 3) (σ2 13) := by rw [show σ1 2 = σ 2 from (q1.2.1 2 (by decide)), show σ1 29 = σ 29 from (q1.2.1 29 (by decide)), show σ2 3 = σM 3 from (q2.2.1 3 (by decide)), show σ2 13 = σM 13 from (q2.2.1 13 (by decide))]; exact t7
  have t8 : TEr σ1 τ σ2 := TEr_of t8 (fun v hv => q1.2.1 v (fun z => by revert hv z; revert v; decide)) (fun v hv => q2.2.1 v (fun z => by revert hv z; revert v; decide))
  have et : τ1 = τ := q1.2.2.1
  have t9 : σ2 32 0 0 = 0 := by rw [show σ2 32 = σM 32 from (q2.2.1 32 (by decide))]; exact t9
  have t10 : TNk σ1 σ2 (kN + 1) := tick_N hN9 t5 (t1.1 1 0 0).1 q1.2.2.2 q2.2.2.2 q1.2.1 q2.2.1
  have hxy : (σ1 1 0 0).toInt = (σ2 1 0 0).toInt ∧ x1.toInt = x2.toInt := by
    rcases q1.2.2.2.1 with ⟨u1, u2, u3⟩ | ⟨u1, u2, u3⟩ <;> rcases q2.2.2.2.1 with ⟨w1, w2, w3⟩ | ⟨w1, w2, w3⟩
    · exact ⟨by rw [u2, w2]; exact t5, by rw [u1, w1]⟩
    · exact absurd w1 (by rw [← t5]; exact u3)
    · exact absurd u1 (by rw [t5]; exact w3)
    · constructor <;> omega
  exact kk σ1 τ1 σ2 τ2 H locs ls (tie_of hT q1.1 q2.1 (q2.2.1 33 (by decide)) (by omega) (hxy.1) (by omega) t7 (by rw [et]; exact t8) t9 t10) hL hS (lv_sub hl [0, 1, 2, 3, 4] rfl)
set_option maxHeartbeats 4000000 in
set_option maxRecDepth 100000 in
theorem law_told (S : CallFix p m c cL_law 7 s #[Value.ref b] wsL_law RL) (hl9 : l.stackTraces = false) (hX : va_X b Ls xs s s.heap) (hbl : b < s.heap.size) (K : LKd D B LC LM o cJ sa1 sa2 s) (hT : Tie σ τ σM kN) (hkN : kN < 1000) (hL : LWd D B LC LM o cJ σ τ σM τM H) (hS : va_S (fun q => s.heap.size ≤ q) s.heap H locs) (hl : lv_has ls 7 (lvL b LC LM o x4)) (hf : cells ≤ room_1.cells ∧ slots ≤ room_1.slots) (hg : cells + 1 ≤ room_1.cells ∧ slots + 6 ≤ room_1.slots) (h1 : vp_in (x4 + 1) Ls) (h2 : vp_in (x4 + 2) Ls) (h3 : vp_in (x4 + 3) Ls) (h4 : vp_in (x4 + 4) Ls) (h5 : vp_in (x4 + 5) Ls)
    (kk : LCont p l e s m below meth c cells slots Q b D B LC LM o cJ x4 kN) : W p l e room_1 s m #[Value.ref b] below meth c H locs cells slots Q (F0 m 614 ls []) := by
  have hl : lv_has ls 7 (lvL b LC LM o x4) := hl
  obtain ⟨N9, nn9, hN9⟩ := id hT.2.2.2.2.2.2.2.2.2
  refine lv_aload_n S.1 S.2.1 dL_law_614 rfl (lv_at hl 1 rfl) ?_
  refine lw_arg (k := 1) S hX hbl hS (lv_at hl 0 rfl) (lv_at hl 4 rfl) h1 dL_law_615 dL_law_616 dL_law_618 (by decide) dL_law_619 dL_law_620 ?_
  refine lw_arg (k := 2) S hX hbl hS (lv_at hl 0 rfl) (lv_at hl 4 rfl) h2 dL_law_621 dL_law_622 dL_law_624 (by decide) dL_law_625 dL_law_626 ?_
  refine lv_aload_n S.1 S.2.1 dL_law_627 rfl (lv_at hl 3 rfl) ?_
  refine lw_T S hl9 K hL hS hT.1 gL_law_L_told hl.1 dL_law_628 hg (fun x1 H locs hL hS => ?_)
  refine lv_istore (lv' := [(5, .int x1), (0, .ref b), (1, .ref (LC 0 0)), (2, .ref (LM 0 0)), (3, .ref o), (4, .int x4)]) S.1 S.2.1 dL_law_631 hl (by decide) rfl (fun ls hl => ?_)
  refine lv_aload_n S.1 S.2.1 dL_law_633 rfl (lv_at hl 3 rfl) ?_
  refine lw_arg (k := 1) S hX hbl hS (lv_at hl 1 rfl) (lv_at hl 5 rfl) h1 dL_law_634 dL_law_635 dL_law_637 (by decide) dL_law_638 dL_law_639 ?_
  refine lw_arg (k := 2) S hX hbl hS (lv_at hl 1 rfl) (lv_at hl 5 rfl) h2 dL_law_640 dL_law_641 dL_law_643 (by decide) dL_law_644 dL_law_645 ?_
  refine lw_M (n := 2) (As := [.int (xs (x4 + 1).toNatClampNeg), .int (xs (x4 + 2).toNatClampNeg)]) (rest := []) S K hL hS (k_X5_told l D B LM _ σM τM _ _ hT.2.1) gL_law_X5_told rfl hdV_X5_told ⟨Nat.le_of_ble_eq_true rfl, Nat.le_of_ble_eq_true rfl⟩ rfl hl.1 (Nat.le_of_ble_eq_true rfl) dL_law_646 ⟨hg.1, hg.2⟩ (fun r2 σ2 τ2 H locs q2 hL hS => ?_)
  obtain ⟨x2, rfl, q2⟩ := q2
  show W p l e room_1 s m #[Value.ref b] below meth c H locs (cells + 1) (slots + 6) Q (F0 m 649 ls [.int x2])
  refine lv_istore (lv' := [(6, .int x2), (5, .int x1), (0, .ref b), (1, .ref (LC 0 0)), (2, .ref (LM 0 0)), (3, .ref o), (4, .int x4)]) S.1 S.2.1 dL_law_649 hl (by decide) rfl (fun ls hl => ?_)
  refine lv_goto (tgt := 949) S.1 S.2.1 dL_law_651 (by decide) ?_
  have a0 : (σ 0 0 0).toInt = (σ 0 0 0).toInt := by rw [show σ 0 = σ 0 from rfl]
  have a0M : (σ2 4 0 0).toInt = (σM 4 0 0).toInt := by rw [show σ2 4 = σM 4 from (q2.2.1 4 (by decide))]
  have a1 : (σ 1 0 0).toInt = (σ 1 0 0).toInt := by rw [show σ 1 = σ 1 from rfl]
  have a1M : (σ2 1 0 0).toInt = (σM 1 0 0).toInt := by rw [show σ2 1 = σM 1 from (q2.2.1 1 (by decide))]
  have a3 : (σ 3 0 0).toInt = (σ 3 0 0).toInt := by rw [show σ 3 = σ 3 from rfl]
  have a3M : (σ2 2 0 0).toInt = (σM 2 0 0).toInt := by rw [show σ2 2 = σM 2 from (q2.2.1 2 (by decide))]
  obtain ⟨t1, t2, t3, t4, t5, t6, t7, t8, t9, t10⟩ := id hT
  have t7 : TSn (σ 2) (σ 29) (σ2 3) (σ2 13) := by rw [show σ2 3 = σM 3 from (q2.2.1 3 (by decide)), show σ2 13 = σM 13 from (q2.2.1 13 (by decide))]; exact t7
  have t8 : TEr σ τ σ2 := TEr_of t8 (fun _ _ => rfl) (fun v hv => q2.2.1 v (fun z => by revert hv z; revert v; decide))
  have t9 : σ2 32 0 0 = 0 := by rw [show σ2 32 = σM 32 from (q2.2.1 32 (by decide))]; exact t9
  have t10 : TNk σ σ2 (kN + 1) := ⟨N9, nn9, TN_of hN9 (fun _ _ => rfl) (fun v hv => q2.2.1 v (fun z => by revert hv z; revert v; decide))⟩
  exact kk σ τ σ2 τ2 H locs ls (tie_of hT hT.1 q2.1 (q2.2.1 33 (by decide)) (by omega) (by omega) (by omega) t7 t8 t9 t10) hL hS (lv_sub hl [2, 3, 4, 5, 6] rfl)
set_option maxHeartbeats 4000000 in
set_option maxRecDepth 100000 in
theorem law_waiting (S : CallFix p m c cL_law 7 s #[Value.ref b] wsL_law RL) (hl9 : l.stackTraces = false) (hX : va_X b Ls xs s s.heap) (hbl : b < s.heap.size) (K : LKd D B LC LM o cJ sa1 sa2 s) (hT : Tie σ τ σM kN) (hkN : kN < 1000) (hL : LWd D B LC LM o cJ σ τ σM τM H) (hS : va_S (fun q => s.heap.size ≤ q) s.heap H locs) (hl : lv_has ls 7 (lvL b LC LM o x4)) (hf : cells ≤ room_1.cells ∧ slots ≤ room_1.slots) (hg : cells + 1 ≤ room_1.cells ∧ slots + 6 ≤ room_1.slots) (h1 : vp_in (x4 + 1) Ls) (h2 : vp_in (x4 + 2) Ls) (h3 : vp_in (x4 + 3) Ls) (h4 : vp_in (x4 + 4) Ls) (h5 : vp_in (x4 + 5) Ls)
    (kk : LCont p l e s m below meth c cells slots Q b D B LC LM o cJ x4 kN) : W p l e room_1 s m #[Value.ref b] below meth c H locs cells slots Q (F0 m 654 ls []) := by
  have hl : lv_has ls 7 (lvL b LC LM o x4) := hl
  obtain ⟨N9, nn9, hN9⟩ := id hT.2.2.2.2.2.2.2.2.2
  refine lv_aload_n S.1 S.2.1 dL_law_654 rfl (lv_at hl 1 rfl) ?_
  refine lw_arg (k := 1) S hX hbl hS (lv_at hl 0 rfl) (lv_at hl 4 rfl) h1 dL_law_655 dL_law_656 dL_law_658 (by decide) dL_law_659 dL_law_660 ?_
  refine lw_C (n := 1) (As := [.int (xs (x4 + 1).toNatClampNeg)]) (rest := []) S K hL hS (k_X4_waiting l D B LC _ σ τ _ hT.1) gL_law_X4_waiting rfl hdV_X4_waiting ⟨Nat.le_of_ble_eq_true rfl, Nat.le_of_ble_eq_true rfl⟩ rfl hl.1 (Nat.le_of_ble_eq_true rfl) dL_law_661 hf (fun r1 σ1 τ1 H locs q1 hL hS => ?_)
  obtain ⟨x1, rfl, q1⟩ := q1
  show W p l e room_1 s m #[Value.ref b] below meth c H locs cells slots Q (F0 m 664 ls [.int x1])
  refine lv_aload_n S.1 S.2.1 dL_law_664 rfl (lv_at hl 2 rfl) ?_
  refine lw_arg (k := 1) S hX hbl hS (lv_at hl 0 rfl) (lv_at hl 4 rfl) h1 dL_law_665 dL_law_666 dL_law_668 (by decide) dL_law_669 dL_law_670 ?_
  refine lw_M (n := 1) (As := [.int (xs (x4 + 1).toNatClampNeg)]) (rest := [.int x1]) S K hL hS (k_X5_waiting l D B LM _ σM τM _ hT.2.1) gL_law_X5_waiting rfl hdV_X5_waiting ⟨Nat.le_of_ble_eq_true rfl, Nat.le_of_ble_eq_true rfl⟩ rfl hl.1 (Nat.le_of_ble_eq_true rfl) dL_law_671 hf (fun r2 σ2 τ2 H locs q2 hL hS => ?_)
  obtain ⟨x2, rfl, q2⟩ := q2
  show W p l e room_1 s m #[Value.ref b] below meth c H locs cells slots Q (F0 m 674 ls [.int x2, .int x1])
  refine lv_icmp_eq (tgt := 949) S.1 S.2.1 dL_law_674 (by decide) (fun c9 => ?_) (fun c9 => ?_)
  · refine W.widen (k := cells + 1) (n := slots + 6) (by omega) (by omega) ?_
    have a0 : (σ1 0 0 0).toInt = (σ 0 0 0).toInt := by rw [show σ1 0 = σ 0 from (by rw [q1.1])]
    have a0M : (σ2 4 0 0).toInt = (σM 4 0 0).toInt := by rw [show σ2 4 = σM 4 from (q2.2.1 4 (by decide))]
    have a1 : (σ1 1 0 0).toInt = (σ 1 0 0).toInt := by rw [show σ1 1 = σ 1 from (by rw [q1.1])]
    have a1M : (σ2 1 0 0).toInt = (σM 1 0 0).toInt := by rw [show σ2 1 = σM 1 from (q2.2.1 1 (by decide))]
    have a3 : (σ1 3 0 0).toInt = (σ 3 0 0).toInt := by rw [show σ1 3 = σ 3 from (by rw [q1.1])]
    have a3M : (σ2 2 0 0).toInt = (σM 2 0 0).toInt := by rw [show σ2 2 = σM 2 from (q2.2.1 2 (by decide))]
    obtain ⟨t1, t2, t3, t4, t5, t6, t7, t8, t9, t10⟩ := id hT
    have t7 : TSn (σ1 2) (σ1 29) (σ2 3) (σ2 13) := by rw [show σ1 2 = σ 2 from (by rw [q1.1]), show σ1 29 = σ 29 from (by rw [q1.1]), show σ2 3 = σM 3 from (q2.2.1 3 (by decide)), show σ2 13 = σM 13 from (q2.2.1 13 (by decide))]; exact t7
    have t8 : TEr σ1 τ σ2 := TEr_of t8 (fun v _ => by rw [q1.1]) (fun v hv => q2.2.1 v (fun z => by revert hv z; revert v; decide))
    have et : τ1 = τ := q1.2.1
    have t9 : σ2 32 0 0 = 0 := by rw [show σ2 32 = σM 32 from (q2.2.1 32 (by decide))]; exact t9
    have t10 : TNk σ1 σ2 (kN + 1) := ⟨N9, nn9, TN_of hN9 (fun v _ => by rw [q1.1]) (fun v hv => q2.2.1 v (fun z => by revert hv z; revert v; decide))⟩
    exact kk σ1 τ1 σ2 τ2 H locs ls (tie_of hT (by rw [q1.1]; exact hT.1) q2.1 (q2.2.1 33 (by decide)) (by omega) (by omega) (by omega) t7 (by rw [et]; exact t8) t9 t10) hL hS (lv_sub hl [0, 1, 2, 3, 4] rfl)
  · exfalso
    obtain ⟨t1, t2, t3, t4, t5, t6, t7, t8, t9, t10⟩ := id hT
    exact c9 (Int32.toInt_inj.mp (waiting_N hN9 t4 q1.2.2 q2.2.2.2))
set_option maxHeartbeats 4000000 in
set_option maxRecDepth 100000 in
theorem law_fares (S : CallFix p m c cL_law 7 s #[Value.ref b] wsL_law RL) (hl9 : l.stackTraces = false) (hX : va_X b Ls xs s s.heap) (hbl : b < s.heap.size) (K : LKd D B LC LM o cJ sa1 sa2 s) (hT : Tie σ τ σM kN) (hkN : kN < 1000) (hL : LWd D B LC LM o cJ σ τ σM τM H) (hS : va_S (fun q => s.heap.size ≤ q) s.heap H locs) (hl : lv_has ls 7 (lvL b LC LM o x4)) (hf : cells ≤ room_1.cells ∧ slots ≤ room_1.slots) (hg : cells + 1 ≤ room_1.cells ∧ slots + 6 ≤ room_1.slots) (h1 : vp_in (x4 + 1) Ls) (h2 : vp_in (x4 + 2) Ls) (h3 : vp_in (x4 + 3) Ls) (h4 : vp_in (x4 + 4) Ls) (h5 : vp_in (x4 + 5) Ls)
    (kk : LCont p l e s m below meth c cells slots Q b D B LC LM o cJ x4 kN) : W p l e room_1 s m #[Value.ref b] below meth c H locs cells slots Q (F0 m 679 ls []) := by
  have hl : lv_has ls 7 (lvL b LC LM o x4) := hl
  obtain ⟨N9, nn9, hN9⟩ := id hT.2.2.2.2.2.2.2.2.2
  refine lv_aload_n S.1 S.2.1 dL_law_679 rfl (lv_at hl 1 rfl) ?_
  refine lw_arg (k := 1) S hX hbl hS (lv_at hl 0 rfl) (lv_at hl 4 rfl) h1 dL_law_680 dL_law_681 dL_law_683 (by decide) dL_law_684 dL_law_685 ?_
  refine lw_C (n := 1) (As := [.int (xs (x4 + 1).toNatClampNeg)]) (rest := []) S K hL hS (k_X4_fares l D B LC _ σ τ _ hT.1) gL_law_X4_fares rfl hdV_X4_fares ⟨Nat.le_of_ble_eq_true rfl, Nat.le_of_ble_eq_true rfl⟩ rfl hl.1 (Nat.le_of_ble_eq_true rfl) dL_law_686 hf (fun r1 σ1 τ1 H locs q1 hL hS => ?_)
  obtain ⟨x1, rfl, q1⟩ := q1
  show W p l e room_1 s m #[Value.ref b] below meth c H locs cells slots Q (F0 m 689 ls [.int x1])
  refine lv_pop S.1 S.2.1 dL_law_689 rfl ?_
  refine lv_aload_n S.1 S.2.1 dL_law_690 rfl (lv_at hl 2 rfl) ?_
  refine lw_arg (k := 1) S hX hbl hS (lv_at hl 0 rfl) (lv_at hl 4 rfl) h1 dL_law_691 dL_law_692 dL_law_694 (by decide) dL_law_695 dL_law_696 ?_
  refine lw_M (n := 1) (As := [.int (xs (x4 + 1).toNatClampNeg)]) (rest := []) S K hL hS (k_X5_fares l D B LM _ σM τM _ hT.2.1) gL_law_X5_fares rfl hdV_X5_fares ⟨Nat.le_of_ble_eq_true rfl, Nat.le_of_ble_eq_true rfl⟩ rfl hl.1 (Nat.le_of_ble_eq_true rfl) dL_law_697 hf (fun r2 σ2 τ2 H locs q2 hL hS => ?_)
  obtain ⟨x2, rfl, q2⟩ := q2
  show W p l e room_1 s m #[Value.ref b] below meth c H locs cells slots Q (F0 m 700 ls [.int x2])
  refine lv_pop S.1 S.2.1 dL_law_700 rfl ?_
  refine lv_goto (tgt := 949) S.1 S.2.1 dL_law_701 (by decide) ?_
  refine W.widen (k := cells + 1) (n := slots + 6) (by omega) (by omega) ?_
  have a0 : (σ1 0 0 0).toInt = (σ 0 0 0).toInt := by rw [show σ1 0 = σ 0 from (by rw [q1.1])]
  have a0M : (σ2 4 0 0).toInt = (σM 4 0 0).toInt := by rw [show σ2 4 = σM 4 from (q2.2.1 4 (by decide))]
  have a1 : (σ1 1 0 0).toInt = (σ 1 0 0).toInt := by rw [show σ1 1 = σ 1 from (by rw [q1.1])]
  have a1M : (σ2 1 0 0).toInt = (σM 1 0 0).toInt := by rw [show σ2 1 = σM 1 from (q2.2.1 1 (by decide))]
  have a3 : (σ1 3 0 0).toInt = (σ 3 0 0).toInt := by rw [show σ1 3 = σ 3 from (by rw [q1.1])]
  have a3M : (σ2 2 0 0).toInt = (σM 2 0 0).toInt := by rw [show σ2 2 = σM 2 from (q2.2.1 2 (by decide))]
  obtain ⟨t1, t2, t3, t4, t5, t6, t7, t8, t9, t10⟩ := id hT
  have t7 : TSn (σ1 2) (σ1 29) (σ2 3) (σ2 13) := by rw [show σ1 2 = σ 2 from (by rw [q1.1]), show σ1 29 = σ 29 from (by rw [q1.1]), show σ2 3 = σM 3 from (q2.2.1 3 (by decide)), show σ2 13 = σM 13 from (q2.2.1 13 (by decide))]; exact t7
  have t8 : TEr σ1 τ σ2 := TEr_of t8 (fun v _ => by rw [q1.1]) (fun v hv => q2.2.1 v (fun z => by revert hv z; revert v; decide))
  have et : τ1 = τ := q1.2.1
  have t9 : σ2 32 0 0 = 0 := by rw [show σ2 32 = σM 32 from (q2.2.1 32 (by decide))]; exact t9
  have t10 : TNk σ1 σ2 (kN + 1) := ⟨N9, nn9, TN_of hN9 (fun v _ => by rw [q1.1]) (fun v hv => q2.2.1 v (fun z => by revert hv z; revert v; decide))⟩
  exact kk σ1 τ1 σ2 τ2 H locs ls (tie_of hT (by rw [q1.1]; exact hT.1) q2.1 (q2.2.1 33 (by decide)) (by omega) (by omega) (by omega) t7 (by rw [et]; exact t8) t9 t10) hL hS (lv_sub hl [0, 1, 2, 3, 4] rfl)
set_option maxHeartbeats 4000000 in
set_option maxRecDepth 100000 in
theorem law_room (S : CallFix p m c cL_law 7 s #[Value.ref b] wsL_law RL) (hl9 : l.stackTraces = false) (hX : va_X b Ls xs s s.heap) (hbl : b < s.heap.size) (K : LKd D B LC LM o cJ sa1 sa2 s) (hT : Tie σ τ σM kN) (hkN : kN < 1000) (hL : LWd D B LC LM o cJ σ τ σM τM H) (hS : va_S (fun q => s.heap.size ≤ q) s.heap H locs) (hl : lv_has ls 7 (lvL b LC LM o x4)) (hf : cells ≤ room_1.cells ∧ slots ≤ room_1.slots) (hg : cells + 1 ≤ room_1.cells ∧ slots + 6 ≤ room_1.slots) (h1 : vp_in (x4 + 1) Ls) (h2 : vp_in (x4 + 2) Ls) (h3 : vp_in (x4 + 3) Ls) (h4 : vp_in (x4 + 4) Ls) (h5 : vp_in (x4 + 5) Ls)
    (kk : LCont p l e s m below meth c cells slots Q b D B LC LM o cJ x4 kN) : W p l e room_1 s m #[Value.ref b] below meth c H locs cells slots Q (F0 m 704 ls []) := by
  have hl : lv_has ls 7 (lvL b LC LM o x4) := hl
  obtain ⟨N9, nn9, hN9⟩ := id hT.2.2.2.2.2.2.2.2.2
  refine lv_aload_n S.1 S.2.1 dL_law_704 rfl (lv_at hl 1 rfl) ?_
  refine lw_arg (k := 1) S hX hbl hS (lv_at hl 0 rfl) (lv_at hl 4 rfl) h1 dL_law_705 dL_law_706 dL_law_708 (by decide) dL_law_709 dL_law_710 ?_
  refine lw_arg (k := 2) S hX hbl hS (lv_at hl 0 rfl) (lv_at hl 4 rfl) h2 dL_law_711 dL_law_712 dL_law_714 (by decide) dL_law_715 dL_law_716 ?_
  refine lw_C (n := 2) (As := [.int (xs (x4 + 1).toNatClampNeg), .int (xs (x4 + 2).toNatClampNeg)]) (rest := []) S K hL hS (k_X4_room l D B LC _ σ τ _ _ hT.1) gL_law_X4_room rfl hdV_X4_room ⟨Nat.le_of_ble_eq_true rfl, Nat.le_of_ble_eq_true rfl⟩ rfl hl.1 (Nat.le_of_ble_eq_true rfl) dL_law_717 hf (fun r1 σ1 τ1 H locs q1 hL hS => ?_)
  obtain ⟨x1, rfl, q1⟩ := q1
  show W p l e room_1 s m #[Value.ref b] below meth c H locs cells slots Q (F0 m 720 ls [.int x1])
  refine lv_pop S.1 S.2.1 dL_law_720 rfl ?_
  refine lv_aload_n S.1 S.2.1 dL_law_721 rfl (lv_at hl 2 rfl) ?_
  refine lw_arg (k := 1) S hX hbl hS (lv_at hl 0 rfl) (lv_at hl 4 rfl) h1 dL_law_722 dL_law_723 dL_law_725 (by decide) dL_law_726 dL_law_727 ?_
  refine lw_arg (k := 2) S hX hbl hS (lv_at hl 0 rfl) (lv_at hl 4 rfl) h2 dL_law_728 dL_law_729 dL_law_731 (by decide) dL_law_732 dL_law_733 ?_
  refine lw_M (n := 2) (As := [.int (xs (x4 + 1).toNatClampNeg), .int (xs (x4 + 2).toNatClampNeg)]) (rest := []) S K hL hS (k_X5_room l D B LM _ σM τM _ _ N9 hT.2.1 hN9.1.2.1) gL_law_X5_room rfl hdV_X5_room ⟨Nat.le_of_ble_eq_true rfl, Nat.le_of_ble_eq_true rfl⟩ rfl hl.1 (Nat.le_of_ble_eq_true rfl) dL_law_734 hf (fun r2 σ2 τ2 H locs q2 hL hS => ?_)
  obtain ⟨x2, rfl, q2⟩ := q2
  show W p l e room_1 s m #[Value.ref b] below meth c H locs cells slots Q (F0 m 737 ls [.int x2])
  refine lv_pop S.1 S.2.1 dL_law_737 rfl ?_
  refine lv_goto (tgt := 949) S.1 S.2.1 dL_law_738 (by decide) ?_
  refine W.widen (k := cells + 1) (n := slots + 6) (by omega) (by omega) ?_
  have a0 : (σ1 0 0 0).toInt = (σ 0 0 0).toInt := by rw [show σ1 0 = σ 0 from (by rw [q1.1])]
  have a0M : (σ2 4 0 0).toInt = (σM 4 0 0).toInt := by rw [show σ2 4 = σM 4 from (q2.2.1 4 (by decide))]
  have a1 : (σ1 1 0 0).toInt = (σ 1 0 0).toInt := by rw [show σ1 1 = σ 1 from (by rw [q1.1])]
  have a1M : (σ2 1 0 0).toInt = (σM 1 0 0).toInt := by rw [show σ2 1 = σM 1 from (q2.2.1 1 (by decide))]
  have a3 : (σ1 3 0 0).toInt = (σ 3 0 0).toInt := by rw [show σ1 3 = σ 3 from (by rw [q1.1])]
  have a3M : (σ2 2 0 0).toInt = (σM 2 0 0).toInt := by rw [show σ2 2 = σM 2 from (q2.2.1 2 (by decide))]
  obtain ⟨t1, t2, t3, t4, t5, t6, t7, t8, t9, t10⟩ := id hT
  have t7 : TSn (σ1 2) (σ1 29) (σ2 3) (σ2 13) := by rw [show σ1 2 = σ 2 from (by rw [q1.1]), show σ1 29 = σ 29 from (by rw [q1.1]), show σ2 3 = σM 3 from (q2.2.1 3 (by decide)), show σ2 13 = σM 13 from (q2.2.1 13 (by decide))]; exact t7
  have t8 : TEr σ1 τ σ2 := TEr_of t8 (fun v _ => by rw [q1.1]) (fun v hv => q2.2.1 v (fun z => by revert hv z; revert v; decide))
  have et : τ1 = τ := q1.2.1
  have t9 : σ2 32 0 0 = 0 := by rw [show σ2 32 = σM 32 from (q2.2.1 32 (by decide))]; exact t9
  have t10 : TNk σ1 σ2 (kN + 1) := ⟨N9, nn9, TN_of hN9 (fun v _ => by rw [q1.1]) (fun v hv => q2.2.1 v (fun z => by revert hv z; revert v; decide))⟩
  exact kk σ1 τ1 σ2 τ2 H locs ls (tie_of hT (by rw [q1.1]; exact hT.1) q2.1 (q2.2.1 33 (by decide)) (by omega) (by omega) (by omega) t7 (by rw [et]; exact t8) t9 t10) hL hS (lv_sub hl [0, 1, 2, 3, 4] rfl)
set_option maxHeartbeats 4000000 in
set_option maxRecDepth 100000 in
theorem law_walk (S : CallFix p m c cL_law 7 s #[Value.ref b] wsL_law RL) (hl9 : l.stackTraces = false) (hX : va_X b Ls xs s s.heap) (hbl : b < s.heap.size) (K : LKd D B LC LM o cJ sa1 sa2 s) (hT : Tie σ τ σM kN) (hkN : kN < 1000) (hL : LWd D B LC LM o cJ σ τ σM τM H) (hS : va_S (fun q => s.heap.size ≤ q) s.heap H locs) (hl : lv_has ls 7 (lvL b LC LM o x4)) (hf : cells ≤ room_1.cells ∧ slots ≤ room_1.slots) (hg : cells + 1 ≤ room_1.cells ∧ slots + 6 ≤ room_1.slots) (h1 : vp_in (x4 + 1) Ls) (h2 : vp_in (x4 + 2) Ls) (h3 : vp_in (x4 + 3) Ls) (h4 : vp_in (x4 + 4) Ls) (h5 : vp_in (x4 + 5) Ls)
    (kk : LCont p l e s m below meth c cells slots Q b D B LC LM o cJ x4 kN) : W p l e room_1 s m #[Value.ref b] below meth c H locs cells slots Q (F0 m 741 ls []) := by
  have hl : lv_has ls 7 (lvL b LC LM o x4) := hl
  obtain ⟨N9, nn9, hN9⟩ := id hT.2.2.2.2.2.2.2.2.2
  refine lv_aload_n S.1 S.2.1 dL_law_741 rfl (lv_at hl 1 rfl) ?_
  refine lw_arg (k := 1) S hX hbl hS (lv_at hl 0 rfl) (lv_at hl 4 rfl) h1 dL_law_742 dL_law_743 dL_law_745 (by decide) dL_law_746 dL_law_747 ?_
  refine lw_arg (k := 2) S hX hbl hS (lv_at hl 0 rfl) (lv_at hl 4 rfl) h2 dL_law_748 dL_law_749 dL_law_751 (by decide) dL_law_752 dL_law_753 ?_
  refine lw_arg (k := 3) S hX hbl hS (lv_at hl 0 rfl) (lv_at hl 4 rfl) h3 dL_law_754 dL_law_755 dL_law_757 (by decide) dL_law_758 dL_law_759 ?_
  refine lw_C (n := 3) (As := [.int (xs (x4 + 1).toNatClampNeg), .int (xs (x4 + 2).toNatClampNeg), .int (xs (x4 + 3).toNatClampNeg)]) (rest := []) S K hL hS (k_X4_walk l D B LC _ σ τ _ _ _ hT.1) gL_law_X4_walk rfl hdV_X4_walk ⟨Nat.le_of_ble_eq_true rfl, Nat.le_of_ble_eq_true rfl⟩ rfl hl.1 (Nat.le_of_ble_eq_true rfl) dL_law_760 hf (fun r1 σ1 τ1 H locs q1 hL hS => ?_)
  obtain ⟨x1, rfl, q1⟩ := q1
  show W p l e room_1 s m #[Value.ref b] below meth c H locs cells slots Q (F0 m 763 ls [.int x1])
  refine lv_pop S.1 S.2.1 dL_law_763 rfl ?_
  refine lv_aload_n S.1 S.2.1 dL_law_764 rfl (lv_at hl 2 rfl) ?_
  refine lw_arg (k := 1) S hX hbl hS (lv_at hl 0 rfl) (lv_at hl 4 rfl) h1 dL_law_765 dL_law_766 dL_law_768 (by decide) dL_law_769 dL_law_770 ?_
  refine lw_arg (k := 2) S hX hbl hS (lv_at hl 0 rfl) (lv_at hl 4 rfl) h2 dL_law_771 dL_law_772 dL_law_774 (by decide) dL_law_775 dL_law_776 ?_
  refine lw_arg (k := 3) S hX hbl hS (lv_at hl 0 rfl) (lv_at hl 4 rfl) h3 dL_law_777 dL_law_778 dL_law_780 (by decide) dL_law_781 dL_law_782 ?_
  refine lw_M (n := 3) (As := [.int (xs (x4 + 1).toNatClampNeg), .int (xs (x4 + 2).toNatClampNeg), .int (xs (x4 + 3).toNatClampNeg)]) (rest := []) S K hL hS (k_X5_walk l D B LM _ σM τM _ _ _ hT.2.1) gL_law_X5_walk rfl hdV_X5_walk ⟨Nat.le_of_ble_eq_true rfl, Nat.le_of_ble_eq_true rfl⟩ rfl hl.1 (Nat.le_of_ble_eq_true rfl) dL_law_783 hf (fun r2 σ2 τ2 H locs q2 hL hS => ?_)
  obtain ⟨x2, rfl, q2⟩ := q2
  show W p l e room_1 s m #[Value.ref b] below meth c H locs cells slots Q (F0 m 786 ls [.int x2])
  refine lv_pop S.1 S.2.1 dL_law_786 rfl ?_
  refine lv_goto (tgt := 949) S.1 S.2.1 dL_law_787 (by decide) ?_
  refine W.widen (k := cells + 1) (n := slots + 6) (by omega) (by omega) ?_
  have a0 : (σ1 0 0 0).toInt = (σ 0 0 0).toInt := by rw [show σ1 0 = σ 0 from (q1.2.1 0 (by decide))]
  have a0M : (σ2 4 0 0).toInt = (σM 4 0 0).toInt := by rw [show σ2 4 = σM 4 from (q2.2.1 4 (by decide))]
  have a1 : (σ1 1 0 0).toInt = (σ 1 0 0).toInt := by rw [show σ1 1 = σ 1 from (q1.2.1 1 (by decide))]
  have a1M : (σ2 1 0 0).toInt = (σM 1 0 0).toInt := by rw [show σ2 1 = σM 1 from (q2.2.1 1 (by decide))]
  have a3 : (σ1 3 0 0).toInt = (σ 3 0 0).toInt := by rw [show σ1 3 = σ 3 from (q1.2.1 3 (by decide))]
  have a3M : (σ2 2 0 0).toInt = (σM 2 0 0).toInt := by rw [show σ2 2 = σM 2 from (q2.2.1 2 (by decide))]
  obtain ⟨t1, t2, t3, t4, t5, t6, t7, t8, t9, t10⟩ := id hT
  have t7 : TSn (σ1 2) (σ1 29) (σ2 3) (σ2 13) := by rw [show σ1 2 = σ 2 from (q1.2.1 2 (by decide)), show σ1 29 = σ 29 from (q1.2.1 29 (by decide)), show σ2 3 = σM 3 from (q2.2.1 3 (by decide)), show σ2 13 = σM 13 from (q2.2.1 13 (by decide))]; exact t7
  have her := walk_tie t8 (fun v hv => q1.2.1 v (fun z => by revert hv z; revert v; decide)) (fun v hv => q2.2.1 v (fun z => by revert hv z; revert v; decide)) (fun v hv => q1.2.1 v (fun z => by revert hv z; revert v; decide)) q1.2.2.2 q2.2.2.2
  have t8 := her.2
  have et : τ1 = τ := q1.2.2.1
  have t9 : σ2 32 0 0 = 0 := by rw [show σ2 32 = σM 32 from (q2.2.1 32 (by decide))]; exact t9
  have t10 : TNk σ1 σ2 (kN + 1) := ⟨N9, nn9, TN_of hN9 (fun v hv => q1.2.1 v (fun z => by revert hv z; revert v; decide)) (fun v hv => q2.2.1 v (fun z => by revert hv z; revert v; decide))⟩
  exact kk σ1 τ1 σ2 τ2 H locs ls (tie_of hT q1.1 q2.1 (q2.2.1 33 (by decide)) (by omega) (by omega) (by omega) t7 (by rw [et]; exact t8) t9 t10) hL hS (lv_sub hl [0, 1, 2, 3, 4] rfl)
set_option maxHeartbeats 4000000 in
set_option maxRecDepth 100000 in
theorem law_errand (S : CallFix p m c cL_law 7 s #[Value.ref b] wsL_law RL) (hl9 : l.stackTraces = false) (hX : va_X b Ls xs s s.heap) (hbl : b < s.heap.size) (K : LKd D B LC LM o cJ sa1 sa2 s) (hT : Tie σ τ σM kN) (hkN : kN < 1000) (hL : LWd D B LC LM o cJ σ τ σM τM H) (hS : va_S (fun q => s.heap.size ≤ q) s.heap H locs) (hl : lv_has ls 7 (lvL b LC LM o x4)) (hf : cells ≤ room_1.cells ∧ slots ≤ room_1.slots) (hg : cells + 1 ≤ room_1.cells ∧ slots + 6 ≤ room_1.slots) (h1 : vp_in (x4 + 1) Ls) (h2 : vp_in (x4 + 2) Ls) (h3 : vp_in (x4 + 3) Ls) (h4 : vp_in (x4 + 4) Ls) (h5 : vp_in (x4 + 5) Ls)
    (kk : LCont p l e s m below meth c cells slots Q b D B LC LM o cJ x4 kN) : W p l e room_1 s m #[Value.ref b] below meth c H locs cells slots Q (F0 m 790 ls []) := by
  have hl : lv_has ls 7 (lvL b LC LM o x4) := hl
  obtain ⟨N9, nn9, hN9⟩ := id hT.2.2.2.2.2.2.2.2.2
  refine lv_aload_n S.1 S.2.1 dL_law_790 rfl (lv_at hl 1 rfl) ?_
  refine lw_arg (k := 1) S hX hbl hS (lv_at hl 0 rfl) (lv_at hl 4 rfl) h1 dL_law_791 dL_law_792 dL_law_794 (by decide) dL_law_795 dL_law_796 ?_
  refine lw_arg (k := 2) S hX hbl hS (lv_at hl 0 rfl) (lv_at hl 4 rfl) h2 dL_law_797 dL_law_798 dL_law_800 (by decide) dL_law_801 dL_law_802 ?_
  refine lw_arg (k := 3) S hX hbl hS (lv_at hl 0 rfl) (lv_at hl 4 rfl) h3 dL_law_803 dL_law_804 dL_law_806 (by decide) dL_law_807 dL_law_808 ?_
  refine lw_C (n := 3) (As := [.int (xs (x4 + 1).toNatClampNeg), .int (xs (x4 + 2).toNatClampNeg), .int (xs (x4 + 3).toNatClampNeg)]) (rest := []) S K hL hS (k_X4_errand l D B LC _ σ τ _ _ _ hT.1) gL_law_X4_errand rfl hdV_X4_errand ⟨Nat.le_of_ble_eq_true rfl, Nat.le_of_ble_eq_true rfl⟩ rfl hl.1 (Nat.le_of_ble_eq_true rfl) dL_law_809 hf (fun r1 σ1 τ1 H locs q1 hL hS => ?_)
  obtain ⟨x1, rfl, q1⟩ := q1
  show W p l e room_1 s m #[Value.ref b] below meth c H locs cells slots Q (F0 m 812 ls [.int x1])
  refine lv_pop S.1 S.2.1 dL_law_812 rfl ?_
  refine lv_aload_n S.1 S.2.1 dL_law_813 rfl (lv_at hl 2 rfl) ?_
  refine lw_arg (k := 1) S hX hbl hS (lv_at hl 0 rfl) (lv_at hl 4 rfl) h1 dL_law_814 dL_law_815 dL_law_817 (by decide) dL_law_818 dL_law_819 ?_
  refine lw_arg (k := 2) S hX hbl hS (lv_at hl 0 rfl) (lv_at hl 4 rfl) h2 dL_law_820 dL_law_821 dL_law_823 (by decide) dL_law_824 dL_law_825 ?_
  refine lw_arg (k := 3) S hX hbl hS (lv_at hl 0 rfl) (lv_at hl 4 rfl) h3 dL_law_826 dL_law_827 dL_law_829 (by decide) dL_law_830 dL_law_831 ?_
  refine lw_M (n := 3) (As := [.int (xs (x4 + 1).toNatClampNeg), .int (xs (x4 + 2).toNatClampNeg), .int (xs (x4 + 3).toNatClampNeg)]) (rest := []) S K hL hS (k_X5_errand l D B LM _ σM τM _ _ _ hT.2.1) gL_law_X5_errand rfl hdV_X5_errand ⟨Nat.le_of_ble_eq_true rfl, Nat.le_of_ble_eq_true rfl⟩ rfl hl.1 (Nat.le_of_ble_eq_true rfl) dL_law_832 hf (fun r2 σ2 τ2 H locs q2 hL hS => ?_)
  obtain ⟨x2, rfl, q2⟩ := q2
  show W p l e room_1 s m #[Value.ref b] below meth c H locs cells slots Q (F0 m 835 ls [.int x2])
  refine lv_pop S.1 S.2.1 dL_law_835 rfl ?_
  refine lv_goto (tgt := 949) S.1 S.2.1 dL_law_836 (by decide) ?_
  refine W.widen (k := cells + 1) (n := slots + 6) (by omega) (by omega) ?_
  have a0 : (σ1 0 0 0).toInt = (σ 0 0 0).toInt := by rw [show σ1 0 = σ 0 from (q1.2.1 0 (by decide))]
  have a0M : (σ2 4 0 0).toInt = (σM 4 0 0).toInt := by rw [show σ2 4 = σM 4 from (q2.2.1 4 (by decide))]
  have a1 : (σ1 1 0 0).toInt = (σ 1 0 0).toInt := by rw [show σ1 1 = σ 1 from (q1.2.1 1 (by decide))]
  have a1M : (σ2 1 0 0).toInt = (σM 1 0 0).toInt := by rw [show σ2 1 = σM 1 from (q2.2.1 1 (by decide))]
  have a3 : (σ1 3 0 0).toInt = (σ 3 0 0).toInt := by rw [show σ1 3 = σ 3 from (q1.2.1 3 (by decide))]
  have a3M : (σ2 2 0 0).toInt = (σM 2 0 0).toInt := by rw [show σ2 2 = σM 2 from (q2.2.1 2 (by decide))]
  obtain ⟨t1, t2, t3, t4, t5, t6, t7, t8, t9, t10⟩ := id hT
  have t7 : TSn (σ1 2) (σ1 29) (σ2 3) (σ2 13) := by rw [show σ1 2 = σ 2 from (q1.2.1 2 (by decide)), show σ1 29 = σ 29 from (q1.2.1 29 (by decide)), show σ2 3 = σM 3 from (q2.2.1 3 (by decide)), show σ2 13 = σM 13 from (q2.2.1 13 (by decide))]; exact t7
  have her := errand_tie t8 (fun v hv => q1.2.1 v (fun z => by revert hv z; revert v; decide)) (fun v hv => q2.2.1 v (fun z => by revert hv z; revert v; decide)) q1.2.2.2 q2.2.2.2
  have t8 := her.2
  have et : τ1 = τ := q1.2.2.1
  have t9 : σ2 32 0 0 = 0 := by
    rcases q2.2.2.2 with ⟨w1, w2, w3, w4, w5⟩ | ⟨w1, w2, w3, w4, w5⟩
    · rw [w5]; unfold upd; rw [if_neg (by have e9 := cl_eq (j := xs (x4 + 1).toNatClampNeg) (by omega); omega)]; exact t9
    · rw [w5]; exact t9
  have t10 : TNk σ1 σ2 (kN + 1) := ⟨N9, nn9, TN_of hN9 (fun v hv => q1.2.1 v (fun z => by revert hv z; revert v; decide)) (fun v hv => q2.2.1 v (fun z => by revert hv z; revert v; decide))⟩
  exact kk σ1 τ1 σ2 τ2 H locs ls (tie_of hT q1.1 q2.1 (q2.2.1 33 (by decide)) (by omega) (by omega) (by omega) t7 (by rw [et]; exact t8) t9 t10) hL hS (lv_sub hl [0, 1, 2, 3, 4] rfl)
set_option maxHeartbeats 4000000 in
set_option maxRecDepth 100000 in
theorem law_clear (S : CallFix p m c cL_law 7 s #[Value.ref b] wsL_law RL) (hl9 : l.stackTraces = false) (hX : va_X b Ls xs s s.heap) (hbl : b < s.heap.size) (K : LKd D B LC LM o cJ sa1 sa2 s) (hT : Tie σ τ σM kN) (hkN : kN < 1000) (hL : LWd D B LC LM o cJ σ τ σM τM H) (hS : va_S (fun q => s.heap.size ≤ q) s.heap H locs) (hl : lv_has ls 7 (lvL b LC LM o x4)) (hf : cells ≤ room_1.cells ∧ slots ≤ room_1.slots) (hg : cells + 1 ≤ room_1.cells ∧ slots + 6 ≤ room_1.slots) (h1 : vp_in (x4 + 1) Ls) (h2 : vp_in (x4 + 2) Ls) (h3 : vp_in (x4 + 3) Ls) (h4 : vp_in (x4 + 4) Ls) (h5 : vp_in (x4 + 5) Ls)
    (kk : LCont p l e s m below meth c cells slots Q b D B LC LM o cJ x4 kN) : W p l e room_1 s m #[Value.ref b] below meth c H locs cells slots Q (F0 m 839 ls []) := by
  have hl : lv_has ls 7 (lvL b LC LM o x4) := hl
  obtain ⟨N9, nn9, hN9⟩ := id hT.2.2.2.2.2.2.2.2.2
  refine lv_aload_n S.1 S.2.1 dL_law_839 rfl (lv_at hl 1 rfl) ?_
  refine lw_C (n := 0) (As := []) (rest := []) S K hL hS (k_X4_clear l D B LC _ σ τ  hT.1) gL_law_X4_clear rfl hdV_X4_clear ⟨Nat.le_of_ble_eq_true rfl, Nat.le_of_ble_eq_true rfl⟩ rfl hl.1 (Nat.le_of_ble_eq_true rfl) dL_law_840 hf (fun r1 σ1 τ1 H locs q1 hL hS => ?_)
  obtain ⟨rfl, q1⟩ := q1
  show W p l e room_1 s m #[Value.ref b] below meth c H locs cells slots Q (F0 m 843 ls [])
  refine lv_aload_n S.1 S.2.1 dL_law_843 rfl (lv_at hl 2 rfl) ?_
  refine lw_M (n := 0) (As := []) (rest := []) S K hL hS (k_X5_clear l D B LM _ σM τM  hT.2.1) gL_law_X5_clear rfl hdV_X5_clear ⟨Nat.le_of_ble_eq_true rfl, Nat.le_of_ble_eq_true rfl⟩ rfl hl.1 (Nat.le_of_ble_eq_true rfl) dL_law_844 hf (fun r2 σ2 τ2 H locs q2 hL hS => ?_)
  obtain ⟨rfl, q2⟩ := q2
  show W p l e room_1 s m #[Value.ref b] below meth c H locs cells slots Q (F0 m 847 ls [])
  refine lv_goto (tgt := 949) S.1 S.2.1 dL_law_847 (by decide) ?_
  refine W.widen (k := cells + 1) (n := slots + 6) (by omega) (by omega) ?_
  have a0 : (σ1 0 0 0).toInt = (σ 0 0 0).toInt := by rw [show σ1 0 = σ 0 from (q1.2.1 0 (by decide))]
  have a0M : (σ2 4 0 0).toInt = (σM 4 0 0).toInt := by rw [show σ2 4 = σM 4 from (q2.2.1 4 (by decide))]
  have a1 : (σ1 1 0 0).toInt = (σ 1 0 0).toInt := by rw [show σ1 1 = σ 1 from (q1.2.1 1 (by decide))]
  have a1M : (σ2 1 0 0).toInt = (σM 1 0 0).toInt := by rw [show σ2 1 = σM 1 from (q2.2.1 1 (by decide))]
  have a3 : (σ1 3 0 0).toInt = (σ 3 0 0).toInt := by rw [show σ1 3 = σ 3 from (q1.2.1 3 (by decide))]
  have a3M : (σ2 2 0 0).toInt = (σM 2 0 0).toInt := by rw [show σ2 2 = σM 2 from (q2.2.1 2 (by decide))]
  obtain ⟨t1, t2, t3, t4, t5, t6, t7, t8, t9, t10⟩ := id hT
  have t7 : TSn (σ1 2) (σ1 29) (σ2 3) (σ2 13) := by rw [show σ1 2 = σ 2 from (q1.2.1 2 (by decide)), show σ1 29 = σ 29 from (q1.2.1 29 (by decide)), show σ2 3 = σM 3 from (q2.2.1 3 (by decide)), show σ2 13 = σM 13 from (q2.2.1 13 (by decide))]; exact t7
  have t8 := clear_tie t8 (fun v hv => q1.2.1 v (fun z => by revert hv z; revert v; decide)) (fun v hv => q2.2.1 v (fun z => by revert hv z; revert v; decide)) q1.2.2.2 q2.2.2.2
  have et : τ1 = τ := q1.2.2.1
  have t9 : σ2 32 0 0 = 0 := q2.2.2.2 0 (by decide)
  have t10 : TNk σ1 σ2 (kN + 1) := ⟨N9, nn9, TN_of hN9 (fun v hv => q1.2.1 v (fun z => by revert hv z; revert v; decide)) (fun v hv => q2.2.1 v (fun z => by revert hv z; revert v; decide))⟩
  exact kk σ1 τ1 σ2 τ2 H locs ls (tie_of hT q1.1 q2.1 (q2.2.1 33 (by decide)) (by omega) (by omega) (by omega) t7 (by rw [et]; exact t8) t9 t10) hL hS (lv_sub hl [0, 1, 2, 3, 4] rfl)
set_option maxHeartbeats 4000000 in
set_option maxRecDepth 100000 in
theorem law_best (S : CallFix p m c cL_law 7 s #[Value.ref b] wsL_law RL) (hl9 : l.stackTraces = false) (hX : va_X b Ls xs s s.heap) (hbl : b < s.heap.size) (K : LKd D B LC LM o cJ sa1 sa2 s) (hT : Tie σ τ σM kN) (hkN : kN < 1000) (hL : LWd D B LC LM o cJ σ τ σM τM H) (hS : va_S (fun q => s.heap.size ≤ q) s.heap H locs) (hl : lv_has ls 7 (lvL b LC LM o x4)) (hf : cells ≤ room_1.cells ∧ slots ≤ room_1.slots) (hg : cells + 1 ≤ room_1.cells ∧ slots + 6 ≤ room_1.slots) (h1 : vp_in (x4 + 1) Ls) (h2 : vp_in (x4 + 2) Ls) (h3 : vp_in (x4 + 3) Ls) (h4 : vp_in (x4 + 4) Ls) (h5 : vp_in (x4 + 5) Ls)
    (kk : LCont p l e s m below meth c cells slots Q b D B LC LM o cJ x4 kN) : W p l e room_1 s m #[Value.ref b] below meth c H locs cells slots Q (F0 m 850 ls []) := by
  have hl : lv_has ls 7 (lvL b LC LM o x4) := hl
  obtain ⟨N9, nn9, hN9⟩ := id hT.2.2.2.2.2.2.2.2.2
  refine lv_aload_n S.1 S.2.1 dL_law_850 rfl (lv_at hl 1 rfl) ?_
  refine lw_arg (k := 1) S hX hbl hS (lv_at hl 0 rfl) (lv_at hl 4 rfl) h1 dL_law_851 dL_law_852 dL_law_854 (by decide) dL_law_855 dL_law_856 ?_
  refine lw_arg (k := 2) S hX hbl hS (lv_at hl 0 rfl) (lv_at hl 4 rfl) h2 dL_law_857 dL_law_858 dL_law_860 (by decide) dL_law_861 dL_law_862 ?_
  refine lw_C (n := 2) (As := [.int (xs (x4 + 1).toNatClampNeg), .int (xs (x4 + 2).toNatClampNeg)]) (rest := []) S K hL hS (k_X4_best l D B LC _ σ τ _ _ hT.1 hT.2.2.2.2.2.2.2.1.1) gL_law_X4_best rfl hdV_X4_best ⟨Nat.le_of_ble_eq_true rfl, Nat.le_of_ble_eq_true rfl⟩ rfl hl.1 (Nat.le_of_ble_eq_true rfl) dL_law_863 hf (fun r1 σ1 τ1 H locs q1 hL hS => ?_)
  obtain ⟨x1, rfl, q1⟩ := q1
  show W p l e room_1 s m #[Value.ref b] below meth c H locs cells slots Q (F0 m 866 ls [.int x1])
  refine lv_pop S.1 S.2.1 dL_law_866 rfl ?_
  refine lv_aload_n S.1 S.2.1 dL_law_867 rfl (lv_at hl 2 rfl) ?_
  refine lw_arg (k := 1) S hX hbl hS (lv_at hl 0 rfl) (lv_at hl 4 rfl) h1 dL_law_868 dL_law_869 dL_law_871 (by decide) dL_law_872 dL_law_873 ?_
  refine lw_arg (k := 2) S hX hbl hS (lv_at hl 0 rfl) (lv_at hl 4 rfl) h2 dL_law_874 dL_law_875 dL_law_877 (by decide) dL_law_878 dL_law_879 ?_
  refine lw_M (n := 2) (As := [.int (xs (x4 + 1).toNatClampNeg), .int (xs (x4 + 2).toNatClampNeg)]) (rest := []) S K hL hS (k_X5_best l D B LM _ σM τM _ _ hT.2.1 hT.2.2.1) gL_law_X5_best rfl hdV_X5_best ⟨Nat.le_of_ble_eq_true rfl, Nat.le_of_ble_eq_true rfl⟩ rfl hl.1 (Nat.le_of_ble_eq_true rfl) dL_law_880 hf (fun r2 σ2 τ2 H locs q2 hL hS => ?_)
  obtain ⟨x2, rfl, q2⟩ := q2
  show W p l e room_1 s m #[Value.ref b] below meth c H locs cells slots Q (F0 m 883 ls [.int x2])
  refine lv_pop S.1 S.2.1 dL_law_883 rfl ?_
  refine lv_goto (tgt := 949) S.1 S.2.1 dL_law_884 (by decide) ?_
  refine W.widen (k := cells + 1) (n := slots + 6) (by omega) (by omega) ?_
  have a0 : (σ1 0 0 0).toInt = (σ 0 0 0).toInt := by rw [show σ1 0 = σ 0 from (q1.2.1 0 (by decide))]
  have a0M : (σ2 4 0 0).toInt = (σM 4 0 0).toInt := by rw [show σ2 4 = σM 4 from (q2.2.1 4 (by decide))]
  have a1 : (σ1 1 0 0).toInt = (σ 1 0 0).toInt := by rw [show σ1 1 = σ 1 from (q1.2.1 1 (by decide))]
  have a1M : (σ2 1 0 0).toInt = (σM 1 0 0).toInt := by rw [show σ2 1 = σM 1 from (q2.2.1 1 (by decide))]
  have a3 : (σ1 3 0 0).toInt = (σ 3 0 0).toInt := by rw [show σ1 3 = σ 3 from (q1.2.1 3 (by decide))]
  have a3M : (σ2 2 0 0).toInt = (σM 2 0 0).toInt := by rw [show σ2 2 = σM 2 from (q2.2.1 2 (by decide))]
  obtain ⟨t1, t2, t3, t4, t5, t6, t7, t8, t9, t10⟩ := id hT
  have t7 : TSn (σ1 2) (σ1 29) (σ2 3) (σ2 13) := by rw [show σ1 2 = σ 2 from (q1.2.1 2 (by decide)), show σ1 29 = σ 29 from (q1.2.1 29 (by decide)), show σ2 3 = σM 3 from (q2.2.1 3 (by decide)), show σ2 13 = σM 13 from (q2.2.1 13 (by decide))]; exact t7
  have her := best2_tie t8 (fun v hv => q1.2.1 v (fun z => by revert hv z; revert v; decide)) (fun v hv => q2.2.1 v (fun z => by revert hv z; revert v; decide)) q1.2.2 q2.2.2.2.2
  have t8 := her.2
  have t9 : σ2 32 0 0 = 0 := by rw [show σ2 32 = σM 32 from (q2.2.1 32 (by decide))]; exact t9
  have t10 : TNk σ1 σ2 (kN + 1) := ⟨N9, nn9, TN_of hN9 (fun v hv => q1.2.1 v (fun z => by revert hv z; revert v; decide)) (fun v hv => q2.2.1 v (fun z => by revert hv z; revert v; decide))⟩
  exact kk σ1 τ1 σ2 τ2 H locs ls (tie_of hT q1.1 q2.1 q2.2.2.2.1 (by omega) (by omega) (by omega) t7 t8 t9 t10) hL hS (lv_sub hl [0, 1, 2, 3, 4] rfl)
set_option maxHeartbeats 4000000 in
set_option maxRecDepth 100000 in
theorem law_round (S : CallFix p m c cL_law 7 s #[Value.ref b] wsL_law RL) (hl9 : l.stackTraces = false) (hX : va_X b Ls xs s s.heap) (hbl : b < s.heap.size) (K : LKd D B LC LM o cJ sa1 sa2 s) (hT : Tie σ τ σM kN) (hkN : kN < 1000) (hL : LWd D B LC LM o cJ σ τ σM τM H) (hS : va_S (fun q => s.heap.size ≤ q) s.heap H locs) (hl : lv_has ls 7 (lvL b LC LM o x4)) (hf : cells ≤ room_1.cells ∧ slots ≤ room_1.slots) (hg : cells + 1 ≤ room_1.cells ∧ slots + 6 ≤ room_1.slots) (h1 : vp_in (x4 + 1) Ls) (h2 : vp_in (x4 + 2) Ls) (h3 : vp_in (x4 + 3) Ls) (h4 : vp_in (x4 + 4) Ls) (h5 : vp_in (x4 + 5) Ls)
    (kk : LCont p l e s m below meth c cells slots Q b D B LC LM o cJ x4 kN) : W p l e room_1 s m #[Value.ref b] below meth c H locs cells slots Q (F0 m 887 ls []) := by
  have hl : lv_has ls 7 (lvL b LC LM o x4) := hl
  obtain ⟨N9, nn9, hN9⟩ := id hT.2.2.2.2.2.2.2.2.2
  refine lv_aload_n S.1 S.2.1 dL_law_887 rfl (lv_at hl 1 rfl) ?_
  refine lw_arg (k := 1) S hX hbl hS (lv_at hl 0 rfl) (lv_at hl 4 rfl) h1 dL_law_888 dL_law_889 dL_law_891 (by decide) dL_law_892 dL_law_893 ?_
  refine lw_arg (k := 2) S hX hbl hS (lv_at hl 0 rfl) (lv_at hl 4 rfl) h2 dL_law_894 dL_law_895 dL_law_897 (by decide) dL_law_898 dL_law_899 ?_
  refine lw_C (n := 2) (As := [.int (xs (x4 + 1).toNatClampNeg), .int (xs (x4 + 2).toNatClampNeg)]) (rest := []) S K hL hS (k_X4_round l D B LC _ σ τ _ _ hT.1 hT.2.2.2.2.2.2.2.1.1) gL_law_X4_round rfl hdV_X4_round ⟨Nat.le_of_ble_eq_true rfl, Nat.le_of_ble_eq_true rfl⟩ rfl hl.1 (Nat.le_of_ble_eq_true rfl) dL_law_900 hf (fun r1 σ1 τ1 H locs q1 hL hS => ?_)
  obtain ⟨x1, rfl, q1⟩ := q1
  show W p l e room_1 s m #[Value.ref b] below meth c H locs cells slots Q (F0 m 903 ls [.int x1])
  refine lv_pop S.1 S.2.1 dL_law_903 rfl ?_
  refine lv_aload_n S.1 S.2.1 dL_law_904 rfl (lv_at hl 2 rfl) ?_
  refine lw_arg (k := 1) S hX hbl hS (lv_at hl 0 rfl) (lv_at hl 4 rfl) h1 dL_law_905 dL_law_906 dL_law_908 (by decide) dL_law_909 dL_law_910 ?_
  refine lw_arg (k := 2) S hX hbl hS (lv_at hl 0 rfl) (lv_at hl 4 rfl) h2 dL_law_911 dL_law_912 dL_law_914 (by decide) dL_law_915 dL_law_916 ?_
  refine lw_M (n := 2) (As := [.int (xs (x4 + 1).toNatClampNeg), .int (xs (x4 + 2).toNatClampNeg)]) (rest := []) S K hL hS (k_X5_round l D B LM _ σM τM _ _ hT.2.1 hT.2.2.1) gL_law_X5_round rfl hdV_X5_round ⟨Nat.le_of_ble_eq_true rfl, Nat.le_of_ble_eq_true rfl⟩ rfl hl.1 (Nat.le_of_ble_eq_true rfl) dL_law_917 hf (fun r2 σ2 τ2 H locs q2 hL hS => ?_)
  obtain ⟨x2, rfl, q2⟩ := q2
  show W p l e room_1 s m #[Value.ref b] below meth c H locs cells slots Q (F0 m 920 ls [.int x2])
  refine lv_pop S.1 S.2.1 dL_law_920 rfl ?_
  refine lv_goto (tgt := 949) S.1 S.2.1 dL_law_921 (by decide) ?_
  refine W.widen (k := cells + 1) (n := slots + 6) (by omega) (by omega) ?_
  have a0 : (σ1 0 0 0).toInt = (σ 0 0 0).toInt := by rw [show σ1 0 = σ 0 from (q1.2.1 0 (by decide))]
  have a0M : (σ2 4 0 0).toInt = (σM 4 0 0).toInt := by rw [show σ2 4 = σM 4 from (q2.2.1 4 (by decide))]
  have a1 : (σ1 1 0 0).toInt = (σ 1 0 0).toInt := by rw [show σ1 1 = σ 1 from (q1.2.1 1 (by decide))]
  have a1M : (σ2 1 0 0).toInt = (σM 1 0 0).toInt := by rw [show σ2 1 = σM 1 from (q2.2.1 1 (by decide))]
  have a3 : (σ1 3 0 0).toInt = (σ 3 0 0).toInt := by rw [show σ1 3 = σ 3 from (q1.2.1 3 (by decide))]
  have a3M : (σ2 2 0 0).toInt = (σM 2 0 0).toInt := by rw [show σ2 2 = σM 2 from (q2.2.1 2 (by decide))]
  obtain ⟨t1, t2, t3, t4, t5, t6, t7, t8, t9, t10⟩ := id hT
  have t7 : TSn (σ1 2) (σ1 29) (σ2 3) (σ2 13) := by rw [show σ1 2 = σ 2 from (q1.2.1 2 (by decide)), show σ1 29 = σ 29 from (q1.2.1 29 (by decide)), show σ2 3 = σM 3 from (q2.2.1 3 (by decide)), show σ2 13 = σM 13 from (q2.2.1 13 (by decide))]; exact t7
  have her := round_tie t8 (fun v hv => q1.2.1 v (fun z => by revert hv z; revert v; decide)) (fun v hv => q2.2.1 v (fun z => by revert hv z; revert v; decide)) q1.2.2 q2.2.2.2.2
  have t8 := her.2
  have t9 : σ2 32 0 0 = 0 := by rw [show σ2 32 = σM 32 from (q2.2.1 32 (by decide))]; exact t9
  have t10 : TNk σ1 σ2 (kN + 1) := ⟨N9, nn9, TN_of hN9 (fun v hv => q1.2.1 v (fun z => by revert hv z; revert v; decide)) (fun v hv => q2.2.1 v (fun z => by revert hv z; revert v; decide))⟩
  exact kk σ1 τ1 σ2 τ2 H locs ls (tie_of hT q1.1 q2.1 q2.2.2.2.1 (by omega) (by omega) (by omega) t7 t8 t9 t10) hL hS (lv_sub hl [0, 1, 2, 3, 4] rfl)
set_option maxHeartbeats 4000000 in
set_option maxRecDepth 100000 in
theorem law_count (S : CallFix p m c cL_law 7 s #[Value.ref b] wsL_law RL) (hl9 : l.stackTraces = false) (hX : va_X b Ls xs s s.heap) (hbl : b < s.heap.size) (K : LKd D B LC LM o cJ sa1 sa2 s) (hT : Tie σ τ σM kN) (hkN : kN < 1000) (hL : LWd D B LC LM o cJ σ τ σM τM H) (hS : va_S (fun q => s.heap.size ≤ q) s.heap H locs) (hl : lv_has ls 7 (lvL b LC LM o x4)) (hf : cells ≤ room_1.cells ∧ slots ≤ room_1.slots) (hg : cells + 1 ≤ room_1.cells ∧ slots + 6 ≤ room_1.slots) (h1 : vp_in (x4 + 1) Ls) (h2 : vp_in (x4 + 2) Ls) (h3 : vp_in (x4 + 3) Ls) (h4 : vp_in (x4 + 4) Ls) (h5 : vp_in (x4 + 5) Ls)
    (kk : LCont p l e s m below meth c cells slots Q b D B LC LM o cJ x4 kN) : W p l e room_1 s m #[Value.ref b] below meth c H locs cells slots Q (F0 m 924 ls []) := by
  have hl : lv_has ls 7 (lvL b LC LM o x4) := hl
  obtain ⟨N9, nn9, hN9⟩ := id hT.2.2.2.2.2.2.2.2.2
  refine lv_aload_n S.1 S.2.1 dL_law_924 rfl (lv_at hl 1 rfl) ?_
  refine lw_arg (k := 1) S hX hbl hS (lv_at hl 0 rfl) (lv_at hl 4 rfl) h1 dL_law_925 dL_law_926 dL_law_928 (by decide) dL_law_929 dL_law_930 ?_
  refine lw_C (n := 1) (As := [.int (xs (x4 + 1).toNatClampNeg)]) (rest := []) S K hL hS (k_X4_count l D B LC _ σ τ _ hT.1) gL_law_X4_count rfl hdV_X4_count ⟨Nat.le_of_ble_eq_true rfl, Nat.le_of_ble_eq_true rfl⟩ rfl hl.1 (Nat.le_of_ble_eq_true rfl) dL_law_931 hf (fun r1 σ1 τ1 H locs q1 hL hS => ?_)
  obtain ⟨x1, rfl, q1⟩ := q1
  show W p l e room_1 s m #[Value.ref b] below meth c H locs cells slots Q (F0 m 934 ls [.int x1])
  refine lv_pop S.1 S.2.1 dL_law_934 rfl ?_
  refine lv_aload_n S.1 S.2.1 dL_law_935 rfl (lv_at hl 2 rfl) ?_
  refine lw_arg (k := 1) S hX hbl hS (lv_at hl 0 rfl) (lv_at hl 4 rfl) h1 dL_law_936 dL_law_937 dL_law_939 (by decide) dL_law_940 dL_law_941 ?_
  refine lw_M (n := 1) (As := [.int (xs (x4 + 1).toNatClampNeg)]) (rest := []) S K hL hS (k_X5_count l D B LM _ σM τM _ hT.2.1) gL_law_X5_count rfl hdV_X5_count ⟨Nat.le_of_ble_eq_true rfl, Nat.le_of_ble_eq_true rfl⟩ rfl hl.1 (Nat.le_of_ble_eq_true rfl) dL_law_942 hf (fun r2 σ2 τ2 H locs q2 hL hS => ?_)
  obtain ⟨x2, rfl, q2⟩ := q2
  show W p l e room_1 s m #[Value.ref b] below meth c H locs cells slots Q (F0 m 945 ls [.int x2])
  refine lv_pop S.1 S.2.1 dL_law_945 rfl ?_
  refine lv_goto (tgt := 949) S.1 S.2.1 dL_law_946 (by decide) ?_
  refine W.widen (k := cells + 1) (n := slots + 6) (by omega) (by omega) ?_
  have a0 : (σ1 0 0 0).toInt = (σ 0 0 0).toInt := by rw [show σ1 0 = σ 0 from (by rw [q1.1])]
  have a0M : (σ2 4 0 0).toInt = (σM 4 0 0).toInt := by rw [show σ2 4 = σM 4 from (q2.2.1 4 (by decide))]
  have a1 : (σ1 1 0 0).toInt = (σ 1 0 0).toInt := by rw [show σ1 1 = σ 1 from (by rw [q1.1])]
  have a1M : (σ2 1 0 0).toInt = (σM 1 0 0).toInt := by rw [show σ2 1 = σM 1 from (q2.2.1 1 (by decide))]
  have a3 : (σ1 3 0 0).toInt = (σ 3 0 0).toInt := by rw [show σ1 3 = σ 3 from (by rw [q1.1])]
  have a3M : (σ2 2 0 0).toInt = (σM 2 0 0).toInt := by rw [show σ2 2 = σM 2 from (q2.2.1 2 (by decide))]
  obtain ⟨t1, t2, t3, t4, t5, t6, t7, t8, t9, t10⟩ := id hT
  have t7 : TSn (σ1 2) (σ1 29) (σ2 3) (σ2 13) := by rw [show σ1 2 = σ 2 from (by rw [q1.1]), show σ1 29 = σ 29 from (by rw [q1.1]), show σ2 3 = σM 3 from (q2.2.1 3 (by decide)), show σ2 13 = σM 13 from (q2.2.1 13 (by decide))]; exact t7
  have t8 : TEr σ1 τ σ2 := TEr_of t8 (fun v _ => by rw [q1.1]) (fun v hv => q2.2.1 v (fun z => by revert hv z; revert v; decide))
  have et : τ1 = τ := q1.2.1
  have t9 : σ2 32 0 0 = 0 := by rw [show σ2 32 = σM 32 from (q2.2.1 32 (by decide))]; exact t9
  have t10 : TNk σ1 σ2 (kN + 1) := ⟨N9, nn9, TN_of hN9 (fun v _ => by rw [q1.1]) (fun v hv => q2.2.1 v (fun z => by revert hv z; revert v; decide))⟩
  exact kk σ1 τ1 σ2 τ2 H locs ls (tie_of hT (by rw [q1.1]; exact hT.1) q2.1 (q2.2.1 33 (by decide)) (by omega) (by omega) (by omega) t7 (by rw [et]; exact t8) t9 t10) hL hS (lv_sub hl [0, 1, 2, 3, 4] rfl)
end LF
