/-! days of snow: a bit a day in the class's row, a flag a day in the reference's -/
def snB (f : Nat → Int32) (d : Int32) : Int32 := (f (d / 32).toNatClampNeg >>> ((d - d / 32 * 32) &&& 31)) &&& 1
def snA (f : Nat → Int32) (d : Int32) : Nat → Int32 := upd f (d / 32).toNatClampNeg (f (d / 32).toNatClampNeg ||| ((1 : Int32) <<< ((d - d / 32 * 32) &&& 31)))
theorem sn_nat : ∀ n : Fin 301, (nI n.val / 32).toNatClampNeg = n.val / 32 ∧ ((nI n.val - nI n.val / 32 * 32) &&& 31) = nI (n.val % 32) := by decide +kernel
theorem sn_sm : ∀ k : Fin 32, ((nI k.val).toBitVec.smod 32) = BitVec.ofNat 32 k.val ∧ (BitVec.ofNat 32 k.val).toNat = k.val := by decide +kernel
theorem sn_bit (w : Int32) {j : Nat} (hj : j < 32) : ((w >>> nI j) &&& 1 ≠ 0) ↔ w.toBitVec.getLsbD j = true := by
  have h1 := sn_sm ⟨j, hj⟩
  simp only at h1
  have h2 : ((w >>> nI j) &&& 1 = 0) ↔ ((w >>> nI j) &&& 1).toBitVec = (0 : Int32).toBitVec := ⟨fun h => by rw [h], fun h => Int32.toBitVec_inj.mp h⟩
  have h3 : ((w >>> nI j) &&& 1).toBitVec = (w.toBitVec.sshiftRight j) &&& 1#32 := by
    rw [Int32.toBitVec_and, Int32.toBitVec_shiftRight, h1.1, BitVec.sshiftRight_eq', h1.2]
    rfl
  rw [ne_eq, h2, h3, BitVec.and_one_eq_setWidth_ofBool_getLsbD, BitVec.getLsbD_sshiftRight]
  simp only [Nat.add_zero, hj, if_true]
  cases w.toBitVec.getLsbD j <;> decide
theorem sn_or (w : Int32) {j k : Nat} (hj : j < 32) (hk : k < 32) : (w ||| ((1 : Int32) <<< nI k)).toBitVec.getLsbD j = (w.toBitVec.getLsbD j || decide (j = k)) := by
  have h1 := sn_sm ⟨k, hk⟩
  simp only at h1
  rw [Int32.toBitVec_or, BitVec.getLsbD_or, Int32.toBitVec_shiftLeft, h1.1, BitVec.shiftLeft_eq', h1.2, BitVec.getLsbD_shiftLeft]
  congr 1
  rw [show (1 : Int32).toBitVec = 1#32 from rfl, BitVec.getLsbD_one]
  by_cases h : j = k
  · subst h
    simp [hj]
  · have : decide (j = k) = false := by simp [h]
    rw [this]
    rcases Nat.lt_or_ge j k with q | q
    · simp [q]
    · have : ¬ (j - k = 0) := by omega
      simp [this]
theorem sn_at {f : Nat → Int32} {n : Nat} (hn : n ≤ 300) : (snB f (nI n) ≠ 0) ↔ (f (n / 32)).toBitVec.getLsbD (n % 32) = true := by
  have h := sn_nat ⟨n, by omega⟩
  simp only at h
  unfold snB
  rw [h.1, h.2]
  exact sn_bit _ (Nat.mod_lt _ (by decide))
theorem sn_add {f : Nat → Int32} {n k : Nat} (hn : n ≤ 300) (hk : k ≤ 300) : (snB (snA f (nI k)) (nI n) ≠ 0) ↔ n = k ∨ snB f (nI n) ≠ 0 := by
  rw [sn_at hn, sn_at hn]
  have h := sn_nat ⟨k, by omega⟩
  simp only at h
  unfold snA
  rw [h.1, h.2]
  unfold upd
  by_cases hq : n / 32 = k / 32
  · rw [if_pos hq, sn_or _ (Nat.mod_lt _ (by decide)) (Nat.mod_lt _ (by decide)), ← hq]
    have : (n % 32 = k % 32) ↔ n = k := by omega
    simp only [Bool.or_eq_true, decide_eq_true_eq, this]
    exact or_comm
  · rw [if_neg hq]
    have : n ≠ k := fun h => hq (by rw [h])
    simp [this]
theorem ix301 {a b u v : Int32} (hu : u.toInt = 301 * a.toInt) (hv : v.toInt = u.toInt + b.toInt) (ha : 0 ≤ a.toInt) (hb : 0 ≤ b.toInt) : v.toNatClampNeg = 301 * a.toNatClampNeg + b.toNatClampNeg := by
  have h1 := cl_eq ha
  have h2 := cl_eq hb
  have h3 := cl_eq (j := v) (by omega)
  omega
theorem rs_tw {σ σ1 : QS} {v i : Nat} {f : Nat → Int32} (h : σ1 v = σ v) : rs σ1 v i f v = rs σ v i f v := by
  funext b
  simp [rs, h]
