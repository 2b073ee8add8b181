/-! how many shops a set has; the digits of an order -/
def usI (x y : Int32) : Int32 := (x.toUInt32 >>> (y.toUInt32 &&& Int32.toUInt32 31)).toInt32
def bcA (z : Int32) : Int32 := z - (usI z 1 &&& 1431655765)
def bcB (y : Int32) : Int32 := (y &&& 858993459) + (usI y 2 &&& 858993459)
def bcC (y : Int32) : Int32 := (y + usI y 4) &&& 252645135
def bcD (y : Int32) : Int32 := y + usI y 8
def bcE (y : Int32) : Int32 := y + usI y 16
def bcF (z : Int32) : Int32 := bcE (bcD (bcC (bcB (bcA z)))) &&& 63
theorem bcF_all : ∀ n : Fin 256, (bcF (nI n.val)).toInt = wsK (fun _ => 1) (nI n.val) 8 := by decide +kernel
theorem bcF_len {n : Int32} {q : List Nat} (h0 : 0 ≤ n.toInt) (h9 : n.toInt ≤ 255) (h : isP n q) : (bcF n).toInt = q.length := by
  have h1 := bcF_all ⟨n.toNatClampNeg, cl_lt h0 (by omega)⟩
  simp only at h1
  rw [← nI_at h0] at h1
  rw [h1, wsK_P _ q n h, ezW_1]
theorem encL_dig : ∀ (q : List Nat) (m k : Nat), k ≤ m → (∀ s ∈ q, s ≤ 15) → encL (m + 1) q / 16 ^ (m - k) % 16 = ((q.getD k 0 : Nat) : Int)
  | [], m, k, _, _ => by
    simp [encL]
  | s :: q, m, 0, _, h => by
    have hs := h s List.mem_cons_self
    have hb := encL_b m q (fun t ht => h t (List.mem_cons_of_mem _ ht))
    have hp := p16 m
    have e : encL (m + 1) (s :: q) = encL m q + (s : Int) * 16 ^ m := by rw [encL]; omega
    rw [e, Nat.sub_zero, Int.add_mul_ediv_right _ _ (by omega), Int.ediv_eq_zero_of_lt hb.1 hb.2]
    simp only [List.getD_cons_zero]
    omega
  | s :: q, 0, k + 1, hk, _ => by omega
  | s :: q, m + 1, k + 1, hk, h => by
    have ih := encL_dig q m k (by omega) (fun t ht => h t (List.mem_cons_of_mem _ ht))
    have hp := p16 (m - k)
    have e : encL (m + 1 + 1) (s :: q) = encL (m + 1) q + ((s : Int) * 16 ^ k * 16) * 16 ^ (m - k) := by
      rw [encL]
      have e2 : (16 : Int) ^ (m + 1) = 16 ^ k * 16 * 16 ^ (m - k) := by
        rw [Int.mul_assoc, Int.mul_comm 16 (16 ^ (m - k)), ← Int.pow_succ, ← Int.pow_add]
        congr 1
        omega
      rw [e2, ← Int.mul_assoc, ← Int.mul_assoc]
      omega
    have e3 : m + 1 - (k + 1) = m - k := by omega
    rw [e, e3, Int.add_mul_ediv_right _ _ (by omega), Int.add_mul_emod_self_right]
    simpa using ih
theorem sh_all : ∀ k : Fin 8, ((((4 : Int32) * ((7 : Int32) - nI k.val)).toInt64 &&& 63).toBitVec.smod 64) = BitVec.ofNat 64 (4 * (7 - k.val)) ∧ (BitVec.ofNat 64 (4 * (7 - k.val))).toNat = 4 * (7 - k.val) := by decide +kernel
theorem digS_eq {t : Int64} {k : Int32} (h0 : 0 ≤ t.toInt) (k0 : 0 ≤ k.toInt) (k7 : k.toInt ≤ 7) : (digS t k).toInt = t.toInt / 16 ^ (7 - k.toNatClampNeg) % 16 := by
  have hc := cl_eq k0
  have hs := sh_all ⟨k.toNatClampNeg, by omega⟩
  simp only at hs
  rw [← nI_at k0] at hs
  have a1 := l_nn h0
  have a2 := t.toBitVec.isLt
  obtain ⟨j, hj⟩ : ∃ j, j = 4 * (7 - k.toNatClampNeg) := ⟨_, rfl⟩
  rw [← hj] at hs
  have h1 : (t >>> (((4 : Int32) * ((7 : Int32) - k)).toInt64 &&& 63)).toBitVec = t.toBitVec.sshiftRight j := by
    rw [Int64.toBitVec_shiftRight, hs.1, BitVec.sshiftRight_eq', hs.2]
  have hm : t.toBitVec.msb = false := by
    rw [BitVec.msb_eq_decide]
    have : ¬ (2 ^ (64 - 1) ≤ t.toBitVec.toNat) := by
      have h9 : t.toInt = t.toBitVec.toInt := rfl
      rw [BitVec.toInt_eq_toNat_cond] at h9
      split at h9 <;> omega
    simpa using this
  have h2 : (digS t k).toBitVec.toNat = t.toBitVec.toNat / 2 ^ j % 16 := by
    unfold digS
    rw [Int32.toBitVec_and, BitVec.toNat_and]
    have h3 : (t >>> (((4 : Int32) * ((7 : Int32) - k)).toInt64 &&& 63)).toInt32.toBitVec = (t.toBitVec.sshiftRight j).signExtend 32 := by
      rw [← h1]
      rfl
    rw [h3, BitVec.sshiftRight_eq_of_msb_false hm, BitVec.signExtend_eq_setWidth_of_le _ (by decide), BitVec.toNat_setWidth, BitVec.toNat_ushiftRight, Nat.shiftRight_eq_div_pow]
    show t.toBitVec.toNat / 2 ^ j % 2 ^ 32 &&& (15#32).toNat = _
    rw [show (15#32).toNat = 2 ^ 4 - 1 by decide, Nat.and_two_pow_sub_one_eq_mod]
    omega
  have h4 := i_small (x := digS t k) (by omega)
  have h5 : (2 : Nat) ^ j = 16 ^ (7 - k.toNatClampNeg) := by rw [hj, Nat.pow_mul]
  rw [h4, h2, h5, a1]
  push_cast
  rfl
