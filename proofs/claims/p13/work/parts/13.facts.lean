/-! numbers as Int -/
theorem t_lt {x y : Int32} (h : x < y) : x.toInt < y.toInt := Int32.lt_iff_toInt_lt.mp h
theorem t_nlt {x y : Int32} (h : ¬ x < y) : y.toInt ≤ x.toInt := by rw [Int32.lt_iff_toInt_lt] at h; omega
theorem t_le {x y : Int32} (h : x ≤ y) : x.toInt ≤ y.toInt := Int32.le_iff_toInt_le.mp h
theorem t_nle {x y : Int32} (h : ¬ x ≤ y) : y.toInt < x.toInt := by rw [Int32.le_iff_toInt_le] at h; omega
theorem t_eq {x y : Int32} (h : x = y) : x.toInt = y.toInt := by rw [h]
theorem t_neq {x y : Int32} (h : ¬ x = y) : x.toInt ≠ y.toInt := fun q => h (Int32.toInt_inj.mp q)
theorem any32 (x : Int32) : (-2147483648 : Int) ≤ x.toInt ∧ x.toInt ≤ 2147483647 := by
  have h1 := Int32.le_toInt x
  have h2 := Int32.toInt_lt x
  omega
theorem i_bmod {z : Int} (h1 : -2147483648 ≤ z) (h2 : z ≤ 2147483647) : z.bmod (2 ^ 32) = z := Int.bmod_eq_of_le (by omega) (by omega)
theorem i_add {x y z : Int32} (e : z = x + y) (h1 : -2147483648 ≤ x.toInt + y.toInt) (h2 : x.toInt + y.toInt ≤ 2147483647) : z.toInt = x.toInt + y.toInt := by rw [e, Int32.toInt_add, i_bmod h1 h2]
theorem i_sub {x y z : Int32} (e : z = x - y) (h1 : -2147483648 ≤ x.toInt - y.toInt) (h2 : x.toInt - y.toInt ≤ 2147483647) : z.toInt = x.toInt - y.toInt := by rw [e, Int32.toInt_sub, i_bmod h1 h2]
theorem i_addc {x k z : Int32} {n : Int} (e : z = x + k) (hk : k.toInt = n) (h1 : -2147483648 ≤ x.toInt + n) (h2 : x.toInt + n ≤ 2147483647) : z.toInt = x.toInt + n := by rw [← hk] at h1 h2 ⊢; exact i_add e h1 h2
theorem i_mulcr {x k z : Int32} {n : Int} (e : z = x * k) (hk : k.toInt = n) (h1 : -2147483648 ≤ n * x.toInt) (h2 : n * x.toInt ≤ 2147483647) : z.toInt = n * x.toInt := by rw [e, Int32.toInt_mul, hk, Int.mul_comm, i_bmod h1 h2]
theorem i_mulcl {x k z : Int32} {n : Int} (e : z = k * x) (hk : k.toInt = n) (h1 : -2147483648 ≤ n * x.toInt) (h2 : n * x.toInt ≤ 2147483647) : z.toInt = n * x.toInt := by rw [e, Int32.toInt_mul, hk, i_bmod h1 h2]
theorem i_div {x y z : Int32} {n : Int} (e : z = x / y) (hy : y.toInt = n) (hn : 0 < n) (hx : 0 ≤ x.toInt) : z.toInt = x.toInt / n := by
  have h1 := any32 x
  have h2 : x.toInt / n ≤ x.toInt := Int.ediv_le_self _ hx
  have h3 : 0 ≤ x.toInt / n := Int.ediv_nonneg hx (by omega)
  rw [e, Int32.toInt_div, hy, Int.tdiv_eq_ediv_of_nonneg hx, i_bmod (by omega) (by omega)]
theorem i_rem {x y z : Int32} {n : Int} (e : z = x - x / y * y) (hy : y.toInt = n) (hn : 0 < n) (hx : 0 ≤ x.toInt) : z.toInt = x.toInt % n := by
  have h1 := any32 x
  have hd := i_div (z := x / y) rfl hy hn hx
  have h4 := Int.mul_ediv_add_emod x.toInt n
  have h5 := Int.emod_nonneg x.toInt (show n ≠ 0 by omega)
  have h6 : 0 ≤ x.toInt / n := Int.ediv_nonneg hx (by omega)
  have h7 : 0 ≤ n * (x.toInt / n) := Int.mul_nonneg (by omega) h6
  have hm : (x / y * y).toInt = n * (x.toInt / n) := by
    rw [Int32.toInt_mul, hd, hy, Int.mul_comm, i_bmod (by omega) (by omega)]
  rw [i_sub e (by rw [hm]; omega) (by rw [hm]; omega), hm]
  omega
theorem i_nn {x : Int32} (h : 0 ≤ x.toInt) : x.toInt = (x.toBitVec.toNat : Int) := by
  have h1 : x.toInt = x.toBitVec.toInt := rfl
  have h2 := x.toBitVec.isLt
  rw [h1] at h ⊢
  rw [BitVec.toInt_eq_toNat_cond] at h ⊢
  split at h
  · rename_i q
    rw [if_pos q]
  · omega
theorem i_small {x : Int32} (h : x.toBitVec.toNat < 2147483648) : x.toInt = (x.toBitVec.toNat : Int) := by
  have h1 : x.toInt = x.toBitVec.toInt := rfl
  rw [h1, BitVec.toInt_eq_toNat_cond, if_pos (by omega)]
theorem i_andr {x y z : Int32} (e : z = x &&& y) (hy : 0 ≤ y.toInt) : 0 ≤ z.toInt ∧ z.toInt ≤ y.toInt := by
  have h1 := i_nn hy
  have h2 := (any32 y).2
  have h3 : z.toBitVec.toNat ≤ y.toBitVec.toNat := by rw [e, Int32.toBitVec_and, BitVec.toNat_and]; exact Nat.and_le_right
  have h4 := i_small (x := z) (by omega)
  omega
theorem i_andl {x y z : Int32} (e : z = x &&& y) (hy : 0 ≤ x.toInt) : 0 ≤ z.toInt ∧ z.toInt ≤ x.toInt := by
  have h1 := i_nn hy
  have h2 := (any32 x).2
  have h3 : z.toBitVec.toNat ≤ x.toBitVec.toNat := by rw [e, Int32.toBitVec_and, BitVec.toNat_and]; exact Nat.and_le_left
  have h4 := i_small (x := z) (by omega)
  omega
theorem i_mmax {x y z : Int32} (e : z = if x < y then y else x) : (z.toInt = x.toInt ∨ z.toInt = y.toInt) ∧ x.toInt ≤ z.toInt ∧ y.toInt ≤ z.toInt := by
  by_cases h : x < y
  · rw [if_pos h] at e
    have := t_lt h
    subst e
    omega
  · rw [if_neg h] at e
    have := t_nlt h
    subst e
    omega
theorem i_mmin {x y z : Int32} (e : z = if y < x then y else x) : (z.toInt = x.toInt ∨ z.toInt = y.toInt) ∧ x.toInt ≥ z.toInt ∧ y.toInt ≥ z.toInt := by
  by_cases h : y < x
  · rw [if_pos h] at e
    have := t_lt h
    subst e
    omega
  · rw [if_neg h] at e
    have := t_nlt h
    subst e
    omega
theorem vin {j : Int32} {n : Nat} (h1 : 0 ≤ j.toInt) (h2 : j.toInt < n) : vp_in j n := vp_in_iff.mpr ⟨h1, h2⟩
theorem cl_eq {j : Int32} (h : 0 ≤ j.toInt) : (j.toNatClampNeg : Int) = j.toInt := by
  have : j.toNatClampNeg = j.toInt.toNat := rfl
  omega
theorem cl_lt {j : Int32} {n : Nat} (h1 : 0 ≤ j.toInt) (h2 : j.toInt < n) : j.toNatClampNeg < n := by
  have := cl_eq h1
  omega
theorem sw_in (x : Int32) (lo hi : Int) : (x.toInt < lo ∨ hi < x.toInt) ∨ (¬ x.toInt < lo ∧ ¬ hi < x.toInt) := by omega
theorem i_01 {x : Int32} (h : x.toInt = 0 ∨ x.toInt = 1) : x = 0 ∨ x = 1 := by
  rcases h with h | h
  · exact Or.inl (Int32.toInt_inj.mp (by rw [h]; decide))
  · exact Or.inr (Int32.toInt_inj.mp (by rw [h]; decide))
theorem nz {x : Int32} (h : x.toInt = 0 ∨ x.toInt = 1) : narrow .boolean (.int x) = .int x := by
  rcases i_01 h with rfl | rfl <;> decide
theorem nzf {x : Int32} (h : x.toInt = 0 ∨ x.toInt = 1) : fits .boolean (.int x) = true := by
  rcases i_01 h with rfl | rfl <;> decide
/-! which variables a method may change -/
def Keep (S : List Nat) (σ σ' : QS) : Prop := ∀ v, v ∉ S → σ' v = σ v
theorem Keep_r {S : List Nat} {σ : QS} : Keep S σ σ := fun _ _ => rfl
theorem Keep_w {S : List Nat} {σ0 σ σ' : QS} {v i : Nat} {f : Nat → Int32} (e : σ' = rs σ v i f) (h : Keep S σ0 σ) (hv : v ∈ S) : Keep S σ0 σ' := fun a ha => by
  rw [e, rs_v (fun q => ha (by rw [q]; exact hv))]; exact h a ha
theorem Keep_t {S T : List Nat} {σ0 σ σ' : QS} (h : Keep S σ0 σ) (h2 : Keep T σ σ') (hs : ∀ v ∈ T, v ∈ S) : Keep S σ0 σ' := fun a ha => by
  rw [h2 a (fun q => ha (hs a q)), h a ha]
theorem Keep_m {S T : List Nat} {σ0 σ : QS} (h : Keep S σ0 σ) (hs : ∀ v ∈ S, v ∈ T) : Keep T σ0 σ := fun a ha => h a (fun q => ha (hs a q))
theorem rs_b {σ σ' : QS} {v i : Nat} {f : Nat → Int32} (e : σ' = rs σ v i f) {lo hi : Nat → Int} (h : ∀ a b c, lo a ≤ (σ a b c).toInt ∧ (σ a b c).toInt ≤ hi a) (hf : ∀ c, lo v ≤ (f c).toInt ∧ (f c).toInt ≤ hi v) : ∀ a b c, lo a ≤ (σ' a b c).toInt ∧ (σ' a b c).toInt ≤ hi a := by
  intro a b c
  rw [e]
  unfold rs
  by_cases q : a = v ∧ b = i
  · rw [if_pos q, q.1]; exact hf c
  · rw [if_neg q]; exact h a b c
theorem upd_b {f : Nat → Int32} {j : Nat} {x : Int32} {lo hi : Int} (hf : ∀ c, lo ≤ (f c).toInt ∧ (f c).toInt ≤ hi) (hx : lo ≤ x.toInt ∧ x.toInt ≤ hi) : ∀ c, lo ≤ (upd f j x c).toInt ∧ (upd f j x c).toInt ≤ hi := by
  intro c
  unfold upd
  by_cases q : c = j
  · rw [if_pos q]; exact hx
  · rw [if_neg q]; exact hf c
/-! what every state of the class keeps: bounds of single variables, and what ties some together -/
def ivC : Nat → Int × Int := fun v => match v with
  | 0 => (0, 60) | 1 => (0, 5000) | 2 => (0, 100) | 3 => (0, 12) | 7 => (0, 72) | 11 => (0, 60) | 12 => (0, 60) | 13 => (0, 100) | 14 => (0, 1000000) | 15 => (0, 255) | 22 => (0, 23) | 23 => (0, 50) | 26 => (0, 6) | 27 => (0, 11) | 28 => (0, 60) | 32 => (-1, 11) | 34 => (-1, 11) | 35 => (-1, 11) | 38 => (-1, 11)
  | _ => (-2147483648, 2147483647)
def IvC (σ : QS) : Prop := ∀ v i j, (ivC v).1 ≤ (σ v i j).toInt ∧ (σ v i j).toInt ≤ (ivC v).2
def hok (x : Int32) : Prop := (x >>> ((3 : Int32) &&& 31) &&& 15).toInt ≤ 11 ∧ 2 ≤ (x &&& 7).toInt
def XC (σ : QS) : Prop := (∀ h, h ≤ 24 → (σ 7 0 h).toInt ≤ (σ 7 0 24).toInt) ∧ (∀ j : Nat, (j : Int) < (σ 7 0 24).toInt → hok (σ 6 0 j)) ∧ (∀ i : Nat, (i : Int) < (σ 0 0 0).toInt → 0 ≤ (σ 32 i 0).toInt) ∧ (∀ i : Nat, 0 ≤ (σ 35 i 0).toInt → 0 ≤ (σ 36 i 0).toInt)
def InvC (σ : QS) : Prop := IvC σ ∧ XC σ
abbrev depC : List Nat := [0, 6, 7, 32, 35, 36]
theorem XC_of {σ σ' : QS} (h : XC σ) (hd : ∀ v ∈ depC, σ' v = σ v) : XC σ' := by
  unfold XC at h ⊢
  rw [hd 0 (by decide), hd 6 (by decide), hd 7 (by decide), hd 32 (by decide), hd 35 (by decide), hd 36 (by decide)]
  exact h
theorem XC_w {σ σ' : QS} {v i : Nat} {f : Nat → Int32} (e : σ' = rs σ v i f) (h : XC σ) (hv : v ∉ depC) : XC σ' := XC_of h (fun a ha => by rw [e]; exact rs_v (fun q => hv (by rw [← q]; exact ha)))
theorem InvC_f {σ σ' : QS} {v i : Nat} {x : Int32} (e : σ' = rs σ v i (fun _ => x)) (h : InvC σ) (hv : v ∉ depC) (hb : (ivC v).1 ≤ x.toInt ∧ x.toInt ≤ (ivC v).2) : InvC σ' :=
  ⟨rs_b e (lo := fun v => (ivC v).1) (hi := fun v => (ivC v).2) h.1 (fun _ => hb), XC_w e h.2 hv⟩
theorem InvC_a {σ σ' : QS} {v i j : Nat} {x : Int32} (e : σ' = rs σ v i (upd (σ v i) j x)) (h : InvC σ) (hv : v ∉ depC) (hb : (ivC v).1 ≤ x.toInt ∧ x.toInt ≤ (ivC v).2) : InvC σ' :=
  ⟨rs_b e (lo := fun v => (ivC v).1) (hi := fun v => (ivC v).2) h.1 (upd_b (h.1 v i) hb), XC_w e h.2 hv⟩
/-! .. and of the reference -/
def ivM : Nat → Int × Int := fun v => match v with
  | 1 => (0, 5000) | 2 => (0, 12) | 3 => (0, 100) | 4 => (0, 60) | 6 => (0, 23) | 7 => (0, 50) | 9 => (0, 6) | 11 => (0, 11) | 12 => (0, 60) | 16 => (0, 1000000) | 18 => (0, 11) | 19 => (0, 20) | 20 => (-1, 11) | 21 => (-1, 11) | 24 => (0, 11) | 27 => (0, 60) | 28 => (0, 60) | 29 => (0, 100) | 34 => (-1, 8) | 37 => (0, 500)
  | _ => (-2147483648, 2147483647)
def IvM (σ : QS) : Prop := ∀ v i j, (ivM v).1 ≤ (σ v i j).toInt ∧ (σ v i j).toInt ≤ (ivM v).2
def XM (σ : QS) : Prop := ∀ c : Nat, (c : Int) < (σ 2 0 0).toInt → 1 ≤ (σ 9 0 c).toInt
def InvM (σ : QS) : Prop := IvM σ ∧ XM σ
abbrev depM : List Nat := [2, 9]
theorem XM_of {σ σ' : QS} (h : XM σ) (hd : ∀ v ∈ depM, σ' v = σ v) : XM σ' := by
  unfold XM at h ⊢
  rw [hd 2 (by decide), hd 9 (by decide)]
  exact h
theorem XM_w {σ σ' : QS} {v i : Nat} {f : Nat → Int32} (e : σ' = rs σ v i f) (h : XM σ) (hv : v ∉ depM) : XM σ' := XM_of h (fun a ha => by rw [e]; exact rs_v (fun q => hv (by rw [← q]; exact ha)))
theorem InvM_f {σ σ' : QS} {v i : Nat} {x : Int32} (e : σ' = rs σ v i (fun _ => x)) (h : InvM σ) (hv : v ∉ depM) (hb : (ivM v).1 ≤ x.toInt ∧ x.toInt ≤ (ivM v).2) : InvM σ' :=
  ⟨rs_b e (lo := fun v => (ivM v).1) (hi := fun v => (ivM v).2) h.1 (fun _ => hb), XM_w e h.2 hv⟩
theorem InvM_a {σ σ' : QS} {v i j : Nat} {x : Int32} (e : σ' = rs σ v i (upd (σ v i) j x)) (h : InvM σ) (hv : v ∉ depM) (hb : (ivM v).1 ≤ x.toInt ∧ x.toInt ≤ (ivM v).2) : InvM σ' :=
  ⟨rs_b e (lo := fun v => (ivM v).1) (hi := fun v => (ivM v).2) h.1 (upd_b (h.1 v i) hb), XM_w e h.2 hv⟩
theorem IvC_w {σ : QS} {v i : Nat} {f : Nat → Int32} (h : IvC σ) (hf : ∀ c, (ivC v).1 ≤ (f c).toInt ∧ (f c).toInt ≤ (ivC v).2) : IvC (rs σ v i f) := rs_b rfl (lo := fun v => (ivC v).1) (hi := fun v => (ivC v).2) h hf
theorem InvC_cart0 {σ σ' : QS} {i : Nat} {x : Int32} (e : σ' = rs σ 35 i (fun _ => x)) (h : InvC σ) (hx : x.toInt = -1) : InvC σ' := by
  subst e
  obtain ⟨h1, h2, h3, h4, h5⟩ := h
  refine ⟨IvC_w h1 (fun _ => show (-1 : Int) ≤ x.toInt ∧ x.toInt ≤ 11 by omega), ?_⟩
  refine ⟨by simpa [rs] using h2, by simpa [rs] using h3, by simpa [rs] using h4, fun q => ?_⟩
  by_cases hq : q = i
  · subst hq
    intro h9
    simp [rs] at h9
    omega
  · have := h5 q
    simpa [rs, hq] using this
theorem InvC_day {σ σ' : QS} {i : Nat} {x : Int32} (e : σ' = rs σ 36 i (fun _ => x)) (h : InvC σ) (hc : (σ 35 i 0).toInt < 0 ∨ 0 ≤ x.toInt) : InvC σ' := by
  subst e
  obtain ⟨h1, h2, h3, h4, h5⟩ := h
  refine ⟨IvC_w h1 (fun _ => any32 x), ?_⟩
  refine ⟨by simpa [rs] using h2, by simpa [rs] using h3, by simpa [rs] using h4, fun q => ?_⟩
  by_cases hq : q = i
  · subst hq
    intro h9
    simp [rs] at h9 ⊢
    omega
  · have := h5 q
    simpa [rs, hq] using this
theorem InvC_board {σ σ' : QS} {i : Nat} {c d u p : Int32} {f : Nat → Int32} (h : InvC σ) (e : σ' = rs (rs (rs (rs (rs (rs σ 34 i (fun _ => -1)) 35 i (fun _ => c)) 36 i (fun _ => d)) 37 i (fun _ => u)) 38 i (fun _ => p)) 40 i f) (hc : -1 ≤ c.toInt ∧ c.toInt ≤ 11) (hd : 0 ≤ d.toInt) (hp : -1 ≤ p.toInt ∧ p.toInt ≤ 11) : InvC σ' := by
  subst e
  obtain ⟨h1, h2, h3, h4, h5⟩ := h
  refine ⟨IvC_w (IvC_w (IvC_w (IvC_w (IvC_w (IvC_w h1 (fun _ => by decide)) (fun _ => hc)) (fun _ => any32 d)) (fun _ => any32 u)) (fun _ => hp)) (fun _ => any32 _), ?_⟩
  refine ⟨by simpa [rs] using h2, by simpa [rs] using h3, by simpa [rs] using h4, fun q => ?_⟩
  by_cases hq : q = i
  · subst hq
    intro h9
    simpa [rs] using hd
  · have := h5 q
    simpa [rs, hq] using this
theorem InvC_give {σ σ' : QS} {i : Nat} {n a b z : Int32} (h : InvC σ) (e : σ' = rs (rs (rs (rs σ 0 0 (fun _ => n)) 34 i (fun _ => a)) 32 i (fun _ => b)) 33 i (fun _ => z)) (hn : n.toInt = (σ 0 0 0).toInt + 1) (hn2 : n.toInt ≤ 60) (hi : (i : Int) = (σ 0 0 0).toInt) (ha : 0 ≤ a.toInt ∧ a.toInt ≤ 11) (hb : 0 ≤ b.toInt ∧ b.toInt ≤ 11) : InvC σ' := by
  subst e
  obtain ⟨h1, h2, h3, h4, h5⟩ := h
  have h9 := h1 0 0 0
  have h8 : (0 : Int) ≤ (σ 0 0 0).toInt := h9.1
  refine ⟨IvC_w (IvC_w (IvC_w (IvC_w h1 (fun _ => show (0 : Int) ≤ n.toInt ∧ n.toInt ≤ 60 by omega)) (fun _ => show (-1 : Int) ≤ a.toInt ∧ a.toInt ≤ 11 by omega)) (fun _ => show (-1 : Int) ≤ b.toInt ∧ b.toInt ≤ 11 by omega)) (fun _ => any32 _), ?_⟩
  refine ⟨by simpa [rs] using h2, by simpa [rs] using h3, fun q => ?_, by simpa [rs] using h5⟩
  by_cases hq : q = i
  · subst hq
    intro _
    simpa [rs] using hb.1
  · intro h7
    have h6 : (q : Int) < (σ 0 0 0).toInt := by
      simp [rs] at h7
      omega
    have := h4 q h6
    simpa [rs, hq] using this
theorem hok_all : ∀ h : Fin 24, ∀ n : Fin 12, ∀ t : Fin 6, hok ((((nI h.val <<< ((4 : Int32) &&& 31)) ||| nI n.val) <<< ((3 : Int32) &&& 31)) ||| ((7 : Int32) - nI t.val)) := by
  unfold hok
  decide +kernel
theorem nI_at {x : Int32} (h : 0 ≤ x.toInt) : x = nI x.toNatClampNeg := by
  apply Int32.toInt_inj.mp
  have h1 := cl_eq h
  have h2 := any32 x
  rw [nI_toInt (by omega)]
  omega
theorem hok_of {a b c x : Int32} (ha : 0 ≤ a.toInt ∧ a.toInt ≤ 23) (hb : 0 ≤ b.toInt ∧ b.toInt ≤ 11) (hc : 0 ≤ c.toInt ∧ c.toInt ≤ 5) (e : x = (((a <<< ((4 : Int32) &&& 31)) ||| b) <<< ((3 : Int32) &&& 31)) ||| ((7 : Int32) - c)) : hok x := by
  have := hok_all ⟨a.toNatClampNeg, cl_lt ha.1 (by omega)⟩ ⟨b.toNatClampNeg, cl_lt hb.1 (by omega)⟩ ⟨c.toNatClampNeg, cl_lt hc.1 (by omega)⟩
  simp only at this
  rw [← nI_at ha.1, ← nI_at hb.1, ← nI_at hc.1] at this
  rw [e]
  exact this
theorem IvM_w {σ : QS} {v i : Nat} {f : Nat → Int32} (h : IvM σ) (hf : ∀ c, (ivM v).1 ≤ (f c).toInt ∧ (f c).toInt ≤ (ivM v).2) : IvM (rs σ v i f) := rs_b rfl (lo := fun v => (ivM v).1) (hi := fun v => (ivM v).2) h hf
theorem InvM_stops {σ σ' : QS} {j : Nat} {x : Int32} (e : σ' = rs σ 9 0 (upd (σ 9 0) j x)) (h : InvM σ) (hx : 1 ≤ x.toInt ∧ x.toInt ≤ 6) : InvM σ' := by
  subst e
  refine ⟨IvM_w h.1 (upd_b (h.1 9 0) (show (0 : Int) ≤ x.toInt ∧ x.toInt ≤ 6 by omega)), fun c hc => ?_⟩
  rw [rs_v (by decide)] at hc
  rw [rs_self]
  unfold upd
  by_cases q : c = j
  · rw [if_pos q]; omega
  · rw [if_neg q]; exact h.2 c hc
theorem InvM_carts {σ σ' : QS} {x y c : Int32} (e : σ' = rs σ 2 0 (fun _ => x)) (h : InvM σ) (hy : y = σ 2 0 0) (hx : x.toInt = y.toInt + 1) (hb : x.toInt ≤ 12) (hc : c.toInt = y.toInt) (hs : (σ 9 0 c.toNatClampNeg).toInt = 1) : InvM σ' := by
  subst e
  have h0 : (0 : Int) ≤ (σ 2 0 0).toInt ∧ (σ 2 0 0).toInt ≤ 12 := h.1 2 0 0
  rw [← hy] at h0
  have h1 := cl_eq (j := c) (by omega)
  refine ⟨IvM_w h.1 (fun _ => show (0 : Int) ≤ x.toInt ∧ x.toInt ≤ 12 by omega), fun q hq => ?_⟩
  rw [rs_self] at hq
  rw [rs_v (by decide)]
  by_cases hqc : q = c.toNatClampNeg
  · rw [hqc, hs]; decide
  · exact h.2 q (by rw [← hy]; omega)
def sumN (f : Nat → Int32) : Nat → Int
  | 0 => 0
  | n + 1 => sumN f n + (f n).toInt
theorem sumN_out (f : Nat → Int32) (j : Nat) (x : Int32) : ∀ n, n ≤ j → sumN (upd f j x) n = sumN f n
  | 0, _ => rfl
  | n + 1, h => by
    have h1 : upd f j x n = f n := by unfold upd; rw [if_neg (by omega)]
    rw [sumN, sumN, sumN_out f j x n (by omega), h1]
theorem sumN_upd (f : Nat → Int32) (j : Nat) (x : Int32) : ∀ n, j < n → sumN (upd f j x) n = sumN f n - (f j).toInt + x.toInt
  | 0, h => absurd h (Nat.not_lt_zero _)
  | n + 1, h => by
    by_cases q : j = n
    · subst q
      have h1 : upd f j x j = x := by unfold upd; rw [if_pos rfl]
      rw [sumN, sumN, sumN_out f j x j (Nat.le_refl _), h1]
      omega
    · have h1 : upd f j x n = f n := by unfold upd; rw [if_neg (Ne.symm q)]
      rw [sumN, sumN, sumN_upd f j x n (by omega), h1]
      omega
theorem sumN_nn (f : Nat → Int32) (hf : ∀ c, 0 ≤ (f c).toInt) : ∀ n, 0 ≤ sumN f n
  | 0 => Int.le_refl 0
  | n + 1 => by
    have h1 := sumN_nn f hf n
    have h2 := hf n
    rw [sumN]
    omega
def sumS (σ : QS) : Int := sumN (σ 16 0) 12
theorem sumS_nn {σ : QS} (h : InvM σ) : 0 ≤ sumS σ := sumN_nn _ (fun c => (h.1 16 0 c).1) 12
theorem sumS_w {σ σ' : QS} {j x v : Int32} (e : σ' = rs σ 16 0 (upd (σ 16 0) j.toNatClampNeg x)) (hv : v = σ 16 0 j.toNatClampNeg) (h1 : 0 ≤ j.toInt) (h2 : j.toInt < 12) : sumS σ' = sumS σ - v.toInt + x.toInt := by
  unfold sumS
  rw [e, rs_self, hv]
  exact sumN_upd _ _ _ 12 (cl_lt h1 (by omega))
