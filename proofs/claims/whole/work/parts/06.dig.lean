/-- a digit of 16 bits -/
def dg (x : Int32) : Prop := x.toBitVec.toNat < 65536
theorem nI_pos2 {k : Nat} (h : ¬ nI k ≤ 0) : 1 ≤ k := by
  cases k with
  | zero => exact absurd (by decide) h
  | succ k => omega
theorem dg_int {x : Int32} (h : dg x) : 0 ≤ x.toInt ∧ x.toInt < 65536 := by
  unfold dg at h
  have : x.toInt = x.toBitVec.toInt := rfl
  rw [this, BitVec.toInt_eq_toNat_cond]
  split <;> omega
theorem bits16 {x : Int32} {j : Nat} (hj : j + 0 = 16) (h : dg x) : x >>> (nI j &&& 31) = 0 := by
  have hj : j = 16 := hj
  subst hj
  apply Int32.toInt_inj.mp
  rw [pk_shr x (nI 16 &&& 31) 16 (by decide), Int.shiftRight_eq_div_pow]
  have := dg_int h
  show x.toInt / (65536 : Int) = 0
  omega
theorem nprod_le {k2 k3 : Nat} (h : k2 + k3 ≤ 640) : (if nI k2 = 0 then 0 else (if nI k3 = 0 then 0 else k2 + k3)) ≤ 640 := by
  split
  · omega
  · split <;> omega
/-- a long below 2 ^ (16 n), without sign -/
def wlt (w : Int64) (n : Nat) : Prop := w.toBitVec.toNat < 2 ^ (16 * n)
theorem wlt_0 {w : Int64} (h : wlt w 0) : w = 0 := by
  unfold wlt at h
  apply Int64.toBitVec_inj.mp
  apply BitVec.eq_of_toNat_eq
  have : w.toBitVec.toNat = 0 := by simpa using h
  rw [this]; rfl
theorem wlt_4 (w : Int64) : wlt w 4 := by
  unfold wlt
  exact w.toBitVec.isLt
theorem jl_ush (x : Int64) {k : Nat} (hk : k < 64) : (jlush x (nI k)).toBitVec.toNat = x.toBitVec.toNat / 2 ^ k := by
  unfold jlush
  have h : ∀ k, k < 64 → (((nI k).toInt64.toUInt64 &&& Int64.toUInt64 63).toNat % 64) = k := by decide +kernel
  have e : ((x.toUInt64 >>> ((nI k).toInt64.toUInt64 &&& Int64.toUInt64 63)).toInt64).toBitVec.toNat = (x.toUInt64 >>> ((nI k).toInt64.toUInt64 &&& Int64.toUInt64 63)).toNat := rfl
  rw [e, UInt64.toNat_shiftRight, h k hk, Nat.shiftRight_eq_div_pow]
  rfl
theorem wlt_s {w : Int64} {n : Nat} (h : wlt w (n + 1)) : wlt (jlush w (16 : Int32)) n := by
  unfold wlt at *
  have e : jlush w (16 : Int32) = jlush w (nI 16) := rfl
  rw [e, jl_ush w (by decide)]
  apply Nat.div_lt_of_lt_mul
  rw [← Nat.pow_add]
  have : 16 + 16 * n = 16 * (n + 1) := by omega
  rw [this]; exact h
/-- a long below 2 ^ (16 n), with its sign -/
def ilt (w : Int64) (n : Nat) : Prop := w.toInt < (2 : Int) ^ (16 * n)
theorem ilt_0 {w : Int64} (h : ilt w 0) : w ≤ 0 := by
  unfold ilt at h
  rw [Int64.le_iff_toInt_le]
  have : w.toInt < 1 := by simpa using h
  show w.toInt ≤ 0
  omega
theorem ilt_4 (w : Int64) : ilt w 4 := by
  unfold ilt
  have := w.toInt_lt
  have e : (2 : Int) ^ (16 * 4) = 18446744073709551616 := by decide
  rw [e]; omega
theorem jl_shr (x : Int64) {k : Nat} (hk : k < 64) : (jlshr x (nI k)).toInt = x.toInt / (2 : Int) ^ k := by
  unfold jlshr
  have h : ∀ k, k < 64 → ((((nI k).toInt64 &&& 63).toBitVec.smod 64).toNat) = k := by decide +kernel
  have e : (x >>> ((nI k).toInt64 &&& 63)).toInt = (x.toBitVec.sshiftRight (((nI k).toInt64 &&& 63).toBitVec.smod 64).toNat).toInt := rfl
  rw [e, h k hk, BitVec.toInt_sshiftRight, Int.shiftRight_eq_div_pow]
  simp
theorem ilt_s {w : Int64} {n : Nat} (h : ilt w (n + 1)) : ilt (jlshr w (16 : Int32)) n := by
  unfold ilt at *
  have e : jlshr w (16 : Int32) = jlshr w (nI 16) := rfl
  rw [e, jl_shr w (by decide)]
  apply Int.ediv_lt_of_lt_mul (by decide)
  rw [← Int.pow_add]
  have : 16 * n + 16 = 16 * (n + 1) := by omega
  rw [this]; exact h

