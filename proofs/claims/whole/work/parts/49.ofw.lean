/-- a size that comes up to 2 ^ 52 within n doublings -/
def ofw (s : Int64) (n : Nat) : Prop := 2 ^ (52 - n) ≤ s.toBitVec.toNat
theorem jl_shl (x : Int64) {k : Nat} (hk : k < 64) : (jlshl x (nI k)).toBitVec.toNat = x.toBitVec.toNat * 2 ^ k % 2 ^ 64 := by
  unfold jlshl
  have h : ∀ k, k < 64 → ((nI k).toInt64 &&& 63).toBitVec.smod 64 = BitVec.ofNat 64 k := by decide +kernel
  have e : (x <<< ((nI k).toInt64 &&& 63)).toBitVec = x.toBitVec <<< (((nI k).toInt64 &&& 63).toBitVec.smod 64) := rfl
  rw [e, h k hk]
  have e2 : (BitVec.ofNat 64 k).toNat = k := by rw [BitVec.toNat_ofNat]; omega
  rw [BitVec.shiftLeft_eq', BitVec.toNat_shiftLeft, e2, Nat.shiftLeft_eq]
theorem ofw_0 {s : Int64} (h : ofw s 0) : ¬ jlush s (52 : Int32) = (0 : Int64) := by
  intro q
  have e : (jlush s (52 : Int32)).toBitVec.toNat = s.toBitVec.toNat / 2 ^ 52 := jl_ush s (k := 52) (by decide)
  rw [q] at e
  have e0 : (0 : Int64).toBitVec.toNat = 0 := rfl
  rw [e0] at e
  unfold ofw at h
  omega
theorem ofw_i {s : Int64} (h : ¬ s = (0 : Int64)) : ofw s 52 := by
  unfold ofw
  rcases Nat.eq_zero_or_pos s.toBitVec.toNat with q | q
  · exact absurd (Int64.toBitVec_inj.mp (BitVec.eq_of_toNat_eq (q.trans rfl))) h
  · exact q
theorem ofw_s {s : Int64} {n : Nat} (h : ofw s (n + 1)) (hn : n + 1 ≤ 52) (hc : jlush s (52 : Int32) = (0 : Int64)) : ofw (jlshl s (1 : Int32)) n := by
  have e : (jlush s (52 : Int32)).toBitVec.toNat = s.toBitVec.toNat / 2 ^ 52 := jl_ush s (k := 52) (by decide)
  rw [hc] at e
  have e0 : (0 : Int64).toBitVec.toNat = 0 := rfl
  rw [e0] at e
  unfold ofw at *
  have e2 : (jlshl s (1 : Int32)).toBitVec.toNat = s.toBitVec.toNat * 2 ^ 1 % 2 ^ 64 := jl_shl s (k := 1) (by decide)
  rw [e2]
  have e3 : 52 - n = (52 - (n + 1)) + 1 := by omega
  rw [e3, Nat.pow_succ]
  generalize 2 ^ (52 - (n + 1)) = T at h ⊢
  omega

