/-- how far the search has come -/
def dnv (lo hi : Int64) (n : Nat) : Prop := lo.toInt ≤ hi.toInt ∧ hi.toInt - lo.toInt ≤ (2 : Int) ^ n ∧ -9218868437227405312 ≤ lo.toInt ∧ hi.toInt ≤ 9218868437227405312 ∧ (0 ≤ lo.toInt ∨ hi.toInt ≤ 0)
theorem dnv_sub {lo hi : Int64} {n : Nat} (h : dnv lo hi n) : (hi - lo).toInt = hi.toInt - lo.toInt := by
  obtain ⟨h1, h2, h3, h4, h5⟩ := h
  rw [Int64.toInt_sub]
  exact Int.bmod_eq_of_le (by omega) (by omega)
theorem dnv_0 {lo hi : Int64} (h : dnv lo hi 0) : hi - lo ≤ 1 := by
  have e := dnv_sub h
  rw [Int64.le_iff_toInt_le, e]
  have : (1 : Int64).toInt = 1 := rfl
  rw [this]
  have h2 : hi.toInt - lo.toInt ≤ 1 := h.2.1
  omega
theorem dnv_mid {lo hi : Int64} {n : Nat} (h : dnv lo hi n) : (lo + (hi - lo) / 2).toInt = lo.toInt + (hi.toInt - lo.toInt) / 2 := by
  have e := dnv_sub h
  obtain ⟨h1, h2, h3, h4, h5⟩ := h
  have e2 : ((hi - lo) / 2).toInt = (hi.toInt - lo.toInt) / 2 := by
    rw [Int64.toInt_div, e]
    have q : (2 : Int64).toInt = 2 := rfl
    rw [q, Int.tdiv_eq_ediv_of_nonneg (by omega)]
    exact Int.bmod_eq_of_le (by omega) (by omega)
  rw [Int64.toInt_add, e2]
  exact Int.bmod_eq_of_le (by omega) (by omega)
theorem dnv_s {lo hi : Int64} {n : Nat} {p : Prop} [Decidable p] (h : dnv lo hi (n + 1)) (hc : ¬ hi - lo ≤ 1) : dnv (if p then lo else lo + (hi - lo) / 2) (if p then lo + (hi - lo) / 2 else hi) n := by
  have e := dnv_sub h
  have m := dnv_mid h
  obtain ⟨h1, h2, h3, h4, h5⟩ := h
  rw [Int64.le_iff_toInt_le, e] at hc
  have q : (1 : Int64).toInt = 1 := rfl
  rw [q] at hc
  rw [Int.pow_succ] at h2
  by_cases hp : p
  · rw [if_pos hp, if_pos hp]
    refine ⟨by omega, ?_, by omega, by omega, by omega⟩
    rw [m]; omega
  · rw [if_neg hp, if_neg hp]
    refine ⟨by omega, ?_, by omega, by omega, by omega⟩
    rw [m]; omega
theorem hsx {a b : Int32} (ha : -1073741824 ≤ a.toInt ∧ a.toInt < 1073741824) (hb : -1073741824 ≤ b.toInt ∧ b.toInt < 1073741824) (h : ¬ a ≤ b) : a - b = nI (a - b).toNatClampNeg ∧ (a - b).toNatClampNeg < 2147483648 := by
  rw [Int32.le_iff_toInt_le] at h
  have e : (a - b).toInt = a.toInt - b.toInt := by
    rw [Int32.toInt_sub]
    exact Int.bmod_eq_of_le (by omega) (by omega)
  obtain ⟨j, hj, q⟩ := nI_of (x := a - b) (by rw [Int32.lt_iff_toInt_lt, e]; show ¬ _ < (0 : Int); omega)
  rw [q, nI_clamp hj]
  exact ⟨rfl, by omega⟩
theorem hsy {a b : Int32} (ha : -1073741824 ≤ a.toInt ∧ a.toInt < 1073741824) (hb : -1073741824 ≤ b.toInt ∧ b.toInt < 1073741824) (h : a ≤ b) : b - a = nI (b - a).toNatClampNeg ∧ (b - a).toNatClampNeg < 2147483648 := by
  rw [Int32.le_iff_toInt_le] at h
  have e : (b - a).toInt = b.toInt - a.toInt := by
    rw [Int32.toInt_sub]
    exact Int.bmod_eq_of_le (by omega) (by omega)
  obtain ⟨j, hj, q⟩ := nI_of (x := b - a) (by rw [Int32.lt_iff_toInt_lt, e]; show ¬ _ < (0 : Int); omega)
  rw [q, nI_clamp hj]
  exact ⟨rfl, by omega⟩
theorem and_lN (y : Int64) : ∃ m : Nat, m < 2048 ∧ y &&& (2047 : Int64) = lN m := by
  refine ⟨(y &&& (2047 : Int64)).toBitVec.toNat, ?_, ?_⟩
  · have e : (y &&& (2047 : Int64)).toBitVec.toNat = y.toBitVec.toNat % 2048 := by
      show (y.toBitVec &&& (2047 : Int64).toBitVec).toNat = _
      rw [BitVec.toNat_and]
      exact Nat.and_two_pow_sub_one_eq_mod _ 11
    rw [e]; omega
  · apply Int64.toBitVec_inj.mp
    show _ = BitVec.ofNat 64 _
    rw [BitVec.ofNat_toNat, BitVec.setWidth_eq]
theorem e_rng (y : Int64) : -1073741824 ≤ (if (y &&& (2047 : Int64)) = (0 : Int64) then (-1074 : Int32) else (y &&& (2047 : Int64)).toInt32 - (1075 : Int32)).toInt ∧ (if (y &&& (2047 : Int64)) = (0 : Int64) then (-1074 : Int32) else (y &&& (2047 : Int64)).toInt32 - (1075 : Int32)).toInt < 1073741824 := by
  obtain ⟨m, hm, e⟩ := and_lN y
  rw [e]
  split
  · decide
  · have h : ∀ m, m < 2048 → -1073741824 ≤ ((lN m).toInt32 - (1075 : Int32)).toInt ∧ ((lN m).toInt32 - (1075 : Int32)).toInt < 1073741824 := by decide +kernel
    exact h m hm
theorem set_len (f : Nat → Int32) (k : Nat) (v : Int64) : pB_set_1 f k v ≤ 4 := (Bg_set f k v).len (by
  have := v.toBitVec.isLt
  have e : 65536 ^ 4 = 2 ^ 64 := by decide
  rw [e]; exact this)
theorem dnv_init {p : Prop} [Decidable p] : dnv (if p then (-9218868437227405311 : Int64) else (0 : Int64)) (if p then (0 : Int64) else (9218868437227405312 : Int64)) 63 := by
  by_cases h : p
  · rw [if_pos h, if_pos h]; unfold dnv; decide
  · rw [if_neg h, if_neg h]; unfold dnv; decide
section SF
variable (ng : Bool) (fp : Nat → Int32) (kp : Nat) (fq : Nat → Int32) (kq : Nat) (ee : Int32) (x : Int64)
theorem sf_p : Bg (pU_setFloat_1 ng fp kp fq kq ee x) (pU_setFloat_2 ng fp kp fq kq ee x) (v_U_setFloat_4 ng fp kp fq kq ee x).toBitVec.toNat := Bg_set fp kp (v_U_setFloat_4 ng fp kp fq kq ee x)
theorem sf_q : Bg (pU_setFloat_3 ng fp kp fq kq ee x) (pU_setFloat_4 ng fp kp fq kq ee x) 1 := Bg_set fq kq (1 : Int64)
theorem sf_lp : pU_setFloat_2 ng fp kp fq kq ee x ≤ 4 := set_len fp kp (v_U_setFloat_4 ng fp kp fq kq ee x)
theorem sf_lq : pU_setFloat_4 ng fp kp fq kq ee x ≤ 4 := set_len fq kq (1 : Int64)
theorem sf_e : -1073741824 ≤ (pU_setFloat_5 ng fp kp fq kq ee x).toInt ∧ (pU_setFloat_5 ng fp kp fq kq ee x).toInt < 1073741824 := e_rng (jlush x (52 : Int32))
end SF

