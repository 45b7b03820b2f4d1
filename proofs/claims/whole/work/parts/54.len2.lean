theorem nI_big {a : Nat} (h1 : 2147483648 ≤ a) (h2 : a < 4294967296) : (nI a).toInt = (a : Int) - 4294967296 := by
  have e : (nI a).toInt = (nI a).toBitVec.toInt := rfl
  have e2 := pk_tn (n := a) (by omega)
  rw [e, BitVec.toInt_eq_toNat_cond, e2, if_neg (by omega)]
  rfl
theorem nlz_big {a : Nat} (h1 : 2147483648 ≤ a) (h2 : a < 4294967296) : pI_numberOfLeadingZeros (nI a) = 0 := by
  have e := nI_big h1 h2
  have n1 : ¬ (0 : Int32) < nI a := by
    rw [Int32.lt_iff_toInt_lt, e]
    show ¬ (0 : Int) < _
    omega
  have n2 : ¬ nI a = 0 := by
    intro q
    rw [q] at e
    have : (0 : Int32).toInt = 0 := rfl
    rw [this] at e
    omega
  exact (if_neg n1).trans (if_neg n2)
theorem blen_0 : blen 0 = 0 := rfl
theorem len_ok {n : Nat} (h : n < 2 ^ 63) : pF_lengthOf (lN n) = nI (blen n) := by
  have ex : (jlush (lN n) (32 : Int32)).toInt32 = nI (n / 2 ^ 32) := by
    have e1 : jlush (lN n) (32 : Int32) = lN (n / 2 ^ 32) := by
      apply Int64.toBitVec_inj.mp
      apply BitVec.eq_of_toNat_eq
      have e2 : (jlush (lN n) (32 : Int32)).toBitVec.toNat = (lN n).toBitVec.toNat / 2 ^ 32 := jl_ush (lN n) (k := 32) (by decide)
      rw [e2, lN_tn (by omega), lN_tn (by omega)]
    rw [e1, lN_i]
  have key : pJ_numberOfLeadingZeros (lN n) = nI (64 - blen n) := by
    show (if (jlush (lN n) (32 : Int32)).toInt32 = 0 then (32 : Int32) + pI_numberOfLeadingZeros (lN n).toInt32 else pI_numberOfLeadingZeros (jlush (lN n) (32 : Int32)).toInt32) = _
    rw [ex, lN_i]
    have ez : nI (n / 2 ^ 32) = 0 ↔ n / 2 ^ 32 = 0 := nI_eq (a := n / 2 ^ 32) (b := 0) (by omega) (by decide)
    have e32 : (32 : Int32) = nI 32 := rfl
    by_cases q : n / 2 ^ 32 = 0
    · rw [if_pos (ez.mpr q)]
      have hn : n < 4294967296 := by omega
      by_cases z : n = 0
      · subst z; decide
      · by_cases w : n < 2147483648
        · rw [nlz_ok (by omega) w, e32, nI_add]
          have := blen_lt (n := n) (k := 31) (by omega)
          congr 1; omega
        · rw [nlz_big (by omega) hn]
          have := blen_eq (n := n) (k := 31) (by omega) (by omega)
          rw [this]; decide
    · rw [if_neg (fun z => q (ez.mp z)), nlz_ok (by omega) (by omega)]
      have := blen_div (a := n) (s := 32) (by omega)
      congr 1; omega
  show (64 : Int32) - pJ_numberOfLeadingZeros (lN n) = _
  have e64 : (64 : Int32) = nI 64 := rfl
  have hb := blen_lt h
  rw [key, e64, pk_sub (by omega)]
  congr 1; omega

