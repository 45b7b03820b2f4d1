/-! TRAILING ZEROS -/
theorem odd_ex : ∀ n s : Nat, s ≤ n → 0 < s → ∃ o t, s = o * 2 ^ t ∧ o % 2 = 1 := by
  intro n
  induction n with
  | zero => intro s h1 h2; omega
  | succ n ih =>
    intro s h1 h2
    by_cases q : s % 2 = 1
    · exact ⟨s, 0, by omega, q⟩
    · obtain ⟨o, t, e, ho⟩ := ih (s / 2) (by omega) (by omega)
      refine ⟨o, t + 1, ?_, ho⟩
      rw [Nat.pow_succ, ← Nat.mul_assoc, ← e]
      omega
theorem ntz_v1 {o t : Nat} (ho : o % 2 = 1) (h : o * 2 ^ t < 2 ^ 32) : v_I_numberOfTrailingZeros_1 (nI (o * 2 ^ t)) = nI (2 ^ t - 1) := by
  have hp : 0 < 2 ^ t := Nat.pow_pos (by decide)
  have h1 : 2 ^ t ≤ o * 2 ^ t := Nat.le_mul_of_pos_left _ (by omega)
  apply dn_inj
  have e1 : nI (o * 2 ^ t) - (1 : Int32) = nI (o * 2 ^ t - 1) := pk_sub (b := 1) (by omega)
  show dn ((nI (o * 2 ^ t) ^^^ (-1 : Int32)) &&& (nI (o * 2 ^ t) - (1 : Int32))) = _
  rw [e1, dn_nI (by omega)]
  have e2 : dn ((nI (o * 2 ^ t) ^^^ (-1 : Int32)) &&& nI (o * 2 ^ t - 1)) = ((o * 2 ^ t) ^^^ (2 ^ 32 - 1)) &&& (o * 2 ^ t - 1) := by
    show (((nI (o * 2 ^ t)).toBitVec ^^^ (-1 : Int32).toBitVec) &&& (nI (o * 2 ^ t - 1)).toBitVec).toNat = _
    rw [BitVec.toNat_and, BitVec.toNat_xor, pk_tn h, pk_tn (by omega)]
    rfl
  rw [e2]
  apply Nat.eq_of_testBit_eq
  intro i
  obtain ⟨u, hu⟩ : ∃ u, o = 2 * u + 1 := ⟨o / 2, by omega⟩
  have e3 : o * 2 ^ t - 1 = 2 ^ t * (2 * u) + (2 ^ t - 1) := by
    rw [hu, Nat.add_mul, Nat.mul_comm (2 * u)]; omega
  have e4 : (o * 2 ^ t).testBit i = (decide (i ≥ t) && o.testBit (i - t)) := by rw [Nat.mul_comm]; exact Nat.testBit_two_pow_mul
  rw [Nat.testBit_and, Nat.testBit_xor, Nat.testBit_two_pow_sub_one, e4, e3, Nat.testBit_two_pow_mul_add _ (by omega), Nat.testBit_two_pow_sub_one]
  by_cases c : i < t
  · have ht : t ≤ 31 := by
      refine Nat.le_of_not_lt (fun z => ?_)
      have : 2 ^ 32 ≤ 2 ^ t := Nat.pow_le_pow_right (by decide) z
      omega
    rw [if_pos c, decide_eq_true c, decide_eq_false (show ¬ i ≥ t by omega), decide_eq_true (show i < 32 by omega)]
    rfl
  · rw [if_neg c, decide_eq_false c, decide_eq_true (show i ≥ t by omega), Bool.true_and]
    by_cases z : i - t = 0
    · rw [z, hu]
      have : (2 * u).testBit 0 = false := by rw [Nat.testBit_zero]; simp
      rw [this, Bool.and_false]
    · obtain ⟨j, hj⟩ : ∃ j, i - t = j + 1 := ⟨i - t - 1, by omega⟩
      have b1 : o.testBit (i - t) = u.testBit j := by
        rw [hj, hu, Nat.testBit_succ]; congr 1; omega
      have b2 : (2 * u).testBit (i - t) = u.testBit j := by
        rw [hj, Nat.testBit_succ]; congr 1; omega
      rw [b1, b2]
      by_cases w : i < 32
      · rw [decide_eq_true w]; cases u.testBit j <;> rfl
      · have : (o * 2 ^ t).testBit i = false := Nat.testBit_lt_two_pow (Nat.lt_of_lt_of_le h (Nat.pow_le_pow_right (by decide) (by omega)))
        rw [e4, decide_eq_true (show i ≥ t by omega), Bool.true_and, b1] at this
        rw [this, Bool.and_false]
theorem ntz_32 {o t : Nat} (ho : o % 2 = 1) (h : o * 2 ^ t < 2 ^ 32) : pI_numberOfTrailingZeros (nI (o * 2 ^ t)) = nI t := by
  have ht : t < 32 := by
    refine Nat.lt_of_not_le (fun z => ?_)
    have h2 : 2 ^ 32 ≤ 2 ^ t := Nat.pow_le_pow_right (by decide) z
    have : 2 ^ t ≤ o * 2 ^ t := Nat.le_mul_of_pos_left _ (by omega)
    omega
  have e := ntz_v1 ho h
  have e2 : v_I_numberOfTrailingZeros_1 (nI (1 * 2 ^ t)) = nI (2 ^ t - 1) := ntz_v1 (o := 1) rfl (by rw [Nat.one_mul]; exact (Nat.pow_lt_pow_iff_right (by decide)).mpr ht)
  -- the answer speaks of v_1 alone
  have key : ∀ x y : Int32, v_I_numberOfTrailingZeros_1 x = v_I_numberOfTrailingZeros_1 y → pI_numberOfTrailingZeros x = pI_numberOfTrailingZeros y := by
    intro x y hxy
    have a3 : v_I_numberOfTrailingZeros_3 x = v_I_numberOfTrailingZeros_3 y := by show jiush (v_I_numberOfTrailingZeros_1 x) 16 = jiush (v_I_numberOfTrailingZeros_1 y) 16; rw [hxy]
    have a4 : v_I_numberOfTrailingZeros_4 x = v_I_numberOfTrailingZeros_4 y := by unfold v_I_numberOfTrailingZeros_4; rw [hxy, a3]
    have a5 : v_I_numberOfTrailingZeros_5 x = v_I_numberOfTrailingZeros_5 y := by unfold v_I_numberOfTrailingZeros_5; rw [hxy]; rfl
    have a7 : v_I_numberOfTrailingZeros_7 x = v_I_numberOfTrailingZeros_7 y := by unfold v_I_numberOfTrailingZeros_7; rw [a4]
    have a6 : v_I_numberOfTrailingZeros_6 x = v_I_numberOfTrailingZeros_6 y := by unfold v_I_numberOfTrailingZeros_6; rw [a5]
    have a8 : v_I_numberOfTrailingZeros_8 x = v_I_numberOfTrailingZeros_8 y := by unfold v_I_numberOfTrailingZeros_8; rw [a4, a7]
    have a9 : v_I_numberOfTrailingZeros_9 x = v_I_numberOfTrailingZeros_9 y := by unfold v_I_numberOfTrailingZeros_9; rw [a4, a5, a6]
    have a10 : v_I_numberOfTrailingZeros_10 x = v_I_numberOfTrailingZeros_10 y := by unfold v_I_numberOfTrailingZeros_10; rw [a9]
    have a11 : v_I_numberOfTrailingZeros_11 x = v_I_numberOfTrailingZeros_11 y := by unfold v_I_numberOfTrailingZeros_11; rw [a8]
    have a12 : v_I_numberOfTrailingZeros_12 x = v_I_numberOfTrailingZeros_12 y := by unfold v_I_numberOfTrailingZeros_12; rw [a8, a11]
    have a13 : v_I_numberOfTrailingZeros_13 x = v_I_numberOfTrailingZeros_13 y := by unfold v_I_numberOfTrailingZeros_13; rw [a8, a9, a10]
    have a14 : v_I_numberOfTrailingZeros_14 x = v_I_numberOfTrailingZeros_14 y := by unfold v_I_numberOfTrailingZeros_14; rw [a13]
    have a15 : v_I_numberOfTrailingZeros_15 x = v_I_numberOfTrailingZeros_15 y := by unfold v_I_numberOfTrailingZeros_15; rw [a12]
    have a16 : v_I_numberOfTrailingZeros_16 x = v_I_numberOfTrailingZeros_16 y := by unfold v_I_numberOfTrailingZeros_16; rw [a12, a15]
    have a17 : v_I_numberOfTrailingZeros_17 x = v_I_numberOfTrailingZeros_17 y := by unfold v_I_numberOfTrailingZeros_17; rw [a12, a13, a14]
    unfold pI_numberOfTrailingZeros
    rw [hxy, a16, a17]
  rw [key _ _ (e.trans e2.symm)]
  have hd : ∀ t, t < 32 → pI_numberOfTrailingZeros (nI (1 * 2 ^ t)) = nI t := by decide +kernel
  exact hd t ht
theorem nI_md (n : Nat) : nI n = nI (n % 2 ^ 32) := by
  apply dn_inj
  show (BitVec.ofNat 32 n).toNat = (BitVec.ofNat 32 (n % 2 ^ 32)).toNat
  rw [BitVec.toNat_ofNat, BitVec.toNat_ofNat, Nat.mod_mod]
theorem tz_ok {s : Nat} (h0 : 0 < s) (h : s < 2 ^ 53) : ∃ o t, s = o * 2 ^ t ∧ o % 2 = 1 ∧ t ≤ 52 ∧ pJ_numberOfTrailingZeros (lN s) = nI t ∧ jlush (lN s) (nI t) = lN o := by
  obtain ⟨o, t, e, ho⟩ := odd_ex s s (Nat.le_refl _) h0
  have hp : 0 < 2 ^ t := Nat.pow_pos (by decide)
  have ht : t ≤ 52 := by
    refine Nat.le_of_not_lt (fun z => ?_)
    have h2 : 2 ^ 53 ≤ 2 ^ t := Nat.pow_le_pow_right (by decide) z
    have : 2 ^ t ≤ o * 2 ^ t := Nat.le_mul_of_pos_left _ (by omega)
    omega
  refine ⟨o, t, e, ho, ht, ?_, ?_⟩
  · show (if (lN s).toInt32 = 0 then (32 : Int32) + pI_numberOfTrailingZeros ((jlush (lN s) (32 : Int32)).toInt32) else pI_numberOfTrailingZeros (lN s).toInt32) = _
    rw [lN_i, ush32 (by omega), lN_i]
    have c : nI s = 0 ↔ s % 2 ^ 32 = 0 := by
      rw [nI_md s]
      constructor
      · intro q
        have := dn_nI (n := s % 2 ^ 32) (by omega)
        rw [q, dn_0] at this
        omega
      · intro q; rw [q]; rfl
    by_cases q : 32 ≤ t
    · have e2 : 2 ^ t = 2 ^ (t - 32) * 2 ^ 32 := by rw [← Nat.pow_add]; congr 1; omega
      have e3 : s = o * 2 ^ (t - 32) * 2 ^ 32 := by rw [e, e2, Nat.mul_assoc]
      rw [if_pos (c.mpr (by rw [e3]; exact Nat.mul_mod_left _ _))]
      have e4 : s / 2 ^ 32 = o * 2 ^ (t - 32) := by rw [e3]; exact Nat.mul_div_cancel _ (by decide)
      rw [e4, ntz_32 ho (by rw [← e4]; omega)]
      show nI 32 + nI (t - 32) = _
      rw [nI_add]; congr 1; omega
    · have e2 : 2 ^ 32 = 2 ^ (32 - t) * 2 ^ t := by rw [← Nat.pow_add]; congr 1; omega
      have e3 : s % 2 ^ 32 = o % 2 ^ (32 - t) * 2 ^ t := by rw [e, e2]; exact Nat.mul_mod_mul_right _ _ _
      have ho2 : o % 2 ^ (32 - t) % 2 = 1 := by
        obtain ⟨j, hj⟩ : ∃ j, 32 - t = j + 1 := ⟨31 - t, by omega⟩
        rw [hj, Nat.pow_succ, Nat.mul_comm, Nat.mod_mul_right_mod]; exact ho
      have hne : ¬ nI s = 0 := fun z => by
        have := c.mp z
        rw [e3] at this
        have h5 := (Nat.mul_eq_zero.mp this).resolve_right (by omega)
        rw [h5] at ho2
        omega
      rw [if_neg hne, nI_md s, e3, ntz_32 ho2 (by rw [← e3]; omega)]
  · rw [l_ush (by omega) (by omega), e, Nat.mul_div_cancel _ hp]
theorem ab_m {n : Int32} (h : ¬ n < (-40)) (h2 : ¬ 40 < n) : (if 0 ≤ n then n else 0 - n) = nI (if 0 ≤ n then n else 0 - n).toNatClampNeg ∧ (if 0 ≤ n then n else 0 - n).toNatClampNeg ≤ 40 ∧ (if 0 ≤ n then n else 0 - n).toNatClampNeg = n.toInt.natAbs := by
  rw [Int32.lt_iff_toInt_lt] at h h2
  have c1 : (40 : Int32).toInt = 40 := rfl
  have c2 : (-40 : Int32).toInt = -40 := rfl
  rw [c2] at h
  rw [c1] at h2
  have c := i_le (show (0 : Int32).toInt = 0 from rfl) (show n.toInt = n.toInt from rfl)
  by_cases q : 0 ≤ n.toInt
  · rw [if_pos (c.mpr q)]
    have := cl_nI (z := n) (v := n.toInt) rfl (by omega) (by omega)
    exact ⟨this.1, by rw [this.2]; omega, by rw [this.2]; omega⟩
  · rw [if_neg (fun z => q (c.mp z))]
    have := cl_nI (z := 0 - n) (v := 0 - n.toInt) (iS rfl rfl (by show (-2147483648 : Int) ≤ 0 - n.toInt; omega) (by show 0 - n.toInt < (2147483648 : Int); omega)) (by omega) (by omega)
    exact ⟨this.1, by rw [this.2]; omega, by rw [this.2]; omega⟩
theorem od_lt {s o t : Nat} (e : s = o * 2 ^ t) (h : s < 2 ^ 53) : o < 2 ^ 53 := by
  have : o ≤ o * 2 ^ t := Nat.le_mul_of_pos_right _ (Nat.pow_pos (by decide))
  omega
theorem pw_bl {o tm : Nat} (ho : o % 2 = 1) (h : o < 2 ^ 53) (ht : tm ≤ 40) : 1 ≤ blen (o ^ tm) ∧ blen (o ^ tm) ≤ 2120 := by
  refine ⟨blen_pos (Nat.pow_pos (by omega)), ?_⟩
  by_cases z : tm = 0
  · rw [z, Nat.pow_zero]; decide
  · apply blen_lt
    have h1 : o ^ tm < (2 ^ 53) ^ tm := Nat.pow_lt_pow_left h z
    rw [← Nat.pow_mul] at h1
    exact Nat.lt_of_lt_of_le h1 (Nat.pow_le_pow_right (by decide) (by omega))
theorem nz_sgf {x : Int64} (h : ¬ pF_isZero x = true) : sgf x ≠ 0 := by
  rw [zro_ok] at h
  intro q
  exact h (decide_eq_true ((sgf_0 x).mp q))

