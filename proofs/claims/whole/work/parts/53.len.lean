theorem blen_div {a s : Nat} (h : 2 ^ s ≤ a) : blen (a / 2 ^ s) + s = blen a := by
  have h0 : a ≠ 0 := by
    have : 0 < 2 ^ s := Nat.pow_pos (by decide)
    omega
  obtain ⟨k, hk⟩ : ∃ k, blen a = k + 1 := by
    unfold blen
    rw [if_neg h0]
    exact ⟨_, rfl⟩
  have h1 : 2 ^ k ≤ a := by
    have : Nat.log2 a = k := by
      unfold blen at hk
      rw [if_neg h0] at hk
      omega
    rw [← this]; exact Nat.log2_self_le h0
  have h2 : a < 2 ^ (k + 1) := by rw [← hk]; exact lt_blen a
  have hs : s ≤ k := by
    have : 2 ^ s < 2 ^ (k + 1) := by omega
    have := (Nat.pow_lt_pow_iff_right (a := 2) (by decide)).mp this
    omega
  have e : blen (a / 2 ^ s) = (k - s) + 1 := by
    apply blen_eq
    · rw [Nat.le_div_iff_mul_le (Nat.pow_pos (by decide)), ← Nat.pow_add]
      have : k - s + s = k := by omega
      rw [this]; exact h1
    · rw [Nat.div_lt_iff_lt_mul (Nat.pow_pos (by decide)), ← Nat.pow_add]
      have : k - s + 1 + s = k + 1 := by omega
      rw [this]; exact h2
  omega
theorem nl_a {a s : Nat} {S P : Int32} (hS : ((S.toUInt32 &&& Int32.toUInt32 31).toBitVec % 32).toNat = s) (hP : P = nI (2 ^ s)) (ha : a < 2147483648) (hs : 2 ^ s < 2147483648) : (if nI a < P then nI a else jiush (nI a) S) = nI (if a < 2 ^ s then a else a / 2 ^ s) := by
  subst hP
  by_cases h : a < 2 ^ s
  · rw [if_pos ((nI_ltI ha hs).mpr h), if_pos h]
  · rw [if_neg (fun q => h ((nI_ltI ha hs).mp q)), if_neg h]
    exact pk_ushrN (by omega) S s hS
theorem nl_c {a c s : Nat} {P m : Int32} (hP : P = nI (2 ^ s)) (ha : a < 2147483648) (hs : 2 ^ s < 2147483648) (hc : s ≤ c) (hm : nI s + m = 0) : (if nI a < P then nI c else nI c + m) = nI (if a < 2 ^ s then c else c - s) := by
  subst hP
  by_cases h : a < 2 ^ s
  · rw [if_pos ((nI_ltI ha hs).mpr h), if_pos h]
  · rw [if_neg (fun q => h ((nI_ltI ha hs).mp q)), if_neg h]
    obtain ⟨d, rfl⟩ : ∃ d, c = d + s := ⟨c - s, by omega⟩
    have : d + s - s = d := by omega
    rw [this, ← nI_add, Int32.add_assoc, hm, Int32.add_zero]
theorem nlz_ok {a : Nat} (h0 : 0 < a) (ha : a < 2147483648) : pI_numberOfLeadingZeros (nI a) = nI (32 - blen a) := by
  have hpos : (0 : Int32) < nI a := (nI_ltI (a := 0) (b := a) (by decide) ha).mpr h0
  have e0 : pI_numberOfLeadingZeros (nI a) = v_I_numberOfLeadingZeros_16 (nI a) - jiush (v_I_numberOfLeadingZeros_15 (nI a)) (1 : Int32) := if_pos hpos
  rw [e0]
  have s1 : v_I_numberOfLeadingZeros_3 (nI a) = _ := nl_a (a := a) (s := 16) (S := 16) (P := 65536) (by decide) (by decide) ha (by decide)
  have c1 : v_I_numberOfLeadingZeros_4 (nI a) = _ := nl_c (a := a) (c := 31) (s := 16) (P := 65536) (m := -16) (by decide) ha (by decide) (by decide) (by decide)
  have f1 : ∃ a1 n1, v_I_numberOfLeadingZeros_3 (nI a) = nI a1 ∧ v_I_numberOfLeadingZeros_4 (nI a) = nI n1 ∧ 0 < a1 ∧ a1 < 65536 ∧ n1 + blen a = 31 + blen a1 ∧ 15 ≤ n1 := by
    refine ⟨_, _, s1, c1, ?_⟩
    by_cases q : a < 2 ^ 16
    · rw [if_pos q, if_pos q]; omega
    · rw [if_neg q, if_neg q]
      have := blen_div (a := a) (s := 16) (by omega)
      omega
  obtain ⟨a1, n1, x1, y1, p1, q1, r1, t1⟩ := f1
  have f2 : ∃ a2 n2, v_I_numberOfLeadingZeros_7 (nI a) = nI a2 ∧ v_I_numberOfLeadingZeros_8 (nI a) = nI n2 ∧ 0 < a2 ∧ a2 < 256 ∧ n2 + blen a1 = n1 + blen a2 ∧ 7 ≤ n2 := by
    have s2 := nl_a (a := a1) (s := 8) (S := 8) (P := 256) (by decide) (by decide) (by omega) (by decide)
    have c2 := nl_c (a := a1) (c := n1) (s := 8) (P := 256) (m := -8) (by decide) (by omega) (by decide) (by omega) (by decide)
    rw [← x1] at s2 c2
    rw [← y1] at c2
    refine ⟨_, _, s2, c2, ?_⟩
    by_cases q : a1 < 2 ^ 8
    · rw [if_pos q, if_pos q]; omega
    · rw [if_neg q, if_neg q]
      have := blen_div (a := a1) (s := 8) (by omega)
      omega
  obtain ⟨a2, n2, x2, y2, p2, q2, r2, t2⟩ := f2
  have f3 : ∃ a3 n3, v_I_numberOfLeadingZeros_11 (nI a) = nI a3 ∧ v_I_numberOfLeadingZeros_12 (nI a) = nI n3 ∧ 0 < a3 ∧ a3 < 16 ∧ n3 + blen a2 = n2 + blen a3 ∧ 3 ≤ n3 := by
    have s2 := nl_a (a := a2) (s := 4) (S := 4) (P := 16) (by decide) (by decide) (by omega) (by decide)
    have c2 := nl_c (a := a2) (c := n2) (s := 4) (P := 16) (m := -4) (by decide) (by omega) (by decide) (by omega) (by decide)
    rw [← x2] at s2 c2
    rw [← y2] at c2
    refine ⟨_, _, s2, c2, ?_⟩
    by_cases q : a2 < 2 ^ 4
    · rw [if_pos q, if_pos q]; omega
    · rw [if_neg q, if_neg q]
      have := blen_div (a := a2) (s := 4) (by omega)
      omega
  obtain ⟨a3, n3, x3, y3, p3, q3, r3, t3⟩ := f3
  have f4 : ∃ a4 n4, v_I_numberOfLeadingZeros_15 (nI a) = nI a4 ∧ v_I_numberOfLeadingZeros_16 (nI a) = nI n4 ∧ 0 < a4 ∧ a4 < 4 ∧ n4 + blen a3 = n3 + blen a4 ∧ 1 ≤ n4 := by
    have s2 := nl_a (a := a3) (s := 2) (S := 2) (P := 4) (by decide) (by decide) (by omega) (by decide)
    have c2 := nl_c (a := a3) (c := n3) (s := 2) (P := 4) (m := -2) (by decide) (by omega) (by decide) (by omega) (by decide)
    rw [← x3] at s2 c2
    rw [← y3] at c2
    refine ⟨_, _, s2, c2, ?_⟩
    by_cases q : a3 < 2 ^ 2
    · rw [if_pos q, if_pos q]; omega
    · rw [if_neg q, if_neg q]
      have := blen_div (a := a3) (s := 2) (by omega)
      omega
  obtain ⟨a4, n4, x4, y4, p4, q4, r4, t4⟩ := f4
  rw [x4, y4]
  have e5 : jiush (nI a4) (1 : Int32) = nI (a4 / 2 ^ 1) := pk_ushrN (by omega) 1 1 (by decide)
  have b4 : blen a4 = 1 + a4 / 2 := by
    have : ∀ z, z < 4 → 0 < z → blen z = 1 + z / 2 := by decide +kernel
    exact this a4 q4 p4
  rw [e5, pk_sub (by omega)]
  congr 1
  omega

