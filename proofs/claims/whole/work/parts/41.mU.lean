theorem Bg_left (fl : Nat → Int32) (kl : Nat) {fp fq : Nat → Int32} {kp kq P Q : Nat} (hP : Bg fp kp P) (hQ : Bg fq kq Q) (hk : kp + kq < 2147483648) :
    Bg (if pB_isOne fq kq = true then pB_copy_0 fl kl fp kp else pB_product_0 fl kl fp kp fq kq) (if pB_isOne fq kq = true then pB_copy_1 fl kl fp kp else pB_product_1 fl kl fp kp fq kq) (P * Q) := by
  by_cases h : pB_isOne fq kq = true
  · rw [if_pos h, if_pos h, (Bg_isOne hQ (by omega)).mp h, Nat.mul_one]
    exact Bg_copy fl kl hP
  · rw [if_neg h, if_neg h]
    exact Bg_product fl kl hP hQ hk
theorem Bg.mul_len {f : Nat → Int32} {k kp kq P Q : Nat} {fp fq : Nat → Int32} (h : Bg f k (P * Q)) (hP : Bg fp kp P) (hQ : Bg fq kq Q) : k ≤ kp + kq := by
  apply h.len
  rw [Nat.pow_add]
  have a := hP.high
  have b := hQ.high
  exact Nat.lt_of_le_of_lt (Nat.mul_le_mul_left _ (Nat.le_of_lt b)) (Nat.mul_lt_mul_of_pos_right a (Nat.pow_pos (by decide)))
theorem Bg.blen_le {f : Nat → Int32} {k v : Nat} (h : Bg f k v) : blen v ≤ 16 * k := by
  apply blen_lt
  rw [← p65536]
  exact h.high
theorem sz1 {A B s : Nat} {e2 e3 : Int32} (h : nI A + e2 = nI B + e3) (hs : e2 - e3 = nI s) (hA : A ≤ 10000) (hB : B ≤ 10000) (hs2 : s < 2147483648) : A + s = B := by
  have e : e2 = nI s + e3 := by rw [← hs, Int32.sub_add_cancel]
  rw [e, ← Int32.add_assoc] at h
  have h2 : nI A + nI s = nI B := by
    first
      | exact (Int32.add_left_inj e3).mp h
      | exact (Int32.add_right_inj e3).mp h
      | (have q := congrArg (fun z => z - e3) h; simpa [Int32.add_sub_cancel] using q)
  rw [nI_add] at h2
  have h3 := congrArg (fun z : Int32 => z.toBitVec.toNat) h2
  have h4 : (nI (A + s)).toBitVec.toNat = A + s := pk_tn (by omega)
  have h5 : (nI B).toBitVec.toNat = B := pk_tn (by omega)
  have h6 : (nI (A + s)).toBitVec.toNat = (nI B).toBitVec.toNat := h3
  omega
theorem shift_le {f : Nat → Int32} {k s c v : Nat} {p : Prop} [Decidable p] (h : Bg f k v) (hk : k + c / 16 + 1 ≤ 640) (hs : ¬ p → s ≤ c) : (if p then k else pB_shift_1 f k s) ≤ 640 := by
  by_cases q : p
  · rw [if_pos q]; omega
  · rw [if_neg q]
    have := (Bg_shift h s (by omega)).2
    have := Nat.div_le_div_right (c := 16) (hs q)
    omega
theorem shift_le2 {f : Nat → Int32} {k s c v : Nat} {p : Prop} [Decidable p] (h : Bg f k v) (hk : k + c / 16 + 1 ≤ 640) (hs : p → s ≤ c) : (if p then pB_shift_1 f k s else k) ≤ 640 := by
  by_cases q : p
  · rw [if_pos q]
    have := (Bg_shift h s (by omega)).2
    have := Nat.div_le_div_right (c := 16) (hs q)
    omega
  · rw [if_neg q]; omega

