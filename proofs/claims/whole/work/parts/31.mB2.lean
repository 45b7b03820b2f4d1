theorem trim_ok (f : Nat → Int32) : ∀ k : Nat, qB_trim_0 f k ≤ k ∧ (∀ j, qB_trim_0 f k = j + 1 → f j ≠ 0) ∧ bv f (qB_trim_0 f k) = bv f k := by
  intro k
  induction k with
  | zero => exact ⟨Nat.le_refl _, fun j hj => absurd hj (by show ¬ 0 = j + 1; omega), rfl⟩
  | succ n ih =>
    by_cases h : f n = 0
    · have e : qB_trim_0 f (n + 1) = qB_trim_0 f n := if_pos h
      rw [e]
      refine ⟨by omega, ih.2.1, ih.2.2.trans ?_⟩
      show bv f n = bv f n + dn (f n) * _
      rw [h, dn_0]; omega
    · have e : qB_trim_0 f (n + 1) = n + 1 := if_neg h
      rw [e]
      refine ⟨Nat.le_refl _, fun j hj => ?_, rfl⟩
      have : j = n := by omega
      rw [this]; exact h
theorem Bg_trim {f : Nat → Int32} {k : Nat} (h : ∀ i, i < k → dg (f i)) : Bg f (pB_trim_0 f k) (bv f k) := by
  obtain ⟨a, b, c⟩ := trim_ok f k
  exact ⟨fun i hi => h i (Nat.lt_of_lt_of_le hi a), b, c⟩
theorem Bg_isOne {f : Nat → Int32} {k v : Nat} (h : Bg f k v) (hk : k < 2147483648) : pB_isOne f k = true ↔ v = 1 := by
  show (if nI k = (1 : Int32) then (if f 0 = (1 : Int32) then true else false) else false) = true ↔ v = 1
  have e1 : nI k = (1 : Int32) ↔ k = 1 := nI_eq (a := k) (b := 1) hk (by decide)
  by_cases q : k = 1
  · rw [if_pos (e1.mpr q)]
    subst q
    have e2 : v = dn (f 0) := by rw [← h.2.2]; show 0 + dn (f 0) * 1 = _; omega
    constructor
    · intro a
      split at a
      · rename_i b; rw [e2, b]; rfl
      · exact absurd a (by decide)
    · intro a
      have : f 0 = 1 := dn_inj (by rw [← e2, a]; rfl)
      rw [if_pos this]
  · rw [if_neg (fun z => q (e1.mp z))]
    constructor
    · intro a; exact absurd a (by decide)
    · intro a
      exfalso
      have h1 := h.len (m := 1) (by rw [a]; decide)
      have h2 := h.zero
      omega
/-- the length in bits -/
def blen (n : Nat) : Nat := if n = 0 then 0 else Nat.log2 n + 1
theorem blen_lt {n k : Nat} (h : n < 2 ^ k) : blen n ≤ k := by
  unfold blen
  split
  · omega
  · rename_i q
    have := (Nat.log2_lt q).mpr h
    omega
theorem lt_blen (n : Nat) : n < 2 ^ blen n := by
  unfold blen
  split
  · rename_i q; subst q; decide
  · exact Nat.lt_log2_self
theorem blen_eq {n k : Nat} (h1 : 2 ^ k ≤ n) (h2 : n < 2 ^ (k + 1)) : blen n = k + 1 := by
  have h0 : n ≠ 0 := by
    have : 0 < 2 ^ k := Nat.pow_pos (by decide)
    omega
  unfold blen
  rw [if_neg h0]
  have a := (Nat.log2_lt h0).mpr h2
  have b := (Nat.le_log2 h0).mpr h1
  omega
theorem i32_shr {x : Int32} (h : dg x) {j : Nat} (hj : j < 32) : (x >>> (nI j &&& 31) = 0) ↔ dn x < 2 ^ j := by
  have hs : ∀ j, j < 32 → (((nI j &&& 31).toBitVec.smod 32).toNat) = j := by decide +kernel
  have e := pk_shr x (nI j &&& 31) j (hs j hj)
  rw [Int.shiftRight_eq_div_pow] at e
  have hi : x.toInt = (dn x : Int) := by
    unfold dg at h
    show x.toBitVec.toInt = _
    rw [BitVec.toInt_eq_toNat_cond, if_pos (by omega)]
    rfl
  rw [hi] at e
  have e2 : ((dn x : Int) / ((2 ^ j : Nat) : Int)) = ((dn x / 2 ^ j : Nat) : Int) := rfl
  rw [e2] at e
  constructor
  · intro q
    rw [q] at e
    have e3 : dn x / 2 ^ j = 0 := by
      have e4 : (0 : Int32).toInt = 0 := rfl
      rw [e4] at e
      omega
    rcases (Nat.div_eq_zero_iff).mp e3 with a | a
    · exact absurd a (Nat.ne_of_gt (Nat.pow_pos (by decide)))
    · exact a
  · intro q
    apply i32_0
    rw [e, Nat.div_eq_of_lt q]
    rfl
theorem bits_ok {f : Nat → Int32} {k : Nat} (hk : ¬ nI k ≤ 0) (hd : dg (f (k - 1))) : ∀ (n j : Nat), j + n = 16 → (∀ i, i < j → ¬ dn (f (k - 1)) < 2 ^ i) → dn (f (k - 1)) < 2 ^ (qB_bits_2 k f n j) ∧ (∀ i, i < qB_bits_2 k f n j → ¬ dn (f (k - 1)) < 2 ^ i) ∧ qB_bits_2 k f n j ≤ 16 := by
  intro n
  induction n with
  | zero =>
    intro j hj hi
    have e : qB_bits_2 k f 0 j = j := if_neg hk
    rw [e]
    have : j = 16 := hj
    subst this
    exact ⟨hd, hi, Nat.le_refl _⟩
  | succ n ih =>
    intro j hj hi
    by_cases h : f (k - 1) >>> (nI j &&& 31) = 0
    · have e : qB_bits_2 k f (n + 1) j = j := (if_neg hk).trans (if_pos h)
      rw [e]
      exact ⟨(i32_shr hd (by omega)).mp h, hi, by omega⟩
    · have e : qB_bits_2 k f (n + 1) j = qB_bits_2 k f n (j + 1) := (if_neg hk).trans (if_neg h)
      rw [e]
      refine ih (j + 1) (by omega) (fun i q => ?_)
      by_cases ei : i = j
      · subst ei; exact fun z => h ((i32_shr hd (by omega)).mpr z)
      · exact hi i (by omega)
theorem p65536 (n : Nat) : 65536 ^ n = 2 ^ (16 * n) := by
  rw [Nat.pow_mul]
theorem Bg_bits {f : Nat → Int32} {k v : Nat} (h : Bg f k v) (hk : k < 2147483648) : v_B_bits_2 f k = blen v := by
  show (if nI k = 0 then 0 else 16 * (k - 1) + qB_bits_2 k f 16 0) = blen v
  have e0 : nI k = 0 ↔ k = 0 := nI_eq (a := k) (b := 0) hk (by decide)
  by_cases q : k = 0
  · rw [if_pos (e0.mpr q)]
    have := h.zero.mp q
    rw [this]; rfl
  · rw [if_neg (fun z => q (e0.mp z))]
    have hk2 : ¬ nI k ≤ 0 := fun z => q (by have := (nI_leI (a := k) (b := 0) hk (by decide)).mp z; omega)
    have hd := h.1 (k - 1) (by omega)
    obtain ⟨a, b, c⟩ := bits_ok hk2 hd 16 0 rfl (fun i z => absurd z (by omega))
    obtain ⟨j, rfl⟩ : ∃ j, k = j + 1 := ⟨k - 1, by omega⟩
    have ej : j + 1 - 1 = j := by omega
    rw [ej] at a b hd ⊢
    generalize qB_bits_2 (j + 1) f 16 0 = t at a b c ⊢
    have h1 := dn_pos (h.2.1 j rfl)
    have ht : 1 ≤ t := by
      rcases Nat.eq_zero_or_pos t with z | z
      · subst z
        have : dn (f j) < 1 := a
        omega
      · exact z
    obtain ⟨u, rfl⟩ : ∃ u, t = u + 1 := ⟨t - 1, by omega⟩
    have hu : 2 ^ u ≤ dn (f j) := Nat.le_of_not_lt (b u (by omega))
    have hv : v = bv f j + dn (f j) * 65536 ^ j := h.2.2.symm
    have hlt := bv_lt (n := j) (fun i hi => h.1 i (by omega))
    have e1 : 16 * j + (u + 1) = (16 * j + u) + 1 := by omega
    rw [e1]
    refine (blen_eq ?_ ?_).symm
    · rw [Nat.pow_add, ← p65536, Nat.mul_comm]
      have := Nat.mul_le_mul_right (65536 ^ j) hu
      omega
    · have e2 : 16 * j + u + 1 = 16 * j + (u + 1) := by omega
      rw [e2, Nat.pow_add, ← p65536, Nat.mul_comm]
      have h5 : dn (f j) + 1 ≤ 2 ^ (u + 1) := a
      have := Nat.mul_le_mul_right (65536 ^ j) h5
      rw [Nat.add_mul] at this
      omega
theorem cmp_ok {f g : Nat → Int32} : ∀ {n : Nat}, (∀ i, i < n → dg (f i)) → (∀ i, i < n → dg (g i)) → qB_compare_35 f g n = if bv f n = bv g n then 0 else if bv g n < bv f n then 1 else -1
  | 0, _, _ => rfl
  | n + 1, hf, hg => by
    have a := bv_lt (n := n) (fun i hi => hf i (by omega))
    have b := bv_lt (n := n) (fun i hi => hg i (by omega))
    have ef : bv f (n + 1) = bv f n + dn (f n) * 65536 ^ n := rfl
    have eg : bv g (n + 1) = bv g n + dn (g n) * 65536 ^ n := rfl
    by_cases h : f n = g n
    · have e : qB_compare_35 f g (n + 1) = qB_compare_35 f g n := if_pos h
      rw [e, cmp_ok (fun i hi => hf i (by omega)) (fun i hi => hg i (by omega)), ef, eg, h]
      simp only [Nat.add_right_cancel_iff, Nat.add_lt_add_iff_right]
    · have e : qB_compare_35 f g (n + 1) = if g n ≤ f n then (1 : Int32) else (-1 : Int32) := if_neg h
      rw [e, ef, eg]
      have h1 := dg_int (hf n (by omega))
      have h2 := dg_int (hg n (by omega))
      have i1 : (f n).toInt = (dn (f n) : Int) := by
        have := hf n (by omega)
        unfold dg at this
        show (f n).toBitVec.toInt = _
        rw [BitVec.toInt_eq_toNat_cond, if_pos (by omega)]; rfl
      have i2 : (g n).toInt = (dn (g n) : Int) := by
        have := hg n (by omega)
        unfold dg at this
        show (g n).toBitVec.toInt = _
        rw [BitVec.toInt_eq_toNat_cond, if_pos (by omega)]; rfl
      have hne : dn (f n) ≠ dn (g n) := fun z => h (dn_inj z)
      by_cases r : g n ≤ f n
      · rw [if_pos r]
        rw [Int32.le_iff_toInt_le, i1, i2] at r
        have : dn (g n) + 1 ≤ dn (f n) := by omega
        have := Nat.mul_le_mul_right (65536 ^ n) this
        rw [Nat.add_mul] at this
        rw [if_neg (by omega), if_pos (by omega)]
      · rw [if_neg r]
        rw [Int32.le_iff_toInt_le, i1, i2] at r
        have : dn (f n) + 1 ≤ dn (g n) := by omega
        have := Nat.mul_le_mul_right (65536 ^ n) this
        rw [Nat.add_mul] at this
        rw [if_neg (by omega), if_neg (by omega)]
theorem Bg_compare {f g : Nat → Int32} {k k2 v v2 : Nat} (h : Bg f k v) (h2 : Bg g k2 v2) (hk : k < 2147483648) (hk2 : k2 < 2147483648) : pB_compare f k g k2 = if v = v2 then 0 else if v2 < v then 1 else -1 := by
  show (if nI k = nI k2 then qB_compare_35 f g k else (if nI k2 ≤ nI k then (1 : Int32) else (-1 : Int32))) = _
  by_cases e : k = k2
  · subst e
    rw [if_pos rfl, cmp_ok h.1 h2.1, h.2.2, h2.2.2]
  · rw [if_neg (fun z => e ((nI_eq hk hk2).mp z))]
    by_cases r : k2 ≤ k
    · rw [if_pos ((nI_leI hk2 hk).mpr r)]
      obtain ⟨j, rfl⟩ : ∃ j, k = j + 1 := ⟨k - 1, by omega⟩
      have a := h.low
      have b := h2.high
      have c : 65536 ^ k2 ≤ 65536 ^ j := Nat.pow_le_pow_right (by decide) (by omega)
      rw [if_neg (by omega), if_pos (by omega)]
    · rw [if_neg (fun z => r ((nI_leI hk2 hk).mp z))]
      obtain ⟨j, rfl⟩ : ∃ j, k2 = j + 1 := ⟨k2 - 1, by omega⟩
      have a := h2.low
      have b := h.high
      have c : 65536 ^ k ≤ 65536 ^ j := Nat.pow_le_pow_right (by decide) (by omega)
      rw [if_neg (by omega), if_neg (by omega)]

