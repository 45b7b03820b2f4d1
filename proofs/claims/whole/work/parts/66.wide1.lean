/-! WIDE NUMBERS: two words say N -/
def hw (N : Nat) : Int64 := lN (N / 2 ^ 64)
def lw (N : Nat) : Int64 := lN (N % 2 ^ 64)
theorem and32 {n : Nat} (h : n < 2 ^ 64) : lN n &&& (4294967295 : Int64) = lN (n % 2 ^ 32) := l_and (k := 32) h (by decide)
theorem ush32 {n : Nat} (h : n < 2 ^ 64) : jlush (lN n) (32 : Int32) = lN (n / 2 ^ 32) := l_ush (k := 32) h (by decide)
theorem sp_nat {a b a1 a0 b1 b0 : Nat} (ha : a = a1 * 2 ^ 32 + a0) (hb : b = b1 * 2 ^ 32 + b0) (h0 : a0 < 2 ^ 32) (h1 : b0 < 2 ^ 32) (h2 : a1 < 2 ^ 21) (h3 : b1 < 2 ^ 21) :
    a0 * b0 < 2 ^ 64 ∧ a1 * b0 < 2 ^ 53 ∧ a0 * b1 < 2 ^ 53 ∧ a1 * b1 < 2 ^ 42 ∧ a * b = a1 * b1 * 2 ^ 64 + (a1 * b0 + a0 * b1) * 2 ^ 32 + a0 * b0 := by
  refine ⟨?_, ?_, ?_, ?_, ?_⟩
  · exact Nat.lt_of_lt_of_le (Nat.mul_lt_mul'' h0 h1) (by decide)
  · exact Nat.lt_of_lt_of_le (Nat.mul_lt_mul'' h2 h1) (by decide)
  · exact Nat.lt_of_lt_of_le (Nat.mul_lt_mul'' h0 h3) (by decide)
  · exact Nat.lt_of_lt_of_le (Nat.mul_lt_mul'' h2 h3) (by decide)
  · rw [ha, hb, Nat.mul_add, Nat.add_mul, Nat.add_mul]
    have e1 : a1 * 2 ^ 32 * (b1 * 2 ^ 32) = a1 * b1 * 2 ^ 64 := Nat.mul_mul_mul_comm _ _ _ _
    have e2 : a0 * (b1 * 2 ^ 32) = a0 * b1 * 2 ^ 32 := (Nat.mul_assoc _ _ _).symm
    have e3 : a1 * 2 ^ 32 * b0 = a1 * b0 * 2 ^ 32 := Nat.mul_right_comm _ _ _
    rw [e1, e2, e3, Nat.add_mul]
    omega
section SP
variable (hi lo : Int64) (ep : Int32) (ng gn : Bool) (x y : Int64)
theorem sp_ok : pW_setProduct_0 hi lo ep ng gn x y = hw (sgf x * sgf y) ∧ pW_setProduct_1 hi lo ep ng gn x y = lw (sgf x * sgf y) := by
  have ha := sgf_lt x
  have hb := sgf_lt y
  have e1 : v_W_setProduct_1 hi lo ep ng gn x y = lN (sgf x) := sig_ok x
  have e2 : v_W_setProduct_2 hi lo ep ng gn x y = lN (sgf y) := sig_ok y
  generalize sgf x = a at *
  generalize sgf y = b at *
  obtain ⟨g1, g2, g3, g4, g5⟩ := sp_nat (a := a) (b := b) (a1 := a / 2 ^ 32) (a0 := a % 2 ^ 32) (b1 := b / 2 ^ 32) (b0 := b % 2 ^ 32) (by omega) (by omega) (by omega) (by omega) (by omega) (by omega)
  have e3 : v_W_setProduct_3 hi lo ep ng gn x y = lN (a % 2 ^ 32 * (b % 2 ^ 32)) := by
    show (v_W_setProduct_1 hi lo ep ng gn x y &&& (4294967295 : Int64)) * (v_W_setProduct_2 hi lo ep ng gn x y &&& (4294967295 : Int64)) = _
    rw [e1, e2, and32 (by omega), and32 (by omega), lN_mul]
  have e4 : v_W_setProduct_4 hi lo ep ng gn x y = lN (a / 2 ^ 32 * (b % 2 ^ 32) + a % 2 ^ 32 * (b % 2 ^ 32) / 2 ^ 32) := by
    show (jlush (v_W_setProduct_1 hi lo ep ng gn x y) (32 : Int32) * (v_W_setProduct_2 hi lo ep ng gn x y &&& (4294967295 : Int64))) + jlush (v_W_setProduct_3 hi lo ep ng gn x y) (32 : Int32) = _
    rw [e1, e2, e3, and32 (by omega), ush32 (by omega), ush32 g1, lN_mul, lN_add]
  have e5 : v_W_setProduct_5 hi lo ep ng gn x y = lN (a % 2 ^ 32 * (b / 2 ^ 32) + (a / 2 ^ 32 * (b % 2 ^ 32) + a % 2 ^ 32 * (b % 2 ^ 32) / 2 ^ 32) % 2 ^ 32) := by
    show ((v_W_setProduct_1 hi lo ep ng gn x y &&& (4294967295 : Int64)) * jlush (v_W_setProduct_2 hi lo ep ng gn x y) (32 : Int32)) + (v_W_setProduct_4 hi lo ep ng gn x y &&& (4294967295 : Int64)) = _
    rw [e1, e2, e4, and32 (by omega), ush32 (by omega), and32 (by omega), lN_mul, lN_add]
  have e6 : v_W_setProduct_6 hi lo ep ng gn x y = lN (a / 2 ^ 32 * (b / 2 ^ 32) + (a / 2 ^ 32 * (b % 2 ^ 32) + a % 2 ^ 32 * (b % 2 ^ 32) / 2 ^ 32) / 2 ^ 32 + (a % 2 ^ 32 * (b / 2 ^ 32) + (a / 2 ^ 32 * (b % 2 ^ 32) + a % 2 ^ 32 * (b % 2 ^ 32) / 2 ^ 32) % 2 ^ 32) / 2 ^ 32) := by
    show ((jlush (v_W_setProduct_1 hi lo ep ng gn x y) (32 : Int32) * jlush (v_W_setProduct_2 hi lo ep ng gn x y) (32 : Int32)) + jlush (v_W_setProduct_4 hi lo ep ng gn x y) (32 : Int32)) + jlush (v_W_setProduct_5 hi lo ep ng gn x y) (32 : Int32) = _
    rw [e1, e2, e4, e5, ush32 (by omega), ush32 (by omega), ush32 (by omega), ush32 (by omega), lN_mul, lN_add, lN_add]
  have e7 : v_W_setProduct_7 hi lo ep ng gn x y = lN ((a % 2 ^ 32 * (b / 2 ^ 32) + (a / 2 ^ 32 * (b % 2 ^ 32) + a % 2 ^ 32 * (b % 2 ^ 32) / 2 ^ 32) % 2 ^ 32) % 2 ^ 32 * 2 ^ 32 + a % 2 ^ 32 * (b % 2 ^ 32) % 2 ^ 32) := by
    show jlshl (v_W_setProduct_5 hi lo ep ng gn x y) (32 : Int32) ||| (v_W_setProduct_3 hi lo ep ng gn x y &&& (4294967295 : Int64)) = _
    rw [e3, e5, and32 g1]
    generalize a % 2 ^ 32 * (b / 2 ^ 32) + (a / 2 ^ 32 * (b % 2 ^ 32) + a % 2 ^ 32 * (b % 2 ^ 32) / 2 ^ 32) % 2 ^ 32 = V at *
    have es : jlshl (lN V) (32 : Int32) = lN (V % 2 ^ 32 * 2 ^ 32) := by
      apply l_eq
      have : (jlshl (lN V) (32 : Int32)).toBitVec.toNat = (lN V).toBitVec.toNat * 2 ^ 32 % 2 ^ 64 := jl_shl _ (k := 32) (by decide)
      have et : (lN V).toBitVec.toNat = V % 2 ^ 64 := BitVec.toNat_ofNat _ _
      rw [this, et]
      omega
    rw [es]
    exact l_or (by omega) (by omega)
  refine ⟨e6.trans ?_, e7.trans ?_⟩
  · unfold hw
    congr 1
    rw [g5]
    generalize a / 2 ^ 32 * (b / 2 ^ 32) = A at *
    generalize a / 2 ^ 32 * (b % 2 ^ 32) = B at *
    generalize a % 2 ^ 32 * (b / 2 ^ 32) = C at *
    generalize a % 2 ^ 32 * (b % 2 ^ 32) = D at *
    omega
  · unfold lw
    congr 1
    rw [g5]
    generalize a / 2 ^ 32 * (b / 2 ^ 32) = A at *
    generalize a / 2 ^ 32 * (b % 2 ^ 32) = B at *
    generalize a % 2 ^ 32 * (b / 2 ^ 32) = C at *
    generalize a % 2 ^ 32 * (b % 2 ^ 32) = D at *
    omega
end SP
theorem hw0 {N : Nat} (h : N < 2 ^ 128) : hw N = (0 : Int64) ↔ N < 2 ^ 64 := by
  have := lN_inj (a := N / 2 ^ 64) (b := 0) (by omega) (by decide)
  exact this.trans (by omega)
theorem lw0 {N : Nat} : lw N = (0 : Int64) ↔ N % 2 ^ 64 = 0 := lN_inj (a := N % 2 ^ 64) (b := 0) (by omega) (by decide)
theorem nth_ok {N : Nat} (h : N < 2 ^ 128) (ep : Int32) (ng gn : Bool) : pW_isNothing (hw N) (lw N) ep ng gn = decide (N = 0) := by
  show (if hw N = (0 : Int64) then (if lw N = (0 : Int64) then true else false) else false) = _
  by_cases h1 : N < 2 ^ 64
  · rw [if_pos ((hw0 h).mpr h1)]
    by_cases h2 : N % 2 ^ 64 = 0
    · rw [if_pos (lw0.mpr h2)]; symm; apply decide_eq_true; omega
    · rw [if_neg (fun z => h2 (lw0.mp z))]; symm; apply decide_eq_false; omega
  · rw [if_neg (fun z => h1 ((hw0 h).mp z))]; symm; apply decide_eq_false; omega
theorem len64 {n : Nat} (h : n < 2 ^ 64) : pF_lengthOf (lN n) = nI (blen n) := by
  by_cases h1 : n < 2 ^ 63
  · exact len_ok h1
  · have ex : (jlush (lN n) (32 : Int32)).toInt32 = nI (n / 2 ^ 32) := by rw [ush32 h, lN_i]
    have key : pJ_numberOfLeadingZeros (lN n) = 0 := by
      show (if (jlush (lN n) (32 : Int32)).toInt32 = 0 then (32 : Int32) + pI_numberOfLeadingZeros (lN n).toInt32 else pI_numberOfLeadingZeros (jlush (lN n) (32 : Int32)).toInt32) = _
      rw [ex]
      have z : ¬ nI (n / 2 ^ 32) = 0 := by
        intro q
        have e1 := pk_tn (n := n / 2 ^ 32) (by omega)
        rw [q] at e1
        have e2 : (0 : Int32).toBitVec.toNat = 0 := rfl
        rw [e2] at e1
        omega
      rw [if_neg z]
      exact nlz_big (by omega) (by omega)
    show (64 : Int32) - pJ_numberOfLeadingZeros (lN n) = _
    have := blen_eq (n := n) (k := 63) (by omega) (by omega)
    rw [key, this]
    decide
theorem blen_64 {N : Nat} {ep : Int32} {ng gn : Bool} (h : N < 2 ^ 128) : v_W_lift_1 (hw N) (lw N) ep ng gn = nI (blen N) := by
  show (if hw N = (0 : Int64) then pF_lengthOf (lN (N % 2 ^ 64)) else (64 : Int32) + pF_lengthOf (lN (N / 2 ^ 64))) = _
  by_cases h1 : N < 2 ^ 64
  · rw [if_pos ((hw0 h).mpr h1), Nat.mod_eq_of_lt h1, len64 h1]
  · rw [if_neg (fun z => h1 ((hw0 h).mp z)), len64 (by omega)]
    have := blen_div (a := N) (s := 64) (by omega)
    rw [← this]
    show nI 64 + _ = _
    rw [nI_add, Nat.add_comm]
theorem or_comm64 (a b : Int64) : a ||| b = b ||| a := by
  apply Int64.toBitVec_inj.mp
  exact BitVec.or_comm _ _
theorem shl_mod {n k : Nat} (hk : k < 64) : jlshl (lN n) (nI k) = lN (n * 2 ^ k % 2 ^ 64) := by
  apply l_eq
  have et : (lN n).toBitVec.toNat = n % 2 ^ 64 := BitVec.toNat_ofNat _ _
  rw [jl_shl _ hk, et, Nat.mod_mul_mod]
theorem lift_ok {N : Nat} {ep : Int32} {ng gn : Bool} {e : Int} (h : N < 2 ^ 127) (he : ep.toInt = e) (h1 : -100000 ≤ e) (h2 : e ≤ 100000) :
    ∃ s : Nat, s ≤ 126 ∧ pW_lift_0 (hw N) (lw N) ep ng gn = hw (N * 2 ^ s) ∧ pW_lift_1 (hw N) (lw N) ep ng gn = lw (N * 2 ^ s) ∧ (pW_lift_2 (hw N) (lw N) ep ng gn).toInt = e - s ∧ N * 2 ^ s < 2 ^ 127 ∧ (N ≠ 0 → 2 ^ 125 ≤ N * 2 ^ s) ∧ (N < 2 ^ 126 → N * 2 ^ s < 2 ^ 126) ∧ (∀ k, N ≠ 0 → N < 2 ^ k → k ≤ 126 → 126 - k ≤ s) := by
  have e1 : v_W_lift_1 (hw N) (lw N) ep ng gn = nI (blen N) := blen_64 (by omega)
  have hb := blen_lt h
  by_cases h0 : N = 0
  · have z : v_W_lift_1 (hw N) (lw N) ep ng gn = 0 := by rw [e1, h0]; rfl
    refine ⟨0, by decide, ?_, ?_, ?_, by rw [h0]; decide, fun q => absurd h0 q, fun _ => by rw [h0]; decide, fun k q => absurd h0 q⟩
    · rw [Nat.pow_zero, Nat.mul_one]; exact if_pos z
    · rw [Nat.pow_zero, Nat.mul_one]; exact if_pos z
    · have : pW_lift_2 (hw N) (lw N) ep ng gn = ep := if_pos z
      rw [this, he]; omega
  · have hp := blen_pos (show 0 < N by omega)
    have hge := blen_ge (show 0 < N by omega)
    have hlt := lt_blen N
    have z : ¬ v_W_lift_1 (hw N) (lw N) ep ng gn = 0 := by
      rw [e1]; intro q
      have := (nI_eq (a := blen N) (b := 0) (by omega) (by decide)).mp q
      omega
    by_cases h7 : blen N < 126
    · have e2 : v_W_lift_2 (hw N) (lw N) ep ng gn = nI (126 - blen N) := by
        show (126 : Int32) - v_W_lift_1 (hw N) (lw N) ep ng gn = _
        rw [e1]; exact pk_sub (a := 126) (by omega)
      have hpos : 0 < v_W_lift_2 (hw N) (lw N) ep ng gn := by
        rw [e2]; exact (nI_ltI (a := 0) (by decide) (by omega)).mpr (by omega)
      have f0 : pW_lift_0 (hw N) (lw N) ep ng gn = v_W_lift_6 (hw N) (lw N) ep ng gn := (if_neg z).trans (if_pos hpos)
      have f1 : pW_lift_1 (hw N) (lw N) ep ng gn = v_W_lift_7 (hw N) (lw N) ep ng gn := (if_neg z).trans (if_pos hpos)
      have f2 : pW_lift_2 (hw N) (lw N) ep ng gn = ep - v_W_lift_2 (hw N) (lw N) ep ng gn := (if_neg z).trans (if_pos hpos)
      have g1 : 2 ^ 125 ≤ N * 2 ^ (126 - blen N) := by
        have := Nat.mul_le_mul_right (2 ^ (126 - blen N)) hge
        rw [← Nat.pow_add] at this
        have e3 : blen N - 1 + (126 - blen N) = 125 := by omega
        rw [e3] at this
        exact this
      have g2 : N * 2 ^ (126 - blen N) < 2 ^ 126 := by
        have := Nat.mul_lt_mul_of_pos_right hlt (show 0 < 2 ^ (126 - blen N) from Nat.pow_pos (by decide))
        rw [← Nat.pow_add] at this
        have e3 : blen N + (126 - blen N) = 126 := by omega
        rw [e3] at this
        exact this
      have hk : ∀ k, N ≠ 0 → N < 2 ^ k → k ≤ 126 → 126 - k ≤ 126 - blen N := fun k _ q _ => by have := blen_lt q; omega
      rw [f0, f1, f2]
      have f3 : (ep - v_W_lift_2 (hw N) (lw N) ep ng gn).toInt = e - (126 - blen N : Nat) := by
        rw [e2]; exact iS he (nI_toInt (by omega)) (by omega) (by omega)
      refine ⟨126 - blen N, by omega, ?_, ?_, f3, by omega, fun _ => g1, fun _ => g2, hk⟩
      all_goals
        generalize hs : 126 - blen N = s at *
        have c : nI s < (64 : Int32) ↔ s < 64 := nI_ltI (b := 64) (by omega) (by decide)
        have hd := Nat.div_add_mod N (2 ^ 64)
      · show (if v_W_lift_2 (hw N) (lw N) ep ng gn < (64 : Int32) then jlshl (hw N) (v_W_lift_2 (hw N) (lw N) ep ng gn) ||| jlush (lw N) ((64 : Int32) - v_W_lift_2 (hw N) (lw N) ep ng gn) else jlshl (lw N) (v_W_lift_2 (hw N) (lw N) ep ng gn - (64 : Int32))) = _
        rw [e2]
        by_cases q : s < 64
        · rw [if_pos (c.mpr q)]
          have e4 : (64 : Int32) - nI s = nI (64 - s) := pk_sub (a := 64) (by omega)
          have p64 : 2 ^ 64 = 2 ^ (64 - s) * 2 ^ s := by rw [← Nat.pow_add]; congr 1; omega
          have hm : N % 2 ^ 64 < 2 ^ 64 := Nat.mod_lt _ (by decide)
          have e5 : N * 2 ^ s / 2 ^ 64 = N / 2 ^ 64 * 2 ^ s + N % 2 ^ 64 / 2 ^ (64 - s) := by
            have : N * 2 ^ s = N % 2 ^ 64 * 2 ^ s + 2 ^ 64 * (N / 2 ^ 64 * 2 ^ s) := by
              rw [← Nat.mul_assoc, ← Nat.add_mul]
              congr 1
              omega
            rw [this, Nat.add_mul_div_left _ _ (by decide), Nat.add_comm]
            congr 1
            rw [p64, Nat.mul_div_mul_right _ _ (Nat.pow_pos (by decide))]
          have hdl : N % 2 ^ 64 / 2 ^ (64 - s) < 2 ^ s := by
            rw [Nat.div_lt_iff_lt_mul (Nat.pow_pos (by decide)), Nat.mul_comm, ← p64]; exact hm
          have hsum : N / 2 ^ 64 * 2 ^ s + N % 2 ^ 64 / 2 ^ (64 - s) < 2 ^ 62 := by rw [← e5]; omega
          unfold hw lw
          have hq : N / 2 ^ 64 * 2 ^ s < 2 ^ 62 := Nat.lt_of_le_of_lt (Nat.le_add_right _ _) hsum
          rw [e4, l_shl (by omega) (by omega), l_ush (by omega) (by omega), l_or hdl (by omega), e5]
        · rw [if_neg (fun w => q (c.mp w))]
          have e4 : nI s - (64 : Int32) = nI (s - 64) := pk_sub (b := 64) (by omega)
          have p64 : 2 ^ s = 2 ^ (s - 64) * 2 ^ 64 := by rw [← Nat.pow_add]; congr 1; omega
          have hN : N < 2 ^ 64 := Nat.lt_of_lt_of_le hlt (Nat.pow_le_pow_right (by decide) (by omega))
          have g2' : N * 2 ^ (s - 64) < 2 ^ 62 := by
            rw [p64, ← Nat.mul_assoc] at g2
            omega
          unfold hw lw
          rw [e4, Nat.mod_eq_of_lt hN, l_shl (by omega) (by omega), p64, ← Nat.mul_assoc, Nat.mul_div_cancel _ (by decide)]
      · show (if v_W_lift_2 (hw N) (lw N) ep ng gn < (64 : Int32) then jlshl (lw N) (v_W_lift_2 (hw N) (lw N) ep ng gn) else lN 0) = _
        rw [e2]
        by_cases q : s < 64
        · rw [if_pos (c.mpr q)]
          unfold lw
          rw [shl_mod q, Nat.mod_mul_mod]
        · rw [if_neg (fun w => q (c.mp w))]
          have p64 : 2 ^ s = 2 ^ (s - 64) * 2 ^ 64 := by rw [← Nat.pow_add]; congr 1; omega
          unfold lw
          rw [p64, ← Nat.mul_assoc, Nat.mul_mod_left]
    · have hneg : ¬ 0 < v_W_lift_2 (hw N) (lw N) ep ng gn := by
        show ¬ 0 < (126 : Int32) - v_W_lift_1 (hw N) (lw N) ep ng gn
        have t : ((126 : Int32) - v_W_lift_1 (hw N) (lw N) ep ng gn).toInt = 126 - blen N := by
          rw [e1]; exact iS (show (126 : Int32).toInt = 126 from rfl) (nI_toInt (by omega)) (by omega) (by omega)
        rw [i_lt (show (0 : Int32).toInt = 0 from rfl) t]
        omega
      have g1 : 2 ^ 125 ≤ N := Nat.le_trans (Nat.pow_le_pow_right (by decide) (by omega)) hge
      refine ⟨0, by decide, ?_, ?_, ?_, by omega, fun _ => by omega, fun q => by omega, fun k _ q _ => by have := blen_lt q; omega⟩
      · rw [Nat.pow_zero, Nat.mul_one]; exact (if_neg z).trans (if_neg hneg)
      · rw [Nat.pow_zero, Nat.mul_one]; exact (if_neg z).trans (if_neg hneg)
      · have : pW_lift_2 (hw N) (lw N) ep ng gn = ep := (if_neg z).trans (if_neg hneg)
        rw [this, he]; omega

