/-! ROOTS OF THE REFERENCE -/
theorem cmZ_sc {a b w : Nat} (hw : 0 < w) : cmZ (a : Int) (b : Int) = cmZ ((a * w : Nat) : Int) ((b * w : Nat) : Int) := by
  rcases Nat.lt_trichotomy a b with q | q | q
  · have := Nat.mul_lt_mul_of_pos_right q hw
    rw [cmZ_lt1 (show (a : Int) < (b : Int) by omega), cmZ_lt1 (show ((a * w : Nat) : Int) < ((b * w : Nat) : Int) by omega)]
  · rw [q, cmZ_eq1 rfl, cmZ_eq1 rfl]
  · have := Nat.mul_lt_mul_of_pos_right q hw
    rw [cmZ_gt1 (show (b : Int) < (a : Int) by omega), cmZ_gt1 (show ((b * w : Nat) : Int) < ((a * w : Nat) : Int) by omega)]
section SQO
variable (fl : Nat → Int32) (kl : Nat) (fr : Nat → Int32) (kr : Nat) (ng2 : Bool) (fp2 : Nat → Int32) (kp2 : Nat) (fq2 : Nat → Int32) (kq2 : Nat) (ee2 : Int32) (ng4 : Bool) (fp4 : Nat → Int32) (kp4 : Nat) (fq4 : Nat → Int32) (kq4 : Nat) (ee4 : Int32)
theorem sq_fl {fp3 : Nat → Int32} {kp3 : Nat} {fq3 : Nat → Int32} {kq3 : Nat} {ee3 : Int32} {P : Nat} {e : Int} (h3 : NU fp3 kp3 fq3 kq3 ee3 P 1 e) (hk1 : kq3 ≤ 900) (hk2 : kp3 ≤ 900) (r3 : -90000 ≤ e) (r4 : e ≤ 90000) {k : Int64} {z : Nat} (hk : k = lN z) (hz : z < 2 ^ 63) :
    pM_orderOf fl kl fr kr (pU_times2_0 ng4 fp4 kp4 fq4 kq4 ee4 (pU_setFloat_0 ng2 fp2 kp2 fq2 kq2 ee2 k) (pU_setFloat_1 ng2 fp2 kp2 fq2 kq2 ee2 k) (pU_setFloat_2 ng2 fp2 kp2 fq2 kq2 ee2 k) (pU_setFloat_3 ng2 fp2 kp2 fq2 kq2 ee2 k) (pU_setFloat_4 ng2 fp2 kp2 fq2 kq2 ee2 k) (pU_setFloat_5 ng2 fp2 kp2 fq2 kq2 ee2 k)) (pU_times2_1 ng4 fp4 kp4 fq4 kq4 ee4 (pU_setFloat_0 ng2 fp2 kp2 fq2 kq2 ee2 k) (pU_setFloat_1 ng2 fp2 kp2 fq2 kq2 ee2 k) (pU_setFloat_2 ng2 fp2 kp2 fq2 kq2 ee2 k) (pU_setFloat_3 ng2 fp2 kp2 fq2 kq2 ee2 k) (pU_setFloat_4 ng2 fp2 kp2 fq2 kq2 ee2 k) (pU_setFloat_5 ng2 fp2 kp2 fq2 kq2 ee2 k)) (pU_times2_2 ng4 fp4 kp4 fq4 kq4 ee4 (pU_setFloat_0 ng2 fp2 kp2 fq2 kq2 ee2 k) (pU_setFloat_1 ng2 fp2 kp2 fq2 kq2 ee2 k) (pU_setFloat_2 ng2 fp2 kp2 fq2 kq2 ee2 k) (pU_setFloat_3 ng2 fp2 kp2 fq2 kq2 ee2 k) (pU_setFloat_4 ng2 fp2 kp2 fq2 kq2 ee2 k) (pU_setFloat_5 ng2 fp2 kp2 fq2 kq2 ee2 k)) (pU_times2_3 ng4 fp4 kp4 fq4 kq4 ee4 (pU_setFloat_0 ng2 fp2 kp2 fq2 kq2 ee2 k) (pU_setFloat_1 ng2 fp2 kp2 fq2 kq2 ee2 k) (pU_setFloat_2 ng2 fp2 kp2 fq2 kq2 ee2 k) (pU_setFloat_3 ng2 fp2 kp2 fq2 kq2 ee2 k) (pU_setFloat_4 ng2 fp2 kp2 fq2 kq2 ee2 k) (pU_setFloat_5 ng2 fp2 kp2 fq2 kq2 ee2 k)) (pU_times2_4 ng4 fp4 kp4 fq4 kq4 ee4 (pU_setFloat_0 ng2 fp2 kp2 fq2 kq2 ee2 k) (pU_setFloat_1 ng2 fp2 kp2 fq2 kq2 ee2 k) (pU_setFloat_2 ng2 fp2 kp2 fq2 kq2 ee2 k) (pU_setFloat_3 ng2 fp2 kp2 fq2 kq2 ee2 k) (pU_setFloat_4 ng2 fp2 kp2 fq2 kq2 ee2 k) (pU_setFloat_5 ng2 fp2 kp2 fq2 kq2 ee2 k)) (pU_times2_5 ng4 fp4 kp4 fq4 kq4 ee4 (pU_setFloat_0 ng2 fp2 kp2 fq2 kq2 ee2 k) (pU_setFloat_1 ng2 fp2 kp2 fq2 kq2 ee2 k) (pU_setFloat_2 ng2 fp2 kp2 fq2 kq2 ee2 k) (pU_setFloat_3 ng2 fp2 kp2 fq2 kq2 ee2 k) (pU_setFloat_4 ng2 fp2 kp2 fq2 kq2 ee2 k) (pU_setFloat_5 ng2 fp2 kp2 fq2 kq2 ee2 k)) false fp3 kp3 fq3 kq3 ee3 (pU_times2_5 ng4 fp4 kp4 fq4 kq4 ee4 (pU_setFloat_0 ng2 fp2 kp2 fq2 kq2 ee2 k) (pU_setFloat_1 ng2 fp2 kp2 fq2 kq2 ee2 k) (pU_setFloat_2 ng2 fp2 kp2 fq2 kq2 ee2 k) (pU_setFloat_3 ng2 fp2 kp2 fq2 kq2 ee2 k) (pU_setFloat_4 ng2 fp2 kp2 fq2 kq2 ee2 k) (pU_setFloat_5 ng2 fp2 kp2 fq2 kq2 ee2 k) - ee3).toNatClampNeg (ee3 - pU_times2_5 ng4 fp4 kp4 fq4 kq4 ee4 (pU_setFloat_0 ng2 fp2 kp2 fq2 kq2 ee2 k) (pU_setFloat_1 ng2 fp2 kp2 fq2 kq2 ee2 k) (pU_setFloat_2 ng2 fp2 kp2 fq2 kq2 ee2 k) (pU_setFloat_3 ng2 fp2 kp2 fq2 kq2 ee2 k) (pU_setFloat_4 ng2 fp2 kp2 fq2 kq2 ee2 k) (pU_setFloat_5 ng2 fp2 kp2 fq2 kq2 ee2 k)).toNatClampNeg = cmZ ((FV z * FV z : Nat) : Int) ((P * WW e * WW 0 : Nat) : Int) := by
  have n2 := sf_NU ng2 fp2 kp2 fq2 kq2 ee2 k
  have l1 := sf_lp ng2 fp2 kp2 fq2 kq2 ee2 k
  have l2 := sf_lq ng2 fp2 kp2 fq2 kq2 ee2 k
  have g1 := exf_ge k
  have g2 := exf_le k
  have p1 := t2_p ng4 fp4 kp4 fq4 kq4 ee4 (pU_setFloat_0 ng2 fp2 kp2 fq2 kq2 ee2 k) (pU_setFloat_1 ng2 fp2 kp2 fq2 kq2 ee2 k) (pU_setFloat_2 ng2 fp2 kp2 fq2 kq2 ee2 k) (pU_setFloat_3 ng2 fp2 kp2 fq2 kq2 ee2 k) (pU_setFloat_4 ng2 fp2 kp2 fq2 kq2 ee2 k) (pU_setFloat_5 ng2 fp2 kp2 fq2 kq2 ee2 k) n2.1 l1
  have p2 := t2_q ng4 fp4 kp4 fq4 kq4 ee4 (pU_setFloat_0 ng2 fp2 kp2 fq2 kq2 ee2 k) (pU_setFloat_1 ng2 fp2 kp2 fq2 kq2 ee2 k) (pU_setFloat_2 ng2 fp2 kp2 fq2 kq2 ee2 k) (pU_setFloat_3 ng2 fp2 kp2 fq2 kq2 ee2 k) (pU_setFloat_4 ng2 fp2 kp2 fq2 kq2 ee2 k) (pU_setFloat_5 ng2 fp2 kp2 fq2 kq2 ee2 k) n2.2.1 l2
  have m1 := t2_lp ng4 fp4 kp4 fq4 kq4 ee4 (pU_setFloat_0 ng2 fp2 kp2 fq2 kq2 ee2 k) (pU_setFloat_1 ng2 fp2 kp2 fq2 kq2 ee2 k) (pU_setFloat_2 ng2 fp2 kp2 fq2 kq2 ee2 k) (pU_setFloat_3 ng2 fp2 kp2 fq2 kq2 ee2 k) (pU_setFloat_4 ng2 fp2 kp2 fq2 kq2 ee2 k) (pU_setFloat_5 ng2 fp2 kp2 fq2 kq2 ee2 k) n2.1 l1
  have m2 := t2_lq ng4 fp4 kp4 fq4 kq4 ee4 (pU_setFloat_0 ng2 fp2 kp2 fq2 kq2 ee2 k) (pU_setFloat_1 ng2 fp2 kp2 fq2 kq2 ee2 k) (pU_setFloat_2 ng2 fp2 kp2 fq2 kq2 ee2 k) (pU_setFloat_3 ng2 fp2 kp2 fq2 kq2 ee2 k) (pU_setFloat_4 ng2 fp2 kp2 fq2 kq2 ee2 k) (pU_setFloat_5 ng2 fp2 kp2 fq2 kq2 ee2 k) n2.2.1 l2
  have e5 : (pU_times2_5 ng4 fp4 kp4 fq4 kq4 ee4 (pU_setFloat_0 ng2 fp2 kp2 fq2 kq2 ee2 k) (pU_setFloat_1 ng2 fp2 kp2 fq2 kq2 ee2 k) (pU_setFloat_2 ng2 fp2 kp2 fq2 kq2 ee2 k) (pU_setFloat_3 ng2 fp2 kp2 fq2 kq2 ee2 k) (pU_setFloat_4 ng2 fp2 kp2 fq2 kq2 ee2 k) (pU_setFloat_5 ng2 fp2 kp2 fq2 kq2 ee2 k)).toInt = exf k + exf k := iA n2.2.2 n2.2.2 (by omega) (by omega)
  have n4 : NU (pU_times2_1 ng4 fp4 kp4 fq4 kq4 ee4 (pU_setFloat_0 ng2 fp2 kp2 fq2 kq2 ee2 k) (pU_setFloat_1 ng2 fp2 kp2 fq2 kq2 ee2 k) (pU_setFloat_2 ng2 fp2 kp2 fq2 kq2 ee2 k) (pU_setFloat_3 ng2 fp2 kp2 fq2 kq2 ee2 k) (pU_setFloat_4 ng2 fp2 kp2 fq2 kq2 ee2 k) (pU_setFloat_5 ng2 fp2 kp2 fq2 kq2 ee2 k)) (pU_times2_2 ng4 fp4 kp4 fq4 kq4 ee4 (pU_setFloat_0 ng2 fp2 kp2 fq2 kq2 ee2 k) (pU_setFloat_1 ng2 fp2 kp2 fq2 kq2 ee2 k) (pU_setFloat_2 ng2 fp2 kp2 fq2 kq2 ee2 k) (pU_setFloat_3 ng2 fp2 kp2 fq2 kq2 ee2 k) (pU_setFloat_4 ng2 fp2 kp2 fq2 kq2 ee2 k) (pU_setFloat_5 ng2 fp2 kp2 fq2 kq2 ee2 k)) (pU_times2_3 ng4 fp4 kp4 fq4 kq4 ee4 (pU_setFloat_0 ng2 fp2 kp2 fq2 kq2 ee2 k) (pU_setFloat_1 ng2 fp2 kp2 fq2 kq2 ee2 k) (pU_setFloat_2 ng2 fp2 kp2 fq2 kq2 ee2 k) (pU_setFloat_3 ng2 fp2 kp2 fq2 kq2 ee2 k) (pU_setFloat_4 ng2 fp2 kp2 fq2 kq2 ee2 k) (pU_setFloat_5 ng2 fp2 kp2 fq2 kq2 ee2 k)) (pU_times2_4 ng4 fp4 kp4 fq4 kq4 ee4 (pU_setFloat_0 ng2 fp2 kp2 fq2 kq2 ee2 k) (pU_setFloat_1 ng2 fp2 kp2 fq2 kq2 ee2 k) (pU_setFloat_2 ng2 fp2 kp2 fq2 kq2 ee2 k) (pU_setFloat_3 ng2 fp2 kp2 fq2 kq2 ee2 k) (pU_setFloat_4 ng2 fp2 kp2 fq2 kq2 ee2 k) (pU_setFloat_5 ng2 fp2 kp2 fq2 kq2 ee2 k)) (pU_times2_5 ng4 fp4 kp4 fq4 kq4 ee4 (pU_setFloat_0 ng2 fp2 kp2 fq2 kq2 ee2 k) (pU_setFloat_1 ng2 fp2 kp2 fq2 kq2 ee2 k) (pU_setFloat_2 ng2 fp2 kp2 fq2 kq2 ee2 k) (pU_setFloat_3 ng2 fp2 kp2 fq2 kq2 ee2 k) (pU_setFloat_4 ng2 fp2 kp2 fq2 kq2 ee2 k) (pU_setFloat_5 ng2 fp2 kp2 fq2 kq2 ee2 k)) (sgf k * sgf k) (1 * 1) (exf k + exf k) := ⟨p1, p2, e5⟩
  have e0 : pU_times2_0 ng4 fp4 kp4 fq4 kq4 ee4 (pU_setFloat_0 ng2 fp2 kp2 fq2 kq2 ee2 k) (pU_setFloat_1 ng2 fp2 kp2 fq2 kq2 ee2 k) (pU_setFloat_2 ng2 fp2 kp2 fq2 kq2 ee2 k) (pU_setFloat_3 ng2 fp2 kp2 fq2 kq2 ee2 k) (pU_setFloat_4 ng2 fp2 kp2 fq2 kq2 ee2 k) (pU_setFloat_5 ng2 fp2 kp2 fq2 kq2 ee2 k) = false := if_pos rfl
  have hm : mg k = z := by rw [hk, mg_lN (by omega)]; omega
  rw [or_ok fl kl fr kr _ _ _ _ _ _ false fp3 kp3 fq3 kq3 ee3 n4 h3 (by decide) (by decide) (by omega) (by omega) (by omega) (by omega) r3 r4, e0, SV_f, SV_f, cmZ_sc (WW_pos 0)]
  have ef : FV z * FV z = sgf k * sgf k * 1 * WW (exf k + exf k) * WW 0 := by
    rw [← hm, FV_mg, Nat.mul_one, Nat.mul_mul_mul_comm, WW_mul (by omega) (by omega), Nat.mul_assoc (sgf k * sgf k)]
  rw [ef, Nat.one_mul, Nat.mul_one, Nat.mul_one]
end SQO
section RDL
variable {fp3 : Nat → Int32} {kp3 : Nat} {fq3 : Nat → Int32} {kq3 : Nat} {ee3 : Int32} {P : Nat} {e : Int}
theorem rt_srch (h3 : NU fp3 kp3 fq3 kq3 ee3 P 1 e) (hk1 : kq3 ≤ 900) (hk2 : kp3 ≤ 900) (r3 : -90000 ≤ e) (r4 : e ≤ 90000) : ∀ (n : Nat) (lo hi : Int64) (a2 : Bool) (a3 : Nat → Int32) (a4 : Nat) (a5 : Nat → Int32) (a6 : Nat) (a7 : Int32) (a8 : Bool) (a9 : Nat → Int32) (a10 : Nat) (a11 : Nat → Int32) (a12 : Nat) (a13 : Int32) (a14 : Nat → Int32) (a15 : Nat) (a16 : Nat → Int32) (a17 : Nat),
    dnv lo hi n → 0 ≤ lo.toInt → lo.toInt < hi.toInt → FV lo.toInt.toNat * FV lo.toInt.toNat ≤ P * WW e * WW 0 → (hi.toInt < 9218868437227405312 → P * WW e * WW 0 < FV hi.toInt.toNat * FV hi.toInt.toNat) →
    ∃ z : Nat, (qM_rootDown_7 false ee3 kp3 kq3 fp3 fq3 n lo hi a2 a3 a4 a5 a6 a7 a8 a9 a10 a11 a12 a13 a14 a15 a16 a17).1 = lN z ∧ z < IM ∧ FV z * FV z ≤ P * WW e * WW 0 ∧ (z + 1 < IM → P * WW e * WW 0 < FV (z + 1) * FV (z + 1)) := by
  have fin : ∀ (lo hi : Int64), 0 ≤ lo.toInt → lo.toInt < hi.toInt → hi.toInt - lo.toInt ≤ 1 → hi.toInt ≤ 9218868437227405312 → FV lo.toInt.toNat * FV lo.toInt.toNat ≤ P * WW e * WW 0 → (hi.toInt < 9218868437227405312 → P * WW e * WW 0 < FV hi.toInt.toNat * FV hi.toInt.toNat) →
      ∃ z : Nat, lo = lN z ∧ z < IM ∧ FV z * FV z ≤ P * WW e * WW 0 ∧ (z + 1 < IM → P * WW e * WW 0 < FV (z + 1) * FV (z + 1)) := by
    intro lo hi h0 hlt h5 h6 h1 h2
    refine ⟨lo.toInt.toNat, ?_, by unfold IM; omega, h1, fun q => ?_⟩
    · apply Int64.toInt_inj.mp
      rw [pk_lT (by omega)]
      omega
    · unfold IM at q
      have e1 : lo.toInt.toNat + 1 = hi.toInt.toNat := by omega
      rw [e1]
      exact h2 (by omega)
  intro n
  induction n with
  | zero =>
    intro lo hi a2 a3 a4 a5 a6 a7 a8 a9 a10 a11 a12 a13 a14 a15 a16 a17 hd h0 hlt h1 h2
    exact fin lo hi h0 hlt hd.2.1 hd.2.2.2.1 h1 h2
  | succ n ih =>
    intro lo hi a2 a3 a4 a5 a6 a7 a8 a9 a10 a11 a12 a13 a14 a15 a16 a17 hd h0 hlt h1 h2
    by_cases hc : hi - lo ≤ (1 : Int64)
    · have e0 : qM_rootDown_7 false ee3 kp3 kq3 fp3 fq3 (n + 1) lo hi a2 a3 a4 a5 a6 a7 a8 a9 a10 a11 a12 a13 a14 a15 a16 a17 = (lo, hi, a2, a3, a4, a5, a6, a7, a8, a9, a10, a11, a12, a13, a14, a15, a16, a17) := if_pos hc
      rw [e0]
      have e1 := dnv_sub hd
      rw [Int64.le_iff_toInt_le, e1] at hc
      exact fin lo hi h0 hlt hc hd.2.2.2.1 h1 h2
    · have e0 : qM_rootDown_7 false ee3 kp3 kq3 fp3 fq3 (n + 1) lo hi a2 a3 a4 a5 a6 a7 a8 a9 a10 a11 a12 a13 a14 a15 a16 a17 = qM_rootDown_7 false ee3 kp3 kq3 fp3 fq3 n (v_M_rootDown_37 false ee3 kp3 kq3 fp3 fq3 n lo hi a2 a3 a4 a5 a6 a7 a8 a9 a10 a11 a12 a13 a14 a15 a16 a17) (v_M_rootDown_38 false ee3 kp3 kq3 fp3 fq3 n lo hi a2 a3 a4 a5 a6 a7 a8 a9 a10 a11 a12 a13 a14 a15 a16 a17) (v_M_rootDown_20 false ee3 kp3 kq3 fp3 fq3 n lo hi a2 a3 a4 a5 a6 a7 a8 a9 a10 a11 a12 a13 a14 a15 a16 a17) (v_M_rootDown_21 false ee3 kp3 kq3 fp3 fq3 n lo hi a2 a3 a4 a5 a6 a7 a8 a9 a10 a11 a12 a13 a14 a15 a16 a17) (v_M_rootDown_22 false ee3 kp3 kq3 fp3 fq3 n lo hi a2 a3 a4 a5 a6 a7 a8 a9 a10 a11 a12 a13 a14 a15 a16 a17) (v_M_rootDown_23 false ee3 kp3 kq3 fp3 fq3 n lo hi a2 a3 a4 a5 a6 a7 a8 a9 a10 a11 a12 a13 a14 a15 a16 a17) (v_M_rootDown_24 false ee3 kp3 kq3 fp3 fq3 n lo hi a2 a3 a4 a5 a6 a7 a8 a9 a10 a11 a12 a13 a14 a15 a16 a17) (v_M_rootDown_25 false ee3 kp3 kq3 fp3 fq3 n lo hi a2 a3 a4 a5 a6 a7 a8 a9 a10 a11 a12 a13 a14 a15 a16 a17) (v_M_rootDown_26 false ee3 kp3 kq3 fp3 fq3 n lo hi a2 a3 a4 a5 a6 a7 a8 a9 a10 a11 a12 a13 a14 a15 a16 a17) (v_M_rootDown_27 false ee3 kp3 kq3 fp3 fq3 n lo hi a2 a3 a4 a5 a6 a7 a8 a9 a10 a11 a12 a13 a14 a15 a16 a17) (v_M_rootDown_28 false ee3 kp3 kq3 fp3 fq3 n lo hi a2 a3 a4 a5 a6 a7 a8 a9 a10 a11 a12 a13 a14 a15 a16 a17) (v_M_rootDown_29 false ee3 kp3 kq3 fp3 fq3 n lo hi a2 a3 a4 a5 a6 a7 a8 a9 a10 a11 a12 a13 a14 a15 a16 a17) (v_M_rootDown_30 false ee3 kp3 kq3 fp3 fq3 n lo hi a2 a3 a4 a5 a6 a7 a8 a9 a10 a11 a12 a13 a14 a15 a16 a17) (v_M_rootDown_31 false ee3 kp3 kq3 fp3 fq3 n lo hi a2 a3 a4 a5 a6 a7 a8 a9 a10 a11 a12 a13 a14 a15 a16 a17) (v_M_rootDown_33 false ee3 kp3 kq3 fp3 fq3 n lo hi a2 a3 a4 a5 a6 a7 a8 a9 a10 a11 a12 a13 a14 a15 a16 a17) (v_M_rootDown_34 false ee3 kp3 kq3 fp3 fq3 n lo hi a2 a3 a4 a5 a6 a7 a8 a9 a10 a11 a12 a13 a14 a15 a16 a17) (v_M_rootDown_35 false ee3 kp3 kq3 fp3 fq3 n lo hi a2 a3 a4 a5 a6 a7 a8 a9 a10 a11 a12 a13 a14 a15 a16 a17) (v_M_rootDown_36 false ee3 kp3 kq3 fp3 fq3 n lo hi a2 a3 a4 a5 a6 a7 a8 a9 a10 a11 a12 a13 a14 a15 a16 a17) := if_neg hc
      have hm := dnv_mid hd
      have hs := dnv_s (p := 0 < (v_M_rootDown_32 false ee3 kp3 kq3 fp3 fq3 n lo hi a2 a3 a4 a5 a6 a7 a8 a9 a10 a11 a12 a13 a14 a15 a16 a17)) hd hc
      have e1 := dnv_sub hd
      have hc2 : ¬ hi.toInt - lo.toInt ≤ 1 := by
        intro q
        apply hc
        rw [Int64.le_iff_toInt_le, e1]
        exact q
      obtain ⟨b1, b2, b3, b4, b5⟩ := hd
      have ek : (v_M_rootDown_19 false ee3 kp3 kq3 fp3 fq3 n lo hi a2 a3 a4 a5 a6 a7 a8 a9 a10 a11 a12 a13 a14 a15 a16 a17) = lN (lo.toInt + (hi.toInt - lo.toInt) / 2).toNat := by
        show lo + (hi - lo) / 2 = _
        apply Int64.toInt_inj.mp
        rw [hm, pk_lT (by omega)]
        omega
      have ho : (v_M_rootDown_32 false ee3 kp3 kq3 fp3 fq3 n lo hi a2 a3 a4 a5 a6 a7 a8 a9 a10 a11 a12 a13 a14 a15 a16 a17) = cmZ ((FV (lo.toInt + (hi.toInt - lo.toInt) / 2).toNat * FV (lo.toInt + (hi.toInt - lo.toInt) / 2).toNat : Nat) : Int) ((P * WW e * WW 0 : Nat) : Int) :=
        sq_fl a14 a15 a16 a17 a2 a3 a4 a5 a6 a7 a8 a9 a10 a11 a12 a13 h3 hk1 hk2 r3 r4 ek (by omega)
      have e35 : (v_M_rootDown_37 false ee3 kp3 kq3 fp3 fq3 n lo hi a2 a3 a4 a5 a6 a7 a8 a9 a10 a11 a12 a13 a14 a15 a16 a17) = if 0 < (v_M_rootDown_32 false ee3 kp3 kq3 fp3 fq3 n lo hi a2 a3 a4 a5 a6 a7 a8 a9 a10 a11 a12 a13 a14 a15 a16 a17) then lo else lo + (hi - lo) / 2 := rfl
      have e36 : (v_M_rootDown_38 false ee3 kp3 kq3 fp3 fq3 n lo hi a2 a3 a4 a5 a6 a7 a8 a9 a10 a11 a12 a13 a14 a15 a16 a17) = if 0 < (v_M_rootDown_32 false ee3 kp3 kq3 fp3 fq3 n lo hi a2 a3 a4 a5 a6 a7 a8 a9 a10 a11 a12 a13 a14 a15 a16 a17) then lo + (hi - lo) / 2 else hi := rfl
      rw [← e35, ← e36] at hs
      have hp := cmZ_pos (a := ((FV (lo.toInt + (hi.toInt - lo.toInt) / 2).toNat * FV (lo.toInt + (hi.toInt - lo.toInt) / 2).toNat : Nat) : Int)) (b := ((P * WW e * WW 0 : Nat) : Int))
      have key : 0 ≤ (v_M_rootDown_37 false ee3 kp3 kq3 fp3 fq3 n lo hi a2 a3 a4 a5 a6 a7 a8 a9 a10 a11 a12 a13 a14 a15 a16 a17).toInt ∧ (v_M_rootDown_37 false ee3 kp3 kq3 fp3 fq3 n lo hi a2 a3 a4 a5 a6 a7 a8 a9 a10 a11 a12 a13 a14 a15 a16 a17).toInt < (v_M_rootDown_38 false ee3 kp3 kq3 fp3 fq3 n lo hi a2 a3 a4 a5 a6 a7 a8 a9 a10 a11 a12 a13 a14 a15 a16 a17).toInt ∧ FV (v_M_rootDown_37 false ee3 kp3 kq3 fp3 fq3 n lo hi a2 a3 a4 a5 a6 a7 a8 a9 a10 a11 a12 a13 a14 a15 a16 a17).toInt.toNat * FV (v_M_rootDown_37 false ee3 kp3 kq3 fp3 fq3 n lo hi a2 a3 a4 a5 a6 a7 a8 a9 a10 a11 a12 a13 a14 a15 a16 a17).toInt.toNat ≤ P * WW e * WW 0 ∧ ((v_M_rootDown_38 false ee3 kp3 kq3 fp3 fq3 n lo hi a2 a3 a4 a5 a6 a7 a8 a9 a10 a11 a12 a13 a14 a15 a16 a17).toInt < 9218868437227405312 → P * WW e * WW 0 < FV (v_M_rootDown_38 false ee3 kp3 kq3 fp3 fq3 n lo hi a2 a3 a4 a5 a6 a7 a8 a9 a10 a11 a12 a13 a14 a15 a16 a17).toInt.toNat * FV (v_M_rootDown_38 false ee3 kp3 kq3 fp3 fq3 n lo hi a2 a3 a4 a5 a6 a7 a8 a9 a10 a11 a12 a13 a14 a15 a16 a17).toInt.toNat) := by
        rw [e35, e36, ho]
        by_cases w : P * WW e * WW 0 < FV (lo.toInt + (hi.toInt - lo.toInt) / 2).toNat * FV (lo.toInt + (hi.toInt - lo.toInt) / 2).toNat
        · have w2 := hp.mpr (by exact_mod_cast w)
          rw [if_pos w2, if_pos w2, hm]
          exact ⟨by omega, by omega, h1, fun _ => w⟩
        · have w2 : ¬ _ := fun u => w (by exact_mod_cast hp.mp u)
          rw [if_neg w2, if_neg w2, hm]
          exact ⟨by omega, by omega, Nat.le_of_not_lt w, h2⟩
      clear e35 e36 ho hp hm ek
      rw [e0]
      clear e0
      obtain ⟨k1, k2, k3, k4⟩ := key
      exact ih (v_M_rootDown_37 false ee3 kp3 kq3 fp3 fq3 n lo hi a2 a3 a4 a5 a6 a7 a8 a9 a10 a11 a12 a13 a14 a15 a16 a17) (v_M_rootDown_38 false ee3 kp3 kq3 fp3 fq3 n lo hi a2 a3 a4 a5 a6 a7 a8 a9 a10 a11 a12 a13 a14 a15 a16 a17) (v_M_rootDown_20 false ee3 kp3 kq3 fp3 fq3 n lo hi a2 a3 a4 a5 a6 a7 a8 a9 a10 a11 a12 a13 a14 a15 a16 a17) (v_M_rootDown_21 false ee3 kp3 kq3 fp3 fq3 n lo hi a2 a3 a4 a5 a6 a7 a8 a9 a10 a11 a12 a13 a14 a15 a16 a17) (v_M_rootDown_22 false ee3 kp3 kq3 fp3 fq3 n lo hi a2 a3 a4 a5 a6 a7 a8 a9 a10 a11 a12 a13 a14 a15 a16 a17) (v_M_rootDown_23 false ee3 kp3 kq3 fp3 fq3 n lo hi a2 a3 a4 a5 a6 a7 a8 a9 a10 a11 a12 a13 a14 a15 a16 a17) (v_M_rootDown_24 false ee3 kp3 kq3 fp3 fq3 n lo hi a2 a3 a4 a5 a6 a7 a8 a9 a10 a11 a12 a13 a14 a15 a16 a17) (v_M_rootDown_25 false ee3 kp3 kq3 fp3 fq3 n lo hi a2 a3 a4 a5 a6 a7 a8 a9 a10 a11 a12 a13 a14 a15 a16 a17) (v_M_rootDown_26 false ee3 kp3 kq3 fp3 fq3 n lo hi a2 a3 a4 a5 a6 a7 a8 a9 a10 a11 a12 a13 a14 a15 a16 a17) (v_M_rootDown_27 false ee3 kp3 kq3 fp3 fq3 n lo hi a2 a3 a4 a5 a6 a7 a8 a9 a10 a11 a12 a13 a14 a15 a16 a17) (v_M_rootDown_28 false ee3 kp3 kq3 fp3 fq3 n lo hi a2 a3 a4 a5 a6 a7 a8 a9 a10 a11 a12 a13 a14 a15 a16 a17) (v_M_rootDown_29 false ee3 kp3 kq3 fp3 fq3 n lo hi a2 a3 a4 a5 a6 a7 a8 a9 a10 a11 a12 a13 a14 a15 a16 a17) (v_M_rootDown_30 false ee3 kp3 kq3 fp3 fq3 n lo hi a2 a3 a4 a5 a6 a7 a8 a9 a10 a11 a12 a13 a14 a15 a16 a17) (v_M_rootDown_31 false ee3 kp3 kq3 fp3 fq3 n lo hi a2 a3 a4 a5 a6 a7 a8 a9 a10 a11 a12 a13 a14 a15 a16 a17) (v_M_rootDown_33 false ee3 kp3 kq3 fp3 fq3 n lo hi a2 a3 a4 a5 a6 a7 a8 a9 a10 a11 a12 a13 a14 a15 a16 a17) (v_M_rootDown_34 false ee3 kp3 kq3 fp3 fq3 n lo hi a2 a3 a4 a5 a6 a7 a8 a9 a10 a11 a12 a13 a14 a15 a16 a17) (v_M_rootDown_35 false ee3 kp3 kq3 fp3 fq3 n lo hi a2 a3 a4 a5 a6 a7 a8 a9 a10 a11 a12 a13 a14 a15 a16 a17) (v_M_rootDown_36 false ee3 kp3 kq3 fp3 fq3 n lo hi a2 a3 a4 a5 a6 a7 a8 a9 a10 a11 a12 a13 a14 a15 a16 a17) hs k1 k2 k3 k4
end RDL
section RUO
variable (fl : Nat → Int32) (kl : Nat) (fr : Nat → Int32) (kr : Nat) (ng2 : Bool) (fp2 : Nat → Int32) (kp2 : Nat) (fq2 : Nat → Int32) (kq2 : Nat) (ee2 : Int32) (ng4 : Bool) (fp4 : Nat → Int32) (kp4 : Nat) (fq4 : Nat → Int32) (kq4 : Nat) (ee4 : Int32) (fp3 : Nat → Int32) (kp3 : Nat) (fq3 : Nat → Int32) (kq3 : Nat) (ee3 : Int32) {P : Nat} {e : Int}
theorem rdn_ok (h3 : NU fp3 kp3 fq3 kq3 ee3 P 1 e) (hk1 : kq3 ≤ 900) (hk2 : kp3 ≤ 900) (r3 : -90000 ≤ e) (r4 : e ≤ 90000) :
    ∃ z, pM_rootDown fl kl fr kr ng2 fp2 kp2 fq2 kq2 ee2 ng4 fp4 kp4 fq4 kq4 ee4 false fp3 kp3 fq3 kq3 ee3 = lN z ∧ FR z (P * WW e * WW 0) :=
  rt_srch h3 hk1 hk2 r3 r4 63 (0 : Int64) (9218868437227405312 : Int64) ng2 fp2 kp2 fq2 kq2 ee2 ng4 fp4 kp4 fq4 kq4 ee4 fl kl fr kr (dnv_init (p := False)) (by decide) (by decide) (by show FV 0 * FV 0 ≤ _; rw [FV_0]; exact Nat.zero_le _) (fun q => absurd q (by decide))
theorem rup_ok (h3 : NU fp3 kp3 fq3 kq3 ee3 P 1 e) (hk1 : kq3 ≤ 900) (hk2 : kp3 ≤ 900) (r3 : -90000 ≤ e) (r4 : e ≤ 90000) :
    ∃ z, pM_rootUp fl kl fr kr ng2 fp2 kp2 fq2 kq2 ee2 ng4 fp4 kp4 fq4 kq4 ee4 false fp3 kp3 fq3 kq3 ee3 = lN z ∧ CR z (P * WW e * WW 0) := by
  obtain ⟨z, z1, z2, z3, z4⟩ := rdn_ok fl kl fr kr ng2 fp2 kp2 fq2 kq2 ee2 ng4 fp4 kp4 fq4 kq4 ee4 fp3 kp3 fq3 kq3 ee3 h3 hk1 hk2 r3 r4
  have e1 : (v_M_rootUp_1 fl kl fr kr ng2 fp2 kp2 fq2 kq2 ee2 ng4 fp4 kp4 fq4 kq4 ee4 false fp3 kp3 fq3 kq3 ee3) = lN z := z1
  have hI := IM_lt
  have ho : (v_M_rootUp_30 fl kl fr kr ng2 fp2 kp2 fq2 kq2 ee2 ng4 fp4 kp4 fq4 kq4 ee4 false fp3 kp3 fq3 kq3 ee3) = cmZ ((FV z * FV z : Nat) : Int) ((P * WW e * WW 0 : Nat) : Int) := sq_fl _ _ _ _ _ _ _ _ _ _ _ _ _ _ _ _ h3 hk1 hk2 r3 r4 e1 (by omega)
  have d0 : pM_rootUp fl kl fr kr ng2 fp2 kp2 fq2 kq2 ee2 ng4 fp4 kp4 fq4 kq4 ee4 false fp3 kp3 fq3 kq3 ee3 = if (v_M_rootUp_30 fl kl fr kr ng2 fp2 kp2 fq2 kq2 ee2 ng4 fp4 kp4 fq4 kq4 ee4 false fp3 kp3 fq3 kq3 ee3) = 0 then (v_M_rootUp_1 fl kl fr kr ng2 fp2 kp2 fq2 kq2 ee2 ng4 fp4 kp4 fq4 kq4 ee4 false fp3 kp3 fq3 kq3 ee3) else (v_M_rootUp_1 fl kl fr kr ng2 fp2 kp2 fq2 kq2 ee2 ng4 fp4 kp4 fq4 kq4 ee4 false fp3 kp3 fq3 kq3 ee3) + (1 : Int64) := rfl
  rw [d0, ho, e1]
  clear d0 ho e1 z1
  by_cases w : FV z * FV z = P * WW e * WW 0
  · rw [if_pos (cmZ_eq.mpr (by exact_mod_cast w))]
    refine ⟨z, rfl, Nat.le_of_lt z2, fun _ => Nat.le_of_eq w.symm, fun N hN => ?_⟩
    rw [← w]
    exact sq_lt (FV_lt (by omega))
  · rw [if_neg (fun u => w (by exact_mod_cast cmZ_eq.mp u))]
    refine ⟨z + 1, lN_1 z, z2, fun q => Nat.le_of_lt (z4 q), fun N hN => ?_⟩
    have : N = z := by omega
    rw [this]; omega
end RUO
section ERT
variable (fl : Nat → Int32) (kl : Nat) (fr : Nat → Int32) (kr : Nat) (ng2 : Bool) (fp2 : Nat → Int32) (kp2 : Nat) (fq2 : Nat → Int32) (kq2 : Nat) (ee2 : Int32) (ng4 : Bool) (fp4 : Nat → Int32) (kp4 : Nat) (fq4 : Nat → Int32) (kq4 : Nat) (ee4 : Int32) (ng6 : Bool) (fp6 : Nat → Int32) (kp6 : Nat) (fq6 : Nat → Int32) (kq6 : Nat) (ee6 : Int32) (x : Int64) (up : Bool)
theorem FR_z {z : Nat} (h : FR z 0) : z = 0 := by
  refine Nat.eq_zero_of_not_pos (fun q => ?_)
  have h1 := FV_lt q
  rw [FV_0] at h1
  have := Nat.mul_pos h1 h1
  have := h.2.1
  omega
theorem CR_z {z : Nat} (h : CR z 0) : z = 0 := by
  refine Nat.eq_zero_of_not_pos (fun q => ?_)
  have := h.2.2 (z - 1) (by omega)
  omega
theorem rt_in (hn : ¬ (pM_plainZero x) < 0) : ∃ z, (v_M_root_41 fl kl fr kr ng2 fp2 kp2 fq2 kq2 ee2 ng4 fp4 kp4 fq4 kq4 ee4 ng6 fp6 kp6 fq6 kq6 ee6 x up) = lN z ∧ (up = true → CR z (sgf (pM_plainZero x) * WW (exf (pM_plainZero x)) * WW 0)) ∧ (up = false → FR z (sgf (pM_plainZero x) * WW (exf (pM_plainZero x)) * WW 0)) := by
  have g1 := exf_ge (pM_plainZero x)
  have g2 := exf_le (pM_plainZero x)
  have n6 := sf_NU ng6 fp6 kp6 fq6 kq6 ee6 (pM_plainZero x)
  have a1 := sf_lp ng6 fp6 kp6 fq6 kq6 ee6 (pM_plainZero x)
  have a2 := sf_lq ng6 fp6 kp6 fq6 kq6 ee6 (pM_plainZero x)
  have e1 : pU_setFloat_0 ng6 fp6 kp6 fq6 kq6 ee6 (pM_plainZero x) = false := by rw [sf_nv]; exact decide_eq_false hn
  have d41 : (v_M_root_41 fl kl fr kr ng2 fp2 kp2 fq2 kq2 ee2 ng4 fp4 kp4 fq4 kq4 ee4 ng6 fp6 kp6 fq6 kq6 ee6 x up) = if up = true then (v_M_root_24 fl kl fr kr ng2 fp2 kp2 fq2 kq2 ee2 ng4 fp4 kp4 fq4 kq4 ee4 ng6 fp6 kp6 fq6 kq6 ee6 x up) else (v_M_root_7 fl kl fr kr ng2 fp2 kp2 fq2 kq2 ee2 ng4 fp4 kp4 fq4 kq4 ee4 ng6 fp6 kp6 fq6 kq6 ee6 x up) := rfl
  have d24 : (v_M_root_24 fl kl fr kr ng2 fp2 kp2 fq2 kq2 ee2 ng4 fp4 kp4 fq4 kq4 ee4 ng6 fp6 kp6 fq6 kq6 ee6 x up) = pM_rootUp fl kl fr kr ng2 fp2 kp2 fq2 kq2 ee2 ng4 fp4 kp4 fq4 kq4 ee4 (pU_setFloat_0 ng6 fp6 kp6 fq6 kq6 ee6 (pM_plainZero x)) (pU_setFloat_1 ng6 fp6 kp6 fq6 kq6 ee6 (pM_plainZero x)) (pU_setFloat_2 ng6 fp6 kp6 fq6 kq6 ee6 (pM_plainZero x)) (pU_setFloat_3 ng6 fp6 kp6 fq6 kq6 ee6 (pM_plainZero x)) (pU_setFloat_4 ng6 fp6 kp6 fq6 kq6 ee6 (pM_plainZero x)) (pU_setFloat_5 ng6 fp6 kp6 fq6 kq6 ee6 (pM_plainZero x)) := rfl
  have d7 : (v_M_root_7 fl kl fr kr ng2 fp2 kp2 fq2 kq2 ee2 ng4 fp4 kp4 fq4 kq4 ee4 ng6 fp6 kp6 fq6 kq6 ee6 x up) = pM_rootDown fl kl fr kr ng2 fp2 kp2 fq2 kq2 ee2 ng4 fp4 kp4 fq4 kq4 ee4 (pU_setFloat_0 ng6 fp6 kp6 fq6 kq6 ee6 (pM_plainZero x)) (pU_setFloat_1 ng6 fp6 kp6 fq6 kq6 ee6 (pM_plainZero x)) (pU_setFloat_2 ng6 fp6 kp6 fq6 kq6 ee6 (pM_plainZero x)) (pU_setFloat_3 ng6 fp6 kp6 fq6 kq6 ee6 (pM_plainZero x)) (pU_setFloat_4 ng6 fp6 kp6 fq6 kq6 ee6 (pM_plainZero x)) (pU_setFloat_5 ng6 fp6 kp6 fq6 kq6 ee6 (pM_plainZero x)) := rfl
  rw [e1] at d24 d7
  rw [d41, d24, d7]
  cases up with
  | true =>
    obtain ⟨z, z1, z2⟩ := rup_ok fl kl fr kr ng2 fp2 kp2 fq2 kq2 ee2 ng4 fp4 kp4 fq4 kq4 ee4 (pU_setFloat_1 ng6 fp6 kp6 fq6 kq6 ee6 (pM_plainZero x)) (pU_setFloat_2 ng6 fp6 kp6 fq6 kq6 ee6 (pM_plainZero x)) (pU_setFloat_3 ng6 fp6 kp6 fq6 kq6 ee6 (pM_plainZero x)) (pU_setFloat_4 ng6 fp6 kp6 fq6 kq6 ee6 (pM_plainZero x)) (pU_setFloat_5 ng6 fp6 kp6 fq6 kq6 ee6 (pM_plainZero x)) n6 (by omega) (by omega) (by omega) (by omega)
    refine ⟨z, ?_, fun _ => z2, fun q => absurd q (by decide)⟩
    rw [if_pos rfl]; exact z1
  | false =>
    obtain ⟨z, z1, z2⟩ := rdn_ok fl kl fr kr ng2 fp2 kp2 fq2 kq2 ee2 ng4 fp4 kp4 fq4 kq4 ee4 (pU_setFloat_1 ng6 fp6 kp6 fq6 kq6 ee6 (pM_plainZero x)) (pU_setFloat_2 ng6 fp6 kp6 fq6 kq6 ee6 (pM_plainZero x)) (pU_setFloat_3 ng6 fp6 kp6 fq6 kq6 ee6 (pM_plainZero x)) (pU_setFloat_4 ng6 fp6 kp6 fq6 kq6 ee6 (pM_plainZero x)) (pU_setFloat_5 ng6 fp6 kp6 fq6 kq6 ee6 (pM_plainZero x)) n6 (by omega) (by omega) (by omega) (by omega)
    refine ⟨z, ?_, fun q => absurd q (by decide), fun _ => z2⟩
    rw [if_neg (by decide)]; exact z1
theorem eq_root : pF_root x up = pM_root fl kl fr kr ng2 fp2 kp2 fq2 kq2 ee2 ng4 fp4 kp4 fq4 kq4 ee4 ng6 fp6 kp6 fq6 kq6 ee6 x up := by
  have nx : pF_isNaN x = pM_isNan x := rfl
  have ix : pF_isInfinite x = pM_isInfinite x := rfl
  have zx : pF_isZero x = pM_isZero x := rfl
  have e98 : (v_M_root_98 fl kl fr kr ng2 fp2 kp2 fq2 kq2 ee2 ng4 fp4 kp4 fq4 kq4 ee4 ng6 fp6 kp6 fq6 kq6 ee6 x up) = (v_M_root_41 fl kl fr kr ng2 fp2 kp2 fq2 kq2 ee2 ng4 fp4 kp4 fq4 kq4 ee4 ng6 fp6 kp6 fq6 kq6 ee6 x up) := rfl
  have e1 : v_F_root_1 x up = if pM_isInfinite x = true then x else pF_rootOfFinite x (pF_direction up) := rfl
  have hpz : (pM_plainZero x) = if pM_isZero x = true then (0 : Int64) else x := rfl
  cases qx : pM_isZero x with
  | true =>
    have hm : mg x = 0 := by rw [mzero_ok] at qx; exact of_decide_eq_true qx
    have hnan : pM_isNan x = false := by rw [mnan_ok, hm]; decide
    have hinf : pM_isInfinite x = false := by rw [minf_ok, hm]; decide
    rw [qx, if_pos rfl] at hpz
    obtain ⟨z, z1, z2, z3⟩ := rt_in fl kl fr kr ng2 fp2 kp2 fq2 kq2 ee2 ng4 fp4 kp4 fq4 kq4 ee4 ng6 fp6 kp6 fq6 kq6 ee6 x up (by rw [hpz]; decide)
    rw [hpz, sgf_zero, Nat.zero_mul, Nat.zero_mul] at z2 z3
    have hz : z = 0 := by
      cases up with
      | true => exact CR_z (z2 rfl)
      | false => exact FR_z (z3 rfl)
    have e41 : (v_M_root_41 fl kl fr kr ng2 fp2 kp2 fq2 kq2 ee2 ng4 fp4 kp4 fq4 kq4 ee4 ng6 fp6 kp6 fq6 kq6 ee6 x up) = (0 : Int64) := by rw [z1, hz]; rfl
    simp only [pF_root, pM_root, zx, qx, hnan, hinf, e98, e41, if_true, Bool.false_eq_true, if_false, ite_self]
  | false =>
    rw [qx, if_neg (by decide)] at hpz
    have hm : mg x ≠ 0 := by rw [mzero_ok] at qx; exact of_decide_eq_false qx
    cases hx : pM_isNan x with
    | true => simp only [pF_root, pM_root, zx, qx, nx, hx, if_true, Bool.false_eq_true, if_false]
    | false =>
      simp only [pF_root, pM_root, zx, qx, nx, hx, e1, Bool.false_eq_true, if_false]
      by_cases h0 : (0 : Int64) ≤ x
      · rw [if_pos h0, if_pos h0]
        cases jx : pM_isInfinite x with
        | true => rw [if_pos rfl, if_pos rfl]
        | false =>
          rw [if_neg (by decide), if_neg (by decide)]
          have hn : ¬ (pM_plainZero x) < 0 := by
            rw [hpz]
            intro q
            rw [Int64.le_iff_toInt_le] at h0
            rw [Int64.lt_iff_toInt_lt] at q
            omega
          obtain ⟨z, z1, z2, z3⟩ := rt_in fl kl fr kr ng2 fp2 kp2 fq2 kq2 ee2 ng4 fp4 kp4 fq4 kq4 ee4 ng6 fp6 kp6 fq6 kq6 ee6 x up hn
          rw [hpz] at z2 z3
          obtain ⟨M, m1, m2, m3, m4⟩ := root_ok (x := x) (how := pF_direction up) hm
          rw [z1, m2, sgM_f]
          congr 1
          cases up with
          | true => exact CR_un (m3 rfl) (z2 rfl)
          | false => exact FR_un (m4 rfl) (z3 rfl)
      · rw [if_neg h0, if_neg h0]
end ERT

