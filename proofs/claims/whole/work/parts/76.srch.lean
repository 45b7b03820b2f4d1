/-! THE SEARCH OF THE REFERENCE -/
noncomputable def KV (k : Int) : Int := if k < 0 then -(FV (-k).toNat : Int) else (FV k.toNat : Int)
theorem KV_lt {a b : Int} (h : a < b) : KV a < KV b := by
  unfold KV
  by_cases p : a < 0
  · rw [if_pos p]
    by_cases q : b < 0
    · rw [if_pos q]
      have := FV_lt (show (-b).toNat < (-a).toNat by omega)
      omega
    · rw [if_neg q]
      have := FV_lt (show 0 < (-a).toNat by omega)
      omega
  · rw [if_neg p, if_neg (by omega)]
    have := FV_lt (show a.toNat < b.toNat by omega)
    omega
theorem lt0_lN {n : Nat} (h : n < 2 ^ 64) : decide (lN n < 0) = decide (2 ^ 63 ≤ n) := by
  have := neg_bit (lN n)
  rw [lN_tn h] at this
  by_cases q : 2 ^ 63 ≤ n
  · rw [decide_eq_true q, decide_eq_true (this.mpr q)]
  · rw [decide_eq_false q, decide_eq_false (fun z => q (this.mp z))]
theorem mg_lN {n : Nat} (h : n < 2 ^ 64) : mg (lN n) = n % 2 ^ 63 := by rw [mg_def, lN_tn h]
theorem fo_ok {k : Int64} {z : Int} (hk : k.toInt = z) (h1 : -9218868437227405312 ≤ z) (h2 : z ≤ 9218868437227405312) :
    pM_floatOf k = lN (if z < 0 then (-z).toNat + 2 ^ 63 else z.toNat) ∧ mg (pM_floatOf k) = z.natAbs ∧ decide (pM_floatOf k < 0) = decide (z < 0) := by
  have e : pM_floatOf k = lN (if z < 0 then (-z).toNat + 2 ^ 63 else z.toNat) := by
    show (if (0 : Int64) ≤ k then k else (-k) ||| (-9223372036854775808 : Int64)) = _
    have c : (0 : Int64) ≤ k ↔ 0 ≤ z := by rw [Int64.le_iff_toInt_le, hk]; rfl
    by_cases q : 0 ≤ z
    · rw [if_pos (c.mpr q), if_neg (by omega)]
      apply Int64.toInt_inj.mp
      rw [hk, pk_lT (by omega)]
      omega
    · rw [if_neg (fun u => q (c.mp u)), if_pos (by omega)]
      have en : -k = lN (-z).toNat := by
        apply Int64.toInt_inj.mp
        rw [Int64.toInt_neg, hk, pk_lT (by omega)]
        have : (-z).bmod (2 ^ 64) = -z := Int.bmod_eq_of_le (by omega) (by omega)
        rw [this]
        omega
      rw [en, or_sign (by omega)]
  refine ⟨e, ?_, ?_⟩
  · rw [e]
    by_cases q : z < 0
    · rw [if_pos q, mg_lN (by omega)]; omega
    · rw [if_neg q, mg_lN (by omega)]; omega
  · rw [e]
    by_cases q : z < 0
    · rw [if_pos q, lt0_lN (by omega), decide_eq_true q]; apply decide_eq_true; omega
    · rw [if_neg q, lt0_lN (by omega), decide_eq_false q]; apply decide_eq_false; omega
theorem SV_mul (n : Bool) (a b : Nat) : SV n (a * b) = SV n a * (b : Int) := by
  cases n
  · rw [SV_f, SV_f, Int.natCast_mul]
  · rw [SV_t, SV_t, Int.natCast_mul, Int.neg_mul]
theorem KV_f {z : Int} : SV (decide (z < 0)) (FV z.natAbs) = KV z := by
  unfold KV
  by_cases q : z < 0
  · rw [decide_eq_true q, SV_t, if_pos q]
    have : (-z).toNat = z.natAbs := by omega
    rw [this]
  · rw [decide_eq_false q, SV_f, if_neg q]
    have : z.toNat = z.natAbs := by omega
    rw [this]
section DN
variable (fl : Nat → Int32) (kl : Nat) (fr : Nat → Int32) (kr : Nat) (ng2 : Bool) (fp2 : Nat → Int32) (kp2 : Nat) (fq2 : Nat → Int32) (kq2 : Nat) (ee2 : Int32)
/-- the order of a float and a number -/
theorem or_fl {ng3 : Bool} {fp3 : Nat → Int32} {kp3 : Nat} {fq3 : Nat → Int32} {kq3 : Nat} {ee3 : Int32} {P Q : Nat} {e : Int} (h3 : NU fp3 kp3 fq3 kq3 ee3 P Q e) (hQ : 0 < Q) (hk1 : kq3 ≤ 900) (hk2 : kp3 ≤ 900) (r3 : -90000 ≤ e) (r4 : e ≤ 90000) {k : Int64} {z : Int} (hk : k.toInt = z) (h1 : -9218868437227405312 ≤ z) (h2 : z ≤ 9218868437227405312) :
    pM_orderOf fl kl fr kr (pU_setFloat_0 ng2 fp2 kp2 fq2 kq2 ee2 (pM_floatOf k)) (pU_setFloat_1 ng2 fp2 kp2 fq2 kq2 ee2 (pM_floatOf k)) (pU_setFloat_2 ng2 fp2 kp2 fq2 kq2 ee2 (pM_floatOf k)) (pU_setFloat_3 ng2 fp2 kp2 fq2 kq2 ee2 (pM_floatOf k)) (pU_setFloat_4 ng2 fp2 kp2 fq2 kq2 ee2 (pM_floatOf k)) (pU_setFloat_5 ng2 fp2 kp2 fq2 kq2 ee2 (pM_floatOf k)) ng3 fp3 kp3 fq3 kq3 ee3
      (pU_setFloat_5 ng2 fp2 kp2 fq2 kq2 ee2 (pM_floatOf k) - ee3).toNatClampNeg (ee3 - pU_setFloat_5 ng2 fp2 kp2 fq2 kq2 ee2 (pM_floatOf k)).toNatClampNeg = cmZ (KV z * (Q : Int)) (SV ng3 (P * WW e)) := by
  have f := fo_ok hk h1 h2
  have n2 := sf_NU ng2 fp2 kp2 fq2 kq2 ee2 (pM_floatOf k)
  have l1 := sf_lp ng2 fp2 kp2 fq2 kq2 ee2 (pM_floatOf k)
  have l2 := sf_lq ng2 fp2 kp2 fq2 kq2 ee2 (pM_floatOf k)
  have g1 := exf_ge (pM_floatOf k)
  have g2 := exf_le (pM_floatOf k)
  rw [or_ok fl kl fr kr _ _ _ _ _ _ ng3 fp3 kp3 fq3 kq3 ee3 n2 h3 (by decide) hQ (by omega) (by omega) (by omega) (by omega) r3 r4, sf_nv, f.2.2, Nat.mul_one, Nat.mul_right_comm, ← FV_mg, f.2.1, SV_mul, KV_f]
end DN
section DL
variable {ng3 : Bool} {fp3 : Nat → Int32} {kp3 : Nat} {fq3 : Nat → Int32} {kq3 : Nat} {ee3 : Int32} {P Q : Nat} {e : Int}
theorem dn_loop (h3 : NU fp3 kp3 fq3 kq3 ee3 P Q e) (hQ : 0 < Q) (hk1 : kq3 ≤ 900) (hk2 : kp3 ≤ 900) (r3 : -90000 ≤ e) (r4 : e ≤ 90000) : ∀ (n : Nat) (lo hi : Int64) (a2 : Bool) (a3 : Nat → Int32) (a4 : Nat) (a5 : Nat → Int32) (a6 : Nat) (a7 : Int32) (a8 : Nat → Int32) (a9 : Nat) (a10 : Nat → Int32) (a11 : Nat),
    dnv lo hi n → lo.toInt < hi.toInt → KV lo.toInt * (Q : Int) ≤ SV ng3 (P * WW e) → (hi.toInt < 9218868437227405312 → SV ng3 (P * WW e) < KV hi.toInt * (Q : Int)) →
    ∃ z, (qM_down_71 ng3 ee3 kp3 kq3 fp3 fq3 n lo hi a2 a3 a4 a5 a6 a7 a8 a9 a10 a11).1.toInt = z ∧ lo.toInt ≤ z ∧ z < hi.toInt ∧ KV z * (Q : Int) ≤ SV ng3 (P * WW e) ∧ (z + 1 < 9218868437227405312 → SV ng3 (P * WW e) < KV (z + 1) * (Q : Int)) := by
  intro n
  induction n with
  | zero =>
    intro lo hi a2 a3 a4 a5 a6 a7 a8 a9 a10 a11 hd hlt h1 h2
    have h5 : hi.toInt - lo.toInt ≤ 1 := hd.2.1
    refine ⟨lo.toInt, rfl, by omega, hlt, h1, fun q => ?_⟩
    have : lo.toInt + 1 = hi.toInt := by omega
    rw [this] at q ⊢
    exact h2 q
  | succ n ih =>
    intro lo hi a2 a3 a4 a5 a6 a7 a8 a9 a10 a11 hd hlt h1 h2
    by_cases hc : hi - lo ≤ (1 : Int64)
    · have e0 : qM_down_71 ng3 ee3 kp3 kq3 fp3 fq3 (n + 1) lo hi a2 a3 a4 a5 a6 a7 a8 a9 a10 a11 = (lo, hi, a2, a3, a4, a5, a6, a7, a8, a9, a10, a11) := if_pos hc
      rw [e0]
      have e1 := dnv_sub hd
      rw [Int64.le_iff_toInt_le, e1] at hc
      have h5 : hi.toInt - lo.toInt ≤ 1 := hc
      refine ⟨lo.toInt, rfl, by omega, hlt, h1, fun q => ?_⟩
      have : lo.toInt + 1 = hi.toInt := by omega
      rw [this] at q ⊢
      exact h2 q
    · have e0 : qM_down_71 ng3 ee3 kp3 kq3 fp3 fq3 (n + 1) lo hi a2 a3 a4 a5 a6 a7 a8 a9 a10 a11 = qM_down_71 ng3 ee3 kp3 kq3 fp3 fq3 n (v_M_down_35 ng3 ee3 kp3 kq3 fp3 fq3 n lo hi a2 a3 a4 a5 a6 a7 a8 a9 a10 a11) (v_M_down_36 ng3 ee3 kp3 kq3 fp3 fq3 n lo hi a2 a3 a4 a5 a6 a7 a8 a9 a10 a11) (v_M_down_24 ng3 ee3 kp3 kq3 fp3 fq3 n lo hi a2 a3 a4 a5 a6 a7 a8 a9 a10 a11) (v_M_down_25 ng3 ee3 kp3 kq3 fp3 fq3 n lo hi a2 a3 a4 a5 a6 a7 a8 a9 a10 a11) (v_M_down_26 ng3 ee3 kp3 kq3 fp3 fq3 n lo hi a2 a3 a4 a5 a6 a7 a8 a9 a10 a11) (v_M_down_27 ng3 ee3 kp3 kq3 fp3 fq3 n lo hi a2 a3 a4 a5 a6 a7 a8 a9 a10 a11) (v_M_down_28 ng3 ee3 kp3 kq3 fp3 fq3 n lo hi a2 a3 a4 a5 a6 a7 a8 a9 a10 a11) (v_M_down_29 ng3 ee3 kp3 kq3 fp3 fq3 n lo hi a2 a3 a4 a5 a6 a7 a8 a9 a10 a11) (v_M_down_31 ng3 ee3 kp3 kq3 fp3 fq3 n lo hi a2 a3 a4 a5 a6 a7 a8 a9 a10 a11) (v_M_down_32 ng3 ee3 kp3 kq3 fp3 fq3 n lo hi a2 a3 a4 a5 a6 a7 a8 a9 a10 a11) (v_M_down_33 ng3 ee3 kp3 kq3 fp3 fq3 n lo hi a2 a3 a4 a5 a6 a7 a8 a9 a10 a11) (v_M_down_34 ng3 ee3 kp3 kq3 fp3 fq3 n lo hi a2 a3 a4 a5 a6 a7 a8 a9 a10 a11) := if_neg hc
      have hm := dnv_mid hd
      have hs := dnv_s (p := 0 < (v_M_down_30 ng3 ee3 kp3 kq3 fp3 fq3 n lo hi a2 a3 a4 a5 a6 a7 a8 a9 a10 a11)) hd hc
      have e1 := dnv_sub hd
      have hc2 : ¬ hi.toInt - lo.toInt ≤ 1 := by
        intro q
        apply hc
        rw [Int64.le_iff_toInt_le, e1]
        exact q
      obtain ⟨b1, b2, b3, b4, b5⟩ := hd
      have ho : (v_M_down_30 ng3 ee3 kp3 kq3 fp3 fq3 n lo hi a2 a3 a4 a5 a6 a7 a8 a9 a10 a11) = cmZ (KV (lo.toInt + (hi.toInt - lo.toInt) / 2) * (Q : Int)) (SV ng3 (P * WW e)) :=
        or_fl a8 a9 a10 a11 a2 a3 a4 a5 a6 a7 h3 hQ hk1 hk2 r3 r4 hm (by omega) (by omega)
      have e35 : (v_M_down_35 ng3 ee3 kp3 kq3 fp3 fq3 n lo hi a2 a3 a4 a5 a6 a7 a8 a9 a10 a11) = if 0 < (v_M_down_30 ng3 ee3 kp3 kq3 fp3 fq3 n lo hi a2 a3 a4 a5 a6 a7 a8 a9 a10 a11) then lo else lo + (hi - lo) / 2 := rfl
      have e36 : (v_M_down_36 ng3 ee3 kp3 kq3 fp3 fq3 n lo hi a2 a3 a4 a5 a6 a7 a8 a9 a10 a11) = if 0 < (v_M_down_30 ng3 ee3 kp3 kq3 fp3 fq3 n lo hi a2 a3 a4 a5 a6 a7 a8 a9 a10 a11) then lo + (hi - lo) / 2 else hi := rfl
      rw [← e35, ← e36] at hs
      have hp := cmZ_pos (a := KV (lo.toInt + (hi.toInt - lo.toInt) / 2) * (Q : Int)) (b := SV ng3 (P * WW e))
      have key : lo.toInt ≤ (v_M_down_35 ng3 ee3 kp3 kq3 fp3 fq3 n lo hi a2 a3 a4 a5 a6 a7 a8 a9 a10 a11).toInt ∧ (v_M_down_35 ng3 ee3 kp3 kq3 fp3 fq3 n lo hi a2 a3 a4 a5 a6 a7 a8 a9 a10 a11).toInt < (v_M_down_36 ng3 ee3 kp3 kq3 fp3 fq3 n lo hi a2 a3 a4 a5 a6 a7 a8 a9 a10 a11).toInt ∧ (v_M_down_36 ng3 ee3 kp3 kq3 fp3 fq3 n lo hi a2 a3 a4 a5 a6 a7 a8 a9 a10 a11).toInt ≤ hi.toInt ∧ KV (v_M_down_35 ng3 ee3 kp3 kq3 fp3 fq3 n lo hi a2 a3 a4 a5 a6 a7 a8 a9 a10 a11).toInt * (Q : Int) ≤ SV ng3 (P * WW e) ∧ ((v_M_down_36 ng3 ee3 kp3 kq3 fp3 fq3 n lo hi a2 a3 a4 a5 a6 a7 a8 a9 a10 a11).toInt < 9218868437227405312 → SV ng3 (P * WW e) < KV (v_M_down_36 ng3 ee3 kp3 kq3 fp3 fq3 n lo hi a2 a3 a4 a5 a6 a7 a8 a9 a10 a11).toInt * (Q : Int)) := by
        rw [e35, e36, ho]
        by_cases w : SV ng3 (P * WW e) < KV (lo.toInt + (hi.toInt - lo.toInt) / 2) * (Q : Int)
        · rw [if_pos (hp.mpr w), if_pos (hp.mpr w), hm]
          exact ⟨by omega, by omega, by omega, h1, fun _ => w⟩
        · rw [if_neg (fun u => w (hp.mp u)), if_neg (fun u => w (hp.mp u)), hm]
          exact ⟨by omega, by omega, by omega, by omega, h2⟩
      clear e35 e36 ho hp hm
      rw [e0]
      clear e0
      obtain ⟨k1, k2, k3, k4, k5⟩ := key
      obtain ⟨z, z1, z2, z3, z4, z5⟩ := ih (v_M_down_35 ng3 ee3 kp3 kq3 fp3 fq3 n lo hi a2 a3 a4 a5 a6 a7 a8 a9 a10 a11) (v_M_down_36 ng3 ee3 kp3 kq3 fp3 fq3 n lo hi a2 a3 a4 a5 a6 a7 a8 a9 a10 a11) (v_M_down_24 ng3 ee3 kp3 kq3 fp3 fq3 n lo hi a2 a3 a4 a5 a6 a7 a8 a9 a10 a11) (v_M_down_25 ng3 ee3 kp3 kq3 fp3 fq3 n lo hi a2 a3 a4 a5 a6 a7 a8 a9 a10 a11) (v_M_down_26 ng3 ee3 kp3 kq3 fp3 fq3 n lo hi a2 a3 a4 a5 a6 a7 a8 a9 a10 a11) (v_M_down_27 ng3 ee3 kp3 kq3 fp3 fq3 n lo hi a2 a3 a4 a5 a6 a7 a8 a9 a10 a11) (v_M_down_28 ng3 ee3 kp3 kq3 fp3 fq3 n lo hi a2 a3 a4 a5 a6 a7 a8 a9 a10 a11) (v_M_down_29 ng3 ee3 kp3 kq3 fp3 fq3 n lo hi a2 a3 a4 a5 a6 a7 a8 a9 a10 a11) (v_M_down_31 ng3 ee3 kp3 kq3 fp3 fq3 n lo hi a2 a3 a4 a5 a6 a7 a8 a9 a10 a11) (v_M_down_32 ng3 ee3 kp3 kq3 fp3 fq3 n lo hi a2 a3 a4 a5 a6 a7 a8 a9 a10 a11) (v_M_down_33 ng3 ee3 kp3 kq3 fp3 fq3 n lo hi a2 a3 a4 a5 a6 a7 a8 a9 a10 a11) (v_M_down_34 ng3 ee3 kp3 kq3 fp3 fq3 n lo hi a2 a3 a4 a5 a6 a7 a8 a9 a10 a11) hs k2 k4 k5
      clear ih hs
      exact ⟨z, z1, Int.le_trans k1 z2, Int.lt_of_lt_of_le z3 k3, z4, z5⟩
end DL

