theorem CE_pos {M a b : Nat} (h : CE M a b) (ha : 0 < a) : 0 < M := by
  refine Nat.pos_of_ne_zero (fun z => ?_)
  have := h.2.1 (by rw [z]; decide)
  rw [z, FV_0, Nat.zero_mul] at this
  omega
section DO
variable (fl : Nat → Int32) (kl : Nat) (fr : Nat → Int32) (kr : Nat) (ng2 : Bool) (fp2 : Nat → Int32) (kp2 : Nat) (fq2 : Nat → Int32) (kq2 : Nat) (ee2 : Int32) (ng3 : Bool) (fp3 : Nat → Int32) (kp3 : Nat) (fq3 : Nat → Int32) (kq3 : Nat) (ee3 : Int32) {P Q : Nat} {e : Int}
theorem dn_ok (h3 : NU fp3 kp3 fq3 kq3 ee3 P Q e) (hQ : 0 < Q) (hk1 : kq3 ≤ 900) (hk2 : kp3 ≤ 900) (r3 : -90000 ≤ e) (r4 : e ≤ 90000) :
    (¬ (ng3 = true ∧ P ≠ 0) → ∃ M, pM_down fl kl fr kr ng2 fp2 kp2 fq2 kq2 ee2 ng3 fp3 kp3 fq3 kq3 ee3 = lN M ∧ FL M (P * WW e) Q) ∧ (ng3 = true ∧ P ≠ 0 → ∃ M, pM_down fl kl fr kr ng2 fp2 kp2 fq2 kq2 ee2 ng3 fp3 kp3 fq3 kq3 ee3 = lN (M + 2 ^ 63) ∧ CE M (P * WW e) Q) := by
  have hW := WW_pos e
  have s3 : (v_M_down_1 fl kl fr kr ng2 fp2 kp2 fq2 kq2 ee2 ng3 fp3 kp3 fq3 kq3 ee3) = if P = 0 then 0 else if ng3 = true then -1 else 1 := sgn_ok (ng := ng3) h3 (by omega)
  have e2 : (v_M_down_2 fl kl fr kr ng2 fp2 kp2 fq2 kq2 ee2 ng3 fp3 kp3 fq3 kq3 ee3) = decide (ng3 = true ∧ P ≠ 0) := by
    show (if (0 : Int32) ≤ (v_M_down_1 fl kl fr kr ng2 fp2 kp2 fq2 kq2 ee2 ng3 fp3 kp3 fq3 kq3 ee3) then false else true) = _
    rw [s3]
    by_cases p : P = 0
    · rw [if_pos p, if_pos (by decide)]; symm; apply decide_eq_false; exact fun z => z.2 p
    · rw [if_neg p]
      cases ng3 with
      | true => rw [if_pos rfl, if_neg (by decide)]; symm; exact decide_eq_true ⟨rfl, p⟩
      | false => rw [if_neg (show ¬ (false = true) by decide), if_pos (by decide)]; symm; apply decide_eq_false; exact fun z => absurd z.1 (by decide)
  have d0 : pM_down fl kl fr kr ng2 fp2 kp2 fq2 kq2 ee2 ng3 fp3 kp3 fq3 kq3 ee3 = if (v_M_down_2 fl kl fr kr ng2 fp2 kp2 fq2 kq2 ee2 ng3 fp3 kp3 fq3 kq3 ee3) = true then (if (v_M_down_37 fl kl fr kr ng2 fp2 kp2 fq2 kq2 ee2 ng3 fp3 kp3 fq3 kq3 ee3) ≤ 0 then pM_floatOf (v_M_down_42 fl kl fr kr ng2 fp2 kp2 fq2 kq2 ee2 ng3 fp3 kp3 fq3 kq3 ee3) else (-4503599627370496 : Int64)) else pM_floatOf (v_M_down_11 fl kl fr kr ng2 fp2 kp2 fq2 kq2 ee2 ng3 fp3 kp3 fq3 kq3 ee3) := rfl
  have e3 : (v_M_down_3 fl kl fr kr ng2 fp2 kp2 fq2 kq2 ee2 ng3 fp3 kp3 fq3 kq3 ee3) = if (v_M_down_2 fl kl fr kr ng2 fp2 kp2 fq2 kq2 ee2 ng3 fp3 kp3 fq3 kq3 ee3) = true then (-9218868437227405311 : Int64) else (0 : Int64) := rfl
  have e4 : (v_M_down_4 fl kl fr kr ng2 fp2 kp2 fq2 kq2 ee2 ng3 fp3 kp3 fq3 kq3 ee3) = if (v_M_down_2 fl kl fr kr ng2 fp2 kp2 fq2 kq2 ee2 ng3 fp3 kp3 fq3 kq3 ee3) = true then (0 : Int64) else (9218868437227405312 : Int64) := rfl
  have z0 : (0 : Int64).toInt = 0 := rfl
  have zI : (9218868437227405312 : Int64).toInt = 9218868437227405312 := rfl
  have zG : (-9218868437227405311 : Int64).toInt = -9218868437227405311 := rfl
  refine ⟨fun hn => ?_, fun hn => ?_⟩
  · have c2 : ¬ (v_M_down_2 fl kl fr kr ng2 fp2 kp2 fq2 kq2 ee2 ng3 fp3 kp3 fq3 kq3 ee3) = true := by rw [e2, decide_eq_false hn]; decide
    rw [if_neg c2] at e3 e4
    have hR : SV ng3 (P * WW e) = ((P * WW e : Nat) : Int) := by
      cases ng3 with
      | false => rfl
      | true =>
        have : P = 0 := Decidable.byContradiction (fun z => hn ⟨rfl, z⟩)
        rw [this, Nat.zero_mul, SV_0]; rfl
    obtain ⟨z, z1, z2, z3, z4, z5⟩ := dn_loop (ng3 := ng3) h3 hQ hk1 hk2 r3 r4 63 (v_M_down_3 fl kl fr kr ng2 fp2 kp2 fq2 kq2 ee2 ng3 fp3 kp3 fq3 kq3 ee3) (v_M_down_4 fl kl fr kr ng2 fp2 kp2 fq2 kq2 ee2 ng3 fp3 kp3 fq3 kq3 ee3) (v_M_down_5 fl kl fr kr ng2 fp2 kp2 fq2 kq2 ee2 ng3 fp3 kp3 fq3 kq3 ee3) (v_M_down_6 fl kl fr kr ng2 fp2 kp2 fq2 kq2 ee2 ng3 fp3 kp3 fq3 kq3 ee3) (v_M_down_7 fl kl fr kr ng2 fp2 kp2 fq2 kq2 ee2 ng3 fp3 kp3 fq3 kq3 ee3) (v_M_down_8 fl kl fr kr ng2 fp2 kp2 fq2 kq2 ee2 ng3 fp3 kp3 fq3 kq3 ee3) (v_M_down_9 fl kl fr kr ng2 fp2 kp2 fq2 kq2 ee2 ng3 fp3 kp3 fq3 kq3 ee3) (v_M_down_10 fl kl fr kr ng2 fp2 kp2 fq2 kq2 ee2 ng3 fp3 kp3 fq3 kq3 ee3) fl kl fr kr (by rw [e3, e4]; exact dnv_init (p := False)) (by rw [e3, e4]; decide)
      (by rw [e3, z0, hR]; unfold KV; rw [if_neg (by decide)]; show ((FV 0 : Nat) : Int) * _ ≤ _; rw [FV_0]; simp; exact_mod_cast Nat.zero_le _) (by rw [e4, zI]; intro q; exact absurd q (by decide))
    rw [e3, z0] at z2
    rw [e4, zI] at z3
    have e11 : ((v_M_down_11 fl kl fr kr ng2 fp2 kp2 fq2 kq2 ee2 ng3 fp3 kp3 fq3 kq3 ee3)).toInt = z := z1
    obtain ⟨f1, -, -⟩ := fo_ok e11 (by omega) (by omega)
    refine ⟨z.toNat, ?_, ?_, ?_, ?_⟩
    · rw [d0, if_neg c2, f1, if_neg (by omega)]
    · unfold IM; omega
    · unfold KV at z4
      rw [if_neg (by omega), hR] at z4
      exact_mod_cast z4
    · intro q
      unfold IM at q
      have := z5 (by omega)
      unfold KV at this
      rw [if_neg (by omega), hR] at this
      have e5 : (z + 1).toNat = z.toNat + 1 := by omega
      rw [e5] at this
      exact_mod_cast this
  · have c2 : (v_M_down_2 fl kl fr kr ng2 fp2 kp2 fq2 kq2 ee2 ng3 fp3 kp3 fq3 kq3 ee3) = true := by rw [e2, decide_eq_true hn]
    rw [if_pos c2] at e3 e4
    have hR : SV ng3 (P * WW e) = -((P * WW e : Nat) : Int) := by rw [hn.1]; rfl
    have hP : 0 < P * WW e := Nat.mul_pos (by omega) hW
    have ho : (v_M_down_37 fl kl fr kr ng2 fp2 kp2 fq2 kq2 ee2 ng3 fp3 kp3 fq3 kq3 ee3) = cmZ (KV (-9218868437227405311) * (Q : Int)) (SV ng3 (P * WW e)) :=
      or_fl fl kl fr kr ng2 fp2 kp2 fq2 kq2 ee2 h3 hQ hk1 hk2 r3 r4 zG (by decide) (by decide)
    have hKG : KV (-9218868437227405311) = -((FV (IM - 1) : Nat) : Int) := by unfold KV; rw [if_pos (by decide)]; rfl
    have hle := cmZ_le (a := KV (-9218868437227405311) * (Q : Int)) (b := SV ng3 (P * WW e))
    by_cases w : KV (-9218868437227405311) * (Q : Int) ≤ SV ng3 (P * WW e)
    · obtain ⟨z, z1, z2, z3, z4, z5⟩ := dn_loop (ng3 := ng3) h3 hQ hk1 hk2 r3 r4 63 (v_M_down_3 fl kl fr kr ng2 fp2 kp2 fq2 kq2 ee2 ng3 fp3 kp3 fq3 kq3 ee3) (v_M_down_4 fl kl fr kr ng2 fp2 kp2 fq2 kq2 ee2 ng3 fp3 kp3 fq3 kq3 ee3) (v_M_down_5 fl kl fr kr ng2 fp2 kp2 fq2 kq2 ee2 ng3 fp3 kp3 fq3 kq3 ee3) (v_M_down_6 fl kl fr kr ng2 fp2 kp2 fq2 kq2 ee2 ng3 fp3 kp3 fq3 kq3 ee3) (v_M_down_7 fl kl fr kr ng2 fp2 kp2 fq2 kq2 ee2 ng3 fp3 kp3 fq3 kq3 ee3) (v_M_down_8 fl kl fr kr ng2 fp2 kp2 fq2 kq2 ee2 ng3 fp3 kp3 fq3 kq3 ee3) (v_M_down_9 fl kl fr kr ng2 fp2 kp2 fq2 kq2 ee2 ng3 fp3 kp3 fq3 kq3 ee3) (v_M_down_10 fl kl fr kr ng2 fp2 kp2 fq2 kq2 ee2 ng3 fp3 kp3 fq3 kq3 ee3) (v_M_down_38 fl kl fr kr ng2 fp2 kp2 fq2 kq2 ee2 ng3 fp3 kp3 fq3 kq3 ee3) (v_M_down_39 fl kl fr kr ng2 fp2 kp2 fq2 kq2 ee2 ng3 fp3 kp3 fq3 kq3 ee3) (v_M_down_40 fl kl fr kr ng2 fp2 kp2 fq2 kq2 ee2 ng3 fp3 kp3 fq3 kq3 ee3) (v_M_down_41 fl kl fr kr ng2 fp2 kp2 fq2 kq2 ee2 ng3 fp3 kp3 fq3 kq3 ee3) (by rw [e3, e4]; exact dnv_init (p := True)) (by rw [e3, e4]; decide)
        (by rw [e3, zG]; exact w) (by rw [e4, z0, hR]; intro _; unfold KV; rw [if_neg (by decide)]; show _ < ((FV 0 : Nat) : Int) * _; rw [FV_0]; omega)
      rw [e3, zG] at z2
      rw [e4, z0] at z3
      have e42 : ((v_M_down_42 fl kl fr kr ng2 fp2 kp2 fq2 kq2 ee2 ng3 fp3 kp3 fq3 kq3 ee3)).toInt = z := z1
      obtain ⟨f1, -, -⟩ := fo_ok e42 (by omega) (by omega)
      refine ⟨(-z).toNat, ?_, ?_, ?_, ?_⟩
      · rw [d0, if_pos c2, ho, if_pos (hle.mpr w), f1, if_pos (by omega)]
      · unfold IM; omega
      · intro _
        unfold KV at z4
        rw [if_pos (by omega), hR, Int.neg_mul] at z4
        have := Int.neg_le_neg_iff.mp z4
        exact_mod_cast this
      · intro N hN
        have := z5 (by omega)
        unfold KV at this
        by_cases q : z + 1 < 0
        · rw [if_pos q, hR, Int.neg_mul] at this
          have e5 : (-(z + 1)).toNat = N := by omega
          rw [e5] at this
          have := Int.neg_lt_neg_iff.mp this
          exact_mod_cast this
        · have e5 : N = 0 := by omega
          rw [e5, FV_0, Nat.zero_mul]; exact hP
    · refine ⟨IM, ?_, Nat.le_refl _, fun q => absurd q (by decide), fun N hN => ?_⟩
      · rw [d0, if_pos c2, ho, if_neg (fun u => w (hle.mp u))]; decide
      · have e5 : N = IM - 1 := by omega
        rw [hKG, hR, Int.neg_mul] at w
        rw [e5]
        have : ¬ ((P * WW e : Nat) : Int) ≤ ((FV (IM - 1) : Nat) : Int) * (Q : Int) := fun u => w (Int.neg_le_neg u)
        have h8 : ¬ P * WW e ≤ FV (IM - 1) * Q := fun u => this (by exact_mod_cast u)
        omega
end DO
theorem xor_lN {n : Nat} (h : n < 2 ^ 64) : lN n ^^^ (-9223372036854775808 : Int64) = lN (if n < 2 ^ 63 then n + 2 ^ 63 else n - 2 ^ 63) := by
  apply l_eq
  have e0 : (lN n ^^^ (-9223372036854775808 : Int64)).toBitVec.toNat = n ^^^ 2 ^ 63 := by
    show ((lN n).toBitVec ^^^ (-9223372036854775808 : Int64).toBitVec).toNat = _
    rw [BitVec.toNat_xor, lN_tn h]
    rfl
  rw [e0]
  by_cases w : n < 2 ^ 63
  · rw [if_pos w, Nat.xor_comm, ← xor_min w]; omega
  · rw [if_neg w]
    have := xor_min (r := n - 2 ^ 63) (by omega)
    have e3 : n = 2 ^ 63 ^^^ (n - 2 ^ 63) := by rw [← this]; omega
    rw [Nat.xor_comm]
    conv => lhs; rw [e3]
    rw [← Nat.xor_assoc, Nat.xor_self, Nat.zero_xor]
theorem min_ok {n : Nat} (h : n < 2 ^ 64) : pM_minus (lN n) = if n = 0 then 0 else lN (if n < 2 ^ 63 then n + 2 ^ 63 else n - 2 ^ 63) := by
  show (if lN n = (0 : Int64) then (0 : Int64) else lN n ^^^ (-9223372036854775808 : Int64)) = _
  have q : lN n = (0 : Int64) ↔ n = 0 := lN_inj (a := n) (b := 0) h (by decide)
  by_cases w : n = 0
  · rw [if_pos (q.mpr w), if_pos w]
  · rw [if_neg (fun z => w (q.mp z)), if_neg w, xor_lN h]
theorem sgM_f {M : Nat} : sgM M false = lN M := by
  unfold sgM
  by_cases w : M = 0
  · rw [if_pos w, w]; rfl
  · rw [if_neg w]; rfl
theorem sgM_t {M : Nat} (h : M < 2 ^ 63) (h0 : 0 < M) : sgM M true = lN (M + 2 ^ 63) := by
  unfold sgM
  rw [if_neg (by omega), ws_ok h, if_pos rfl]
theorem IM_lt : IM < 2 ^ 63 := by decide
theorem FL_0 {b : Nat} (hb : 0 < b) : FL 0 0 b := ex_FL hb (by decide) (by rw [FV_0, Nat.zero_mul])
theorem CE_0 {b : Nat} (hb : 0 < b) : CE 0 0 b := ex_CE hb (by decide) (by rw [FV_0, Nat.zero_mul])
section RO
variable (fl : Nat → Int32) (kl : Nat) (fr : Nat → Int32) (kr : Nat) (ng2 : Bool) (fp2 : Nat → Int32) (kp2 : Nat) (fq2 : Nat → Int32) (kq2 : Nat) (ee2 : Int32) (ng4 : Bool) (fp4 : Nat → Int32) (kp4 : Nat) (fq4 : Nat → Int32) (kq4 : Nat) (ee4 : Int32) (ng3 : Bool) (fp3 : Nat → Int32) (kp3 : Nat) (fq3 : Nat → Int32) (kq3 : Nat) (ee3 : Int32) {P Q : Nat} {e : Int}
theorem dn_ok2 (h3 : NU fp3 kp3 fq3 kq3 ee3 P Q e) (hQ : 0 < Q) (hk1 : kq3 ≤ 900) (hk2 : kp3 ≤ 900) (r3 : -90000 ≤ e) (r4 : e ≤ 90000) :
    ∃ M, M ≤ IM ∧ pM_down fl kl fr kr ng2 fp2 kp2 fq2 kq2 ee2 ng3 fp3 kp3 fq3 kq3 ee3 = sgM M ng3 ∧ (ng3 = false → FL M (P * WW e) Q) ∧ (ng3 = true → CE M (P * WW e) Q) := by
  obtain ⟨d1, d2⟩ := dn_ok fl kl fr kr ng2 fp2 kp2 fq2 kq2 ee2 ng3 fp3 kp3 fq3 kq3 ee3 h3 hQ hk1 hk2 r3 r4
  have hI := IM_lt
  by_cases p : P = 0
  · obtain ⟨M, m1, m2⟩ := d1 (fun z => z.2 p)
    rw [p, Nat.zero_mul] at m2 ⊢
    have := FL_un m2 (FL_0 hQ)
    subst this
    refine ⟨0, Nat.zero_le _, by rw [m1, sgM_0]; rfl, fun _ => m2, fun _ => CE_0 hQ⟩
  · have hp : 0 < P * WW e := Nat.mul_pos (by omega) (WW_pos e)
    cases ng3 with
    | false =>
      obtain ⟨M, m1, m2⟩ := d1 (fun z => absurd z.1 (by decide))
      exact ⟨M, Nat.le_of_lt m2.1, by rw [m1, sgM_f], fun _ => m2, fun z => absurd z (by decide)⟩
    | true =>
      obtain ⟨M, m1, m2⟩ := d2 ⟨rfl, p⟩
      have hm := m2.1
      exact ⟨M, hm, by rw [m1, sgM_t (by omega) (CE_pos m2 hp)], fun z => absurd z (by decide), fun _ => m2⟩
theorem up_ok (h3 : NU fp3 kp3 fq3 kq3 ee3 P Q e) (hQ : 0 < Q) (hk1 : kq3 ≤ 900) (hk2 : kp3 ≤ 900) (r3 : -90000 ≤ e) (r4 : e ≤ 90000) :
    ∃ M, M ≤ IM ∧ pM_up fl kl fr kr ng2 fp2 kp2 fq2 kq2 ee2 ng4 fp4 kp4 fq4 kq4 ee4 ng3 fp3 kp3 fq3 kq3 ee3 = sgM M ng3 ∧ (ng3 = true → FL M (P * WW e) Q) ∧ (ng3 = false → CE M (P * WW e) Q) := by
  have e7 : v_M_up_7 fl kl fr kr ng2 fp2 kp2 fq2 kq2 ee2 ng4 fp4 kp4 fq4 kq4 ee4 ng3 fp3 kp3 fq3 kq3 ee3 = !ng3 := by cases ng3 <;> rfl
  have n5 := cp_NU ng4 fp4 kp4 fq4 kq4 ee4 (ng2 := ng3) h3
  have d0 : pM_up fl kl fr kr ng2 fp2 kp2 fq2 kq2 ee2 ng4 fp4 kp4 fq4 kq4 ee4 ng3 fp3 kp3 fq3 kq3 ee3 = pM_minus (pM_down fl kl fr kr ng2 fp2 kp2 fq2 kq2 ee2 (v_M_up_7 fl kl fr kr ng2 fp2 kp2 fq2 kq2 ee2 ng4 fp4 kp4 fq4 kq4 ee4 ng3 fp3 kp3 fq3 kq3 ee3) (pU_copy_1 ng4 fp4 kp4 fq4 kq4 ee4 ng3 fp3 kp3 fq3 kq3 ee3) (pU_copy_2 ng4 fp4 kp4 fq4 kq4 ee4 ng3 fp3 kp3 fq3 kq3 ee3) (pU_copy_3 ng4 fp4 kp4 fq4 kq4 ee4 ng3 fp3 kp3 fq3 kq3 ee3) (pU_copy_4 ng4 fp4 kp4 fq4 kq4 ee4 ng3 fp3 kp3 fq3 kq3 ee3) (pU_copy_5 ng4 fp4 kp4 fq4 kq4 ee4 ng3 fp3 kp3 fq3 kq3 ee3)) := rfl
  have hI := IM_lt
  rw [d0, e7]
  obtain ⟨d1, d2⟩ := dn_ok fl kl fr kr ng2 fp2 kp2 fq2 kq2 ee2 (!ng3) (pU_copy_1 ng4 fp4 kp4 fq4 kq4 ee4 ng3 fp3 kp3 fq3 kq3 ee3) (pU_copy_2 ng4 fp4 kp4 fq4 kq4 ee4 ng3 fp3 kp3 fq3 kq3 ee3) (pU_copy_3 ng4 fp4 kp4 fq4 kq4 ee4 ng3 fp3 kp3 fq3 kq3 ee3) (pU_copy_4 ng4 fp4 kp4 fq4 kq4 ee4 ng3 fp3 kp3 fq3 kq3 ee3) (pU_copy_5 ng4 fp4 kp4 fq4 kq4 ee4 ng3 fp3 kp3 fq3 kq3 ee3) n5 hQ (by exact hk1) (by exact hk2) r3 r4
  by_cases p : P = 0
  · obtain ⟨M, m1, m2⟩ := d1 (fun z => z.2 p)
    rw [p, Nat.zero_mul] at m2 ⊢
    have := FL_un m2 (FL_0 hQ)
    subst this
    refine ⟨0, Nat.zero_le _, by rw [m1, sgM_0]; decide, fun _ => m2, fun _ => CE_0 hQ⟩
  · have hp : 0 < P * WW e := Nat.mul_pos (by omega) (WW_pos e)
    cases ng3 with
    | true =>
      obtain ⟨M, m1, m2⟩ := d1 (fun z => absurd z.1 (by decide))
      have hm := m2.1
      refine ⟨M, Nat.le_of_lt m2.1, ?_, fun _ => m2, fun z => absurd z (by decide)⟩
      rw [m1, min_ok (by omega)]
      by_cases w : M = 0
      · rw [if_pos w, w, sgM_0]
      · rw [if_neg w, if_pos (by omega), sgM_t (by omega) (by omega)]
    | false =>
      obtain ⟨M, m1, m2⟩ := d2 ⟨rfl, p⟩
      have hm := m2.1
      have h0 := CE_pos m2 hp
      refine ⟨M, hm, ?_, fun z => absurd z (by decide), fun _ => m2⟩
      rw [m1, min_ok (by omega), if_neg (by omega), if_neg (by omega), sgM_f, Nat.add_sub_cancel]
theorem rd_ok (up : Bool) (h3 : NU fp3 kp3 fq3 kq3 ee3 P Q e) (hQ : 0 < Q) (hk1 : kq3 ≤ 900) (hk2 : kp3 ≤ 900) (r3 : -90000 ≤ e) (r4 : e ≤ 90000) :
    ∃ M, M ≤ IM ∧ pM_round fl kl fr kr ng2 fp2 kp2 fq2 kq2 ee2 ng4 fp4 kp4 fq4 kq4 ee4 ng3 fp3 kp3 fq3 kq3 ee3 up = sgM M ng3 ∧ (up = ng3 → FL M (P * WW e) Q) ∧ (up ≠ ng3 → CE M (P * WW e) Q) := by
  cases up with
  | true =>
    obtain ⟨M, m1, m2, m3, m4⟩ := up_ok fl kl fr kr ng2 fp2 kp2 fq2 kq2 ee2 ng4 fp4 kp4 fq4 kq4 ee4 ng3 fp3 kp3 fq3 kq3 ee3 h3 hQ hk1 hk2 r3 r4
    refine ⟨M, m1, m2, fun z => m3 z.symm, fun z => m4 ?_⟩
    cases ng3
    · rfl
    · exact absurd rfl z
  | false =>
    obtain ⟨M, m1, m2, m3, m4⟩ := dn_ok2 fl kl fr kr ng2 fp2 kp2 fq2 kq2 ee2 ng3 fp3 kp3 fq3 kq3 ee3 h3 hQ hk1 hk2 r3 r4
    refine ⟨M, m1, m2, fun z => m3 z.symm, fun z => m4 ?_⟩
    cases ng3
    · exact absurd rfl z
    · rfl
end RO
/-- what the class and the reference round alike is the same -/
theorem RD_eq {M N a b a2 b2 : Nat} {ng up : Bool} (h : RD (pF_direction up) ng M a b) (hf : up = ng → FL N a2 b2) (hc : up ≠ ng → CE N a2 b2) (e : a * b2 = a2 * b) (hb : 0 < b) (hb2 : 0 < b2) : M = N := by
  have sc : ∀ K x y c : Nat, 0 < c → (FL K (x * c) (y * c) ↔ FL K x y) ∧ (CE K (x * c) (y * c) ↔ CE K x y) := by
    intro K x y c hc0
    have e1 : ∀ v : Nat, v * (y * c) = v * y * c := fun v => (Nat.mul_assoc _ _ _).symm
    have l1 : ∀ v : Nat, v * (y * c) ≤ x * c ↔ v * y ≤ x := fun v => by rw [e1]; exact ⟨fun h => Nat.le_of_mul_le_mul_right h hc0, fun h => Nat.mul_le_mul_right _ h⟩
    have l2 : ∀ v : Nat, x * c < v * (y * c) ↔ x < v * y := fun v => by rw [e1]; exact ⟨fun h => Nat.lt_of_mul_lt_mul_right h, fun h => Nat.mul_lt_mul_of_pos_right h hc0⟩
    have l3 : ∀ v : Nat, x * c ≤ v * (y * c) ↔ x ≤ v * y := fun v => by rw [e1]; exact ⟨fun h => Nat.le_of_mul_le_mul_right h hc0, fun h => Nat.mul_le_mul_right _ h⟩
    have l4 : ∀ v : Nat, v * (y * c) < x * c ↔ v * y < x := fun v => by rw [e1]; exact ⟨fun h => Nat.lt_of_mul_lt_mul_right h, fun h => Nat.mul_lt_mul_of_pos_right h hc0⟩
    unfold FL CE
    constructor
    · rw [l1, l2]
    · rw [l3]
      constructor
      · exact fun h => ⟨h.1, h.2.1, fun N hN => (l4 _).mp (h.2.2 N hN)⟩
      · exact fun h => ⟨h.1, h.2.1, fun N hN => (l4 _).mpr (h.2.2 N hN)⟩
  have e2 : a2 * b = a * b2 := e.symm
  have e3 : b2 * b = b * b2 := Nat.mul_comm _ _
  by_cases q : up = ng
  · have h1 := h.2.1 (by rw [q]; cases ng <;> rfl)
    have h2 := (sc N a2 b2 b hb).1.mpr (hf q)
    rw [e2, e3] at h2
    exact FL_un h1 ((sc N a b b2 hb2).1.mp h2)
  · have h1 := h.2.2.1 (by cases up <;> cases ng <;> first | rfl | exact absurd rfl q)
    have h2 := (sc N a2 b2 b hb).2.mpr (hc q)
    rw [e2, e3] at h2
    exact CE_un h1 ((sc N a b b2 hb2).2.mp h2)

