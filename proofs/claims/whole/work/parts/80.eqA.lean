section EA
variable (hi lo : Int64) (ep : Int32) (nz gz : Bool) (hj lj : Int64) (ej : Int32) (nj gj : Bool) (fl : Nat → Int32) (kl : Nat) (fr : Nat → Int32) (kr : Nat) (ng2 : Bool) (fp2 : Nat → Int32) (kp2 : Nat) (fq2 : Nat → Int32) (kq2 : Nat) (ee2 : Int32) (ng4 : Bool) (fp4 : Nat → Int32) (kp4 : Nat) (fq4 : Nat → Int32) (kq4 : Nat) (ee4 : Int32) (ng6 : Bool) (fp6 : Nat → Int32) (kp6 : Nat) (fq6 : Nat → Int32) (kq6 : Nat) (ee6 : Int32) (ng7 : Bool) (fp7 : Nat → Int32) (kp7 : Nat) (fq7 : Nat → Int32) (kq7 : Nat) (ee7 : Int32) (ng8 : Bool) (fp8 : Nat → Int32) (kp8 : Nat) (fq8 : Nat → Int32) (kq8 : Nat) (ee8 : Int32) (x y : Int64) (up : Bool)
theorem inf_self {x : Int64} (h : pM_isInfinite x = true) : pM_infinity (decide (x < 0)) = x := by
  rw [minf_ok] at h
  have hm := of_decide_eq_true h
  have hb := bt_ok x
  rw [hm] at hb
  by_cases q : x < 0
  · rw [if_pos q] at hb
    rw [decide_eq_true q, hb]; decide
  · rw [if_neg q] at hb
    rw [decide_eq_false q, hb]; decide
theorem ad_in : pF_scaledSum hi lo ep nz gz hj lj ej nj gj x (4607182418800017408 : Int64) y (0 : Int32) (pF_direction up) = (v_M_add_22 fl kl fr kr ng2 fp2 kp2 fq2 kq2 ee2 ng4 fp4 kp4 fq4 kq4 ee4 ng6 fp6 kp6 fq6 kq6 ee6 ng7 fp7 kp7 fq7 kq7 ee7 ng8 fp8 kp8 fq8 kq8 ee8 x y up) := by
  have g1 := exf_ge x
  have g2 := exf_le x
  have g3 := exf_ge y
  have g4 := exf_le y
  have n6 := sf_NU ng6 fp6 kp6 fq6 kq6 ee6 x
  have n7 := sf_NU ng7 fp7 kp7 fq7 kq7 ee7 y
  have a1 := sf_lp ng6 fp6 kp6 fq6 kq6 ee6 x
  have a2 := sf_lq ng6 fp6 kp6 fq6 kq6 ee6 x
  have a3 := sf_lp ng7 fp7 kp7 fq7 kq7 ee7 y
  have a4 := sf_lq ng7 fp7 kp7 fq7 kq7 ee7 y
  have ho : decide ((4607182418800017408 : Int64) < 0) = false := by decide
  exact fs_eq hi lo ep nz gz hj lj ej nj gj fl kl fr kr ng2 fp2 kp2 fq2 kq2 ee2 ng4 fp4 kp4 fq4 kq4 ee4 ng8 fp8 kp8 fq8 kq8 ee8 x (4607182418800017408 : Int64) y up (x2 := x) (y2 := (4607182418800017408 : Int64)) (ngA := (v_M_add_2 fl kl fr kr ng2 fp2 kp2 fq2 kq2 ee2 ng4 fp4 kp4 fq4 kq4 ee4 ng6 fp6 kp6 fq6 kq6 ee6 ng7 fp7 kp7 fq7 kq7 ee7 ng8 fp8 kp8 fq8 kq8 ee8 x y up)) (ngB := (v_M_add_8 fl kl fr kr ng2 fp2 kp2 fq2 kq2 ee2 ng4 fp4 kp4 fq4 kq4 ee4 ng6 fp6 kp6 fq6 kq6 ee6 ng7 fp7 kp7 fq7 kq7 ee7 ng8 fp8 kp8 fq8 kq8 ee8 x y up)) n6 n7 (Nat.le_trans a1 (by decide)) (Nat.le_trans a3 (by decide)) (by omega) (by omega) (by rw [ho]; refine (sf_nv _ _ _ _ _ _ x).trans ?_; cases decide (x < 0) <;> rfl) (sf_nv _ _ _ _ _ _ y) (by rw [one_s, one_e, WW_eq (e := exf x + -52) (f := exf x) 52 (by omega) (by omega), Nat.mul_comm (WW _), Nat.mul_assoc]) (Or.inl ⟨rfl, rfl⟩)
theorem eq_add : pF_add hi lo ep nz gz hj lj ej nj gj x y up = pM_add fl kl fr kr ng2 fp2 kp2 fq2 kq2 ee2 ng4 fp4 kp4 fq4 kq4 ee4 ng6 fp6 kp6 fq6 kq6 ee6 ng7 fp7 kp7 fq7 kq7 ee7 ng8 fp8 kp8 fq8 kq8 ee8 x y up := by
  have e0 : pF_add hi lo ep nz gz hj lj ej nj gj x y up = pF_fused hi lo ep nz gz hj lj ej nj gj x (4607182418800017408 : Int64) y up := rfl
  have nx : pF_isNaN x = pM_isNan x := rfl
  have ny : pF_isNaN y = pM_isNan y := rfl
  have no : pF_isNaN (4607182418800017408 : Int64) = false := by decide
  have iy : pF_isInfinite y = pM_isInfinite y := rfl
  have e1 : (v_M_add_1 fl kl fr kr ng2 fp2 kp2 fq2 kq2 ee2 ng4 fp4 kp4 fq4 kq4 ee4 ng6 fp6 kp6 fq6 kq6 ee6 ng7 fp7 kp7 fq7 kq7 ee7 ng8 fp8 kp8 fq8 kq8 ee8 x y up) = if pM_isInfinite x = true then (if pM_isInfinite y = true then (if x = y then (if pM_isInfinite x = true then x else y) else (9221120237041090560 : Int64)) else (if pM_isInfinite x = true then x else y)) else (if pM_isInfinite x = true then x else y) := rfl
  have e39 : (v_M_add_39 fl kl fr kr ng2 fp2 kp2 fq2 kq2 ee2 ng4 fp4 kp4 fq4 kq4 ee4 ng6 fp6 kp6 fq6 kq6 ee6 ng7 fp7 kp7 fq7 kq7 ee7 ng8 fp8 kp8 fq8 kq8 ee8 x y up) = (v_M_add_1 fl kl fr kr ng2 fp2 kp2 fq2 kq2 ee2 ng4 fp4 kp4 fq4 kq4 ee4 ng6 fp6 kp6 fq6 kq6 ee6 ng7 fp7 kp7 fq7 kq7 ee7 ng8 fp8 kp8 fq8 kq8 ee8 x y up) := rfl
  have ip : pF_isInfiniteProduct x (4607182418800017408 : Int64) = pM_isInfinite x := by
    show (if pM_isInfinite x = true then (if pM_isZero x = true then false else (if pF_isZero (4607182418800017408 : Int64) = true then false else true)) else (if pF_isInfinite (4607182418800017408 : Int64) = true then _ else false)) = _
    have q1 : pF_isZero (4607182418800017408 : Int64) = false := by decide
    have q2 : pF_isInfinite (4607182418800017408 : Int64) = false := by decide
    rw [q1, q2]
    cases jx : pM_isInfinite x with
    | false => rfl
    | true =>
      have : pM_isZero x = false := by
        rw [mzero_ok]; rw [minf_ok] at jx
        have := of_decide_eq_true jx
        apply decide_eq_false
        rw [this]; decide
      rw [this]; rfl
  have ho : decide ((4607182418800017408 : Int64) < 0) = false := by decide
  have e14 : v_F_fused_14 hi lo ep nz gz hj lj ej nj gj x (4607182418800017408 : Int64) y up = if pM_isInfinite y = true then (if y = pM_infinity (decide (x < 0)) then pM_infinity (decide (x < 0)) else (9221120237041090560 : Int64)) else pM_infinity (decide (x < 0)) := by
    have e13 : v_F_fused_13 hi lo ep nz gz hj lj ej nj gj x (4607182418800017408 : Int64) y up = pM_infinity (decide (x < 0)) := by
      show pF_withSign (9218868437227405312 : Int64) (if (0 : Int64) ≤ (x ^^^ (4607182418800017408 : Int64)) then false else true) = _
      rw [xor_ng, ho, inf_sg]
      cases decide (x < 0) <;> rfl
    rw [← e13]; rfl
  have ev : v_F_fused_1 hi lo ep nz gz hj lj ej nj gj x (4607182418800017408 : Int64) y up = (v_M_add_22 fl kl fr kr ng2 fp2 kp2 fq2 kq2 ee2 ng4 fp4 kp4 fq4 kq4 ee4 ng6 fp6 kp6 fq6 kq6 ee6 ng7 fp7 kp7 fq7 kq7 ee7 ng8 fp8 kp8 fq8 kq8 ee8 x y up) := ad_in hi lo ep nz gz hj lj ej nj gj fl kl fr kr ng2 fp2 kp2 fq2 kq2 ee2 ng4 fp4 kp4 fq4 kq4 ee4 ng6 fp6 kp6 fq6 kq6 ee6 ng7 fp7 kp7 fq7 kq7 ee7 ng8 fp8 kp8 fq8 kq8 ee8 x y up
  rw [e0]
  cases hx : pM_isNan x with
  | true => simp only [pF_fused, pM_add, nx, hx, if_true]
  | false =>
    cases hy : pM_isNan y with
    | true => simp only [pF_fused, pM_add, nx, hx, ny, hy, no, if_true, Bool.false_eq_true, if_false]
    | false =>
      simp only [pF_fused, pM_add, nx, hx, ny, hy, no, ip, iy, e14, e1, e39, ev, if_true, Bool.false_eq_true, if_false]
      cases jx : pM_isInfinite x <;> cases jy : pM_isInfinite y <;> simp only [if_true, Bool.false_eq_true, if_false]
      · rw [inf_self jx]
      · rw [inf_self jx]
        by_cases q : x = y
        · rw [if_pos q, if_pos q.symm]
        · rw [if_neg q, if_neg (fun z => q z.symm)]
theorem ss_zero (h : sgf x * sgf y = 0) : pF_scaledSum hi lo ep nz gz hj lj ej nj gj x y (0 : Int64) (0 : Int32) (pF_direction up) = 0 := by
  obtain ⟨M, m1, m2, m3⟩ := ssum_ok hi lo ep nz gz hj lj ej nj gj x y (0 : Int64) (sc := (0 : Int32)) (how := pF_direction up) (c := 0) rfl (by decide) (by decide)
  rw [m2]
  clear m2
  rw [h, sgf_zero, Nat.zero_mul, Nat.zero_mul, smM_0l] at m3
  have e := fin_eq (N := 0) (ng := up) (a := 0) (b := 1) m3 (fun _ => FL_0 (by decide)) (fun q => absurd rfl q) (by decide) rfl (fun q => absurd rfl q)
  rw [sgM_0] at e
  rw [h, sgf_zero, Nat.zero_mul, Nat.zero_mul]
  exact e
theorem mu_in : pF_scaledSum hi lo ep nz gz hj lj ej nj gj x y (0 : Int64) (0 : Int32) (pF_direction up) = (v_M_multiply_22 fl kl fr kr ng2 fp2 kp2 fq2 kq2 ee2 ng4 fp4 kp4 fq4 kq4 ee4 ng6 fp6 kp6 fq6 kq6 ee6 ng7 fp7 kp7 fq7 kq7 ee7 ng8 fp8 kp8 fq8 kq8 ee8 x y up) := by
  have g1 := exf_ge x
  have g2 := exf_le x
  have g3 := exf_ge y
  have g4 := exf_le y
  have n6 := sf_NU ng6 fp6 kp6 fq6 kq6 ee6 x
  have n7 := sf_NU ng7 fp7 kp7 fq7 kq7 ee7 y
  have a1 := sf_lp ng6 fp6 kp6 fq6 kq6 ee6 x
  have a2 := sf_lq ng6 fp6 kp6 fq6 kq6 ee6 x
  have a3 := sf_lp ng7 fp7 kp7 fq7 kq7 ee7 y
  have a4 := sf_lq ng7 fp7 kp7 fq7 kq7 ee7 y
  have n8 := tm_NU ng8 fp8 kp8 fq8 kq8 ee8 (ng2 := pU_setFloat_0 ng6 fp6 kp6 fq6 kq6 ee6 x) (ng3 := pU_setFloat_0 ng7 fp7 kp7 fq7 kq7 ee7 y) n6 n7 (by omega) (by omega) (by omega) (by omega)
  have k8 := tm_k ng8 fp8 kp8 fq8 kq8 ee8 (ng2 := pU_setFloat_0 ng6 fp6 kp6 fq6 kq6 ee6 x) (ng3 := pU_setFloat_0 ng7 fp7 kp7 fq7 kq7 ee7 y) n6 n7 (by omega) (by omega)
  obtain ⟨M, m1, m2, m3⟩ := ssum_ok hi lo ep nz gz hj lj ej nj gj x y (0 : Int64) (sc := (0 : Int32)) (how := pF_direction up) (c := 0) rfl (by decide) (by decide)
  obtain ⟨N, k1, k2, k3, k4⟩ := rd_ok fl kl fr kr ng2 fp2 kp2 fq2 kq2 ee2 ng4 fp4 kp4 fq4 kq4 ee4 (v_M_multiply_16 fl kl fr kr ng2 fp2 kp2 fq2 kq2 ee2 ng4 fp4 kp4 fq4 kq4 ee4 ng6 fp6 kp6 fq6 kq6 ee6 ng7 fp7 kp7 fq7 kq7 ee7 ng8 fp8 kp8 fq8 kq8 ee8 x y up) _ _ _ _ _ up n8 (by decide) (Nat.le_trans k8.2 (by omega)) (Nat.le_trans k8.1 (by omega)) (by omega) (by omega)
  have e22 : (v_M_multiply_22 fl kl fr kr ng2 fp2 kp2 fq2 kq2 ee2 ng4 fp4 kp4 fq4 kq4 ee4 ng6 fp6 kp6 fq6 kq6 ee6 ng7 fp7 kp7 fq7 kq7 ee7 ng8 fp8 kp8 fq8 kq8 ee8 x y up) = sgM N (v_M_multiply_16 fl kl fr kr ng2 fp2 kp2 fq2 kq2 ee2 ng4 fp4 kp4 fq4 kq4 ee4 ng6 fp6 kp6 fq6 kq6 ee6 ng7 fp7 kp7 fq7 kq7 ee7 ng8 fp8 kp8 fq8 kq8 ee8 x y up) := k2
  have e16 : (v_M_multiply_16 fl kl fr kr ng2 fp2 kp2 fq2 kq2 ee2 ng4 fp4 kp4 fq4 kq4 ee4 ng6 fp6 kp6 fq6 kq6 ee6 ng7 fp7 kp7 fq7 kq7 ee7 ng8 fp8 kp8 fq8 kq8 ee8 x y up) = (decide (x < 0) != decide (y < 0)) := by
    show (if pU_setFloat_0 ng6 fp6 kp6 fq6 kq6 ee6 x = pU_setFloat_0 ng7 fp7 kp7 fq7 kq7 ee7 y then false else true) = _
    rw [bne_if, sf_nv, sf_nv]
  rw [m2, e22]
  clear m2 k2 e22 n8 k8
  rw [e16] at k3 k4 ⊢
  rw [sgf_zero, Nat.zero_mul, smM_0r, smS_0r, Int.add_zero] at m3
  rw [sgf_zero, Nat.zero_mul, smS_0r]
  exact fin_eq m3 k3 k4 (by decide) (by rw [Nat.mul_one]) (fun _ => rfl)
theorem eq_multiply : pF_multiply hi lo ep nz gz hj lj ej nj gj x y up = pM_multiply fl kl fr kr ng2 fp2 kp2 fq2 kq2 ee2 ng4 fp4 kp4 fq4 kq4 ee4 ng6 fp6 kp6 fq6 kq6 ee6 ng7 fp7 kp7 fq7 kq7 ee7 ng8 fp8 kp8 fq8 kq8 ee8 x y up := by
  have e0 : pF_multiply hi lo ep nz gz hj lj ej nj gj x y up = pF_fused hi lo ep nz gz hj lj ej nj gj x y (0 : Int64) up := rfl
  have nx : pF_isNaN x = pM_isNan x := rfl
  have ny : pF_isNaN y = pM_isNan y := rfl
  have no : pF_isNaN (0 : Int64) = false := by decide
  have io : pF_isInfinite (0 : Int64) = false := by decide
  have ip : pF_isInfiniteProduct x y = if pM_isInfinite x = true then (if pM_isZero x = true then false else (if pM_isZero y = true then false else true)) else (if pM_isInfinite y = true then (if pM_isZero x = true then false else (if pM_isZero y = true then false else true)) else false) := rfl
  have e13 : v_F_fused_13 hi lo ep nz gz hj lj ej nj gj x y (0 : Int64) up = pM_infinity (decide (x < 0) != decide (y < 0)) := by
    show pF_withSign (9218868437227405312 : Int64) (if (0 : Int64) ≤ (x ^^^ y) then false else true) = _
    rw [xor_ng, inf_sg]
  have e14 : v_F_fused_14 hi lo ep nz gz hj lj ej nj gj x y (0 : Int64) up = pM_infinity (decide (x < 0) != decide (y < 0)) := by
    show (if pF_isInfinite (0 : Int64) = true then _ else v_F_fused_13 hi lo ep nz gz hj lj ej nj gj x y (0 : Int64) up) = _
    rw [io, e13]; rfl
  have e3 : (v_M_multiply_3 fl kl fr kr ng2 fp2 kp2 fq2 kq2 ee2 ng4 fp4 kp4 fq4 kq4 ee4 ng6 fp6 kp6 fq6 kq6 ee6 ng7 fp7 kp7 fq7 kq7 ee7 ng8 fp8 kp8 fq8 kq8 ee8 x y up) = (decide (x < 0) != decide (y < 0)) := by
    show (if (if (0 : Int64) ≤ x then false else true) = (if (0 : Int64) ≤ y then false else true) then false else true) = _
    rw [neg_z, neg_z, bne_if]
  have e41 : (v_M_multiply_41 fl kl fr kr ng2 fp2 kp2 fq2 kq2 ee2 ng4 fp4 kp4 fq4 kq4 ee4 ng6 fp6 kp6 fq6 kq6 ee6 ng7 fp7 kp7 fq7 kq7 ee7 ng8 fp8 kp8 fq8 kq8 ee8 x y up) = (decide (x < 0) != decide (y < 0)) := e3
  have ev : v_F_fused_1 hi lo ep nz gz hj lj ej nj gj x y (0 : Int64) up = (v_M_multiply_22 fl kl fr kr ng2 fp2 kp2 fq2 kq2 ee2 ng4 fp4 kp4 fq4 kq4 ee4 ng6 fp6 kp6 fq6 kq6 ee6 ng7 fp7 kp7 fq7 kq7 ee7 ng8 fp8 kp8 fq8 kq8 ee8 x y up) := mu_in hi lo ep nz gz hj lj ej nj gj fl kl fr kr ng2 fp2 kp2 fq2 kq2 ee2 ng4 fp4 kp4 fq4 kq4 ee4 ng6 fp6 kp6 fq6 kq6 ee6 ng7 fp7 kp7 fq7 kq7 ee7 ng8 fp8 kp8 fq8 kq8 ee8 x y up
  have ez : (pM_isZero x = true ∨ pM_isZero y = true) → v_F_fused_1 hi lo ep nz gz hj lj ej nj gj x y (0 : Int64) up = 0 := by
    intro h
    refine ss_zero hi lo ep nz gz hj lj ej nj gj x y up ?_
    rcases h with h | h
    · rw [isz_sgf] at h; rw [of_decide_eq_true h, Nat.zero_mul]
    · rw [isz_sgf] at h; rw [of_decide_eq_true h, Nat.mul_zero]
  rw [e0]
  cases hx : pM_isNan x with
  | true => simp only [pF_fused, pM_multiply, nx, hx, if_true]
  | false =>
    cases hy : pM_isNan y with
    | true => simp only [pF_fused, pM_multiply, nx, hx, ny, hy, if_true, Bool.false_eq_true, if_false]
    | false =>
      simp only [pF_fused, pM_multiply, nx, hx, ny, hy, no, io, ip, e14, e3, e41, Bool.false_eq_true, if_false]
      cases qx : pM_isZero x <;> cases qy : pM_isZero y <;> cases jx : pM_isInfinite x <;> cases jy : pM_isInfinite y <;> simp only [if_true, Bool.false_eq_true, if_false] <;> first | rfl | exact ev | exact ez (Or.inl qx) | exact ez (Or.inr qy)
theorem dv_in (hy : sgf y ≠ 0) (hx : sgf x ≠ 0) : pF_quotient x y (pF_direction up) = (v_M_divide_19 fl kl fr kr ng2 fp2 kp2 fq2 kq2 ee2 ng4 fp4 kp4 fq4 kq4 ee4 ng6 fp6 kp6 fq6 kq6 ee6 ng7 fp7 kp7 fq7 kq7 ee7 ng8 fp8 kp8 fq8 kq8 ee8 x y up) := by
  have g1 := exf_ge x
  have g2 := exf_le x
  have g3 := exf_ge y
  have g4 := exf_le y
  have n6 := sf_NU ng6 fp6 kp6 fq6 kq6 ee6 x
  have n7 := sf_NU ng7 fp7 kp7 fq7 kq7 ee7 y
  have a1 := sf_lp ng6 fp6 kp6 fq6 kq6 ee6 x
  have a2 := sf_lq ng6 fp6 kp6 fq6 kq6 ee6 x
  have a3 := sf_lp ng7 fp7 kp7 fq7 kq7 ee7 y
  have a4 := sf_lq ng7 fp7 kp7 fq7 kq7 ee7 y
  have n8 := ov_NU ng8 fp8 kp8 fq8 kq8 ee8 (ng2 := pU_setFloat_0 ng6 fp6 kp6 fq6 kq6 ee6 x) (ng3 := pU_setFloat_0 ng7 fp7 kp7 fq7 kq7 ee7 y) n6 n7 (by omega) (by omega) (by omega) (by omega)
  have k8 := ov_k ng8 fp8 kp8 fq8 kq8 ee8 (ng2 := pU_setFloat_0 ng6 fp6 kp6 fq6 kq6 ee6 x) (ng3 := pU_setFloat_0 ng7 fp7 kp7 fq7 kq7 ee7 y) n6 n7 (by omega) (by omega)
  have hQ : 0 < 1 * sgf y := by omega
  obtain ⟨M, m1, m2, m3⟩ := quotient_ok (x := x) (y := y) (how := pF_direction up) (fun z => hx ((sgf_0 x).mpr z)) (fun z => hy ((sgf_0 y).mpr z))
  obtain ⟨N, k1, k2, k3, k4⟩ := rd_ok fl kl fr kr ng2 fp2 kp2 fq2 kq2 ee2 ng4 fp4 kp4 fq4 kq4 ee4 (v_M_divide_13 fl kl fr kr ng2 fp2 kp2 fq2 kq2 ee2 ng4 fp4 kp4 fq4 kq4 ee4 ng6 fp6 kp6 fq6 kq6 ee6 ng7 fp7 kp7 fq7 kq7 ee7 ng8 fp8 kp8 fq8 kq8 ee8 x y up) _ _ _ _ _ up n8 hQ (Nat.le_trans k8.2 (by omega)) (Nat.le_trans k8.1 (by omega)) (by omega) (by omega)
  have e22 : (v_M_divide_19 fl kl fr kr ng2 fp2 kp2 fq2 kq2 ee2 ng4 fp4 kp4 fq4 kq4 ee4 ng6 fp6 kp6 fq6 kq6 ee6 ng7 fp7 kp7 fq7 kq7 ee7 ng8 fp8 kp8 fq8 kq8 ee8 x y up) = sgM N (v_M_divide_13 fl kl fr kr ng2 fp2 kp2 fq2 kq2 ee2 ng4 fp4 kp4 fq4 kq4 ee4 ng6 fp6 kp6 fq6 kq6 ee6 ng7 fp7 kp7 fq7 kq7 ee7 ng8 fp8 kp8 fq8 kq8 ee8 x y up) := k2
  have e16 : (v_M_divide_13 fl kl fr kr ng2 fp2 kp2 fq2 kq2 ee2 ng4 fp4 kp4 fq4 kq4 ee4 ng6 fp6 kp6 fq6 kq6 ee6 ng7 fp7 kp7 fq7 kq7 ee7 ng8 fp8 kp8 fq8 kq8 ee8 x y up) = (decide (x < 0) != decide (y < 0)) := by
    show (if pU_setFloat_0 ng6 fp6 kp6 fq6 kq6 ee6 x = pU_setFloat_0 ng7 fp7 kp7 fq7 kq7 ee7 y then false else true) = _
    rw [bne_if, sf_nv, sf_nv]
  rw [m2, e22]
  clear m2 k2 e22 n8 k8
  rw [e16] at k3 k4 ⊢
  rw [RD_eq m3 k3 k4 (by rw [Nat.mul_one, Nat.one_mul]) (by omega) hQ]
theorem dv_z (hy : sgf y ≠ 0) (hx : sgf x = 0) : (v_M_divide_19 fl kl fr kr ng2 fp2 kp2 fq2 kq2 ee2 ng4 fp4 kp4 fq4 kq4 ee4 ng6 fp6 kp6 fq6 kq6 ee6 ng7 fp7 kp7 fq7 kq7 ee7 ng8 fp8 kp8 fq8 kq8 ee8 x y up) = 0 := by
  have g1 := exf_ge x
  have g2 := exf_le x
  have g3 := exf_ge y
  have g4 := exf_le y
  have n6 := sf_NU ng6 fp6 kp6 fq6 kq6 ee6 x
  have n7 := sf_NU ng7 fp7 kp7 fq7 kq7 ee7 y
  have a1 := sf_lp ng6 fp6 kp6 fq6 kq6 ee6 x
  have a2 := sf_lq ng6 fp6 kp6 fq6 kq6 ee6 x
  have a3 := sf_lp ng7 fp7 kp7 fq7 kq7 ee7 y
  have a4 := sf_lq ng7 fp7 kp7 fq7 kq7 ee7 y
  have n8 := ov_NU ng8 fp8 kp8 fq8 kq8 ee8 (ng2 := pU_setFloat_0 ng6 fp6 kp6 fq6 kq6 ee6 x) (ng3 := pU_setFloat_0 ng7 fp7 kp7 fq7 kq7 ee7 y) n6 n7 (by omega) (by omega) (by omega) (by omega)
  have k8 := ov_k ng8 fp8 kp8 fq8 kq8 ee8 (ng2 := pU_setFloat_0 ng6 fp6 kp6 fq6 kq6 ee6 x) (ng3 := pU_setFloat_0 ng7 fp7 kp7 fq7 kq7 ee7 y) n6 n7 (by omega) (by omega)
  have hQ : 0 < 1 * sgf y := by omega
  obtain ⟨N, k1, k2, k3, k4⟩ := rd_ok fl kl fr kr ng2 fp2 kp2 fq2 kq2 ee2 ng4 fp4 kp4 fq4 kq4 ee4 (v_M_divide_13 fl kl fr kr ng2 fp2 kp2 fq2 kq2 ee2 ng4 fp4 kp4 fq4 kq4 ee4 ng6 fp6 kp6 fq6 kq6 ee6 ng7 fp7 kp7 fq7 kq7 ee7 ng8 fp8 kp8 fq8 kq8 ee8 x y up) _ _ _ _ _ up n8 hQ (Nat.le_trans k8.2 (by omega)) (Nat.le_trans k8.1 (by omega)) (by omega) (by omega)
  have e22 : (v_M_divide_19 fl kl fr kr ng2 fp2 kp2 fq2 kq2 ee2 ng4 fp4 kp4 fq4 kq4 ee4 ng6 fp6 kp6 fq6 kq6 ee6 ng7 fp7 kp7 fq7 kq7 ee7 ng8 fp8 kp8 fq8 kq8 ee8 x y up) = sgM N (v_M_divide_13 fl kl fr kr ng2 fp2 kp2 fq2 kq2 ee2 ng4 fp4 kp4 fq4 kq4 ee4 ng6 fp6 kp6 fq6 kq6 ee6 ng7 fp7 kp7 fq7 kq7 ee7 ng8 fp8 kp8 fq8 kq8 ee8 x y up) := k2
  rw [e22]
  clear k2 e22 n8 k8
  have hN : N = 0 := by
    by_cases q : up = (v_M_divide_13 fl kl fr kr ng2 fp2 kp2 fq2 kq2 ee2 ng4 fp4 kp4 fq4 kq4 ee4 ng6 fp6 kp6 fq6 kq6 ee6 ng7 fp7 kp7 fq7 kq7 ee7 ng8 fp8 kp8 fq8 kq8 ee8 x y up)
    · have := k3 q; rw [hx] at this; simp only [Nat.zero_mul] at this; exact FL_z hQ this
    · have := k4 q; rw [hx] at this; simp only [Nat.zero_mul] at this; exact CE_z hQ this
  rw [hN, sgM_0]
theorem eq_divide : pF_divide x y up = pM_divide fl kl fr kr ng2 fp2 kp2 fq2 kq2 ee2 ng4 fp4 kp4 fq4 kq4 ee4 ng6 fp6 kp6 fq6 kq6 ee6 ng7 fp7 kp7 fq7 kq7 ee7 ng8 fp8 kp8 fq8 kq8 ee8 x y up := by
  have nx : pF_isNaN x = pM_isNan x := rfl
  have ny : pF_isNaN y = pM_isNan y := rfl
  have ix : pF_isInfinite x = pM_isInfinite x := rfl
  have iy : pF_isInfinite y = pM_isInfinite y := rfl
  have zx : pF_isZero x = pM_isZero x := rfl
  have zy : pF_isZero y = pM_isZero y := rfl
  have e1 : v_F_divide_1 x y up = (decide (x < 0) != decide (y < 0)) := xor_ng x y
  have e2 : v_F_divide_2 x y up = (decide (x < 0) != decide (y < 0)) := xor_ng x y
  have e38 : (v_M_divide_38 fl kl fr kr ng2 fp2 kp2 fq2 kq2 ee2 ng4 fp4 kp4 fq4 kq4 ee4 ng6 fp6 kp6 fq6 kq6 ee6 ng7 fp7 kp7 fq7 kq7 ee7 ng8 fp8 kp8 fq8 kq8 ee8 x y up) = (decide (x < 0) != decide (y < 0)) := by
    show (if (if (0 : Int64) ≤ x then false else true) = (if (0 : Int64) ≤ y then false else true) then false else true) = _
    rw [neg_z, neg_z, bne_if]
  have e76 : (v_M_divide_76 fl kl fr kr ng2 fp2 kp2 fq2 kq2 ee2 ng4 fp4 kp4 fq4 kq4 ee4 ng6 fp6 kp6 fq6 kq6 ee6 ng7 fp7 kp7 fq7 kq7 ee7 ng8 fp8 kp8 fq8 kq8 ee8 x y up) = (decide (x < 0) != decide (y < 0)) := e38
  have hin := dv_in fl kl fr kr ng2 fp2 kp2 fq2 kq2 ee2 ng4 fp4 kp4 fq4 kq4 ee4 ng6 fp6 kp6 fq6 kq6 ee6 ng7 fp7 kp7 fq7 kq7 ee7 ng8 fp8 kp8 fq8 kq8 ee8 x y up
  have hz := dv_z fl kl fr kr ng2 fp2 kp2 fq2 kq2 ee2 ng4 fp4 kp4 fq4 kq4 ee4 ng6 fp6 kp6 fq6 kq6 ee6 ng7 fp7 kp7 fq7 kq7 ee7 ng8 fp8 kp8 fq8 kq8 ee8 x y up
  have sx := isz_sgf (x := x)
  have sy := isz_sgf (x := y)
  cases hx : pM_isNan x with
  | true => simp only [pF_divide, pM_divide, nx, hx, if_true]
  | false =>
    cases hy : pM_isNan y with
    | true => simp only [pF_divide, pM_divide, nx, hx, ny, hy, if_true, Bool.false_eq_true, if_false]
    | false =>
      simp only [pF_divide, pM_divide, nx, hx, ny, hy, ix, iy, zx, zy, e1, e2, e38, e76, inf_sg, Bool.false_eq_true, if_false]
      cases qy : pM_isZero y
      · have hy0 : sgf y ≠ 0 := by rw [qy] at sy; exact of_decide_eq_false sy.symm
        cases jx : pM_isInfinite x <;> cases jy : pM_isInfinite y <;> simp only [if_true, Bool.false_eq_true, if_false]
        cases qx : pM_isZero x
        · have hx0 : sgf x ≠ 0 := by rw [qx] at sx; exact of_decide_eq_false sx.symm
          simp only [Bool.false_eq_true, if_false]
          exact hin hy0 hx0
        · have hx0 : sgf x = 0 := by rw [qx] at sx; exact of_decide_eq_true sx.symm
          simp only [if_true]
          exact (hz hy0 hx0).symm
      · simp only [if_true]
theorem eq_order : pF_order x y = pM_order x y := rfl
end EA

