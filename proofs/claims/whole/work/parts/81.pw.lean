def sgp (nx : Bool) (k : Nat) : Bool := nx && decide (k % 2 = 1)
theorem sgp_s (nx : Bool) (k : Nat) : (if sgp nx k = nx then false else true) = sgp nx (k + 1) := by
  unfold sgp
  cases nx with
  | false => rfl
  | true =>
    rw [Bool.true_and, Bool.true_and]
    by_cases q : k % 2 = 1
    · rw [decide_eq_true q, if_pos rfl]; symm; apply decide_eq_false; omega
    · rw [decide_eq_false q, if_neg (by decide)]; symm; apply decide_eq_true; omega
theorem pw_loop {ngB : Bool} {fpB : Nat → Int32} {kpB : Nat} {fqB : Nat → Int32} {kqB : Nat} {eeB : Int32} {b : Nat} {e : Int} (h7 : NU fpB kpB fqB kqB eeB b 1 e) (hb : b < 2 ^ 53) (k1 : kpB ≤ 100) (k2 : kqB ≤ 100) (e1 : -1100 ≤ e) (e2 : e ≤ 1100) : ∀ (n j : Nat) (y0 : Bool) (y1 : Nat → Int32) (y2 : Nat) (y3 : Nat → Int32) (y4 : Nat) (y5 : Int32) (z0 : Bool) (z1 : Nat → Int32) (z2 : Nat) (z3 : Nat → Int32) (z4 : Nat) (z5 : Int32),
    j + n ≤ 40 → NU y1 y2 y3 y4 y5 (b ^ j) 1 (e * (j : Int)) → y0 = sgp ngB j →
    NU (qM_powerOf_16 ngB eeB kpB kqB fpB fqB n j y0 y1 y2 y3 y4 y5 z0 z1 z2 z3 z4 z5).2.1 (qM_powerOf_16 ngB eeB kpB kqB fpB fqB n j y0 y1 y2 y3 y4 y5 z0 z1 z2 z3 z4 z5).2.2.1 (qM_powerOf_16 ngB eeB kpB kqB fpB fqB n j y0 y1 y2 y3 y4 y5 z0 z1 z2 z3 z4 z5).2.2.2.1 (qM_powerOf_16 ngB eeB kpB kqB fpB fqB n j y0 y1 y2 y3 y4 y5 z0 z1 z2 z3 z4 z5).2.2.2.2.1 (qM_powerOf_16 ngB eeB kpB kqB fpB fqB n j y0 y1 y2 y3 y4 y5 z0 z1 z2 z3 z4 z5).2.2.2.2.2.1 (b ^ (j + n)) 1 (e * ((j + n : Nat) : Int)) ∧ (qM_powerOf_16 ngB eeB kpB kqB fpB fqB n j y0 y1 y2 y3 y4 y5 z0 z1 z2 z3 z4 z5).1 = sgp ngB (j + n) := by
  intro n
  induction n with
  | zero =>
    intro j y0 y1 y2 y3 y4 y5 z0 z1 z2 z3 z4 z5 hj h hs
    exact ⟨h, hs⟩
  | succ n ih =>
    intro j y0 y1 y2 y3 y4 y5 z0 z1 z2 z3 z4 z5 hj h hs
    have e0 : qM_powerOf_16 ngB eeB kpB kqB fpB fqB (n + 1) j y0 y1 y2 y3 y4 y5 z0 z1 z2 z3 z4 z5 = qM_powerOf_16 ngB eeB kpB kqB fpB fqB n (j + 1) (v_M_powerOf_31 ngB eeB kpB kqB fpB fqB j y0 y1 y2 y3 y4 y5 z0 z1 z2 z3 z4 z5) (v_M_powerOf_32 ngB eeB kpB kqB fpB fqB j y0 y1 y2 y3 y4 y5 z0 z1 z2 z3 z4 z5) (v_M_powerOf_33 ngB eeB kpB kqB fpB fqB j y0 y1 y2 y3 y4 y5 z0 z1 z2 z3 z4 z5) (v_M_powerOf_34 ngB eeB kpB kqB fpB fqB j y0 y1 y2 y3 y4 y5 z0 z1 z2 z3 z4 z5) (v_M_powerOf_35 ngB eeB kpB kqB fpB fqB j y0 y1 y2 y3 y4 y5 z0 z1 z2 z3 z4 z5) (v_M_powerOf_36 ngB eeB kpB kqB fpB fqB j y0 y1 y2 y3 y4 y5 z0 z1 z2 z3 z4 z5) (v_M_powerOf_25 ngB eeB kpB kqB fpB fqB j y0 y1 y2 y3 y4 y5 z0 z1 z2 z3 z4 z5) (v_M_powerOf_26 ngB eeB kpB kqB fpB fqB j y0 y1 y2 y3 y4 y5 z0 z1 z2 z3 z4 z5) (v_M_powerOf_27 ngB eeB kpB kqB fpB fqB j y0 y1 y2 y3 y4 y5 z0 z1 z2 z3 z4 z5) (v_M_powerOf_28 ngB eeB kpB kqB fpB fqB j y0 y1 y2 y3 y4 y5 z0 z1 z2 z3 z4 z5) (v_M_powerOf_29 ngB eeB kpB kqB fpB fqB j y0 y1 y2 y3 y4 y5 z0 z1 z2 z3 z4 z5) (v_M_powerOf_30 ngB eeB kpB kqB fpB fqB j y0 y1 y2 y3 y4 y5 z0 z1 z2 z3 z4 z5) := rfl
    have hk := pw_k h hb (by omega)
    have hn := pw_s (ng := z0) (fp := z1) (kp := z2) (fq := z3) (kq := z4) (ee := z5) (ng2 := y0) (ng3 := ngB) h h7 (by omega) (by omega) (by omega) e1 e2
    have hs2 : (v_M_powerOf_31 ngB eeB kpB kqB fpB fqB j y0 y1 y2 y3 y4 y5 z0 z1 z2 z3 z4 z5) = sgp ngB (j + 1) := by
      show (if y0 = ngB then false else true) = _
      rw [hs, sgp_s]
    have := ih (j + 1) (v_M_powerOf_31 ngB eeB kpB kqB fpB fqB j y0 y1 y2 y3 y4 y5 z0 z1 z2 z3 z4 z5) (v_M_powerOf_32 ngB eeB kpB kqB fpB fqB j y0 y1 y2 y3 y4 y5 z0 z1 z2 z3 z4 z5) (v_M_powerOf_33 ngB eeB kpB kqB fpB fqB j y0 y1 y2 y3 y4 y5 z0 z1 z2 z3 z4 z5) (v_M_powerOf_34 ngB eeB kpB kqB fpB fqB j y0 y1 y2 y3 y4 y5 z0 z1 z2 z3 z4 z5) (v_M_powerOf_35 ngB eeB kpB kqB fpB fqB j y0 y1 y2 y3 y4 y5 z0 z1 z2 z3 z4 z5) (v_M_powerOf_36 ngB eeB kpB kqB fpB fqB j y0 y1 y2 y3 y4 y5 z0 z1 z2 z3 z4 z5) (v_M_powerOf_25 ngB eeB kpB kqB fpB fqB j y0 y1 y2 y3 y4 y5 z0 z1 z2 z3 z4 z5) (v_M_powerOf_26 ngB eeB kpB kqB fpB fqB j y0 y1 y2 y3 y4 y5 z0 z1 z2 z3 z4 z5) (v_M_powerOf_27 ngB eeB kpB kqB fpB fqB j y0 y1 y2 y3 y4 y5 z0 z1 z2 z3 z4 z5) (v_M_powerOf_28 ngB eeB kpB kqB fpB fqB j y0 y1 y2 y3 y4 y5 z0 z1 z2 z3 z4 z5) (v_M_powerOf_29 ngB eeB kpB kqB fpB fqB j y0 y1 y2 y3 y4 y5 z0 z1 z2 z3 z4 z5) (v_M_powerOf_30 ngB eeB kpB kqB fpB fqB j y0 y1 y2 y3 y4 y5 z0 z1 z2 z3 z4 z5) (by omega) hn hs2
    have ej : j + 1 + n = j + (n + 1) := by omega
    rw [ej] at this
    rw [e0]
    exact this
section PWN
variable (ng3 : Bool) (fp3 : Nat → Int32) (kp3 : Nat) (fq3 : Nat → Int32) (kq3 : Nat) (ee3 : Int32) (ng7 : Bool) (fp7 : Nat → Int32) (kp7 : Nat) (fq7 : Nat → Int32) (kq7 : Nat) (ee7 : Int32) (ng9 : Bool) (fp9 : Nat → Int32) (kp9 : Nat) (fq9 : Nat → Int32) (kq9 : Nat) (ee9 : Int32) (x : Int64) (tm : Nat)
theorem pw_NU (h : tm ≤ 40) : NU (pM_powerOf_1 ng3 fp3 kp3 fq3 kq3 ee3 ng7 fp7 kp7 fq7 kq7 ee7 ng9 fp9 kp9 fq9 kq9 ee9 x tm) (pM_powerOf_2 ng3 fp3 kp3 fq3 kq3 ee3 ng7 fp7 kp7 fq7 kq7 ee7 ng9 fp9 kp9 fq9 kq9 ee9 x tm) (pM_powerOf_3 ng3 fp3 kp3 fq3 kq3 ee3 ng7 fp7 kp7 fq7 kq7 ee7 ng9 fp9 kp9 fq9 kq9 ee9 x tm) (pM_powerOf_4 ng3 fp3 kp3 fq3 kq3 ee3 ng7 fp7 kp7 fq7 kq7 ee7 ng9 fp9 kp9 fq9 kq9 ee9 x tm) (pM_powerOf_5 ng3 fp3 kp3 fq3 kq3 ee3 ng7 fp7 kp7 fq7 kq7 ee7 ng9 fp9 kp9 fq9 kq9 ee9 x tm) (sgf x ^ tm) 1 (exf x * (tm : Int)) ∧ pM_powerOf_0 ng3 fp3 kp3 fq3 kq3 ee3 ng7 fp7 kp7 fq7 kq7 ee7 ng9 fp9 kp9 fq9 kq9 ee9 x tm = sgp (decide (x < 0)) tm := by
  have n7 := sf_NU ng7 fp7 kp7 fq7 kq7 ee7 x
  have a1 := sf_lp ng7 fp7 kp7 fq7 kq7 ee7 x
  have a2 := sf_lq ng7 fp7 kp7 fq7 kq7 ee7 x
  have g1 := exf_ge x
  have g2 := exf_le x
  have n3 := pw_0 (b := sgf x) (e := exf x) (set1_NU ng3 fp3 kp3 fq3 kq3 ee3)
  have key := pw_loop (ngB := pU_setFloat_0 ng7 fp7 kp7 fq7 kq7 ee7 x) n7 (sgf_lt x) (by omega) (by omega) (by omega) (by omega) tm 0 (pU_set_0 ng3 fp3 kp3 fq3 kq3 ee3 (1 : Int64)) _ _ _ _ _ ng9 fp9 kp9 fq9 kq9 ee9 (by omega) n3 (by
    have : pU_set_0 ng3 fp3 kp3 fq3 kq3 ee3 (1 : Int64) = false := by show (if (0 : Int64) ≤ 1 then false else true) = false; decide
    rw [this]; unfold sgp; simp)
  rw [Nat.zero_add, sf_nv] at key
  have sn := sf_nv ng7 fp7 kp7 fq7 kq7 ee7 x
  rw [← sn] at key
  have k2 := key.2
  rw [sn] at k2
  exact ⟨key.1, by rw [← k2]; rw [← sn]; rfl⟩
end PWN
theorem e1_rng {fp : Nat → Int32} {kp : Nat} {fq : Nat → Int32} {kq : Nat} {ee : Int32} {P Q : Nat} {e : Int} (h : NU fp kp fq kq ee P Q e) (h1 : -90000 ≤ e) (h2 : e ≤ 90000) : -1073741824 ≤ (ee - (1 : Int32)).toInt ∧ (ee - (1 : Int32)).toInt < 1073741824 := by
  rw [iS h.2.2 (show (1 : Int32).toInt = 1 from rfl) (by omega) (by omega)]; omega
theorem ab_n {n : Int32} (h : ¬ n < (-40)) (h2 : ¬ 0 ≤ n) : -n = nI (-n).toNatClampNeg ∧ (-n).toNatClampNeg ≤ 40 := by
  rw [Int32.lt_iff_toInt_lt] at h
  rw [Int32.le_iff_toInt_le] at h2
  have c1 : (-40 : Int32).toInt = -40 := rfl
  have c0 : (0 : Int32).toInt = 0 := rfl
  rw [c1] at h
  rw [c0] at h2
  have := cl_nI (z := -n) (v := -n.toInt) (iNg rfl (by omega) (by omega)) (by omega) (by omega)
  exact ⟨this.1, by rw [this.2]; omega⟩
theorem ab_p {n : Int32} (h : ¬ 40 < n) (h2 : 0 ≤ n) : n = nI n.toNatClampNeg ∧ n.toNatClampNeg ≤ 40 := by
  rw [Int32.lt_iff_toInt_lt] at h
  rw [Int32.le_iff_toInt_le] at h2
  have c1 : (40 : Int32).toInt = 40 := rfl
  have c0 : (0 : Int32).toInt = 0 := rfl
  rw [c1] at h
  rw [c0] at h2
  have := cl_nI (z := n) (v := n.toInt) rfl (by omega) (by omega)
  exact ⟨this.1, by rw [this.2]; omega⟩
theorem ab_j {n : Int32} (h : ¬ n < (-40)) (h2 : ¬ 40 < n) : (if 0 ≤ n then n.toNatClampNeg else (-n).toNatClampNeg) ≤ 40 := by
  by_cases q : 0 ≤ n
  · rw [if_pos q]; exact (ab_p h2 q).2
  · rw [if_neg q]; exact (ab_n h q).2
theorem em_rng {e : Int} {j : Nat} (e1 : -1100 ≤ e) (e2 : e ≤ 1100) (hj : j ≤ 40) : -44000 ≤ e * (j : Int) ∧ e * (j : Int) ≤ 44000 := by
  constructor
  · rcases Int.le_total 0 e with q | q
    · have : 0 ≤ e * (j : Int) := Int.mul_nonneg q (by omega)
      omega
    · have h := Int.mul_le_mul (a := -e) (b := (j : Int)) (c := 1100) (d := 40) (by omega) (by omega) (by omega) (by omega)
      rw [Int.neg_mul] at h
      omega
  · rcases Int.le_total 0 e with q | q
    · have := Int.mul_le_mul (a := e) (b := (j : Int)) (c := 1100) (d := 40) e2 (by omega) (by omega) (by omega)
      omega
    · have : e * (j : Int) ≤ 0 := Int.mul_nonpos_of_nonpos_of_nonneg q (by omega)
      omega

