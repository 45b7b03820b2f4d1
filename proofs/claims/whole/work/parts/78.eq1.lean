/-! THE SAME ANSWER: sums -/
theorem smM_0l {B : Nat} {n m : Bool} : smM 0 B n m = B := by
  unfold smM
  split
  · omega
  · split <;> omega
theorem smS_0l {B : Nat} {n m : Bool} (h : 0 < B) : smS 0 B n m = m := by
  unfold smS
  split
  · next q => exact q
  · rw [if_neg (by omega)]
theorem smM_0r {A : Nat} {n m : Bool} : smM A 0 n m = A := by
  unfold smM
  rw [if_pos (Nat.zero_le _), Nat.add_zero, Nat.sub_zero, ite_self]
theorem smS_0r {A : Nat} {n m : Bool} : smS A 0 n m = n := by
  unfold smS
  rw [if_pos (Nat.zero_le _), ite_self]
theorem FL_z {M b : Nat} (hb : 0 < b) (h : FL M 0 b) : M = 0 := FL_un h (FL_0 hb)
theorem CE_z {M b : Nat} (hb : 0 < b) (h : CE M 0 b) : M = 0 := CE_un h (CE_0 hb)
/-- class and reference at the same value -/
theorem fin_eq {M N V a b : Nat} {S ng up : Bool} (h : RD (pF_direction up) S M V 1) (h1 : up = ng → FL N a b) (h2 : up ≠ ng → CE N a b) (hb : 0 < b) (hV : V * b = a) (hs : a ≠ 0 → ng = S) : sgM M S = sgM N ng := by
  by_cases z : a = 0
  · have hV0 : V = 0 := by
      rw [z] at hV
      exact (Nat.mul_eq_zero.mp hV).resolve_right (by omega)
    have hM : M = 0 := by
      by_cases q : up = S
      · have := h.2.1 (by rw [q]; cases S <;> rfl)
        rw [hV0] at this
        exact FL_z (by decide) this
      · have := h.2.2.1 (by cases up <;> cases S <;> first | rfl | exact absurd rfl q)
        rw [hV0] at this
        exact CE_z (by decide) this
    have hN : N = 0 := by
      by_cases q : up = ng
      · have := h1 q; rw [z] at this; exact FL_z hb this
      · have := h2 q; rw [z] at this; exact CE_z hb this
    rw [hM, hN, sgM_0, sgM_0]
  · have e := hs z
    subst e
    rw [RD_eq h h1 h2 (by rw [Nat.mul_one]; exact hV) (by decide) hb]
section RS
variable (fl : Nat → Int32) (kl : Nat) (fr : Nat → Int32) (kr : Nat) (ng2 : Bool) (fp2 : Nat → Int32) (kp2 : Nat) (fq2 : Nat → Int32) (kq2 : Nat) (ee2 : Int32) (ng4 : Bool) (fp4 : Nat → Int32) (kp4 : Nat) (fq4 : Nat → Int32) (kq4 : Nat) (ee4 : Int32) (ng9 : Bool) (fp9 : Nat → Int32) (kp9 : Nat) (fq9 : Nat → Int32) (kq9 : Nat) (ee9 : Int32) {ngA : Bool} {fpA : Nat → Int32} {kpA : Nat} {fqA : Nat → Int32} {kqA : Nat} {eeA : Int32} {ngB : Bool} {fpB : Nat → Int32} {kpB : Nat} {fqB : Nat → Int32} {kqB : Nat} {eeB : Int32}
theorem rs_ok {PA PB : Nat} {eA eB : Int} (up : Bool) (hA : NU fpA kpA fqA kqA eeA PA 1 eA) (hB : NU fpB kpB fqB kqB eeB PB 1 eB) (kA : kpA ≤ 100) (kB : kpB ≤ 100) (r1 : -4000 ≤ eA) (r2 : eA ≤ 4000) (r3 : -4000 ≤ eB) (r4 : eB ≤ 4000) :
    ∃ (N P : Nat) (e : Int) (ng : Bool), pM_round fl kl fr kr ng2 fp2 kp2 fq2 kq2 ee2 ng4 fp4 kp4 fq4 kq4 ee4 (pU_plus_0 ng9 fp9 kp9 fq9 kq9 ee9 ngA fpA kpA fqA kqA eeA ngB fpB kpB fqB kqB eeB (eeA - (if eeB ≤ eeA then eeB else eeA)).toNatClampNeg (eeB - (if eeB ≤ eeA then eeB else eeA)).toNatClampNeg) (pU_plus_1 ng9 fp9 kp9 fq9 kq9 ee9 ngA fpA kpA fqA kqA eeA ngB fpB kpB fqB kqB eeB (eeA - (if eeB ≤ eeA then eeB else eeA)).toNatClampNeg (eeB - (if eeB ≤ eeA then eeB else eeA)).toNatClampNeg) (pU_plus_2 ng9 fp9 kp9 fq9 kq9 ee9 ngA fpA kpA fqA kqA eeA ngB fpB kpB fqB kqB eeB (eeA - (if eeB ≤ eeA then eeB else eeA)).toNatClampNeg (eeB - (if eeB ≤ eeA then eeB else eeA)).toNatClampNeg) (pU_plus_3 ng9 fp9 kp9 fq9 kq9 ee9 ngA fpA kpA fqA kqA eeA ngB fpB kpB fqB kqB eeB (eeA - (if eeB ≤ eeA then eeB else eeA)).toNatClampNeg (eeB - (if eeB ≤ eeA then eeB else eeA)).toNatClampNeg) (pU_plus_4 ng9 fp9 kp9 fq9 kq9 ee9 ngA fpA kpA fqA kqA eeA ngB fpB kpB fqB kqB eeB (eeA - (if eeB ≤ eeA then eeB else eeA)).toNatClampNeg (eeB - (if eeB ≤ eeA then eeB else eeA)).toNatClampNeg) (pU_plus_5 ng9 fp9 kp9 fq9 kq9 ee9 ngA fpA kpA fqA kqA eeA ngB fpB kpB fqB kqB eeB (eeA - (if eeB ≤ eeA then eeB else eeA)).toNatClampNeg (eeB - (if eeB ≤ eeA then eeB else eeA)).toNatClampNeg) up = sgM N ng ∧ (up = ng → FL N (P * WW e) 1) ∧ (up ≠ ng → CE N (P * WW e) 1) ∧ P * WW e = smM (PA * WW eA) (PB * WW eB) ngA ngB ∧ (P * WW e ≠ 0 → ng = smS (PA * WW eA) (PB * WW eB) ngA ngB) := by
  have s1 := (pl_s hA.2.2 hB.2.2 (by omega) (by omega) (by omega) (by omega)).2
  have s2 := (pl_t hA.2.2 hB.2.2 (by omega) (by omega) (by omega) (by omega)).2
  have b1 := pl_b hA.2.2 hB.2.2 (by omega) (by omega) (by omega) (by omega) (c := 8000) (by omega) (by omega)
  have b2 := pl_c hA.2.2 hB.2.2 (by omega) (by omega) (by omega) (by omega) (c := 8000) (by omega) (by omega)
  obtain ⟨P, e, n9, v9, z9, k9, e9⟩ := pl_NU ng9 fp9 kp9 fq9 kq9 ee9 ngA fpA kpA fqA kqA eeA ngB fpB kpB fqB kqB eeB (eeA - (if eeB ≤ eeA then eeB else eeA)).toNatClampNeg (eeB - (if eeB ≤ eeA then eeB else eeA)).toNatClampNeg hA hB (by omega) (by omega) (by omega) (by omega) (by omega) (by omega) s1 s2
  have k1 := n9.2.1.len (m := 1) (by decide)
  have k2 : pU_plus_2 ng9 fp9 kp9 fq9 kq9 ee9 ngA fpA kpA fqA kqA eeA ngB fpB kpB fqB kqB eeB (eeA - (if eeB ≤ eeA then eeB else eeA)).toNatClampNeg (eeB - (if eeB ≤ eeA then eeB else eeA)).toNatClampNeg ≤ 900 := by
    refine Nat.le_trans k9 ?_
    clear k9 k1 n9 s1 s2
    generalize (eeA - (if eeB ≤ eeA then eeB else eeA)).toNatClampNeg = x1 at *
    generalize (eeB - (if eeB ≤ eeA then eeB else eeA)).toNatClampNeg = x2 at *
    omega
  obtain ⟨N, m1, m2, m3, m4⟩ := rd_ok fl kl fr kr ng2 fp2 kp2 fq2 kq2 ee2 ng4 fp4 kp4 fq4 kq4 ee4 _ _ _ _ _ _ up n9 (by decide) (Nat.le_trans k1 (by decide)) k2 (by omega) (by omega)
  refine ⟨N, P, e, _, m2, m3, m4, v9, fun q => z9 (fun p => q (by rw [p, Nat.zero_mul]))⟩
end RS
theorem neg_z (x : Int64) : (if (0 : Int64) ≤ x then false else true) = decide (x < 0) := sf_nv false (fun _ => 0) 0 (fun _ => 0) 0 0 x
theorem bne_if (a b : Bool) : (if a = b then false else true) = (a != b) := by cases a <;> cases b <;> rfl
theorem inf_sg (b : Bool) : pF_withSign (9218868437227405312 : Int64) b = pM_infinity b := by cases b <;> decide
theorem sgf_zero : sgf (0 : Int64) = 0 := by rw [sgf_def, mg_def]; decide
theorem isz_sgf {x : Int64} : pM_isZero x = decide (sgf x = 0) := by
  rw [mzero_ok]
  have := sgf_0 x
  by_cases q : mg x = 0
  · rw [decide_eq_true q, decide_eq_true (this.mpr q)]
  · rw [decide_eq_false q, decide_eq_false (fun z => q (this.mp z))]
/-- the class's product and the reference's, where a factor is 0 or both are finite -/
theorem pr_eq {x y x2 y2 : Int64} {B : Nat} {m : Bool} (h : (x2 = x ∧ y2 = y) ∨ (x2 = 0 ∧ y2 = 0 ∧ sgf x * sgf y = 0)) :
    smM (sgf x2 * sgf y2 * WW (exf x2 + exf y2)) B (decide (x2 < 0) != decide (y2 < 0)) m = smM (sgf x * sgf y * WW (exf x + exf y)) B (decide (x < 0) != decide (y < 0)) m ∧
    (smM (sgf x2 * sgf y2 * WW (exf x2 + exf y2)) B (decide (x2 < 0) != decide (y2 < 0)) m ≠ 0 → smS (sgf x2 * sgf y2 * WW (exf x2 + exf y2)) B (decide (x2 < 0) != decide (y2 < 0)) m = smS (sgf x * sgf y * WW (exf x + exf y)) B (decide (x < 0) != decide (y < 0)) m) := by
  rcases h with ⟨rfl, rfl⟩ | ⟨rfl, rfl, h3⟩
  · exact ⟨rfl, fun _ => rfl⟩
  · rw [h3, sgf_zero, Nat.zero_mul, Nat.zero_mul, smM_0l, smM_0l]
    exact ⟨rfl, fun q => by rw [smS_0l (by omega), smS_0l (by omega)]⟩
section EF
variable (hi lo : Int64) (ep : Int32) (nz gz : Bool) (hj lj : Int64) (ej : Int32) (nj gj : Bool) (fl : Nat → Int32) (kl : Nat) (fr : Nat → Int32) (kr : Nat) (ng2 : Bool) (fp2 : Nat → Int32) (kp2 : Nat) (fq2 : Nat → Int32) (kq2 : Nat) (ee2 : Int32) (ng4 : Bool) (fp4 : Nat → Int32) (kp4 : Nat) (fq4 : Nat → Int32) (kq4 : Nat) (ee4 : Int32) (ng6 : Bool) (fp6 : Nat → Int32) (kp6 : Nat) (fq6 : Nat → Int32) (kq6 : Nat) (ee6 : Int32) (ng7 : Bool) (fp7 : Nat → Int32) (kp7 : Nat) (fq7 : Nat → Int32) (kq7 : Nat) (ee7 : Int32) (ng8 : Bool) (fp8 : Nat → Int32) (kp8 : Nat) (fq8 : Nat → Int32) (kq8 : Nat) (ee8 : Int32) (ng9 : Bool) (fp9 : Nat → Int32) (kp9 : Nat) (fq9 : Nat → Int32) (kq9 : Nat) (ee9 : Int32) (x y z : Int64) (up : Bool)
/-- the finite part: the class's sum is the reference's -/
theorem fs_eq {ngA : Bool} {fpA : Nat → Int32} {kpA : Nat} {fqA : Nat → Int32} {kqA : Nat} {eeA : Int32} {ngB : Bool} {fpB : Nat → Int32} {kpB : Nat} {fqB : Nat → Int32} {kqB : Nat} {eeB : Int32} {x2 y2 : Int64} {PA : Nat} {eA : Int}
    (hA : NU fpA kpA fqA kqA eeA PA 1 eA) (hB : NU fpB kpB fqB kqB eeB (sgf z) 1 (exf z)) (kA : kpA ≤ 100) (kB : kpB ≤ 100) (r1 : -4000 ≤ eA) (r2 : eA ≤ 4000)
    (nA : ngA = (decide (x2 < 0) != decide (y2 < 0))) (nB : ngB = decide (z < 0)) (hP : PA * WW eA = sgf x2 * sgf y2 * WW (exf x2 + exf y2)) (h : (x2 = x ∧ y2 = y) ∨ (x2 = 0 ∧ y2 = 0 ∧ sgf x * sgf y = 0)) :
    pF_scaledSum hi lo ep nz gz hj lj ej nj gj x y z (0 : Int32) (pF_direction up) = pM_round fl kl fr kr ng2 fp2 kp2 fq2 kq2 ee2 ng4 fp4 kp4 fq4 kq4 ee4 (pU_plus_0 ng9 fp9 kp9 fq9 kq9 ee9 ngA fpA kpA fqA kqA eeA ngB fpB kpB fqB kqB eeB (eeA - (if eeB ≤ eeA then eeB else eeA)).toNatClampNeg (eeB - (if eeB ≤ eeA then eeB else eeA)).toNatClampNeg) (pU_plus_1 ng9 fp9 kp9 fq9 kq9 ee9 ngA fpA kpA fqA kqA eeA ngB fpB kpB fqB kqB eeB (eeA - (if eeB ≤ eeA then eeB else eeA)).toNatClampNeg (eeB - (if eeB ≤ eeA then eeB else eeA)).toNatClampNeg) (pU_plus_2 ng9 fp9 kp9 fq9 kq9 ee9 ngA fpA kpA fqA kqA eeA ngB fpB kpB fqB kqB eeB (eeA - (if eeB ≤ eeA then eeB else eeA)).toNatClampNeg (eeB - (if eeB ≤ eeA then eeB else eeA)).toNatClampNeg) (pU_plus_3 ng9 fp9 kp9 fq9 kq9 ee9 ngA fpA kpA fqA kqA eeA ngB fpB kpB fqB kqB eeB (eeA - (if eeB ≤ eeA then eeB else eeA)).toNatClampNeg (eeB - (if eeB ≤ eeA then eeB else eeA)).toNatClampNeg) (pU_plus_4 ng9 fp9 kp9 fq9 kq9 ee9 ngA fpA kpA fqA kqA eeA ngB fpB kpB fqB kqB eeB (eeA - (if eeB ≤ eeA then eeB else eeA)).toNatClampNeg (eeB - (if eeB ≤ eeA then eeB else eeA)).toNatClampNeg) (pU_plus_5 ng9 fp9 kp9 fq9 kq9 ee9 ngA fpA kpA fqA kqA eeA ngB fpB kpB fqB kqB eeB (eeA - (if eeB ≤ eeA then eeB else eeA)).toNatClampNeg (eeB - (if eeB ≤ eeA then eeB else eeA)).toNatClampNeg) up := by
  have g1 := exf_ge z
  have g2 := exf_le z
  obtain ⟨M, m1, m2, m3⟩ := ssum_ok hi lo ep nz gz hj lj ej nj gj x y z (sc := (0 : Int32)) (how := pF_direction up) (c := 0) rfl (by decide) (by decide)
  obtain ⟨N, P, e, ng, k1, k2, k3, k4, k5⟩ := rs_ok fl kl fr kr ng2 fp2 kp2 fq2 kq2 ee2 ng4 fp4 kp4 fq4 kq4 ee4 ng9 fp9 kp9 fq9 kq9 ee9 (ngA := ngA) (ngB := ngB) up hA hB kA kB r1 r2 (by omega) (by omega)
  rw [m2, k1]
  clear m2 k1
  rw [Int.add_zero, Int.add_zero] at *
  rw [nA, nB, hP] at k4 k5
  obtain ⟨p1, p2⟩ := pr_eq (B := sgf z * WW (exf z)) (m := decide (z < 0)) h
  refine fin_eq m3 k2 k3 (by decide) ?_ (fun q => ?_)
  · rw [Nat.mul_one, k4, p1]
  · rw [k5 q, p2 (by rw [← k4]; exact q)]
end EF

