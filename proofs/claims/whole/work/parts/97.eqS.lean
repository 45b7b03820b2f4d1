/-! THE NEAREST -/
theorem and1l {n : Nat} (h : n < 2 ^ 64) : (lN n &&& (1 : Int64)) = (0 : Int64) ↔ n % 2 = 0 := by
  have e : (1 : Int64) = lN (2 ^ 1 - 1) := by decide
  have e0 : (0 : Int64) = lN 0 := rfl
  rw [e, l_and h (by decide), e0, lN_inj (by omega) (by decide), Nat.pow_one]
theorem sgM_lN {M : Nat} {n : Bool} (h : M ≤ IM) : sgM M n = lN (if M = 0 then 0 else if n = true then M + 2 ^ 63 else M) := by
  have hI := IM_lt
  unfold sgM
  by_cases q : M = 0
  · rw [if_pos q, if_pos q]; rfl
  · rw [if_neg q, if_neg q, ws_ok (by omega)]
theorem sgM_mg {M : Nat} {n : Bool} (h : M ≤ IM) : mg (sgM M n) = M := by
  have hI := IM_lt
  rw [sgM_lN h, mg_lN (by split <;> (try split) <;> omega)]
  split
  · next q => rw [q]
  · split <;> omega
theorem sgM_sg {M : Nat} {n : Bool} (h : M ≤ IM) (h0 : 0 < M) : decide (sgM M n < 0) = n := by
  have hI := IM_lt
  rw [sgM_lN h, if_neg (by omega)]
  cases n with
  | true => rw [if_pos rfl, lt0_lN (by omega)]; apply decide_eq_true; omega
  | false => rw [if_neg (by decide), lt0_lN (by omega)]; apply decide_eq_false; omega
theorem sgM_even {M : Nat} {n : Bool} (h : M ≤ IM) : (sgM M n &&& (1 : Int64)) = (0 : Int64) ↔ M % 2 = 0 := by
  have hI := IM_lt
  rw [sgM_lN h, and1l (by split <;> (try split) <;> omega)]
  split
  · next q => rw [q]
  · split <;> omega
theorem sgM_inj {M N : Nat} {n : Bool} (h : M ≤ IM) (h2 : N ≤ IM) (e : sgM M n = sgM N n) : M = N := by
  rw [← sgM_mg (n := n) h, e, sgM_mg h2]
section NR
variable (fl : Nat → Int32) (kl : Nat) (fr : Nat → Int32) (kr : Nat) (ng2 : Bool) (fp2 : Nat → Int32) (kp2 : Nat) (fq2 : Nat → Int32) (kq2 : Nat) (ee2 : Int32) (ng4 : Bool) (fp4 : Nat → Int32) (kp4 : Nat) (fq4 : Nat → Int32) (kq4 : Nat) (ee4 : Int32) (ng6 : Bool) (fp6 : Nat → Int32) (kp6 : Nat) (fq6 : Nat → Int32) (kq6 : Nat) (ee6 : Int32) (ng7 : Bool) (fp7 : Nat → Int32) (kp7 : Nat) (fq7 : Nat → Int32) (kq7 : Nat) (ee7 : Int32) (ng9 : Bool) (fp9 : Nat → Int32) (kp9 : Nat) (fq9 : Nat → Int32) (kq9 : Nat) (ee9 : Int32) (ng3 : Bool) (fp3 : Nat → Int32) (kp3 : Nat) (fq3 : Nat → Int32) (kq3 : Nat) (ee3 : Int32) {P : Nat} {e : Int}
theorem nr_ok (h3 : NU fp3 kp3 fq3 kq3 ee3 P 1 e) (hk1 : kq3 ≤ 100) (hk2 : kp3 ≤ 800) (r3 : -4000 ≤ e) (r4 : e ≤ 4000) (hb : P * WW e ≤ FV (IM - 1)) :
    ∃ M, M ≤ IM ∧ pM_nearest fl kl fr kr ng2 fp2 kp2 fq2 kq2 ee2 ng4 fp4 kp4 fq4 kq4 ee4 ng6 fp6 kp6 fq6 kq6 ee6 ng7 fp7 kp7 fq7 kq7 ee7 ng9 fp9 kp9 fq9 kq9 ee9 ng3 fp3 kp3 fq3 kq3 ee3 = sgM M ng3 ∧ NE M (P * WW e) 1 := by
  have hI := IM_lt
  have hI0 : 0 < IM := by decide
  obtain ⟨Ma, a1, a2, a3, a4⟩ := dn_ok2 fl kl fr kr ng2 fp2 kp2 fq2 kq2 ee2 ng3 fp3 kp3 fq3 kq3 ee3 h3 (by decide) (by omega) (by omega) (by omega) (by omega)
  obtain ⟨Mb, b1, b2, b3, b4⟩ := up_ok (v_M_nearest_2 fl kl fr kr ng2 fp2 kp2 fq2 kq2 ee2 ng4 fp4 kp4 fq4 kq4 ee4 ng6 fp6 kp6 fq6 kq6 ee6 ng7 fp7 kp7 fq7 kq7 ee7 ng9 fp9 kp9 fq9 kq9 ee9 ng3 fp3 kp3 fq3 kq3 ee3) (v_M_nearest_3 fl kl fr kr ng2 fp2 kp2 fq2 kq2 ee2 ng4 fp4 kp4 fq4 kq4 ee4 ng6 fp6 kp6 fq6 kq6 ee6 ng7 fp7 kp7 fq7 kq7 ee7 ng9 fp9 kp9 fq9 kq9 ee9 ng3 fp3 kp3 fq3 kq3 ee3) (v_M_nearest_4 fl kl fr kr ng2 fp2 kp2 fq2 kq2 ee2 ng4 fp4 kp4 fq4 kq4 ee4 ng6 fp6 kp6 fq6 kq6 ee6 ng7 fp7 kp7 fq7 kq7 ee7 ng9 fp9 kp9 fq9 kq9 ee9 ng3 fp3 kp3 fq3 kq3 ee3) (v_M_nearest_5 fl kl fr kr ng2 fp2 kp2 fq2 kq2 ee2 ng4 fp4 kp4 fq4 kq4 ee4 ng6 fp6 kp6 fq6 kq6 ee6 ng7 fp7 kp7 fq7 kq7 ee7 ng9 fp9 kp9 fq9 kq9 ee9 ng3 fp3 kp3 fq3 kq3 ee3) (v_M_nearest_6 fl kl fr kr ng2 fp2 kp2 fq2 kq2 ee2 ng4 fp4 kp4 fq4 kq4 ee4 ng6 fp6 kp6 fq6 kq6 ee6 ng7 fp7 kp7 fq7 kq7 ee7 ng9 fp9 kp9 fq9 kq9 ee9 ng3 fp3 kp3 fq3 kq3 ee3) (v_M_nearest_7 fl kl fr kr ng2 fp2 kp2 fq2 kq2 ee2 ng4 fp4 kp4 fq4 kq4 ee4 ng6 fp6 kp6 fq6 kq6 ee6 ng7 fp7 kp7 fq7 kq7 ee7 ng9 fp9 kp9 fq9 kq9 ee9 ng3 fp3 kp3 fq3 kq3 ee3) (v_M_nearest_8 fl kl fr kr ng2 fp2 kp2 fq2 kq2 ee2 ng4 fp4 kp4 fq4 kq4 ee4 ng6 fp6 kp6 fq6 kq6 ee6 ng7 fp7 kp7 fq7 kq7 ee7 ng9 fp9 kp9 fq9 kq9 ee9 ng3 fp3 kp3 fq3 kq3 ee3) (v_M_nearest_9 fl kl fr kr ng2 fp2 kp2 fq2 kq2 ee2 ng4 fp4 kp4 fq4 kq4 ee4 ng6 fp6 kp6 fq6 kq6 ee6 ng7 fp7 kp7 fq7 kq7 ee7 ng9 fp9 kp9 fq9 kq9 ee9 ng3 fp3 kp3 fq3 kq3 ee3) (v_M_nearest_10 fl kl fr kr ng2 fp2 kp2 fq2 kq2 ee2 ng4 fp4 kp4 fq4 kq4 ee4 ng6 fp6 kp6 fq6 kq6 ee6 ng7 fp7 kp7 fq7 kq7 ee7 ng9 fp9 kp9 fq9 kq9 ee9 ng3 fp3 kp3 fq3 kq3 ee3) (v_M_nearest_11 fl kl fr kr ng2 fp2 kp2 fq2 kq2 ee2 ng4 fp4 kp4 fq4 kq4 ee4 ng6 fp6 kp6 fq6 kq6 ee6 ng7 fp7 kp7 fq7 kq7 ee7 ng9 fp9 kp9 fq9 kq9 ee9 ng3 fp3 kp3 fq3 kq3 ee3) ng4 fp4 kp4 fq4 kq4 ee4 ng3 fp3 kp3 fq3 kq3 ee3 h3 (by decide) (by omega) (by omega) (by omega) (by omega)
  have x1 : (v_M_nearest_1 fl kl fr kr ng2 fp2 kp2 fq2 kq2 ee2 ng4 fp4 kp4 fq4 kq4 ee4 ng6 fp6 kp6 fq6 kq6 ee6 ng7 fp7 kp7 fq7 kq7 ee7 ng9 fp9 kp9 fq9 kq9 ee9 ng3 fp3 kp3 fq3 kq3 ee3) = sgM Ma ng3 := a2
  have x12 : (v_M_nearest_12 fl kl fr kr ng2 fp2 kp2 fq2 kq2 ee2 ng4 fp4 kp4 fq4 kq4 ee4 ng6 fp6 kp6 fq6 kq6 ee6 ng7 fp7 kp7 fq7 kq7 ee7 ng9 fp9 kp9 fq9 kq9 ee9 ng3 fp3 kp3 fq3 kq3 ee3) = sgM Mb ng3 := b2
  have d0 : pM_nearest fl kl fr kr ng2 fp2 kp2 fq2 kq2 ee2 ng4 fp4 kp4 fq4 kq4 ee4 ng6 fp6 kp6 fq6 kq6 ee6 ng7 fp7 kp7 fq7 kq7 ee7 ng9 fp9 kp9 fq9 kq9 ee9 ng3 fp3 kp3 fq3 kq3 ee3 = if (v_M_nearest_1 fl kl fr kr ng2 fp2 kp2 fq2 kq2 ee2 ng4 fp4 kp4 fq4 kq4 ee4 ng6 fp6 kp6 fq6 kq6 ee6 ng7 fp7 kp7 fq7 kq7 ee7 ng9 fp9 kp9 fq9 kq9 ee9 ng3 fp3 kp3 fq3 kq3 ee3) = (v_M_nearest_12 fl kl fr kr ng2 fp2 kp2 fq2 kq2 ee2 ng4 fp4 kp4 fq4 kq4 ee4 ng6 fp6 kp6 fq6 kq6 ee6 ng7 fp7 kp7 fq7 kq7 ee7 ng9 fp9 kp9 fq9 kq9 ee9 ng3 fp3 kp3 fq3 kq3 ee3) then (v_M_nearest_1 fl kl fr kr ng2 fp2 kp2 fq2 kq2 ee2 ng4 fp4 kp4 fq4 kq4 ee4 ng6 fp6 kp6 fq6 kq6 ee6 ng7 fp7 kp7 fq7 kq7 ee7 ng9 fp9 kp9 fq9 kq9 ee9 ng3 fp3 kp3 fq3 kq3 ee3) else (v_M_nearest_55 fl kl fr kr ng2 fp2 kp2 fq2 kq2 ee2 ng4 fp4 kp4 fq4 kq4 ee4 ng6 fp6 kp6 fq6 kq6 ee6 ng7 fp7 kp7 fq7 kq7 ee7 ng9 fp9 kp9 fq9 kq9 ee9 ng3 fp3 kp3 fq3 kq3 ee3) := rfl
  -- floor and ceiling, whatever the sign
  obtain ⟨f, g, hf, hg, hfg⟩ : ∃ f g, FL f (P * WW e) 1 ∧ CE g (P * WW e) 1 ∧ ((ng3 = false ∧ Ma = f ∧ Mb = g) ∨ (ng3 = true ∧ Ma = g ∧ Mb = f)) := by
    cases ng3 with
    | false => exact ⟨Ma, Mb, a3 rfl, b4 rfl, Or.inl ⟨rfl, rfl, rfl⟩⟩
    | true => exact ⟨Mb, Ma, b3 rfl, a4 rfl, Or.inr ⟨rfl, rfl, rfl⟩⟩
  by_cases ex : FV f * 1 = P * WW e
  · have eg : g = f := CE_un hg (ex_CE (by decide) hf.1 ex)
    have eab : Ma = f ∧ Mb = f := by rcases hfg with ⟨-, p, q⟩ | ⟨-, p, q⟩ <;> omega
    rw [d0, x1, x12, eab.1, eab.2, if_pos rfl]
    exact ⟨f, Nat.le_of_lt hf.1, rfl, Or.inl ex⟩
  · -- strictly between two neighbours
    have hlt : FV f * 1 < P * WW e := Nat.lt_of_le_of_ne hf.2.1 ex
    have hf1 : f + 1 < IM := by
      refine Nat.lt_of_not_le (fun z => ?_)
      have : f = IM - 1 := by have := hf.1; omega
      rw [this] at hlt
      omega
    have hgt : P * WW e < FV (f + 1) * 1 := hf.2.2 hf1
    have eg : g = f + 1 := by
      refine CE_un hg ⟨by omega, fun _ => Nat.le_of_lt hgt, fun N hN => ?_⟩
      have : N = f := by omega
      rw [this]; exact hlt
    have hne : ¬ (v_M_nearest_1 fl kl fr kr ng2 fp2 kp2 fq2 kq2 ee2 ng4 fp4 kp4 fq4 kq4 ee4 ng6 fp6 kp6 fq6 kq6 ee6 ng7 fp7 kp7 fq7 kq7 ee7 ng9 fp9 kp9 fq9 kq9 ee9 ng3 fp3 kp3 fq3 kq3 ee3) = (v_M_nearest_12 fl kl fr kr ng2 fp2 kp2 fq2 kq2 ee2 ng4 fp4 kp4 fq4 kq4 ee4 ng6 fp6 kp6 fq6 kq6 ee6 ng7 fp7 kp7 fq7 kq7 ee7 ng9 fp9 kp9 fq9 kq9 ee9 ng3 fp3 kp3 fq3 kq3 ee3) := by
      rw [x1, x12]
      intro z
      have := sgM_inj a1 b1 z
      omega
    rw [d0, if_neg hne]
    -- the sum of the two
    have n6 : NU (v_M_nearest_30 fl kl fr kr ng2 fp2 kp2 fq2 kq2 ee2 ng4 fp4 kp4 fq4 kq4 ee4 ng6 fp6 kp6 fq6 kq6 ee6 ng7 fp7 kp7 fq7 kq7 ee7 ng9 fp9 kp9 fq9 kq9 ee9 ng3 fp3 kp3 fq3 kq3 ee3) (v_M_nearest_31 fl kl fr kr ng2 fp2 kp2 fq2 kq2 ee2 ng4 fp4 kp4 fq4 kq4 ee4 ng6 fp6 kp6 fq6 kq6 ee6 ng7 fp7 kp7 fq7 kq7 ee7 ng9 fp9 kp9 fq9 kq9 ee9 ng3 fp3 kp3 fq3 kq3 ee3) (v_M_nearest_32 fl kl fr kr ng2 fp2 kp2 fq2 kq2 ee2 ng4 fp4 kp4 fq4 kq4 ee4 ng6 fp6 kp6 fq6 kq6 ee6 ng7 fp7 kp7 fq7 kq7 ee7 ng9 fp9 kp9 fq9 kq9 ee9 ng3 fp3 kp3 fq3 kq3 ee3) (v_M_nearest_33 fl kl fr kr ng2 fp2 kp2 fq2 kq2 ee2 ng4 fp4 kp4 fq4 kq4 ee4 ng6 fp6 kp6 fq6 kq6 ee6 ng7 fp7 kp7 fq7 kq7 ee7 ng9 fp9 kp9 fq9 kq9 ee9 ng3 fp3 kp3 fq3 kq3 ee3) (v_M_nearest_34 fl kl fr kr ng2 fp2 kp2 fq2 kq2 ee2 ng4 fp4 kp4 fq4 kq4 ee4 ng6 fp6 kp6 fq6 kq6 ee6 ng7 fp7 kp7 fq7 kq7 ee7 ng9 fp9 kp9 fq9 kq9 ee9 ng3 fp3 kp3 fq3 kq3 ee3) (sgf (v_M_nearest_1 fl kl fr kr ng2 fp2 kp2 fq2 kq2 ee2 ng4 fp4 kp4 fq4 kq4 ee4 ng6 fp6 kp6 fq6 kq6 ee6 ng7 fp7 kp7 fq7 kq7 ee7 ng9 fp9 kp9 fq9 kq9 ee9 ng3 fp3 kp3 fq3 kq3 ee3)) 1 (exf (v_M_nearest_1 fl kl fr kr ng2 fp2 kp2 fq2 kq2 ee2 ng4 fp4 kp4 fq4 kq4 ee4 ng6 fp6 kp6 fq6 kq6 ee6 ng7 fp7 kp7 fq7 kq7 ee7 ng9 fp9 kp9 fq9 kq9 ee9 ng3 fp3 kp3 fq3 kq3 ee3)) := sf_NU ng6 fp6 kp6 fq6 kq6 ee6 (v_M_nearest_1 fl kl fr kr ng2 fp2 kp2 fq2 kq2 ee2 ng4 fp4 kp4 fq4 kq4 ee4 ng6 fp6 kp6 fq6 kq6 ee6 ng7 fp7 kp7 fq7 kq7 ee7 ng9 fp9 kp9 fq9 kq9 ee9 ng3 fp3 kp3 fq3 kq3 ee3)
    have n7 : NU (v_M_nearest_36 fl kl fr kr ng2 fp2 kp2 fq2 kq2 ee2 ng4 fp4 kp4 fq4 kq4 ee4 ng6 fp6 kp6 fq6 kq6 ee6 ng7 fp7 kp7 fq7 kq7 ee7 ng9 fp9 kp9 fq9 kq9 ee9 ng3 fp3 kp3 fq3 kq3 ee3) (v_M_nearest_37 fl kl fr kr ng2 fp2 kp2 fq2 kq2 ee2 ng4 fp4 kp4 fq4 kq4 ee4 ng6 fp6 kp6 fq6 kq6 ee6 ng7 fp7 kp7 fq7 kq7 ee7 ng9 fp9 kp9 fq9 kq9 ee9 ng3 fp3 kp3 fq3 kq3 ee3) (v_M_nearest_38 fl kl fr kr ng2 fp2 kp2 fq2 kq2 ee2 ng4 fp4 kp4 fq4 kq4 ee4 ng6 fp6 kp6 fq6 kq6 ee6 ng7 fp7 kp7 fq7 kq7 ee7 ng9 fp9 kp9 fq9 kq9 ee9 ng3 fp3 kp3 fq3 kq3 ee3) (v_M_nearest_39 fl kl fr kr ng2 fp2 kp2 fq2 kq2 ee2 ng4 fp4 kp4 fq4 kq4 ee4 ng6 fp6 kp6 fq6 kq6 ee6 ng7 fp7 kp7 fq7 kq7 ee7 ng9 fp9 kp9 fq9 kq9 ee9 ng3 fp3 kp3 fq3 kq3 ee3) (v_M_nearest_40 fl kl fr kr ng2 fp2 kp2 fq2 kq2 ee2 ng4 fp4 kp4 fq4 kq4 ee4 ng6 fp6 kp6 fq6 kq6 ee6 ng7 fp7 kp7 fq7 kq7 ee7 ng9 fp9 kp9 fq9 kq9 ee9 ng3 fp3 kp3 fq3 kq3 ee3) (sgf (v_M_nearest_12 fl kl fr kr ng2 fp2 kp2 fq2 kq2 ee2 ng4 fp4 kp4 fq4 kq4 ee4 ng6 fp6 kp6 fq6 kq6 ee6 ng7 fp7 kp7 fq7 kq7 ee7 ng9 fp9 kp9 fq9 kq9 ee9 ng3 fp3 kp3 fq3 kq3 ee3)) 1 (exf (v_M_nearest_12 fl kl fr kr ng2 fp2 kp2 fq2 kq2 ee2 ng4 fp4 kp4 fq4 kq4 ee4 ng6 fp6 kp6 fq6 kq6 ee6 ng7 fp7 kp7 fq7 kq7 ee7 ng9 fp9 kp9 fq9 kq9 ee9 ng3 fp3 kp3 fq3 kq3 ee3)) := sf_NU ng7 fp7 kp7 fq7 kq7 ee7 (v_M_nearest_12 fl kl fr kr ng2 fp2 kp2 fq2 kq2 ee2 ng4 fp4 kp4 fq4 kq4 ee4 ng6 fp6 kp6 fq6 kq6 ee6 ng7 fp7 kp7 fq7 kq7 ee7 ng9 fp9 kp9 fq9 kq9 ee9 ng3 fp3 kp3 fq3 kq3 ee3)
    have l6 : (v_M_nearest_31 fl kl fr kr ng2 fp2 kp2 fq2 kq2 ee2 ng4 fp4 kp4 fq4 kq4 ee4 ng6 fp6 kp6 fq6 kq6 ee6 ng7 fp7 kp7 fq7 kq7 ee7 ng9 fp9 kp9 fq9 kq9 ee9 ng3 fp3 kp3 fq3 kq3 ee3) ≤ 4 := sf_lp ng6 fp6 kp6 fq6 kq6 ee6 (v_M_nearest_1 fl kl fr kr ng2 fp2 kp2 fq2 kq2 ee2 ng4 fp4 kp4 fq4 kq4 ee4 ng6 fp6 kp6 fq6 kq6 ee6 ng7 fp7 kp7 fq7 kq7 ee7 ng9 fp9 kp9 fq9 kq9 ee9 ng3 fp3 kp3 fq3 kq3 ee3)
    have l7 : (v_M_nearest_37 fl kl fr kr ng2 fp2 kp2 fq2 kq2 ee2 ng4 fp4 kp4 fq4 kq4 ee4 ng6 fp6 kp6 fq6 kq6 ee6 ng7 fp7 kp7 fq7 kq7 ee7 ng9 fp9 kp9 fq9 kq9 ee9 ng3 fp3 kp3 fq3 kq3 ee3) ≤ 4 := sf_lp ng7 fp7 kp7 fq7 kq7 ee7 (v_M_nearest_12 fl kl fr kr ng2 fp2 kp2 fq2 kq2 ee2 ng4 fp4 kp4 fq4 kq4 ee4 ng6 fp6 kp6 fq6 kq6 ee6 ng7 fp7 kp7 fq7 kq7 ee7 ng9 fp9 kp9 fq9 kq9 ee9 ng3 fp3 kp3 fq3 kq3 ee3)
    have ge6 := exf_ge (v_M_nearest_1 fl kl fr kr ng2 fp2 kp2 fq2 kq2 ee2 ng4 fp4 kp4 fq4 kq4 ee4 ng6 fp6 kp6 fq6 kq6 ee6 ng7 fp7 kp7 fq7 kq7 ee7 ng9 fp9 kp9 fq9 kq9 ee9 ng3 fp3 kp3 fq3 kq3 ee3)
    have le6 := exf_le (v_M_nearest_1 fl kl fr kr ng2 fp2 kp2 fq2 kq2 ee2 ng4 fp4 kp4 fq4 kq4 ee4 ng6 fp6 kp6 fq6 kq6 ee6 ng7 fp7 kp7 fq7 kq7 ee7 ng9 fp9 kp9 fq9 kq9 ee9 ng3 fp3 kp3 fq3 kq3 ee3)
    have ge7 := exf_ge (v_M_nearest_12 fl kl fr kr ng2 fp2 kp2 fq2 kq2 ee2 ng4 fp4 kp4 fq4 kq4 ee4 ng6 fp6 kp6 fq6 kq6 ee6 ng7 fp7 kp7 fq7 kq7 ee7 ng9 fp9 kp9 fq9 kq9 ee9 ng3 fp3 kp3 fq3 kq3 ee3)
    have le7 := exf_le (v_M_nearest_12 fl kl fr kr ng2 fp2 kp2 fq2 kq2 ee2 ng4 fp4 kp4 fq4 kq4 ee4 ng6 fp6 kp6 fq6 kq6 ee6 ng7 fp7 kp7 fq7 kq7 ee7 ng9 fp9 kp9 fq9 kq9 ee9 ng3 fp3 kp3 fq3 kq3 ee3)
    have s1 := (pl_s n6.2.2 n7.2.2 (by omega) (by omega) (by omega) (by omega)).2
    have s2 := (pl_t n6.2.2 n7.2.2 (by omega) (by omega) (by omega) (by omega)).2
    have c1 := pl_b n6.2.2 n7.2.2 (by omega) (by omega) (by omega) (by omega) (c := 2100) (by omega) (by omega)
    have c2 := pl_c n6.2.2 n7.2.2 (by omega) (by omega) (by omega) (by omega) (c := 2100) (by omega) (by omega)
    obtain ⟨P9, e9, n9, v9, z9, k9, q9⟩ := pl_NU ng9 fp9 kp9 fq9 kq9 ee9 (v_M_nearest_29 fl kl fr kr ng2 fp2 kp2 fq2 kq2 ee2 ng4 fp4 kp4 fq4 kq4 ee4 ng6 fp6 kp6 fq6 kq6 ee6 ng7 fp7 kp7 fq7 kq7 ee7 ng9 fp9 kp9 fq9 kq9 ee9 ng3 fp3 kp3 fq3 kq3 ee3) (v_M_nearest_30 fl kl fr kr ng2 fp2 kp2 fq2 kq2 ee2 ng4 fp4 kp4 fq4 kq4 ee4 ng6 fp6 kp6 fq6 kq6 ee6 ng7 fp7 kp7 fq7 kq7 ee7 ng9 fp9 kp9 fq9 kq9 ee9 ng3 fp3 kp3 fq3 kq3 ee3) (v_M_nearest_31 fl kl fr kr ng2 fp2 kp2 fq2 kq2 ee2 ng4 fp4 kp4 fq4 kq4 ee4 ng6 fp6 kp6 fq6 kq6 ee6 ng7 fp7 kp7 fq7 kq7 ee7 ng9 fp9 kp9 fq9 kq9 ee9 ng3 fp3 kp3 fq3 kq3 ee3) (v_M_nearest_32 fl kl fr kr ng2 fp2 kp2 fq2 kq2 ee2 ng4 fp4 kp4 fq4 kq4 ee4 ng6 fp6 kp6 fq6 kq6 ee6 ng7 fp7 kp7 fq7 kq7 ee7 ng9 fp9 kp9 fq9 kq9 ee9 ng3 fp3 kp3 fq3 kq3 ee3) (v_M_nearest_33 fl kl fr kr ng2 fp2 kp2 fq2 kq2 ee2 ng4 fp4 kp4 fq4 kq4 ee4 ng6 fp6 kp6 fq6 kq6 ee6 ng7 fp7 kp7 fq7 kq7 ee7 ng9 fp9 kp9 fq9 kq9 ee9 ng3 fp3 kp3 fq3 kq3 ee3) (v_M_nearest_34 fl kl fr kr ng2 fp2 kp2 fq2 kq2 ee2 ng4 fp4 kp4 fq4 kq4 ee4 ng6 fp6 kp6 fq6 kq6 ee6 ng7 fp7 kp7 fq7 kq7 ee7 ng9 fp9 kp9 fq9 kq9 ee9 ng3 fp3 kp3 fq3 kq3 ee3) (v_M_nearest_35 fl kl fr kr ng2 fp2 kp2 fq2 kq2 ee2 ng4 fp4 kp4 fq4 kq4 ee4 ng6 fp6 kp6 fq6 kq6 ee6 ng7 fp7 kp7 fq7 kq7 ee7 ng9 fp9 kp9 fq9 kq9 ee9 ng3 fp3 kp3 fq3 kq3 ee3) (v_M_nearest_36 fl kl fr kr ng2 fp2 kp2 fq2 kq2 ee2 ng4 fp4 kp4 fq4 kq4 ee4 ng6 fp6 kp6 fq6 kq6 ee6 ng7 fp7 kp7 fq7 kq7 ee7 ng9 fp9 kp9 fq9 kq9 ee9 ng3 fp3 kp3 fq3 kq3 ee3) (v_M_nearest_37 fl kl fr kr ng2 fp2 kp2 fq2 kq2 ee2 ng4 fp4 kp4 fq4 kq4 ee4 ng6 fp6 kp6 fq6 kq6 ee6 ng7 fp7 kp7 fq7 kq7 ee7 ng9 fp9 kp9 fq9 kq9 ee9 ng3 fp3 kp3 fq3 kq3 ee3) (v_M_nearest_38 fl kl fr kr ng2 fp2 kp2 fq2 kq2 ee2 ng4 fp4 kp4 fq4 kq4 ee4 ng6 fp6 kp6 fq6 kq6 ee6 ng7 fp7 kp7 fq7 kq7 ee7 ng9 fp9 kp9 fq9 kq9 ee9 ng3 fp3 kp3 fq3 kq3 ee3) (v_M_nearest_39 fl kl fr kr ng2 fp2 kp2 fq2 kq2 ee2 ng4 fp4 kp4 fq4 kq4 ee4 ng6 fp6 kp6 fq6 kq6 ee6 ng7 fp7 kp7 fq7 kq7 ee7 ng9 fp9 kp9 fq9 kq9 ee9 ng3 fp3 kp3 fq3 kq3 ee3) (v_M_nearest_40 fl kl fr kr ng2 fp2 kp2 fq2 kq2 ee2 ng4 fp4 kp4 fq4 kq4 ee4 ng6 fp6 kp6 fq6 kq6 ee6 ng7 fp7 kp7 fq7 kq7 ee7 ng9 fp9 kp9 fq9 kq9 ee9 ng3 fp3 kp3 fq3 kq3 ee3) _ _ n6 n7 (by omega) (by omega) (by omega) (by omega) (by omega) (by omega) s1 s2
    have lkq := n9.2.1.len (m := 1) (by decide)
    have lkp : (v_M_nearest_43 fl kl fr kr ng2 fp2 kp2 fq2 kq2 ee2 ng4 fp4 kp4 fq4 kq4 ee4 ng6 fp6 kp6 fq6 kq6 ee6 ng7 fp7 kp7 fq7 kq7 ee7 ng9 fp9 kp9 fq9 kq9 ee9 ng3 fp3 kp3 fq3 kq3 ee3) ≤ 600 := by
      refine Nat.le_trans k9 ?_
      clear k9 n9 s1 s2 v9 z9
      generalize ((v_M_nearest_34 fl kl fr kr ng2 fp2 kp2 fq2 kq2 ee2 ng4 fp4 kp4 fq4 kq4 ee4 ng6 fp6 kp6 fq6 kq6 ee6 ng7 fp7 kp7 fq7 kq7 ee7 ng9 fp9 kp9 fq9 kq9 ee9 ng3 fp3 kp3 fq3 kq3 ee3) - (if (v_M_nearest_40 fl kl fr kr ng2 fp2 kp2 fq2 kq2 ee2 ng4 fp4 kp4 fq4 kq4 ee4 ng6 fp6 kp6 fq6 kq6 ee6 ng7 fp7 kp7 fq7 kq7 ee7 ng9 fp9 kp9 fq9 kq9 ee9 ng3 fp3 kp3 fq3 kq3 ee3) ≤ (v_M_nearest_34 fl kl fr kr ng2 fp2 kp2 fq2 kq2 ee2 ng4 fp4 kp4 fq4 kq4 ee4 ng6 fp6 kp6 fq6 kq6 ee6 ng7 fp7 kp7 fq7 kq7 ee7 ng9 fp9 kp9 fq9 kq9 ee9 ng3 fp3 kp3 fq3 kq3 ee3) then (v_M_nearest_40 fl kl fr kr ng2 fp2 kp2 fq2 kq2 ee2 ng4 fp4 kp4 fq4 kq4 ee4 ng6 fp6 kp6 fq6 kq6 ee6 ng7 fp7 kp7 fq7 kq7 ee7 ng9 fp9 kp9 fq9 kq9 ee9 ng3 fp3 kp3 fq3 kq3 ee3) else (v_M_nearest_34 fl kl fr kr ng2 fp2 kp2 fq2 kq2 ee2 ng4 fp4 kp4 fq4 kq4 ee4 ng6 fp6 kp6 fq6 kq6 ee6 ng7 fp7 kp7 fq7 kq7 ee7 ng9 fp9 kp9 fq9 kq9 ee9 ng3 fp3 kp3 fq3 kq3 ee3))).toNatClampNeg = y1 at *
      generalize ((v_M_nearest_40 fl kl fr kr ng2 fp2 kp2 fq2 kq2 ee2 ng4 fp4 kp4 fq4 kq4 ee4 ng6 fp6 kp6 fq6 kq6 ee6 ng7 fp7 kp7 fq7 kq7 ee7 ng9 fp9 kp9 fq9 kq9 ee9 ng3 fp3 kp3 fq3 kq3 ee3) - (if (v_M_nearest_40 fl kl fr kr ng2 fp2 kp2 fq2 kq2 ee2 ng4 fp4 kp4 fq4 kq4 ee4 ng6 fp6 kp6 fq6 kq6 ee6 ng7 fp7 kp7 fq7 kq7 ee7 ng9 fp9 kp9 fq9 kq9 ee9 ng3 fp3 kp3 fq3 kq3 ee3) ≤ (v_M_nearest_34 fl kl fr kr ng2 fp2 kp2 fq2 kq2 ee2 ng4 fp4 kp4 fq4 kq4 ee4 ng6 fp6 kp6 fq6 kq6 ee6 ng7 fp7 kp7 fq7 kq7 ee7 ng9 fp9 kp9 fq9 kq9 ee9 ng3 fp3 kp3 fq3 kq3 ee3) then (v_M_nearest_40 fl kl fr kr ng2 fp2 kp2 fq2 kq2 ee2 ng4 fp4 kp4 fq4 kq4 ee4 ng6 fp6 kp6 fq6 kq6 ee6 ng7 fp7 kp7 fq7 kq7 ee7 ng9 fp9 kp9 fq9 kq9 ee9 ng3 fp3 kp3 fq3 kq3 ee3) else (v_M_nearest_34 fl kl fr kr ng2 fp2 kp2 fq2 kq2 ee2 ng4 fp4 kp4 fq4 kq4 ee4 ng6 fp6 kp6 fq6 kq6 ee6 ng7 fp7 kp7 fq7 kq7 ee7 ng9 fp9 kp9 fq9 kq9 ee9 ng3 fp3 kp3 fq3 kq3 ee3))).toNatClampNeg = y2 at *
      clear x1 x12 d0 hne n6 n7 ge6 le6 ge7 le7
      omega
    have lkr : (v_M_nearest_45 fl kl fr kr ng2 fp2 kp2 fq2 kq2 ee2 ng4 fp4 kp4 fq4 kq4 ee4 ng6 fp6 kp6 fq6 kq6 ee6 ng7 fp7 kp7 fq7 kq7 ee7 ng9 fp9 kp9 fq9 kq9 ee9 ng3 fp3 kp3 fq3 kq3 ee3) ≤ 1 := lkq
    have n9' : NU (v_M_nearest_42 fl kl fr kr ng2 fp2 kp2 fq2 kq2 ee2 ng4 fp4 kp4 fq4 kq4 ee4 ng6 fp6 kp6 fq6 kq6 ee6 ng7 fp7 kp7 fq7 kq7 ee7 ng9 fp9 kp9 fq9 kq9 ee9 ng3 fp3 kp3 fq3 kq3 ee3) (v_M_nearest_43 fl kl fr kr ng2 fp2 kp2 fq2 kq2 ee2 ng4 fp4 kp4 fq4 kq4 ee4 ng6 fp6 kp6 fq6 kq6 ee6 ng7 fp7 kp7 fq7 kq7 ee7 ng9 fp9 kp9 fq9 kq9 ee9 ng3 fp3 kp3 fq3 kq3 ee3) (v_M_nearest_44 fl kl fr kr ng2 fp2 kp2 fq2 kq2 ee2 ng4 fp4 kp4 fq4 kq4 ee4 ng6 fp6 kp6 fq6 kq6 ee6 ng7 fp7 kp7 fq7 kq7 ee7 ng9 fp9 kp9 fq9 kq9 ee9 ng3 fp3 kp3 fq3 kq3 ee3) (v_M_nearest_45 fl kl fr kr ng2 fp2 kp2 fq2 kq2 ee2 ng4 fp4 kp4 fq4 kq4 ee4 ng6 fp6 kp6 fq6 kq6 ee6 ng7 fp7 kp7 fq7 kq7 ee7 ng9 fp9 kp9 fq9 kq9 ee9 ng3 fp3 kp3 fq3 kq3 ee3) (v_M_nearest_46 fl kl fr kr ng2 fp2 kp2 fq2 kq2 ee2 ng4 fp4 kp4 fq4 kq4 ee4 ng6 fp6 kp6 fq6 kq6 ee6 ng7 fp7 kp7 fq7 kq7 ee7 ng9 fp9 kp9 fq9 kq9 ee9 ng3 fp3 kp3 fq3 kq3 ee3) P9 1 e9 := n9
    have e49 : ((v_M_nearest_49 fl kl fr kr ng2 fp2 kp2 fq2 kq2 ee2 ng4 fp4 kp4 fq4 kq4 ee4 ng6 fp6 kp6 fq6 kq6 ee6 ng7 fp7 kp7 fq7 kq7 ee7 ng9 fp9 kp9 fq9 kq9 ee9 ng3 fp3 kp3 fq3 kq3 ee3)).toInt = e9 - 1 := iS n9'.2.2 (show (1 : Int32).toInt = 1 from rfl) (by rcases q9 with q | q <;> omega) (by rcases q9 with q | q <;> omega)
    have n49 : NU (v_M_nearest_42 fl kl fr kr ng2 fp2 kp2 fq2 kq2 ee2 ng4 fp4 kp4 fq4 kq4 ee4 ng6 fp6 kp6 fq6 kq6 ee6 ng7 fp7 kp7 fq7 kq7 ee7 ng9 fp9 kp9 fq9 kq9 ee9 ng3 fp3 kp3 fq3 kq3 ee3) (v_M_nearest_43 fl kl fr kr ng2 fp2 kp2 fq2 kq2 ee2 ng4 fp4 kp4 fq4 kq4 ee4 ng6 fp6 kp6 fq6 kq6 ee6 ng7 fp7 kp7 fq7 kq7 ee7 ng9 fp9 kp9 fq9 kq9 ee9 ng3 fp3 kp3 fq3 kq3 ee3) (v_M_nearest_44 fl kl fr kr ng2 fp2 kp2 fq2 kq2 ee2 ng4 fp4 kp4 fq4 kq4 ee4 ng6 fp6 kp6 fq6 kq6 ee6 ng7 fp7 kp7 fq7 kq7 ee7 ng9 fp9 kp9 fq9 kq9 ee9 ng3 fp3 kp3 fq3 kq3 ee3) (v_M_nearest_45 fl kl fr kr ng2 fp2 kp2 fq2 kq2 ee2 ng4 fp4 kp4 fq4 kq4 ee4 ng6 fp6 kp6 fq6 kq6 ee6 ng7 fp7 kp7 fq7 kq7 ee7 ng9 fp9 kp9 fq9 kq9 ee9 ng3 fp3 kp3 fq3 kq3 ee3) (v_M_nearest_49 fl kl fr kr ng2 fp2 kp2 fq2 kq2 ee2 ng4 fp4 kp4 fq4 kq4 ee4 ng6 fp6 kp6 fq6 kq6 ee6 ng7 fp7 kp7 fq7 kq7 ee7 ng9 fp9 kp9 fq9 kq9 ee9 ng3 fp3 kp3 fq3 kq3 ee3) P9 1 (e9 - 1) := ⟨n9'.1, n9'.2.1, e49⟩
    have ho : (v_M_nearest_50 fl kl fr kr ng2 fp2 kp2 fq2 kq2 ee2 ng4 fp4 kp4 fq4 kq4 ee4 ng6 fp6 kp6 fq6 kq6 ee6 ng7 fp7 kp7 fq7 kq7 ee7 ng9 fp9 kp9 fq9 kq9 ee9 ng3 fp3 kp3 fq3 kq3 ee3) = cmZ (SV ng3 (P * 1 * WW e)) (SV (v_M_nearest_41 fl kl fr kr ng2 fp2 kp2 fq2 kq2 ee2 ng4 fp4 kp4 fq4 kq4 ee4 ng6 fp6 kp6 fq6 kq6 ee6 ng7 fp7 kp7 fq7 kq7 ee7 ng9 fp9 kp9 fq9 kq9 ee9 ng3 fp3 kp3 fq3 kq3 ee3) (P9 * 1 * WW (e9 - 1))) :=
      or_ok (v_M_nearest_13 fl kl fr kr ng2 fp2 kp2 fq2 kq2 ee2 ng4 fp4 kp4 fq4 kq4 ee4 ng6 fp6 kp6 fq6 kq6 ee6 ng7 fp7 kp7 fq7 kq7 ee7 ng9 fp9 kp9 fq9 kq9 ee9 ng3 fp3 kp3 fq3 kq3 ee3) (v_M_nearest_14 fl kl fr kr ng2 fp2 kp2 fq2 kq2 ee2 ng4 fp4 kp4 fq4 kq4 ee4 ng6 fp6 kp6 fq6 kq6 ee6 ng7 fp7 kp7 fq7 kq7 ee7 ng9 fp9 kp9 fq9 kq9 ee9 ng3 fp3 kp3 fq3 kq3 ee3) (v_M_nearest_15 fl kl fr kr ng2 fp2 kp2 fq2 kq2 ee2 ng4 fp4 kp4 fq4 kq4 ee4 ng6 fp6 kp6 fq6 kq6 ee6 ng7 fp7 kp7 fq7 kq7 ee7 ng9 fp9 kp9 fq9 kq9 ee9 ng3 fp3 kp3 fq3 kq3 ee3) (v_M_nearest_16 fl kl fr kr ng2 fp2 kp2 fq2 kq2 ee2 ng4 fp4 kp4 fq4 kq4 ee4 ng6 fp6 kp6 fq6 kq6 ee6 ng7 fp7 kp7 fq7 kq7 ee7 ng9 fp9 kp9 fq9 kq9 ee9 ng3 fp3 kp3 fq3 kq3 ee3) ng3 fp3 kp3 fq3 kq3 ee3 (v_M_nearest_41 fl kl fr kr ng2 fp2 kp2 fq2 kq2 ee2 ng4 fp4 kp4 fq4 kq4 ee4 ng6 fp6 kp6 fq6 kq6 ee6 ng7 fp7 kp7 fq7 kq7 ee7 ng9 fp9 kp9 fq9 kq9 ee9 ng3 fp3 kp3 fq3 kq3 ee3) (v_M_nearest_42 fl kl fr kr ng2 fp2 kp2 fq2 kq2 ee2 ng4 fp4 kp4 fq4 kq4 ee4 ng6 fp6 kp6 fq6 kq6 ee6 ng7 fp7 kp7 fq7 kq7 ee7 ng9 fp9 kp9 fq9 kq9 ee9 ng3 fp3 kp3 fq3 kq3 ee3) (v_M_nearest_43 fl kl fr kr ng2 fp2 kp2 fq2 kq2 ee2 ng4 fp4 kp4 fq4 kq4 ee4 ng6 fp6 kp6 fq6 kq6 ee6 ng7 fp7 kp7 fq7 kq7 ee7 ng9 fp9 kp9 fq9 kq9 ee9 ng3 fp3 kp3 fq3 kq3 ee3) (v_M_nearest_44 fl kl fr kr ng2 fp2 kp2 fq2 kq2 ee2 ng4 fp4 kp4 fq4 kq4 ee4 ng6 fp6 kp6 fq6 kq6 ee6 ng7 fp7 kp7 fq7 kq7 ee7 ng9 fp9 kp9 fq9 kq9 ee9 ng3 fp3 kp3 fq3 kq3 ee3) (v_M_nearest_45 fl kl fr kr ng2 fp2 kp2 fq2 kq2 ee2 ng4 fp4 kp4 fq4 kq4 ee4 ng6 fp6 kp6 fq6 kq6 ee6 ng7 fp7 kp7 fq7 kq7 ee7 ng9 fp9 kp9 fq9 kq9 ee9 ng3 fp3 kp3 fq3 kq3 ee3) (v_M_nearest_49 fl kl fr kr ng2 fp2 kp2 fq2 kq2 ee2 ng4 fp4 kp4 fq4 kq4 ee4 ng6 fp6 kp6 fq6 kq6 ee6 ng7 fp7 kp7 fq7 kq7 ee7 ng9 fp9 kp9 fq9 kq9 ee9 ng3 fp3 kp3 fq3 kq3 ee3) h3 n49 (by decide) (by decide) (by clear k9; omega) (by clear k9; omega) (by omega) (by omega) (by rcases q9 with q | q <;> omega) (by rcases q9 with q | q <;> omega)
    -- what the sum is
    have hv6 : sgf (v_M_nearest_1 fl kl fr kr ng2 fp2 kp2 fq2 kq2 ee2 ng4 fp4 kp4 fq4 kq4 ee4 ng6 fp6 kp6 fq6 kq6 ee6 ng7 fp7 kp7 fq7 kq7 ee7 ng9 fp9 kp9 fq9 kq9 ee9 ng3 fp3 kp3 fq3 kq3 ee3) * WW (exf (v_M_nearest_1 fl kl fr kr ng2 fp2 kp2 fq2 kq2 ee2 ng4 fp4 kp4 fq4 kq4 ee4 ng6 fp6 kp6 fq6 kq6 ee6 ng7 fp7 kp7 fq7 kq7 ee7 ng9 fp9 kp9 fq9 kq9 ee9 ng3 fp3 kp3 fq3 kq3 ee3)) = FV Ma := by rw [← FV_mg, x1, sgM_mg a1]
    have hv7 : sgf (v_M_nearest_12 fl kl fr kr ng2 fp2 kp2 fq2 kq2 ee2 ng4 fp4 kp4 fq4 kq4 ee4 ng6 fp6 kp6 fq6 kq6 ee6 ng7 fp7 kp7 fq7 kq7 ee7 ng9 fp9 kp9 fq9 kq9 ee9 ng3 fp3 kp3 fq3 kq3 ee3) * WW (exf (v_M_nearest_12 fl kl fr kr ng2 fp2 kp2 fq2 kq2 ee2 ng4 fp4 kp4 fq4 kq4 ee4 ng6 fp6 kp6 fq6 kq6 ee6 ng7 fp7 kp7 fq7 kq7 ee7 ng9 fp9 kp9 fq9 kq9 ee9 ng3 fp3 kp3 fq3 kq3 ee3)) = FV Mb := by rw [← FV_mg, x12, sgM_mg b1]
    have g6 : 0 < Ma → (v_M_nearest_29 fl kl fr kr ng2 fp2 kp2 fq2 kq2 ee2 ng4 fp4 kp4 fq4 kq4 ee4 ng6 fp6 kp6 fq6 kq6 ee6 ng7 fp7 kp7 fq7 kq7 ee7 ng9 fp9 kp9 fq9 kq9 ee9 ng3 fp3 kp3 fq3 kq3 ee3) = ng3 := fun q => by
      refine (sf_nv ng6 fp6 kp6 fq6 kq6 ee6 (v_M_nearest_1 fl kl fr kr ng2 fp2 kp2 fq2 kq2 ee2 ng4 fp4 kp4 fq4 kq4 ee4 ng6 fp6 kp6 fq6 kq6 ee6 ng7 fp7 kp7 fq7 kq7 ee7 ng9 fp9 kp9 fq9 kq9 ee9 ng3 fp3 kp3 fq3 kq3 ee3)).trans ?_
      rw [x1]; exact sgM_sg a1 q
    have g7 : 0 < Mb → (v_M_nearest_35 fl kl fr kr ng2 fp2 kp2 fq2 kq2 ee2 ng4 fp4 kp4 fq4 kq4 ee4 ng6 fp6 kp6 fq6 kq6 ee6 ng7 fp7 kp7 fq7 kq7 ee7 ng9 fp9 kp9 fq9 kq9 ee9 ng3 fp3 kp3 fq3 kq3 ee3) = ng3 := fun q => by
      refine (sf_nv ng7 fp7 kp7 fq7 kq7 ee7 (v_M_nearest_12 fl kl fr kr ng2 fp2 kp2 fq2 kq2 ee2 ng4 fp4 kp4 fq4 kq4 ee4 ng6 fp6 kp6 fq6 kq6 ee6 ng7 fp7 kp7 fq7 kq7 ee7 ng9 fp9 kp9 fq9 kq9 ee9 ng3 fp3 kp3 fq3 kq3 ee3)).trans ?_
      rw [x12]; exact sgM_sg b1 q
    rw [hv6, hv7] at v9 z9
    have hW2 : WW e9 = WW (e9 - 1) * 2 := by
      have := WW_eq (e := e9 - 1) (f := e9) 1 (by rcases q9 with q | q <;> omega) (by omega)
      rw [Nat.pow_one] at this; exact this
    have hsum : P9 * WW e9 = FV f + FV (f + 1) ∧ (v_M_nearest_41 fl kl fr kr ng2 fp2 kp2 fq2 kq2 ee2 ng4 fp4 kp4 fq4 kq4 ee4 ng6 fp6 kp6 fq6 kq6 ee6 ng7 fp7 kp7 fq7 kq7 ee7 ng9 fp9 kp9 fq9 kq9 ee9 ng3 fp3 kp3 fq3 kq3 ee3) = ng3 := by
      have hpos : 0 < FV (f + 1) := by have := FV_lt (show f < f + 1 by omega); omega
      have key : smM (FV Ma) (FV Mb) (v_M_nearest_29 fl kl fr kr ng2 fp2 kp2 fq2 kq2 ee2 ng4 fp4 kp4 fq4 kq4 ee4 ng6 fp6 kp6 fq6 kq6 ee6 ng7 fp7 kp7 fq7 kq7 ee7 ng9 fp9 kp9 fq9 kq9 ee9 ng3 fp3 kp3 fq3 kq3 ee3) (v_M_nearest_35 fl kl fr kr ng2 fp2 kp2 fq2 kq2 ee2 ng4 fp4 kp4 fq4 kq4 ee4 ng6 fp6 kp6 fq6 kq6 ee6 ng7 fp7 kp7 fq7 kq7 ee7 ng9 fp9 kp9 fq9 kq9 ee9 ng3 fp3 kp3 fq3 kq3 ee3) = FV f + FV (f + 1) ∧ smS (FV Ma) (FV Mb) (v_M_nearest_29 fl kl fr kr ng2 fp2 kp2 fq2 kq2 ee2 ng4 fp4 kp4 fq4 kq4 ee4 ng6 fp6 kp6 fq6 kq6 ee6 ng7 fp7 kp7 fq7 kq7 ee7 ng9 fp9 kp9 fq9 kq9 ee9 ng3 fp3 kp3 fq3 kq3 ee3) (v_M_nearest_35 fl kl fr kr ng2 fp2 kp2 fq2 kq2 ee2 ng4 fp4 kp4 fq4 kq4 ee4 ng6 fp6 kp6 fq6 kq6 ee6 ng7 fp7 kp7 fq7 kq7 ee7 ng9 fp9 kp9 fq9 kq9 ee9 ng3 fp3 kp3 fq3 kq3 ee3) = ng3 := by
        by_cases z0 : f = 0
        · rcases hfg with ⟨-, p, q⟩ | ⟨-, p, q⟩
          · rw [p, z0, FV_0, smM_0l, smS_0l (by rw [q, eg, z0]; rw [z0] at hpos; exact hpos), g7 (by omega), q, eg, z0]
            exact ⟨by omega, rfl⟩
          · rw [q, z0, FV_0, smM_0r, smS_0r, g6 (by omega), p, eg, z0]
            exact ⟨by omega, rfl⟩
        · have h6 := g6 (by rcases hfg with ⟨-, p, q⟩ | ⟨-, p, q⟩ <;> omega)
          have h7 := g7 (by rcases hfg with ⟨-, p, q⟩ | ⟨-, p, q⟩ <;> omega)
          rw [h6, h7]
          unfold smM smS
          rw [if_pos rfl, if_pos rfl]
          refine ⟨?_, rfl⟩
          rcases hfg with ⟨-, p, q⟩ | ⟨-, p, q⟩
          · rw [p, q, eg]
          · rw [p, q, eg, Nat.add_comm]
      refine ⟨by rw [v9, key.1], ?_⟩
      have : P9 ≠ 0 := fun z => by rw [z, Nat.zero_mul, key.1] at v9; omega
      exact (z9 this).trans key.2
    have hcmp : (v_M_nearest_50 fl kl fr kr ng2 fp2 kp2 fq2 kq2 ee2 ng4 fp4 kp4 fq4 kq4 ee4 ng6 fp6 kp6 fq6 kq6 ee6 ng7 fp7 kp7 fq7 kq7 ee7 ng9 fp9 kp9 fq9 kq9 ee9 ng3 fp3 kp3 fq3 kq3 ee3) = cmZ (SV ng3 (2 * (P * WW e))) (SV ng3 (FV f + FV (f + 1))) := by
      rw [ho, hsum.2, Nat.mul_one, Nat.mul_one, ← hsum.1, hW2]
      have e1 : P9 * (WW (e9 - 1) * 2) = P9 * WW (e9 - 1) * 2 := (Nat.mul_assoc _ _ _).symm
      rw [e1, Nat.mul_comm 2]
      cases ng3 with
      | false => rw [SV_f, SV_f, SV_f, SV_f]; exact cmZ_sc (by decide)
      | true => rw [SV_t, SV_t, SV_t, SV_t, cmZ_neg, cmZ_neg]; exact cmZ_sc (by decide)
    have d55 : (v_M_nearest_55 fl kl fr kr ng2 fp2 kp2 fq2 kq2 ee2 ng4 fp4 kp4 fq4 kq4 ee4 ng6 fp6 kp6 fq6 kq6 ee6 ng7 fp7 kp7 fq7 kq7 ee7 ng9 fp9 kp9 fq9 kq9 ee9 ng3 fp3 kp3 fq3 kq3 ee3) = if 0 ≤ (v_M_nearest_50 fl kl fr kr ng2 fp2 kp2 fq2 kq2 ee2 ng4 fp4 kp4 fq4 kq4 ee4 ng6 fp6 kp6 fq6 kq6 ee6 ng7 fp7 kp7 fq7 kq7 ee7 ng9 fp9 kp9 fq9 kq9 ee9 ng3 fp3 kp3 fq3 kq3 ee3) then (if (v_M_nearest_50 fl kl fr kr ng2 fp2 kp2 fq2 kq2 ee2 ng4 fp4 kp4 fq4 kq4 ee4 ng6 fp6 kp6 fq6 kq6 ee6 ng7 fp7 kp7 fq7 kq7 ee7 ng9 fp9 kp9 fq9 kq9 ee9 ng3 fp3 kp3 fq3 kq3 ee3) ≤ 0 then (if ((v_M_nearest_1 fl kl fr kr ng2 fp2 kp2 fq2 kq2 ee2 ng4 fp4 kp4 fq4 kq4 ee4 ng6 fp6 kp6 fq6 kq6 ee6 ng7 fp7 kp7 fq7 kq7 ee7 ng9 fp9 kp9 fq9 kq9 ee9 ng3 fp3 kp3 fq3 kq3 ee3) &&& (1 : Int64)) = (0 : Int64) then (v_M_nearest_1 fl kl fr kr ng2 fp2 kp2 fq2 kq2 ee2 ng4 fp4 kp4 fq4 kq4 ee4 ng6 fp6 kp6 fq6 kq6 ee6 ng7 fp7 kp7 fq7 kq7 ee7 ng9 fp9 kp9 fq9 kq9 ee9 ng3 fp3 kp3 fq3 kq3 ee3) else (v_M_nearest_12 fl kl fr kr ng2 fp2 kp2 fq2 kq2 ee2 ng4 fp4 kp4 fq4 kq4 ee4 ng6 fp6 kp6 fq6 kq6 ee6 ng7 fp7 kp7 fq7 kq7 ee7 ng9 fp9 kp9 fq9 kq9 ee9 ng3 fp3 kp3 fq3 kq3 ee3)) else (v_M_nearest_12 fl kl fr kr ng2 fp2 kp2 fq2 kq2 ee2 ng4 fp4 kp4 fq4 kq4 ee4 ng6 fp6 kp6 fq6 kq6 ee6 ng7 fp7 kp7 fq7 kq7 ee7 ng9 fp9 kp9 fq9 kq9 ee9 ng3 fp3 kp3 fq3 kq3 ee3)) else (v_M_nearest_1 fl kl fr kr ng2 fp2 kp2 fq2 kq2 ee2 ng4 fp4 kp4 fq4 kq4 ee4 ng6 fp6 kp6 fq6 kq6 ee6 ng7 fp7 kp7 fq7 kq7 ee7 ng9 fp9 kp9 fq9 kq9 ee9 ng3 fp3 kp3 fq3 kq3 ee3) := rfl
    rw [d55, hcmp, x1, x12]
    clear d55 hcmp x1 x12 d0 hne ho hsum n9 n9' n49 e49 k9 lkp lkq lkr v9 z9 s1 s2 c1 c2 n6 n7 hv6 hv7 g6 g7 a2 b2 l6 l7 ge6 le6 ge7 le7
    rw [Nat.mul_one] at hlt hgt
    generalize P * WW e = r at *
    have nel : 2 * r < FV f + FV (f + 1) → NE f r 1 := fun q => Or.inr ⟨f, by omega, by omega, Or.inl ⟨rfl, Or.inl (by omega)⟩⟩
    have neg' : FV f + FV (f + 1) < 2 * r → NE (f + 1) r 1 := fun q => Or.inr ⟨f, by omega, by omega, Or.inr ⟨rfl, Or.inl (by omega)⟩⟩
    have tie0 : 2 * r = FV f + FV (f + 1) → f % 2 = 0 → NE f r 1 := fun q w => Or.inr ⟨f, by omega, by omega, Or.inl ⟨rfl, Or.inr ⟨by omega, w⟩⟩⟩
    have tie1 : 2 * r = FV f + FV (f + 1) → f % 2 = 1 → NE (f + 1) r 1 := fun q w => Or.inr ⟨f, by omega, by omega, Or.inr ⟨rfl, Or.inr ⟨by omega, w⟩⟩⟩
    generalize FV f + FV (f + 1) = T at *
    have t0 : ¬ (0 : Int32) ≤ -1 := by decide
    have t1 : (0 : Int32) ≤ 1 := by decide
    have t2 : ¬ (1 : Int32) ≤ 0 := by decide
    have t3 : (0 : Int32) ≤ 0 := by decide
    rcases hfg with ⟨hn, p, q⟩ | ⟨hn, p, q⟩
    · rw [hn, p, q, eg, SV_f, SV_f]
      rcases Nat.lt_trichotomy (2 * r) T with w | w | w
      · rw [cmZ_lt1 (by omega), if_neg t0]; exact ⟨f, by omega, rfl, nel w⟩
      · rw [cmZ_eq1 (by omega), if_pos t3, if_pos t3]
        by_cases y : f % 2 = 0
        · rw [if_pos ((sgM_even (by omega)).mpr y)]; exact ⟨f, by omega, rfl, tie0 w y⟩
        · rw [if_neg (fun z => y ((sgM_even (by omega)).mp z))]; exact ⟨f + 1, by omega, rfl, tie1 w (by omega)⟩
      · rw [cmZ_gt1 (by omega), if_pos t1, if_neg t2]; exact ⟨f + 1, by omega, rfl, neg' w⟩
    · rw [hn, p, q, eg, SV_t, SV_t]
      rcases Nat.lt_trichotomy (2 * r) T with w | w | w
      · rw [cmZ_gt1 (by omega), if_pos t1, if_neg t2]; exact ⟨f, by omega, rfl, nel w⟩
      · rw [cmZ_eq1 (by omega), if_pos t3, if_pos t3]
        by_cases y : (f + 1) % 2 = 0
        · rw [if_pos ((sgM_even (by omega)).mpr y)]; exact ⟨f + 1, by omega, rfl, tie1 w (by omega)⟩
        · rw [if_neg (fun z => y ((sgM_even (by omega)).mp z))]; exact ⟨f, by omega, rfl, tie0 w (by omega)⟩
      · rw [cmZ_lt1 (by omega), if_neg t0]; exact ⟨f + 1, by omega, rfl, neg' w⟩
end NR
theorem pz_sg {M : Nat} {n : Bool} (h : M ≤ IM) : pM_plainZero (sgM M n) = sgM M n := by
  show (if pM_isZero (sgM M n) = true then (0 : Int64) else sgM M n) = _
  rw [mzero_ok, sgM_mg h]
  by_cases q : M = 0
  · rw [if_pos (decide_eq_true q), q, sgM_0]
  · rw [if_neg (by rw [decide_eq_false q]; decide)]
theorem smM_le {A B : Nat} {n m : Bool} : smM A B n m ≤ A + B := by
  unfold smM
  split
  · omega
  · split <;> omega
section EH
variable (hi lo : Int64) (ep : Int32) (nz gz : Bool) (hj lj : Int64) (ej : Int32) (nj gj : Bool) (fl : Nat → Int32) (kl : Nat) (fr : Nat → Int32) (kr : Nat) (ng2 : Bool) (fp2 : Nat → Int32) (kp2 : Nat) (fq2 : Nat → Int32) (kq2 : Nat) (ee2 : Int32) (ng4 : Bool) (fp4 : Nat → Int32) (kp4 : Nat) (fq4 : Nat → Int32) (kq4 : Nat) (ee4 : Int32) (ng6 : Bool) (fp6 : Nat → Int32) (kp6 : Nat) (fq6 : Nat → Int32) (kq6 : Nat) (ee6 : Int32) (ng7 : Bool) (fp7 : Nat → Int32) (kp7 : Nat) (fq7 : Nat → Int32) (kq7 : Nat) (ee7 : Int32) (ng8 : Bool) (fp8 : Nat → Int32) (kp8 : Nat) (fq8 : Nat → Int32) (kq8 : Nat) (ee8 : Int32) (ng9 : Bool) (fp9 : Nat → Int32) (kp9 : Nat) (fq9 : Nat → Int32) (kq9 : Nat) (ee9 : Int32) (x y : Int64)
theorem hf_in (hx : mg x < IM) (hy : mg y < IM) : pF_scaledSum hi lo ep nz gz hj lj ej nj gj x (4607182418800017408 : Int64) y (-1 : Int32) (3 : Int32) = pM_plainZero (v_M_half_22 fl kl fr kr ng2 fp2 kp2 fq2 kq2 ee2 ng4 fp4 kp4 fq4 kq4 ee4 ng6 fp6 kp6 fq6 kq6 ee6 ng7 fp7 kp7 fq7 kq7 ee7 ng8 fp8 kp8 fq8 kq8 ee8 ng9 fp9 kp9 fq9 kq9 ee9 x y) := by
  have g1 := exf_ge x
  have g2 := exf_le x
  have g3 := exf_ge y
  have g4 := exf_le y
  have n6 : NU (v_M_half_2 fl kl fr kr ng2 fp2 kp2 fq2 kq2 ee2 ng4 fp4 kp4 fq4 kq4 ee4 ng6 fp6 kp6 fq6 kq6 ee6 ng7 fp7 kp7 fq7 kq7 ee7 ng8 fp8 kp8 fq8 kq8 ee8 ng9 fp9 kp9 fq9 kq9 ee9 x y) (v_M_half_3 fl kl fr kr ng2 fp2 kp2 fq2 kq2 ee2 ng4 fp4 kp4 fq4 kq4 ee4 ng6 fp6 kp6 fq6 kq6 ee6 ng7 fp7 kp7 fq7 kq7 ee7 ng8 fp8 kp8 fq8 kq8 ee8 ng9 fp9 kp9 fq9 kq9 ee9 x y) (v_M_half_4 fl kl fr kr ng2 fp2 kp2 fq2 kq2 ee2 ng4 fp4 kp4 fq4 kq4 ee4 ng6 fp6 kp6 fq6 kq6 ee6 ng7 fp7 kp7 fq7 kq7 ee7 ng8 fp8 kp8 fq8 kq8 ee8 ng9 fp9 kp9 fq9 kq9 ee9 x y) (v_M_half_5 fl kl fr kr ng2 fp2 kp2 fq2 kq2 ee2 ng4 fp4 kp4 fq4 kq4 ee4 ng6 fp6 kp6 fq6 kq6 ee6 ng7 fp7 kp7 fq7 kq7 ee7 ng8 fp8 kp8 fq8 kq8 ee8 ng9 fp9 kp9 fq9 kq9 ee9 x y) (v_M_half_6 fl kl fr kr ng2 fp2 kp2 fq2 kq2 ee2 ng4 fp4 kp4 fq4 kq4 ee4 ng6 fp6 kp6 fq6 kq6 ee6 ng7 fp7 kp7 fq7 kq7 ee7 ng8 fp8 kp8 fq8 kq8 ee8 ng9 fp9 kp9 fq9 kq9 ee9 x y) (sgf x) 1 (exf x) := sf_NU ng6 fp6 kp6 fq6 kq6 ee6 x
  have n7 : NU (v_M_half_8 fl kl fr kr ng2 fp2 kp2 fq2 kq2 ee2 ng4 fp4 kp4 fq4 kq4 ee4 ng6 fp6 kp6 fq6 kq6 ee6 ng7 fp7 kp7 fq7 kq7 ee7 ng8 fp8 kp8 fq8 kq8 ee8 ng9 fp9 kp9 fq9 kq9 ee9 x y) (v_M_half_9 fl kl fr kr ng2 fp2 kp2 fq2 kq2 ee2 ng4 fp4 kp4 fq4 kq4 ee4 ng6 fp6 kp6 fq6 kq6 ee6 ng7 fp7 kp7 fq7 kq7 ee7 ng8 fp8 kp8 fq8 kq8 ee8 ng9 fp9 kp9 fq9 kq9 ee9 x y) (v_M_half_10 fl kl fr kr ng2 fp2 kp2 fq2 kq2 ee2 ng4 fp4 kp4 fq4 kq4 ee4 ng6 fp6 kp6 fq6 kq6 ee6 ng7 fp7 kp7 fq7 kq7 ee7 ng8 fp8 kp8 fq8 kq8 ee8 ng9 fp9 kp9 fq9 kq9 ee9 x y) (v_M_half_11 fl kl fr kr ng2 fp2 kp2 fq2 kq2 ee2 ng4 fp4 kp4 fq4 kq4 ee4 ng6 fp6 kp6 fq6 kq6 ee6 ng7 fp7 kp7 fq7 kq7 ee7 ng8 fp8 kp8 fq8 kq8 ee8 ng9 fp9 kp9 fq9 kq9 ee9 x y) (v_M_half_12 fl kl fr kr ng2 fp2 kp2 fq2 kq2 ee2 ng4 fp4 kp4 fq4 kq4 ee4 ng6 fp6 kp6 fq6 kq6 ee6 ng7 fp7 kp7 fq7 kq7 ee7 ng8 fp8 kp8 fq8 kq8 ee8 ng9 fp9 kp9 fq9 kq9 ee9 x y) (sgf y) 1 (exf y) := sf_NU ng7 fp7 kp7 fq7 kq7 ee7 y
  have l6 : (v_M_half_3 fl kl fr kr ng2 fp2 kp2 fq2 kq2 ee2 ng4 fp4 kp4 fq4 kq4 ee4 ng6 fp6 kp6 fq6 kq6 ee6 ng7 fp7 kp7 fq7 kq7 ee7 ng8 fp8 kp8 fq8 kq8 ee8 ng9 fp9 kp9 fq9 kq9 ee9 x y) ≤ 4 := sf_lp ng6 fp6 kp6 fq6 kq6 ee6 x
  have l7 : (v_M_half_9 fl kl fr kr ng2 fp2 kp2 fq2 kq2 ee2 ng4 fp4 kp4 fq4 kq4 ee4 ng6 fp6 kp6 fq6 kq6 ee6 ng7 fp7 kp7 fq7 kq7 ee7 ng8 fp8 kp8 fq8 kq8 ee8 ng9 fp9 kp9 fq9 kq9 ee9 x y) ≤ 4 := sf_lp ng7 fp7 kp7 fq7 kq7 ee7 y
  have s1 := (pl_s n6.2.2 n7.2.2 (by omega) (by omega) (by omega) (by omega)).2
  have s2 := (pl_t n6.2.2 n7.2.2 (by omega) (by omega) (by omega) (by omega)).2
  have c1 := pl_b n6.2.2 n7.2.2 (by omega) (by omega) (by omega) (by omega) (c := 2100) (by omega) (by omega)
  have c2 := pl_c n6.2.2 n7.2.2 (by omega) (by omega) (by omega) (by omega) (c := 2100) (by omega) (by omega)
  obtain ⟨PS, eS, nS, vS, zS, kS, qS⟩ := pl_NU ng8 fp8 kp8 fq8 kq8 ee8 (v_M_half_1 fl kl fr kr ng2 fp2 kp2 fq2 kq2 ee2 ng4 fp4 kp4 fq4 kq4 ee4 ng6 fp6 kp6 fq6 kq6 ee6 ng7 fp7 kp7 fq7 kq7 ee7 ng8 fp8 kp8 fq8 kq8 ee8 ng9 fp9 kp9 fq9 kq9 ee9 x y) (v_M_half_2 fl kl fr kr ng2 fp2 kp2 fq2 kq2 ee2 ng4 fp4 kp4 fq4 kq4 ee4 ng6 fp6 kp6 fq6 kq6 ee6 ng7 fp7 kp7 fq7 kq7 ee7 ng8 fp8 kp8 fq8 kq8 ee8 ng9 fp9 kp9 fq9 kq9 ee9 x y) (v_M_half_3 fl kl fr kr ng2 fp2 kp2 fq2 kq2 ee2 ng4 fp4 kp4 fq4 kq4 ee4 ng6 fp6 kp6 fq6 kq6 ee6 ng7 fp7 kp7 fq7 kq7 ee7 ng8 fp8 kp8 fq8 kq8 ee8 ng9 fp9 kp9 fq9 kq9 ee9 x y) (v_M_half_4 fl kl fr kr ng2 fp2 kp2 fq2 kq2 ee2 ng4 fp4 kp4 fq4 kq4 ee4 ng6 fp6 kp6 fq6 kq6 ee6 ng7 fp7 kp7 fq7 kq7 ee7 ng8 fp8 kp8 fq8 kq8 ee8 ng9 fp9 kp9 fq9 kq9 ee9 x y) (v_M_half_5 fl kl fr kr ng2 fp2 kp2 fq2 kq2 ee2 ng4 fp4 kp4 fq4 kq4 ee4 ng6 fp6 kp6 fq6 kq6 ee6 ng7 fp7 kp7 fq7 kq7 ee7 ng8 fp8 kp8 fq8 kq8 ee8 ng9 fp9 kp9 fq9 kq9 ee9 x y) (v_M_half_6 fl kl fr kr ng2 fp2 kp2 fq2 kq2 ee2 ng4 fp4 kp4 fq4 kq4 ee4 ng6 fp6 kp6 fq6 kq6 ee6 ng7 fp7 kp7 fq7 kq7 ee7 ng8 fp8 kp8 fq8 kq8 ee8 ng9 fp9 kp9 fq9 kq9 ee9 x y) (v_M_half_7 fl kl fr kr ng2 fp2 kp2 fq2 kq2 ee2 ng4 fp4 kp4 fq4 kq4 ee4 ng6 fp6 kp6 fq6 kq6 ee6 ng7 fp7 kp7 fq7 kq7 ee7 ng8 fp8 kp8 fq8 kq8 ee8 ng9 fp9 kp9 fq9 kq9 ee9 x y) (v_M_half_8 fl kl fr kr ng2 fp2 kp2 fq2 kq2 ee2 ng4 fp4 kp4 fq4 kq4 ee4 ng6 fp6 kp6 fq6 kq6 ee6 ng7 fp7 kp7 fq7 kq7 ee7 ng8 fp8 kp8 fq8 kq8 ee8 ng9 fp9 kp9 fq9 kq9 ee9 x y) (v_M_half_9 fl kl fr kr ng2 fp2 kp2 fq2 kq2 ee2 ng4 fp4 kp4 fq4 kq4 ee4 ng6 fp6 kp6 fq6 kq6 ee6 ng7 fp7 kp7 fq7 kq7 ee7 ng8 fp8 kp8 fq8 kq8 ee8 ng9 fp9 kp9 fq9 kq9 ee9 x y) (v_M_half_10 fl kl fr kr ng2 fp2 kp2 fq2 kq2 ee2 ng4 fp4 kp4 fq4 kq4 ee4 ng6 fp6 kp6 fq6 kq6 ee6 ng7 fp7 kp7 fq7 kq7 ee7 ng8 fp8 kp8 fq8 kq8 ee8 ng9 fp9 kp9 fq9 kq9 ee9 x y) (v_M_half_11 fl kl fr kr ng2 fp2 kp2 fq2 kq2 ee2 ng4 fp4 kp4 fq4 kq4 ee4 ng6 fp6 kp6 fq6 kq6 ee6 ng7 fp7 kp7 fq7 kq7 ee7 ng8 fp8 kp8 fq8 kq8 ee8 ng9 fp9 kp9 fq9 kq9 ee9 x y) (v_M_half_12 fl kl fr kr ng2 fp2 kp2 fq2 kq2 ee2 ng4 fp4 kp4 fq4 kq4 ee4 ng6 fp6 kp6 fq6 kq6 ee6 ng7 fp7 kp7 fq7 kq7 ee7 ng8 fp8 kp8 fq8 kq8 ee8 ng9 fp9 kp9 fq9 kq9 ee9 x y) _ _ n6 n7 (by omega) (by omega) (by omega) (by omega) (by omega) (by omega) s1 s2
  have lkq : (v_M_half_17 fl kl fr kr ng2 fp2 kp2 fq2 kq2 ee2 ng4 fp4 kp4 fq4 kq4 ee4 ng6 fp6 kp6 fq6 kq6 ee6 ng7 fp7 kp7 fq7 kq7 ee7 ng8 fp8 kp8 fq8 kq8 ee8 ng9 fp9 kp9 fq9 kq9 ee9 x y) ≤ 1 := nS.2.1.len (m := 1) (by decide)
  have lkp : (v_M_half_15 fl kl fr kr ng2 fp2 kp2 fq2 kq2 ee2 ng4 fp4 kp4 fq4 kq4 ee4 ng6 fp6 kp6 fq6 kq6 ee6 ng7 fp7 kp7 fq7 kq7 ee7 ng8 fp8 kp8 fq8 kq8 ee8 ng9 fp9 kp9 fq9 kq9 ee9 x y) ≤ 600 := by
    refine Nat.le_trans kS ?_
    clear kS nS s1 s2 vS zS lkq
    generalize ((v_M_half_6 fl kl fr kr ng2 fp2 kp2 fq2 kq2 ee2 ng4 fp4 kp4 fq4 kq4 ee4 ng6 fp6 kp6 fq6 kq6 ee6 ng7 fp7 kp7 fq7 kq7 ee7 ng8 fp8 kp8 fq8 kq8 ee8 ng9 fp9 kp9 fq9 kq9 ee9 x y) - (if (v_M_half_12 fl kl fr kr ng2 fp2 kp2 fq2 kq2 ee2 ng4 fp4 kp4 fq4 kq4 ee4 ng6 fp6 kp6 fq6 kq6 ee6 ng7 fp7 kp7 fq7 kq7 ee7 ng8 fp8 kp8 fq8 kq8 ee8 ng9 fp9 kp9 fq9 kq9 ee9 x y) ≤ (v_M_half_6 fl kl fr kr ng2 fp2 kp2 fq2 kq2 ee2 ng4 fp4 kp4 fq4 kq4 ee4 ng6 fp6 kp6 fq6 kq6 ee6 ng7 fp7 kp7 fq7 kq7 ee7 ng8 fp8 kp8 fq8 kq8 ee8 ng9 fp9 kp9 fq9 kq9 ee9 x y) then (v_M_half_12 fl kl fr kr ng2 fp2 kp2 fq2 kq2 ee2 ng4 fp4 kp4 fq4 kq4 ee4 ng6 fp6 kp6 fq6 kq6 ee6 ng7 fp7 kp7 fq7 kq7 ee7 ng8 fp8 kp8 fq8 kq8 ee8 ng9 fp9 kp9 fq9 kq9 ee9 x y) else (v_M_half_6 fl kl fr kr ng2 fp2 kp2 fq2 kq2 ee2 ng4 fp4 kp4 fq4 kq4 ee4 ng6 fp6 kp6 fq6 kq6 ee6 ng7 fp7 kp7 fq7 kq7 ee7 ng8 fp8 kp8 fq8 kq8 ee8 ng9 fp9 kp9 fq9 kq9 ee9 x y))).toNatClampNeg = y1 at *
    generalize ((v_M_half_12 fl kl fr kr ng2 fp2 kp2 fq2 kq2 ee2 ng4 fp4 kp4 fq4 kq4 ee4 ng6 fp6 kp6 fq6 kq6 ee6 ng7 fp7 kp7 fq7 kq7 ee7 ng8 fp8 kp8 fq8 kq8 ee8 ng9 fp9 kp9 fq9 kq9 ee9 x y) - (if (v_M_half_12 fl kl fr kr ng2 fp2 kp2 fq2 kq2 ee2 ng4 fp4 kp4 fq4 kq4 ee4 ng6 fp6 kp6 fq6 kq6 ee6 ng7 fp7 kp7 fq7 kq7 ee7 ng8 fp8 kp8 fq8 kq8 ee8 ng9 fp9 kp9 fq9 kq9 ee9 x y) ≤ (v_M_half_6 fl kl fr kr ng2 fp2 kp2 fq2 kq2 ee2 ng4 fp4 kp4 fq4 kq4 ee4 ng6 fp6 kp6 fq6 kq6 ee6 ng7 fp7 kp7 fq7 kq7 ee7 ng8 fp8 kp8 fq8 kq8 ee8 ng9 fp9 kp9 fq9 kq9 ee9 x y) then (v_M_half_12 fl kl fr kr ng2 fp2 kp2 fq2 kq2 ee2 ng4 fp4 kp4 fq4 kq4 ee4 ng6 fp6 kp6 fq6 kq6 ee6 ng7 fp7 kp7 fq7 kq7 ee7 ng8 fp8 kp8 fq8 kq8 ee8 ng9 fp9 kp9 fq9 kq9 ee9 x y) else (v_M_half_6 fl kl fr kr ng2 fp2 kp2 fq2 kq2 ee2 ng4 fp4 kp4 fq4 kq4 ee4 ng6 fp6 kp6 fq6 kq6 ee6 ng7 fp7 kp7 fq7 kq7 ee7 ng8 fp8 kp8 fq8 kq8 ee8 ng9 fp9 kp9 fq9 kq9 ee9 x y))).toNatClampNeg = y2 at *
    clear n6 n7
    omega
  have nS' : NU (v_M_half_14 fl kl fr kr ng2 fp2 kp2 fq2 kq2 ee2 ng4 fp4 kp4 fq4 kq4 ee4 ng6 fp6 kp6 fq6 kq6 ee6 ng7 fp7 kp7 fq7 kq7 ee7 ng8 fp8 kp8 fq8 kq8 ee8 ng9 fp9 kp9 fq9 kq9 ee9 x y) (v_M_half_15 fl kl fr kr ng2 fp2 kp2 fq2 kq2 ee2 ng4 fp4 kp4 fq4 kq4 ee4 ng6 fp6 kp6 fq6 kq6 ee6 ng7 fp7 kp7 fq7 kq7 ee7 ng8 fp8 kp8 fq8 kq8 ee8 ng9 fp9 kp9 fq9 kq9 ee9 x y) (v_M_half_16 fl kl fr kr ng2 fp2 kp2 fq2 kq2 ee2 ng4 fp4 kp4 fq4 kq4 ee4 ng6 fp6 kp6 fq6 kq6 ee6 ng7 fp7 kp7 fq7 kq7 ee7 ng8 fp8 kp8 fq8 kq8 ee8 ng9 fp9 kp9 fq9 kq9 ee9 x y) (v_M_half_17 fl kl fr kr ng2 fp2 kp2 fq2 kq2 ee2 ng4 fp4 kp4 fq4 kq4 ee4 ng6 fp6 kp6 fq6 kq6 ee6 ng7 fp7 kp7 fq7 kq7 ee7 ng8 fp8 kp8 fq8 kq8 ee8 ng9 fp9 kp9 fq9 kq9 ee9 x y) (v_M_half_18 fl kl fr kr ng2 fp2 kp2 fq2 kq2 ee2 ng4 fp4 kp4 fq4 kq4 ee4 ng6 fp6 kp6 fq6 kq6 ee6 ng7 fp7 kp7 fq7 kq7 ee7 ng8 fp8 kp8 fq8 kq8 ee8 ng9 fp9 kp9 fq9 kq9 ee9 x y) PS 1 eS := nS
  have e21 : ((v_M_half_21 fl kl fr kr ng2 fp2 kp2 fq2 kq2 ee2 ng4 fp4 kp4 fq4 kq4 ee4 ng6 fp6 kp6 fq6 kq6 ee6 ng7 fp7 kp7 fq7 kq7 ee7 ng8 fp8 kp8 fq8 kq8 ee8 ng9 fp9 kp9 fq9 kq9 ee9 x y)).toInt = eS - 1 := iS nS'.2.2 (show (1 : Int32).toInt = 1 from rfl) (by rcases qS with q | q <;> omega) (by rcases qS with q | q <;> omega)
  have n21 : NU (v_M_half_14 fl kl fr kr ng2 fp2 kp2 fq2 kq2 ee2 ng4 fp4 kp4 fq4 kq4 ee4 ng6 fp6 kp6 fq6 kq6 ee6 ng7 fp7 kp7 fq7 kq7 ee7 ng8 fp8 kp8 fq8 kq8 ee8 ng9 fp9 kp9 fq9 kq9 ee9 x y) (v_M_half_15 fl kl fr kr ng2 fp2 kp2 fq2 kq2 ee2 ng4 fp4 kp4 fq4 kq4 ee4 ng6 fp6 kp6 fq6 kq6 ee6 ng7 fp7 kp7 fq7 kq7 ee7 ng8 fp8 kp8 fq8 kq8 ee8 ng9 fp9 kp9 fq9 kq9 ee9 x y) (v_M_half_16 fl kl fr kr ng2 fp2 kp2 fq2 kq2 ee2 ng4 fp4 kp4 fq4 kq4 ee4 ng6 fp6 kp6 fq6 kq6 ee6 ng7 fp7 kp7 fq7 kq7 ee7 ng8 fp8 kp8 fq8 kq8 ee8 ng9 fp9 kp9 fq9 kq9 ee9 x y) (v_M_half_17 fl kl fr kr ng2 fp2 kp2 fq2 kq2 ee2 ng4 fp4 kp4 fq4 kq4 ee4 ng6 fp6 kp6 fq6 kq6 ee6 ng7 fp7 kp7 fq7 kq7 ee7 ng8 fp8 kp8 fq8 kq8 ee8 ng9 fp9 kp9 fq9 kq9 ee9 x y) (v_M_half_21 fl kl fr kr ng2 fp2 kp2 fq2 kq2 ee2 ng4 fp4 kp4 fq4 kq4 ee4 ng6 fp6 kp6 fq6 kq6 ee6 ng7 fp7 kp7 fq7 kq7 ee7 ng8 fp8 kp8 fq8 kq8 ee8 ng9 fp9 kp9 fq9 kq9 ee9 x y) PS 1 (eS - 1) := ⟨nS'.1, nS'.2.1, e21⟩
  have k1 : (v_M_half_1 fl kl fr kr ng2 fp2 kp2 fq2 kq2 ee2 ng4 fp4 kp4 fq4 kq4 ee4 ng6 fp6 kp6 fq6 kq6 ee6 ng7 fp7 kp7 fq7 kq7 ee7 ng8 fp8 kp8 fq8 kq8 ee8 ng9 fp9 kp9 fq9 kq9 ee9 x y) = decide (x < 0) := sf_nv ng6 fp6 kp6 fq6 kq6 ee6 x
  have k7 : (v_M_half_7 fl kl fr kr ng2 fp2 kp2 fq2 kq2 ee2 ng4 fp4 kp4 fq4 kq4 ee4 ng6 fp6 kp6 fq6 kq6 ee6 ng7 fp7 kp7 fq7 kq7 ee7 ng8 fp8 kp8 fq8 kq8 ee8 ng9 fp9 kp9 fq9 kq9 ee9 x y) = decide (y < 0) := sf_nv ng7 fp7 kp7 fq7 kq7 ee7 y
  have zS' : PS ≠ 0 → (v_M_half_13 fl kl fr kr ng2 fp2 kp2 fq2 kq2 ee2 ng4 fp4 kp4 fq4 kq4 ee4 ng6 fp6 kp6 fq6 kq6 ee6 ng7 fp7 kp7 fq7 kq7 ee7 ng8 fp8 kp8 fq8 kq8 ee8 ng9 fp9 kp9 fq9 kq9 ee9 x y) = smS (sgf x * WW (exf x)) (sgf y * WW (exf y)) (v_M_half_1 fl kl fr kr ng2 fp2 kp2 fq2 kq2 ee2 ng4 fp4 kp4 fq4 kq4 ee4 ng6 fp6 kp6 fq6 kq6 ee6 ng7 fp7 kp7 fq7 kq7 ee7 ng8 fp8 kp8 fq8 kq8 ee8 ng9 fp9 kp9 fq9 kq9 ee9 x y) (v_M_half_7 fl kl fr kr ng2 fp2 kp2 fq2 kq2 ee2 ng4 fp4 kp4 fq4 kq4 ee4 ng6 fp6 kp6 fq6 kq6 ee6 ng7 fp7 kp7 fq7 kq7 ee7 ng8 fp8 kp8 fq8 kq8 ee8 ng9 fp9 kp9 fq9 kq9 ee9 x y) := zS
  rw [k1, k7] at vS zS'
  obtain ⟨M, m1, m2, m3⟩ := ssum_ok hi lo ep nz gz hj lj ej nj gj x (4607182418800017408 : Int64) y (sc := (-1 : Int32)) (how := (3 : Int32)) (c := -1) rfl (by decide) (by decide)
  have ho : (decide (x < 0) != decide ((4607182418800017408 : Int64) < 0)) = decide (x < 0) := by
    have : decide ((4607182418800017408 : Int64) < 0) = false := by decide
    rw [this]; cases decide (x < 0) <;> rfl
  have eA : sgf x * sgf (4607182418800017408 : Int64) * WW (exf x + exf (4607182418800017408 : Int64) + -1) = sgf x * WW (exf x + -1) := by
    rw [one_s, one_e, WW_eq (e := exf x + -52 + -1) (f := exf x + -1) 52 (by omega) (by omega), Nat.mul_comm (WW _), Nat.mul_assoc]
  rw [ho, eA] at m2 m3
  have hA2 : sgf x * WW (exf x) = sgf x * WW (exf x + -1) * 2 ^ 1 := by rw [WW_eq (e := exf x + -1) (f := exf x) 1 (by omega) (by omega), ← Nat.mul_assoc]
  have hB2 : sgf y * WW (exf y) = sgf y * WW (exf y + -1) * 2 ^ 1 := by rw [WW_eq (e := exf y + -1) (f := exf y) 1 (by omega) (by omega), ← Nat.mul_assoc]
  have hP2 : PS * WW eS = PS * WW (eS - 1) * 2 ^ 1 := by rw [WW_eq (e := eS - 1) (f := eS) 1 (by rcases qS with q | q <;> omega) (by omega), ← Nat.mul_assoc]
  have bx : sgf x * WW (exf x) ≤ FV (IM - 1) := by rw [← FV_mg]; exact FV_le (by omega)
  have by' : sgf y * WW (exf y) ≤ FV (IM - 1) := by rw [← FV_mg]; exact FV_le (by omega)
  rw [hA2, hB2, smM_sc, hP2] at vS
  rw [hA2, hB2, smS_sc] at zS'
  have hV : PS * WW (eS - 1) = smM (sgf x * WW (exf x + -1)) (sgf y * WW (exf y + -1)) (decide (x < 0)) (decide (y < 0)) := Nat.eq_of_mul_eq_mul_right (by decide) vS
  rw [hA2] at bx
  rw [hB2] at by'
  have hb : PS * WW (eS - 1) ≤ FV (IM - 1) := by
    rw [hV]
    have := smM_le (A := sgf x * WW (exf x + -1)) (B := sgf y * WW (exf y + -1)) (n := decide (x < 0)) (m := decide (y < 0))
    clear hV vS zS' zS kS nS m3 m2 hA2 hB2 hP2 eA
    omega
  obtain ⟨N, j1, j2, j3⟩ := nr_ok fl kl fr kr ng2 fp2 kp2 fq2 kq2 ee2 ng4 fp4 kp4 fq4 kq4 ee4 (v_M_half_1 fl kl fr kr ng2 fp2 kp2 fq2 kq2 ee2 ng4 fp4 kp4 fq4 kq4 ee4 ng6 fp6 kp6 fq6 kq6 ee6 ng7 fp7 kp7 fq7 kq7 ee7 ng8 fp8 kp8 fq8 kq8 ee8 ng9 fp9 kp9 fq9 kq9 ee9 x y) (v_M_half_2 fl kl fr kr ng2 fp2 kp2 fq2 kq2 ee2 ng4 fp4 kp4 fq4 kq4 ee4 ng6 fp6 kp6 fq6 kq6 ee6 ng7 fp7 kp7 fq7 kq7 ee7 ng8 fp8 kp8 fq8 kq8 ee8 ng9 fp9 kp9 fq9 kq9 ee9 x y) (v_M_half_3 fl kl fr kr ng2 fp2 kp2 fq2 kq2 ee2 ng4 fp4 kp4 fq4 kq4 ee4 ng6 fp6 kp6 fq6 kq6 ee6 ng7 fp7 kp7 fq7 kq7 ee7 ng8 fp8 kp8 fq8 kq8 ee8 ng9 fp9 kp9 fq9 kq9 ee9 x y) (v_M_half_4 fl kl fr kr ng2 fp2 kp2 fq2 kq2 ee2 ng4 fp4 kp4 fq4 kq4 ee4 ng6 fp6 kp6 fq6 kq6 ee6 ng7 fp7 kp7 fq7 kq7 ee7 ng8 fp8 kp8 fq8 kq8 ee8 ng9 fp9 kp9 fq9 kq9 ee9 x y) (v_M_half_5 fl kl fr kr ng2 fp2 kp2 fq2 kq2 ee2 ng4 fp4 kp4 fq4 kq4 ee4 ng6 fp6 kp6 fq6 kq6 ee6 ng7 fp7 kp7 fq7 kq7 ee7 ng8 fp8 kp8 fq8 kq8 ee8 ng9 fp9 kp9 fq9 kq9 ee9 x y) (v_M_half_6 fl kl fr kr ng2 fp2 kp2 fq2 kq2 ee2 ng4 fp4 kp4 fq4 kq4 ee4 ng6 fp6 kp6 fq6 kq6 ee6 ng7 fp7 kp7 fq7 kq7 ee7 ng8 fp8 kp8 fq8 kq8 ee8 ng9 fp9 kp9 fq9 kq9 ee9 x y) (v_M_half_7 fl kl fr kr ng2 fp2 kp2 fq2 kq2 ee2 ng4 fp4 kp4 fq4 kq4 ee4 ng6 fp6 kp6 fq6 kq6 ee6 ng7 fp7 kp7 fq7 kq7 ee7 ng8 fp8 kp8 fq8 kq8 ee8 ng9 fp9 kp9 fq9 kq9 ee9 x y) (v_M_half_19 fl kl fr kr ng2 fp2 kp2 fq2 kq2 ee2 ng4 fp4 kp4 fq4 kq4 ee4 ng6 fp6 kp6 fq6 kq6 ee6 ng7 fp7 kp7 fq7 kq7 ee7 ng8 fp8 kp8 fq8 kq8 ee8 ng9 fp9 kp9 fq9 kq9 ee9 x y) (v_M_half_20 fl kl fr kr ng2 fp2 kp2 fq2 kq2 ee2 ng4 fp4 kp4 fq4 kq4 ee4 ng6 fp6 kp6 fq6 kq6 ee6 ng7 fp7 kp7 fq7 kq7 ee7 ng8 fp8 kp8 fq8 kq8 ee8 ng9 fp9 kp9 fq9 kq9 ee9 x y) (v_M_half_10 fl kl fr kr ng2 fp2 kp2 fq2 kq2 ee2 ng4 fp4 kp4 fq4 kq4 ee4 ng6 fp6 kp6 fq6 kq6 ee6 ng7 fp7 kp7 fq7 kq7 ee7 ng8 fp8 kp8 fq8 kq8 ee8 ng9 fp9 kp9 fq9 kq9 ee9 x y) (v_M_half_11 fl kl fr kr ng2 fp2 kp2 fq2 kq2 ee2 ng4 fp4 kp4 fq4 kq4 ee4 ng6 fp6 kp6 fq6 kq6 ee6 ng7 fp7 kp7 fq7 kq7 ee7 ng8 fp8 kp8 fq8 kq8 ee8 ng9 fp9 kp9 fq9 kq9 ee9 x y) (v_M_half_12 fl kl fr kr ng2 fp2 kp2 fq2 kq2 ee2 ng4 fp4 kp4 fq4 kq4 ee4 ng6 fp6 kp6 fq6 kq6 ee6 ng7 fp7 kp7 fq7 kq7 ee7 ng8 fp8 kp8 fq8 kq8 ee8 ng9 fp9 kp9 fq9 kq9 ee9 x y) ng9 fp9 kp9 fq9 kq9 ee9 (v_M_half_13 fl kl fr kr ng2 fp2 kp2 fq2 kq2 ee2 ng4 fp4 kp4 fq4 kq4 ee4 ng6 fp6 kp6 fq6 kq6 ee6 ng7 fp7 kp7 fq7 kq7 ee7 ng8 fp8 kp8 fq8 kq8 ee8 ng9 fp9 kp9 fq9 kq9 ee9 x y) (v_M_half_14 fl kl fr kr ng2 fp2 kp2 fq2 kq2 ee2 ng4 fp4 kp4 fq4 kq4 ee4 ng6 fp6 kp6 fq6 kq6 ee6 ng7 fp7 kp7 fq7 kq7 ee7 ng8 fp8 kp8 fq8 kq8 ee8 ng9 fp9 kp9 fq9 kq9 ee9 x y) (v_M_half_15 fl kl fr kr ng2 fp2 kp2 fq2 kq2 ee2 ng4 fp4 kp4 fq4 kq4 ee4 ng6 fp6 kp6 fq6 kq6 ee6 ng7 fp7 kp7 fq7 kq7 ee7 ng8 fp8 kp8 fq8 kq8 ee8 ng9 fp9 kp9 fq9 kq9 ee9 x y) (v_M_half_16 fl kl fr kr ng2 fp2 kp2 fq2 kq2 ee2 ng4 fp4 kp4 fq4 kq4 ee4 ng6 fp6 kp6 fq6 kq6 ee6 ng7 fp7 kp7 fq7 kq7 ee7 ng8 fp8 kp8 fq8 kq8 ee8 ng9 fp9 kp9 fq9 kq9 ee9 x y) (v_M_half_17 fl kl fr kr ng2 fp2 kp2 fq2 kq2 ee2 ng4 fp4 kp4 fq4 kq4 ee4 ng6 fp6 kp6 fq6 kq6 ee6 ng7 fp7 kp7 fq7 kq7 ee7 ng8 fp8 kp8 fq8 kq8 ee8 ng9 fp9 kp9 fq9 kq9 ee9 x y) (v_M_half_21 fl kl fr kr ng2 fp2 kp2 fq2 kq2 ee2 ng4 fp4 kp4 fq4 kq4 ee4 ng6 fp6 kp6 fq6 kq6 ee6 ng7 fp7 kp7 fq7 kq7 ee7 ng8 fp8 kp8 fq8 kq8 ee8 ng9 fp9 kp9 fq9 kq9 ee9 x y) n21 (by omega) (by omega) (by rcases qS with q | q <;> omega) (by rcases qS with q | q <;> omega) hb
  have e22 : (v_M_half_22 fl kl fr kr ng2 fp2 kp2 fq2 kq2 ee2 ng4 fp4 kp4 fq4 kq4 ee4 ng6 fp6 kp6 fq6 kq6 ee6 ng7 fp7 kp7 fq7 kq7 ee7 ng8 fp8 kp8 fq8 kq8 ee8 ng9 fp9 kp9 fq9 kq9 ee9 x y) = sgM N (v_M_half_13 fl kl fr kr ng2 fp2 kp2 fq2 kq2 ee2 ng4 fp4 kp4 fq4 kq4 ee4 ng6 fp6 kp6 fq6 kq6 ee6 ng7 fp7 kp7 fq7 kq7 ee7 ng8 fp8 kp8 fq8 kq8 ee8 ng9 fp9 kp9 fq9 kq9 ee9 x y) := j2
  rw [m2, e22, pz_sg j1]
  have hNE := m3.2.2.2 rfl (by rw [Nat.mul_one, ← hV]; exact hb)
  rw [← hV] at hNE
  have hMN : M = N := NE_un (by decide) hNE j3
  rw [hMN]
  by_cases z : PS = 0
  · have : N = 0 := by
      rw [z, Nat.zero_mul] at j3
      exact NE_un (by decide) j3 (Or.inl (by rw [FV_0]))
    rw [this, sgM_0, sgM_0]
  · rw [zS' z]
theorem eq_half : pF_half hi lo ep nz gz hj lj ej nj gj x y = pM_half fl kl fr kr ng2 fp2 kp2 fq2 kq2 ee2 ng4 fp4 kp4 fq4 kq4 ee4 ng6 fp6 kp6 fq6 kq6 ee6 ng7 fp7 kp7 fq7 kq7 ee7 ng8 fp8 kp8 fq8 kq8 ee8 ng9 fp9 kp9 fq9 kq9 ee9 x y := by
  have fx := fin_ok x
  have fy := fin_ok y
  have nx := mnan_ok x
  have ny := mnan_ok y
  have ix := minf_ok x
  have iy := minf_ok y
  have e0 : pF_half hi lo ep nz gz hj lj ej nj gj x y = if pF_isFinite x = true then (if pF_isFinite y = true then pF_scaledSum hi lo ep nz gz hj lj ej nj gj x (4607182418800017408 : Int64) y (-1 : Int32) (3 : Int32) else (9221120237041090560 : Int64)) else (9221120237041090560 : Int64) := rfl
  have e1 : pM_half fl kl fr kr ng2 fp2 kp2 fq2 kq2 ee2 ng4 fp4 kp4 fq4 kq4 ee4 ng6 fp6 kp6 fq6 kq6 ee6 ng7 fp7 kp7 fq7 kq7 ee7 ng8 fp8 kp8 fq8 kq8 ee8 ng9 fp9 kp9 fq9 kq9 ee9 x y = if pM_isNan x = true then (9221120237041090560 : Int64) else (if pM_isNan y = true then (9221120237041090560 : Int64) else (if pM_isInfinite x = true then (9221120237041090560 : Int64) else (if pM_isInfinite y = true then (9221120237041090560 : Int64) else pM_plainZero (v_M_half_22 fl kl fr kr ng2 fp2 kp2 fq2 kq2 ee2 ng4 fp4 kp4 fq4 kq4 ee4 ng6 fp6 kp6 fq6 kq6 ee6 ng7 fp7 kp7 fq7 kq7 ee7 ng8 fp8 kp8 fq8 kq8 ee8 ng9 fp9 kp9 fq9 kq9 ee9 x y)))) := rfl
  rw [e0, e1]
  by_cases hx : mg x < IM
  · rw [decide_eq_true hx] at fx
    rw [decide_eq_false (show ¬ IM < mg x by omega)] at nx
    rw [decide_eq_false (show ¬ mg x = IM by omega)] at ix
    by_cases hy : mg y < IM
    · rw [decide_eq_true hy] at fy
      rw [decide_eq_false (show ¬ IM < mg y by omega)] at ny
      rw [decide_eq_false (show ¬ mg y = IM by omega)] at iy
      simp only [fx, fy, nx, ny, ix, iy, if_true, Bool.false_eq_true, if_false]
      exact hf_in hi lo ep nz gz hj lj ej nj gj fl kl fr kr ng2 fp2 kp2 fq2 kq2 ee2 ng4 fp4 kp4 fq4 kq4 ee4 ng6 fp6 kp6 fq6 kq6 ee6 ng7 fp7 kp7 fq7 kq7 ee7 ng8 fp8 kp8 fq8 kq8 ee8 ng9 fp9 kp9 fq9 kq9 ee9 x y hx hy
    · rw [decide_eq_false hy] at fy
      by_cases q : IM < mg y
      · rw [decide_eq_true q] at ny
        simp only [fx, fy, nx, ny, if_true, Bool.false_eq_true, if_false]
      · rw [decide_eq_false q] at ny
        rw [decide_eq_true (show mg y = IM by omega)] at iy
        simp only [fx, fy, nx, ny, ix, iy, if_true, Bool.false_eq_true, if_false]
  · rw [decide_eq_false hx] at fx
    by_cases q : IM < mg x
    · rw [decide_eq_true q] at nx
      simp only [fx, nx, if_true, Bool.false_eq_true, if_false]
    · rw [decide_eq_false q] at nx
      rw [decide_eq_true (show mg x = IM by omega)] at ix
      simp only [fx, nx, ix, if_true, Bool.false_eq_true, if_false, ite_self]
end EH

