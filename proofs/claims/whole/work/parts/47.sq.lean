theorem e_rng2 (y : Int64) : -536870912 ≤ (if (y &&& (2047 : Int64)) = (0 : Int64) then (-1074 : Int32) else (y &&& (2047 : Int64)).toInt32 - (1075 : Int32)).toInt ∧ (if (y &&& (2047 : Int64)) = (0 : Int64) then (-1074 : Int32) else (y &&& (2047 : Int64)).toInt32 - (1075 : Int32)).toInt < 536870912 := by
  obtain ⟨m, hm, e⟩ := and_lN y
  rw [e]
  split
  · decide
  · have h : ∀ m, m < 2048 → -536870912 ≤ ((lN m).toInt32 - (1075 : Int32)).toInt ∧ ((lN m).toInt32 - (1075 : Int32)).toInt < 536870912 := by decide +kernel
    exact h m hm
theorem sf_e2 (ng : Bool) (fp : Nat → Int32) (kp : Nat) (fq : Nat → Int32) (kq : Nat) (ee : Int32) (x : Int64) : -536870912 ≤ (pU_setFloat_5 ng fp kp fq kq ee x).toInt ∧ (pU_setFloat_5 ng fp kp fq kq ee x).toInt < 536870912 := e_rng2 (jlush x (52 : Int32))
theorem dbl_rng {a : Int32} (h : -536870912 ≤ a.toInt ∧ a.toInt < 536870912) : -1073741824 ≤ (a + a).toInt ∧ (a + a).toInt < 1073741824 := by
  have e : (a + a).toInt = a.toInt + a.toInt := by
    rw [Int32.toInt_add]
    exact Int.bmod_eq_of_le (by omega) (by omega)
  rw [e]; omega
section SQ
variable (ng : Bool) (fp : Nat → Int32) (kp : Nat) (fq : Nat → Int32) (kq : Nat) (ee : Int32) (ng2 : Bool) (fp2 : Nat → Int32) (kp2 : Nat) (fq2 : Nat → Int32) (kq2 : Nat) (ee2 : Int32)
theorem t2_p {P : Nat} (h : Bg fp2 kp2 P) (hk : kp2 ≤ 4) : Bg (pU_times2_1 ng fp kp fq kq ee ng2 fp2 kp2 fq2 kq2 ee2) (pU_times2_2 ng fp kp fq kq ee ng2 fp2 kp2 fq2 kq2 ee2) (P * P) := Bg_product2 fp kp h (by omega)
theorem t2_q {P : Nat} (h : Bg fq2 kq2 P) (hk : kq2 ≤ 4) : Bg (pU_times2_3 ng fp kp fq kq ee ng2 fp2 kp2 fq2 kq2 ee2) (pU_times2_4 ng fp kp fq kq ee ng2 fp2 kp2 fq2 kq2 ee2) (P * P) := Bg_product2 fq kq h (by omega)
theorem t2_lp {P : Nat} (h : Bg fp2 kp2 P) (hk : kp2 ≤ 4) : pU_times2_2 ng fp kp fq kq ee ng2 fp2 kp2 fq2 kq2 ee2 ≤ 8 := by
  have := (t2_p ng fp kp fq kq ee ng2 fp2 kp2 fq2 kq2 ee2 h hk).mul_len h h
  omega
theorem t2_lq {P : Nat} (h : Bg fq2 kq2 P) (hk : kq2 ≤ 4) : pU_times2_4 ng fp kp fq kq ee ng2 fp2 kp2 fq2 kq2 ee2 ≤ 8 := by
  have := (t2_q ng fp kp fq kq ee ng2 fp2 kp2 fq2 kq2 ee2 h hk).mul_len h h
  omega
end SQ

