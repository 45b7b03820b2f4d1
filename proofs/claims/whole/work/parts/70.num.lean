/-! NUMBERS OF THE REFERENCE: (P / Q) * 2 ^ e -/
def NU (fp : Nat → Int32) (kp : Nat) (fq : Nat → Int32) (kq : Nat) (ee : Int32) (P Q : Nat) (e : Int) : Prop := Bg fp kp P ∧ Bg fq kq Q ∧ ee.toInt = e
theorem sf_NU (ng : Bool) (fp : Nat → Int32) (kp : Nat) (fq : Nat → Int32) (kq : Nat) (ee : Int32) (x : Int64) : NU (pU_setFloat_1 ng fp kp fq kq ee x) (pU_setFloat_2 ng fp kp fq kq ee x) (pU_setFloat_3 ng fp kp fq kq ee x) (pU_setFloat_4 ng fp kp fq kq ee x) (pU_setFloat_5 ng fp kp fq kq ee x) (sgf x) 1 (exf x) :=
  ⟨sf_pv ng fp kp fq kq ee x, sf_q ng fp kp fq kq ee x, sf_ev ng fp kp fq kq ee x⟩
section NU2
variable (ng : Bool) (fp : Nat → Int32) (kp : Nat) (fq : Nat → Int32) (kq : Nat) (ee : Int32) {ng2 : Bool} {fp2 : Nat → Int32} {kp2 : Nat} {fq2 : Nat → Int32} {kq2 : Nat} {ee2 : Int32} {ng3 : Bool} {fp3 : Nat → Int32} {kp3 : Nat} {fq3 : Nat → Int32} {kq3 : Nat} {ee3 : Int32} {P2 Q2 P3 Q3 : Nat} {e2 e3 : Int}
theorem tm_NU (h2 : NU fp2 kp2 fq2 kq2 ee2 P2 Q2 e2) (h3 : NU fp3 kp3 fq3 kq3 ee3 P3 Q3 e3) (hk : kp2 + kp3 < 2147483648) (hq : kq2 + kq3 < 2147483648) (r1 : -2147483648 ≤ e2 + e3) (r2 : e2 + e3 < 2147483648) :
    NU (pU_times_1 ng fp kp fq kq ee ng2 fp2 kp2 fq2 kq2 ee2 ng3 fp3 kp3 fq3 kq3 ee3) (pU_times_2 ng fp kp fq kq ee ng2 fp2 kp2 fq2 kq2 ee2 ng3 fp3 kp3 fq3 kq3 ee3) (pU_times_3 ng fp kp fq kq ee ng2 fp2 kp2 fq2 kq2 ee2 ng3 fp3 kp3 fq3 kq3 ee3) (pU_times_4 ng fp kp fq kq ee ng2 fp2 kp2 fq2 kq2 ee2 ng3 fp3 kp3 fq3 kq3 ee3) (pU_times_5 ng fp kp fq kq ee ng2 fp2 kp2 fq2 kq2 ee2 ng3 fp3 kp3 fq3 kq3 ee3) (P2 * P3) (Q2 * Q3) (e2 + e3) :=
  ⟨Bg_product fp kp h2.1 h3.1 hk, Bg_product fq kq h2.2.1 h3.2.1 hq, iA h2.2.2 h3.2.2 r1 r2⟩
theorem tm_k (h2 : NU fp2 kp2 fq2 kq2 ee2 P2 Q2 e2) (h3 : NU fp3 kp3 fq3 kq3 ee3 P3 Q3 e3) (hk : kp2 + kp3 < 2147483648) (hq : kq2 + kq3 < 2147483648) :
    pU_times_2 ng fp kp fq kq ee ng2 fp2 kp2 fq2 kq2 ee2 ng3 fp3 kp3 fq3 kq3 ee3 ≤ kp2 + kp3 ∧ pU_times_4 ng fp kp fq kq ee ng2 fp2 kp2 fq2 kq2 ee2 ng3 fp3 kp3 fq3 kq3 ee3 ≤ kq2 + kq3 :=
  ⟨(Bg_product fp kp h2.1 h3.1 hk).mul_len h2.1 h3.1, (Bg_product fq kq h2.2.1 h3.2.1 hq).mul_len h2.2.1 h3.2.1⟩
theorem ov_NU (h2 : NU fp2 kp2 fq2 kq2 ee2 P2 Q2 e2) (h3 : NU fp3 kp3 fq3 kq3 ee3 P3 Q3 e3) (hk : kp2 + kq3 < 2147483648) (hq : kq2 + kp3 < 2147483648) (r1 : -2147483648 ≤ e2 - e3) (r2 : e2 - e3 < 2147483648) :
    NU (pU_over_1 ng fp kp fq kq ee ng2 fp2 kp2 fq2 kq2 ee2 ng3 fp3 kp3 fq3 kq3 ee3) (pU_over_2 ng fp kp fq kq ee ng2 fp2 kp2 fq2 kq2 ee2 ng3 fp3 kp3 fq3 kq3 ee3) (pU_over_3 ng fp kp fq kq ee ng2 fp2 kp2 fq2 kq2 ee2 ng3 fp3 kp3 fq3 kq3 ee3) (pU_over_4 ng fp kp fq kq ee ng2 fp2 kp2 fq2 kq2 ee2 ng3 fp3 kp3 fq3 kq3 ee3) (pU_over_5 ng fp kp fq kq ee ng2 fp2 kp2 fq2 kq2 ee2 ng3 fp3 kp3 fq3 kq3 ee3) (P2 * Q3) (Q2 * P3) (e2 - e3) :=
  ⟨Bg_product fp kp h2.1 h3.2.1 hk, Bg_product fq kq h2.2.1 h3.1 hq, iS h2.2.2 h3.2.2 r1 r2⟩
theorem ov_k (h2 : NU fp2 kp2 fq2 kq2 ee2 P2 Q2 e2) (h3 : NU fp3 kp3 fq3 kq3 ee3 P3 Q3 e3) (hk : kp2 + kq3 < 2147483648) (hq : kq2 + kp3 < 2147483648) :
    pU_over_2 ng fp kp fq kq ee ng2 fp2 kp2 fq2 kq2 ee2 ng3 fp3 kp3 fq3 kq3 ee3 ≤ kp2 + kq3 ∧ pU_over_4 ng fp kp fq kq ee ng2 fp2 kp2 fq2 kq2 ee2 ng3 fp3 kp3 fq3 kq3 ee3 ≤ kq2 + kp3 :=
  ⟨(Bg_product fp kp h2.1 h3.2.1 hk).mul_len h2.1 h3.2.1, (Bg_product fq kq h2.2.1 h3.1 hq).mul_len h2.2.1 h3.1⟩
theorem cp_NU (h2 : NU fp2 kp2 fq2 kq2 ee2 P2 Q2 e2) :
    NU (pU_copy_1 ng fp kp fq kq ee ng2 fp2 kp2 fq2 kq2 ee2) (pU_copy_2 ng fp kp fq kq ee ng2 fp2 kp2 fq2 kq2 ee2) (pU_copy_3 ng fp kp fq kq ee ng2 fp2 kp2 fq2 kq2 ee2) (pU_copy_4 ng fp kp fq kq ee ng2 fp2 kp2 fq2 kq2 ee2) (pU_copy_5 ng fp kp fq kq ee ng2 fp2 kp2 fq2 kq2 ee2) P2 Q2 e2 :=
  ⟨Bg_copy fp kp h2.1, Bg_copy fq kq h2.2.1, h2.2.2⟩
theorem set1_NU : NU (pU_set_1 ng fp kp fq kq ee (1 : Int64)) (pU_set_2 ng fp kp fq kq ee (1 : Int64)) (pU_set_3 ng fp kp fq kq ee (1 : Int64)) (pU_set_4 ng fp kp fq kq ee (1 : Int64)) (pU_set_5 ng fp kp fq kq ee (1 : Int64)) 1 1 0 :=
  ⟨Bg_set fp kp (1 : Int64), Bg_set fq kq (1 : Int64), rfl⟩
end NU2
section PL
variable (ng : Bool) (fp : Nat → Int32) (kp : Nat) (fq : Nat → Int32) (kq : Nat) (ee : Int32) (ng2 : Bool) (fp2 : Nat → Int32) (kp2 : Nat) (fq2 : Nat → Int32) (kq2 : Nat) (ee2 : Int32) (ng3 : Bool) (fp3 : Nat → Int32) (kp3 : Nat) (fq3 : Nat → Int32) (kq3 : Nat) (ee3 : Int32) (s1 s2 : Nat)
theorem pl_NU {P2 P3 : Nat} {e2 e3 : Int} (h2 : NU fp2 kp2 fq2 kq2 ee2 P2 1 e2) (h3 : NU fp3 kp3 fq3 kq3 ee3 P3 1 e3) (hk2 : kp2 ≤ 1000) (hk3 : kp3 ≤ 1000) (r1 : -90000 ≤ e2) (r2 : e2 ≤ 90000) (r3 : -90000 ≤ e3) (r4 : e3 ≤ 90000)
    (hs1 : s1 = (e2 - min e2 e3).toNat) (hs2 : s2 = (e3 - min e2 e3).toNat) :
    ∃ (P : Nat) (e : Int), NU (pU_plus_1 ng fp kp fq kq ee ng2 fp2 kp2 fq2 kq2 ee2 ng3 fp3 kp3 fq3 kq3 ee3 s1 s2) (pU_plus_2 ng fp kp fq kq ee ng2 fp2 kp2 fq2 kq2 ee2 ng3 fp3 kp3 fq3 kq3 ee3 s1 s2) (pU_plus_3 ng fp kp fq kq ee ng2 fp2 kp2 fq2 kq2 ee2 ng3 fp3 kp3 fq3 kq3 ee3 s1 s2) (pU_plus_4 ng fp kp fq kq ee ng2 fp2 kp2 fq2 kq2 ee2 ng3 fp3 kp3 fq3 kq3 ee3 s1 s2) (pU_plus_5 ng fp kp fq kq ee ng2 fp2 kp2 fq2 kq2 ee2 ng3 fp3 kp3 fq3 kq3 ee3 s1 s2) P 1 e ∧
      P * WW e = smM (P2 * WW e2) (P3 * WW e3) ng2 ng3 ∧ (P ≠ 0 → pU_plus_0 ng fp kp fq kq ee ng2 fp2 kp2 fq2 kq2 ee2 ng3 fp3 kp3 fq3 kq3 ee3 s1 s2 = smS (P2 * WW e2) (P3 * WW e3) ng2 ng3) ∧
      pU_plus_2 ng fp kp fq kq ee ng2 fp2 kp2 fq2 kq2 ee2 ng3 fp3 kp3 fq3 kq3 ee3 s1 s2 ≤ max (kp2 + s1 / 16 + 1) (kp3 + s2 / 16 + 1) + 1 ∧ (e = e2 ∨ e = e3) := by
  have c2 : nI kp2 = 0 ↔ kp2 = 0 := nI_eq (b := 0) (by omega) (by decide)
  have c3 : nI kp3 = 0 ↔ kp3 = 0 := nI_eq (b := 0) (by omega) (by decide)
  have z2 := h2.1.zero
  have z3 := h3.1.zero
  have hw2 := WW_pos e2
  have hw3 := WW_pos e3
  by_cases k2 : kp2 = 0
  · have d := c2.mpr k2
    have p2 := z2.mp k2
    have f1 : pU_plus_1 ng fp kp fq kq ee ng2 fp2 kp2 fq2 kq2 ee2 ng3 fp3 kp3 fq3 kq3 ee3 s1 s2 = v_U_plus_9 ng fp kp fq kq ee ng2 fp2 kp2 fq2 kq2 ee2 ng3 fp3 kp3 fq3 kq3 ee3 s1 s2 := (if_pos d).trans (if_pos d)
    have f2 : pU_plus_2 ng fp kp fq kq ee ng2 fp2 kp2 fq2 kq2 ee2 ng3 fp3 kp3 fq3 kq3 ee3 s1 s2 = v_U_plus_10 ng fp kp fq kq ee ng2 fp2 kp2 fq2 kq2 ee2 ng3 fp3 kp3 fq3 kq3 ee3 s1 s2 := (if_pos d).trans (if_pos d)
    have f3 : pU_plus_3 ng fp kp fq kq ee ng2 fp2 kp2 fq2 kq2 ee2 ng3 fp3 kp3 fq3 kq3 ee3 s1 s2 = v_U_plus_11 ng fp kp fq kq ee ng2 fp2 kp2 fq2 kq2 ee2 ng3 fp3 kp3 fq3 kq3 ee3 s1 s2 := (if_pos d).trans (if_pos d)
    have f4 : pU_plus_4 ng fp kp fq kq ee ng2 fp2 kp2 fq2 kq2 ee2 ng3 fp3 kp3 fq3 kq3 ee3 s1 s2 = v_U_plus_12 ng fp kp fq kq ee ng2 fp2 kp2 fq2 kq2 ee2 ng3 fp3 kp3 fq3 kq3 ee3 s1 s2 := (if_pos d).trans (if_pos d)
    have f5 : pU_plus_5 ng fp kp fq kq ee ng2 fp2 kp2 fq2 kq2 ee2 ng3 fp3 kp3 fq3 kq3 ee3 s1 s2 = v_U_plus_13 ng fp kp fq kq ee ng2 fp2 kp2 fq2 kq2 ee2 ng3 fp3 kp3 fq3 kq3 ee3 s1 s2 := (if_pos d).trans (if_pos d)
    have f0 : pU_plus_0 ng fp kp fq kq ee ng2 fp2 kp2 fq2 kq2 ee2 ng3 fp3 kp3 fq3 kq3 ee3 s1 s2 = ng3 := (if_pos d).trans (if_pos d)
    refine ⟨P3, e3, ?_, ?_, fun hp => ?_, ?_, Or.inr rfl⟩
    · rw [f1, f2, f3, f4, f5]
      exact cp_NU _ _ _ _ _ _ (ng2 := ng3) h3
    · unfold smM
      rw [p2, Nat.zero_mul, Nat.zero_add]
      split
      · rfl
      · split <;> omega
    · rw [f0]
      unfold smS
      have : 0 < P3 * WW e3 := Nat.mul_pos (by omega) hw3
      rw [p2, Nat.zero_mul, if_neg (show ¬ P3 * WW e3 ≤ 0 by omega)]
      split
      · next q => exact q.symm
      · rfl
    · rw [f2]
      show kp3 ≤ _
      omega
  · have d := fun w => k2 (c2.mp w)
    by_cases k3 : kp3 = 0
    · have dd := c3.mpr k3
      have p3 := z3.mp k3
      have f1 : pU_plus_1 ng fp kp fq kq ee ng2 fp2 kp2 fq2 kq2 ee2 ng3 fp3 kp3 fq3 kq3 ee3 s1 s2 = v_U_plus_2 ng fp kp fq kq ee ng2 fp2 kp2 fq2 kq2 ee2 ng3 fp3 kp3 fq3 kq3 ee3 s1 s2 := ((if_neg d).trans (if_pos dd)).trans (if_neg d)
      have f2 : pU_plus_2 ng fp kp fq kq ee ng2 fp2 kp2 fq2 kq2 ee2 ng3 fp3 kp3 fq3 kq3 ee3 s1 s2 = v_U_plus_3 ng fp kp fq kq ee ng2 fp2 kp2 fq2 kq2 ee2 ng3 fp3 kp3 fq3 kq3 ee3 s1 s2 := ((if_neg d).trans (if_pos dd)).trans (if_neg d)
      have f3 : pU_plus_3 ng fp kp fq kq ee ng2 fp2 kp2 fq2 kq2 ee2 ng3 fp3 kp3 fq3 kq3 ee3 s1 s2 = v_U_plus_4 ng fp kp fq kq ee ng2 fp2 kp2 fq2 kq2 ee2 ng3 fp3 kp3 fq3 kq3 ee3 s1 s2 := ((if_neg d).trans (if_pos dd)).trans (if_neg d)
      have f4 : pU_plus_4 ng fp kp fq kq ee ng2 fp2 kp2 fq2 kq2 ee2 ng3 fp3 kp3 fq3 kq3 ee3 s1 s2 = v_U_plus_5 ng fp kp fq kq ee ng2 fp2 kp2 fq2 kq2 ee2 ng3 fp3 kp3 fq3 kq3 ee3 s1 s2 := ((if_neg d).trans (if_pos dd)).trans (if_neg d)
      have f5 : pU_plus_5 ng fp kp fq kq ee ng2 fp2 kp2 fq2 kq2 ee2 ng3 fp3 kp3 fq3 kq3 ee3 s1 s2 = v_U_plus_6 ng fp kp fq kq ee ng2 fp2 kp2 fq2 kq2 ee2 ng3 fp3 kp3 fq3 kq3 ee3 s1 s2 := ((if_neg d).trans (if_pos dd)).trans (if_neg d)
      have f0 : pU_plus_0 ng fp kp fq kq ee ng2 fp2 kp2 fq2 kq2 ee2 ng3 fp3 kp3 fq3 kq3 ee3 s1 s2 = ng2 := ((if_neg d).trans (if_pos dd)).trans (if_neg d)
      refine ⟨P2, e2, ?_, ?_, fun hp => ?_, ?_, Or.inl rfl⟩
      · rw [f1, f2, f3, f4, f5]
        exact cp_NU _ _ _ _ _ _ (ng2 := ng2) h2
      · unfold smM
        rw [p3, Nat.zero_mul, Nat.add_zero, if_pos (Nat.zero_le _), Nat.sub_zero, ite_self]
      · rw [f0]
        unfold smS
        rw [p3, Nat.zero_mul, if_pos (Nat.zero_le _), ite_self]
      · rw [f2]
        show kp2 ≤ _
        omega
    · have dd := fun w => k3 (c3.mp w)
      have hd16 : ∀ s : Nat, s ≤ 180000 → s / 16 ≤ 11250 := fun s hs => by omega
      have hs1' : s1 ≤ 180000 := by omega
      have hs2' : s2 ≤ 180000 := by omega
      obtain ⟨gA, lA⟩ := Bg_shift (Bg_copy fp kp h2.1) s1 (by show kp2 < 2147483648; omega)
      obtain ⟨gB, lB⟩ := Bg_shift h3.1 s2 (by omega)
      have gA' : Bg (v_U_plus_20 ng fp kp fq kq ee ng2 fp2 kp2 fq2 kq2 ee2 ng3 fp3 kp3 fq3 kq3 ee3 s1 s2) (v_U_plus_21 ng fp kp fq kq ee ng2 fp2 kp2 fq2 kq2 ee2 ng3 fp3 kp3 fq3 kq3 ee3 s1 s2) (P2 * 2 ^ s1) := gA
      have lA' : v_U_plus_21 ng fp kp fq kq ee ng2 fp2 kp2 fq2 kq2 ee2 ng3 fp3 kp3 fq3 kq3 ee3 s1 s2 ≤ kp2 + s1 / 16 + 1 := lA
      have gB' : Bg (v_U_plus_22 ng fp kp fq kq ee ng2 fp2 kp2 fq2 kq2 ee2 ng3 fp3 kp3 fq3 kq3 ee3 s1 s2) (v_U_plus_23 ng fp kp fq kq ee ng2 fp2 kp2 fq2 kq2 ee2 ng3 fp3 kp3 fq3 kq3 ee3 s1 s2) (P3 * 2 ^ s2) := gB
      have lB' : v_U_plus_23 ng fp kp fq kq ee ng2 fp2 kp2 fq2 kq2 ee2 ng3 fp3 kp3 fq3 kq3 ee3 s1 s2 ≤ kp3 + s2 / 16 + 1 := lB
      clear gA lA gB lB
      have f1 : pU_plus_1 ng fp kp fq kq ee ng2 fp2 kp2 fq2 kq2 ee2 ng3 fp3 kp3 fq3 kq3 ee3 s1 s2 = v_U_plus_35 ng fp kp fq kq ee ng2 fp2 kp2 fq2 kq2 ee2 ng3 fp3 kp3 fq3 kq3 ee3 s1 s2 := (if_neg d).trans (if_neg dd)
      have f2 : pU_plus_2 ng fp kp fq kq ee ng2 fp2 kp2 fq2 kq2 ee2 ng3 fp3 kp3 fq3 kq3 ee3 s1 s2 = v_U_plus_34 ng fp kp fq kq ee ng2 fp2 kp2 fq2 kq2 ee2 ng3 fp3 kp3 fq3 kq3 ee3 s1 s2 := (if_neg d).trans (if_neg dd)
      have f3 : pU_plus_3 ng fp kp fq kq ee ng2 fp2 kp2 fq2 kq2 ee2 ng3 fp3 kp3 fq3 kq3 ee3 s1 s2 = v_U_plus_4 ng fp kp fq kq ee ng2 fp2 kp2 fq2 kq2 ee2 ng3 fp3 kp3 fq3 kq3 ee3 s1 s2 := (if_neg d).trans (if_neg dd)
      have f4 : pU_plus_4 ng fp kp fq kq ee ng2 fp2 kp2 fq2 kq2 ee2 ng3 fp3 kp3 fq3 kq3 ee3 s1 s2 = v_U_plus_5 ng fp kp fq kq ee ng2 fp2 kp2 fq2 kq2 ee2 ng3 fp3 kp3 fq3 kq3 ee3 s1 s2 := (if_neg d).trans (if_neg dd)
      have f5 : pU_plus_5 ng fp kp fq kq ee ng2 fp2 kp2 fq2 kq2 ee2 ng3 fp3 kp3 fq3 kq3 ee3 s1 s2 = if ee3 ≤ ee2 then ee3 else ee2 := (if_neg d).trans (if_neg dd)
      have f0 : pU_plus_0 ng fp kp fq kq ee ng2 fp2 kp2 fq2 kq2 ee2 ng3 fp3 kp3 fq3 kq3 ee3 s1 s2 = v_U_plus_33 ng fp kp fq kq ee ng2 fp2 kp2 fq2 kq2 ee2 ng3 fp3 kp3 fq3 kq3 ee3 s1 s2 := (if_neg d).trans (if_neg dd)
      have e5 : (if ee3 ≤ ee2 then ee3 else ee2).toInt = min e2 e3 := by
        have c := i_le h3.2.2 h2.2.2
        by_cases w : e3 ≤ e2
        · rw [if_pos (c.mpr w), h3.2.2]; omega
        · rw [if_neg (fun u => w (c.mp u)), h2.2.2]; omega
      have hq : Bg (v_U_plus_4 ng fp kp fq kq ee ng2 fp2 kp2 fq2 kq2 ee2 ng3 fp3 kp3 fq3 kq3 ee3 s1 s2) (v_U_plus_5 ng fp kp fq kq ee ng2 fp2 kp2 fq2 kq2 ee2 ng3 fp3 kp3 fq3 kq3 ee3 s1 s2) 1 := Bg_copy fq kq h2.2.1
      have eA : P2 * WW e2 = P2 * 2 ^ s1 * WW (min e2 e3) := by rw [WW_eq (e := min e2 e3) (f := e2) s1 (by omega) (by omega), Nat.mul_comm (WW _), Nat.mul_assoc]
      have eB : P3 * WW e3 = P3 * 2 ^ s2 * WW (min e2 e3) := by rw [WW_eq (e := min e2 e3) (f := e3) s2 (by omega) (by omega), Nat.mul_comm (WW _), Nat.mul_assoc]
      have hme : min e2 e3 = e2 ∨ min e2 e3 = e3 := by omega
      rw [f0, f1, f2, f3, f4, f5, eA, eB]
      clear f0 f1 f2 f3 f4 f5 eA eB
      have h33 : v_U_plus_33 ng fp kp fq kq ee ng2 fp2 kp2 fq2 kq2 ee2 ng3 fp3 kp3 fq3 kq3 ee3 s1 s2 = if ng2 = ng3 then ng2 else (if pB_compare (v_U_plus_20 ng fp kp fq kq ee ng2 fp2 kp2 fq2 kq2 ee2 ng3 fp3 kp3 fq3 kq3 ee3 s1 s2) (v_U_plus_21 ng fp kp fq kq ee ng2 fp2 kp2 fq2 kq2 ee2 ng3 fp3 kp3 fq3 kq3 ee3 s1 s2) (v_U_plus_22 ng fp kp fq kq ee ng2 fp2 kp2 fq2 kq2 ee2 ng3 fp3 kp3 fq3 kq3 ee3 s1 s2) (v_U_plus_23 ng fp kp fq kq ee ng2 fp2 kp2 fq2 kq2 ee2 ng3 fp3 kp3 fq3 kq3 ee3 s1 s2) < 0 then ng3 else ng2) := rfl
      have h34 : v_U_plus_34 ng fp kp fq kq ee ng2 fp2 kp2 fq2 kq2 ee2 ng3 fp3 kp3 fq3 kq3 ee3 s1 s2 = if ng2 = ng3 then v_U_plus_32 ng fp kp fq kq ee ng2 fp2 kp2 fq2 kq2 ee2 ng3 fp3 kp3 fq3 kq3 ee3 s1 s2 else (if pB_compare (v_U_plus_20 ng fp kp fq kq ee ng2 fp2 kp2 fq2 kq2 ee2 ng3 fp3 kp3 fq3 kq3 ee3 s1 s2) (v_U_plus_21 ng fp kp fq kq ee ng2 fp2 kp2 fq2 kq2 ee2 ng3 fp3 kp3 fq3 kq3 ee3 s1 s2) (v_U_plus_22 ng fp kp fq kq ee ng2 fp2 kp2 fq2 kq2 ee2 ng3 fp3 kp3 fq3 kq3 ee3 s1 s2) (v_U_plus_23 ng fp kp fq kq ee ng2 fp2 kp2 fq2 kq2 ee2 ng3 fp3 kp3 fq3 kq3 ee3 s1 s2) < 0 then v_U_plus_28 ng fp kp fq kq ee ng2 fp2 kp2 fq2 kq2 ee2 ng3 fp3 kp3 fq3 kq3 ee3 s1 s2 else v_U_plus_30 ng fp kp fq kq ee ng2 fp2 kp2 fq2 kq2 ee2 ng3 fp3 kp3 fq3 kq3 ee3 s1 s2) := rfl
      have h35 : v_U_plus_35 ng fp kp fq kq ee ng2 fp2 kp2 fq2 kq2 ee2 ng3 fp3 kp3 fq3 kq3 ee3 s1 s2 = if ng2 = ng3 then v_U_plus_31 ng fp kp fq kq ee ng2 fp2 kp2 fq2 kq2 ee2 ng3 fp3 kp3 fq3 kq3 ee3 s1 s2 else (if pB_compare (v_U_plus_20 ng fp kp fq kq ee ng2 fp2 kp2 fq2 kq2 ee2 ng3 fp3 kp3 fq3 kq3 ee3 s1 s2) (v_U_plus_21 ng fp kp fq kq ee ng2 fp2 kp2 fq2 kq2 ee2 ng3 fp3 kp3 fq3 kq3 ee3 s1 s2) (v_U_plus_22 ng fp kp fq kq ee ng2 fp2 kp2 fq2 kq2 ee2 ng3 fp3 kp3 fq3 kq3 ee3 s1 s2) (v_U_plus_23 ng fp kp fq kq ee ng2 fp2 kp2 fq2 kq2 ee2 ng3 fp3 kp3 fq3 kq3 ee3 s1 s2) < 0 then v_U_plus_27 ng fp kp fq kq ee ng2 fp2 kp2 fq2 kq2 ee2 ng3 fp3 kp3 fq3 kq3 ee3 s1 s2 else v_U_plus_29 ng fp kp fq kq ee ng2 fp2 kp2 fq2 kq2 ee2 ng3 fp3 kp3 fq3 kq3 ee3 s1 s2) := rfl
      have h31 : Bg (v_U_plus_31 ng fp kp fq kq ee ng2 fp2 kp2 fq2 kq2 ee2 ng3 fp3 kp3 fq3 kq3 ee3 s1 s2) (v_U_plus_32 ng fp kp fq kq ee ng2 fp2 kp2 fq2 kq2 ee2 ng3 fp3 kp3 fq3 kq3 ee3 s1 s2) (P2 * 2 ^ s1 + P3 * 2 ^ s2) ∧ v_U_plus_32 ng fp kp fq kq ee ng2 fp2 kp2 fq2 kq2 ee2 ng3 fp3 kp3 fq3 kq3 ee3 s1 s2 ≤ max (v_U_plus_21 ng fp kp fq kq ee ng2 fp2 kp2 fq2 kq2 ee2 ng3 fp3 kp3 fq3 kq3 ee3 s1 s2) (v_U_plus_23 ng fp kp fq kq ee ng2 fp2 kp2 fq2 kq2 ee2 ng3 fp3 kp3 fq3 kq3 ee3 s1 s2) + 1 := by
        refine Bg_add gA' gB' ?_ ?_
        · exact Nat.lt_of_le_of_lt lA' (by have := hd16 s1 hs1'; omega)
        · exact Nat.lt_of_le_of_lt lB' (by have := hd16 s2 hs2'; omega)
      have b21 : v_U_plus_21 ng fp kp fq kq ee ng2 fp2 kp2 fq2 kq2 ee2 ng3 fp3 kp3 fq3 kq3 ee3 s1 s2 < 2147483648 := Nat.lt_of_le_of_lt lA' (by have := hd16 s1 hs1'; omega)
      have b23 : v_U_plus_23 ng fp kp fq kq ee ng2 fp2 kp2 fq2 kq2 ee2 ng3 fp3 kp3 fq3 kq3 ee3 s1 s2 < 2147483648 := Nat.lt_of_le_of_lt lB' (by have := hd16 s2 hs2'; omega)
      have h29 : P3 * 2 ^ s2 ≤ P2 * 2 ^ s1 → Bg (v_U_plus_29 ng fp kp fq kq ee ng2 fp2 kp2 fq2 kq2 ee2 ng3 fp3 kp3 fq3 kq3 ee3 s1 s2) (v_U_plus_30 ng fp kp fq kq ee ng2 fp2 kp2 fq2 kq2 ee2 ng3 fp3 kp3 fq3 kq3 ee3 s1 s2) (P2 * 2 ^ s1 - P3 * 2 ^ s2) ∧ v_U_plus_30 ng fp kp fq kq ee ng2 fp2 kp2 fq2 kq2 ee2 ng3 fp3 kp3 fq3 kq3 ee3 s1 s2 ≤ v_U_plus_21 ng fp kp fq kq ee ng2 fp2 kp2 fq2 kq2 ee2 ng3 fp3 kp3 fq3 kq3 ee3 s1 s2 := fun hle => Bg_subtract gA' gB' hle b21
      have h27 : P2 * 2 ^ s1 ≤ P3 * 2 ^ s2 → Bg (v_U_plus_27 ng fp kp fq kq ee ng2 fp2 kp2 fq2 kq2 ee2 ng3 fp3 kp3 fq3 kq3 ee3 s1 s2) (v_U_plus_28 ng fp kp fq kq ee ng2 fp2 kp2 fq2 kq2 ee2 ng3 fp3 kp3 fq3 kq3 ee3 s1 s2) (P3 * 2 ^ s2 - P2 * 2 ^ s1) ∧ v_U_plus_28 ng fp kp fq kq ee ng2 fp2 kp2 fq2 kq2 ee2 ng3 fp3 kp3 fq3 kq3 ee3 s1 s2 ≤ v_U_plus_23 ng fp kp fq kq ee ng2 fp2 kp2 fq2 kq2 ee2 ng3 fp3 kp3 fq3 kq3 ee3 s1 s2 := fun hle => by
        have q := Bg_subtract gB' gA' hle b23
        exact ⟨Bg_copy _ _ q.1, q.2⟩
      have hcmp := Bg_compare gA' gB' b21 b23
      rw [h33, h34, h35, hcmp]
      clear h33 h34 h35 hcmp gA' gB' b21 b23
      generalize v_U_plus_31 ng fp kp fq kq ee ng2 fp2 kp2 fq2 kq2 ee2 ng3 fp3 kp3 fq3 kq3 ee3 s1 s2 = F31 at *
      generalize v_U_plus_32 ng fp kp fq kq ee ng2 fp2 kp2 fq2 kq2 ee2 ng3 fp3 kp3 fq3 kq3 ee3 s1 s2 = K32 at *
      generalize v_U_plus_29 ng fp kp fq kq ee ng2 fp2 kp2 fq2 kq2 ee2 ng3 fp3 kp3 fq3 kq3 ee3 s1 s2 = F29 at *
      generalize v_U_plus_30 ng fp kp fq kq ee ng2 fp2 kp2 fq2 kq2 ee2 ng3 fp3 kp3 fq3 kq3 ee3 s1 s2 = K30 at *
      generalize v_U_plus_27 ng fp kp fq kq ee ng2 fp2 kp2 fq2 kq2 ee2 ng3 fp3 kp3 fq3 kq3 ee3 s1 s2 = F27 at *
      generalize v_U_plus_28 ng fp kp fq kq ee ng2 fp2 kp2 fq2 kq2 ee2 ng3 fp3 kp3 fq3 kq3 ee3 s1 s2 = K28 at *
      generalize v_U_plus_21 ng fp kp fq kq ee ng2 fp2 kp2 fq2 kq2 ee2 ng3 fp3 kp3 fq3 kq3 ee3 s1 s2 = K21 at *
      generalize v_U_plus_23 ng fp kp fq kq ee ng2 fp2 kp2 fq2 kq2 ee2 ng3 fp3 kp3 fq3 kq3 ee3 s1 s2 = K23 at *
      generalize v_U_plus_4 ng fp kp fq kq ee ng2 fp2 kp2 fq2 kq2 ee2 ng3 fp3 kp3 fq3 kq3 ee3 s1 s2 = F4 at *
      generalize v_U_plus_5 ng fp kp fq kq ee ng2 fp2 kp2 fq2 kq2 ee2 ng3 fp3 kp3 fq3 kq3 ee3 s1 s2 = K5 at *
      generalize (if ee3 ≤ ee2 then ee3 else ee2) = E5 at *
      generalize kp2 + s1 / 16 + 1 = LA at *
      generalize kp3 + s2 / 16 + 1 = LB at *
      have hW := WW_pos (min e2 e3)
      generalize min e2 e3 = em at *
      generalize P2 * 2 ^ s1 = PA at *
      generalize P3 * 2 ^ s2 = PB at *
      have cW : PB * WW em ≤ PA * WW em ↔ PB ≤ PA := ⟨fun h => Nat.le_of_mul_le_mul_right h hW, fun h => Nat.mul_le_mul_right _ h⟩
      unfold smM smS
      by_cases sg : ng2 = ng3
      · rw [if_pos sg, if_pos sg, if_pos sg, if_pos sg, if_pos sg]
        exact ⟨PA + PB, em, ⟨h31.1, hq, e5⟩, Nat.add_mul _ _ _, fun _ => rfl, by have := h31.2; omega, hme⟩
      · rw [if_neg sg, if_neg sg, if_neg sg, if_neg sg, if_neg sg]
        by_cases w : PB ≤ PA
        · have nc : ¬ (if PA = PB then (0 : Int32) else if PB < PA then 1 else -1) < 0 := by
            by_cases u : PA = PB
            · rw [if_pos u]; decide
            · rw [if_neg u, if_pos (by omega)]; decide
          rw [if_neg nc, if_neg nc, if_neg nc, if_pos (cW.mpr w), if_pos (cW.mpr w)]
          have := h29 w
          exact ⟨PA - PB, em, ⟨this.1, hq, e5⟩, Nat.sub_mul _ _ _, fun _ => rfl, by omega, hme⟩
        · have nc : (if PA = PB then (0 : Int32) else if PB < PA then 1 else -1) < 0 := by
            rw [if_neg (by omega), if_neg (by omega)]; decide
          rw [if_pos nc, if_pos nc, if_pos nc, if_neg (fun u => w (cW.mp u)), if_neg (fun u => w (cW.mp u))]
          have := h27 (by omega)
          exact ⟨PB - PA, em, ⟨this.1, hq, e5⟩, Nat.sub_mul _ _ _, fun _ => rfl, by omega, hme⟩
end PL
theorem nu_e {fp : Nat → Int32} {kp : Nat} {fq : Nat → Int32} {kq : Nat} {ee : Int32} {P Q : Nat} {e : Int} (h : NU fp kp fq kq ee P Q e) (h1 : -1073741824 ≤ e) (h2 : e < 1073741824) : -1073741824 ≤ ee.toInt ∧ ee.toInt < 1073741824 := by
  rw [h.2.2]; exact ⟨h1, h2⟩
theorem pl_m {a b : Int32} {x y : Int} (ha : a.toInt = x) (hb : b.toInt = y) : (if b ≤ a then b else a).toInt = min x y := by
  have c := i_le hb ha
  by_cases w : y ≤ x
  · rw [if_pos (c.mpr w), hb]; omega
  · rw [if_neg (fun u => w (c.mp u)), ha]; omega
theorem cl_nI {z : Int32} {v : Int} (hz : z.toInt = v) (h0 : 0 ≤ v) (h1 : v < 2147483648) : z = nI z.toNatClampNeg ∧ z.toNatClampNeg = v.toNat := by
  have e : z = nI v.toNat := i_nI (by rw [hz]; omega) (by omega)
  have e2 : z.toNatClampNeg = v.toNat := by rw [e]; exact nI_clamp (by omega)
  exact ⟨by rw [e2]; exact e, e2⟩
theorem pl_s {a b : Int32} {x y : Int} (ha : a.toInt = x) (hb : b.toInt = y) (h1 : -90000 ≤ x) (h2 : x ≤ 90000) (h3 : -90000 ≤ y) (h4 : y ≤ 90000) : a - (if b ≤ a then b else a) = nI (a - (if b ≤ a then b else a)).toNatClampNeg ∧ (a - (if b ≤ a then b else a)).toNatClampNeg = (x - min x y).toNat :=
  cl_nI (iS ha (pl_m ha hb) (by omega) (by omega)) (by omega) (by omega)
theorem pl_t {a b : Int32} {x y : Int} (ha : a.toInt = x) (hb : b.toInt = y) (h1 : -90000 ≤ x) (h2 : x ≤ 90000) (h3 : -90000 ≤ y) (h4 : y ≤ 90000) : b - (if b ≤ a then b else a) = nI (b - (if b ≤ a then b else a)).toNatClampNeg ∧ (b - (if b ≤ a then b else a)).toNatClampNeg = (y - min x y).toNat :=
  cl_nI (iS hb (pl_m ha hb) (by omega) (by omega)) (by omega) (by omega)
theorem pl_b {a b : Int32} {x y : Int} (ha : a.toInt = x) (hb : b.toInt = y) (h1 : -90000 ≤ x) (h2 : x ≤ 90000) (h3 : -90000 ≤ y) (h4 : y ≤ 90000) {c : Int} (h5 : x - y ≤ c) (h6 : y - x ≤ c) : ((a - (if b ≤ a then b else a)).toNatClampNeg : Int) ≤ c := by
  rw [(pl_s ha hb h1 h2 h3 h4).2]; omega
theorem pl_c {a b : Int32} {x y : Int} (ha : a.toInt = x) (hb : b.toInt = y) (h1 : -90000 ≤ x) (h2 : x ≤ 90000) (h3 : -90000 ≤ y) (h4 : y ≤ 90000) {c : Int} (h5 : x - y ≤ c) (h6 : y - x ≤ c) : ((b - (if b ≤ a then b else a)).toNatClampNeg : Int) ≤ c := by
  rw [(pl_t ha hb h1 h2 h3 h4).2]; omega
/-! POWERS OF THE REFERENCE -/
theorem pw_lt {b j : Nat} (hb : b < 2 ^ 53) : b ^ j < 65536 ^ (4 * j + 1) := by
  have h1 : b ^ j ≤ (2 ^ 53) ^ j := Nat.pow_le_pow_left (Nat.le_of_lt hb) j
  have h2 : (65536 : Nat) ^ (4 * j + 1) = 2 ^ (16 * (4 * j + 1)) := by
    have : (65536 : Nat) = 2 ^ 16 := by decide
    rw [this, ← Nat.pow_mul]
  rw [h2]
  rw [← Nat.pow_mul] at h1
  exact Nat.lt_of_le_of_lt h1 ((Nat.pow_lt_pow_iff_right (by decide)).mpr (by omega))
theorem pw_k {fp : Nat → Int32} {kp : Nat} {fq : Nat → Int32} {kq : Nat} {ee : Int32} {b j : Nat} {e : Int} (h : NU fp kp fq kq ee (b ^ j) 1 e) (hb : b < 2 ^ 53) (hj : j ≤ 40) : kp ≤ 161 ∧ kq ≤ 1 := by
  have h1 := h.1.len (pw_lt (j := j) hb)
  exact ⟨by omega, h.2.1.len (by decide)⟩
theorem pw_0 {fp : Nat → Int32} {kp : Nat} {fq : Nat → Int32} {kq : Nat} {ee : Int32} {b : Nat} {e : Int} (h : NU fp kp fq kq ee 1 1 0) : NU fp kp fq kq ee (b ^ 0) 1 (e * ((0 : Nat) : Int)) := by
  have : e * ((0 : Nat) : Int) = 0 := Int.mul_zero _
  rw [this, Nat.pow_zero]; exact h
section PWS
variable {ng : Bool} {fp : Nat → Int32} {kp : Nat} {fq : Nat → Int32} {kq : Nat} {ee : Int32} {ng2 : Bool} {fp2 : Nat → Int32} {kp2 : Nat} {fq2 : Nat → Int32} {kq2 : Nat} {ee2 : Int32} {ng3 : Bool} {fp3 : Nat → Int32} {kp3 : Nat} {fq3 : Nat → Int32} {kq3 : Nat} {ee3 : Int32}
theorem pw_s {b j : Nat} {e : Int} (h2 : NU fp2 kp2 fq2 kq2 ee2 (b ^ j) 1 (e * (j : Int))) (h3 : NU fp3 kp3 fq3 kq3 ee3 b 1 e) (k1 : kp2 + kp3 < 2147483648) (k2 : kq2 + kq3 < 2147483648) (hj : j ≤ 40) (e1 : -1100 ≤ e) (e2 : e ≤ 1100) :
    NU (pU_copy_1 ng2 fp2 kp2 fq2 kq2 ee2 (pU_times_0 ng fp kp fq kq ee ng2 fp2 kp2 fq2 kq2 ee2 ng3 fp3 kp3 fq3 kq3 ee3) (pU_times_1 ng fp kp fq kq ee ng2 fp2 kp2 fq2 kq2 ee2 ng3 fp3 kp3 fq3 kq3 ee3) (pU_times_2 ng fp kp fq kq ee ng2 fp2 kp2 fq2 kq2 ee2 ng3 fp3 kp3 fq3 kq3 ee3) (pU_times_3 ng fp kp fq kq ee ng2 fp2 kp2 fq2 kq2 ee2 ng3 fp3 kp3 fq3 kq3 ee3) (pU_times_4 ng fp kp fq kq ee ng2 fp2 kp2 fq2 kq2 ee2 ng3 fp3 kp3 fq3 kq3 ee3) (pU_times_5 ng fp kp fq kq ee ng2 fp2 kp2 fq2 kq2 ee2 ng3 fp3 kp3 fq3 kq3 ee3))
      (pU_copy_2 ng2 fp2 kp2 fq2 kq2 ee2 (pU_times_0 ng fp kp fq kq ee ng2 fp2 kp2 fq2 kq2 ee2 ng3 fp3 kp3 fq3 kq3 ee3) (pU_times_1 ng fp kp fq kq ee ng2 fp2 kp2 fq2 kq2 ee2 ng3 fp3 kp3 fq3 kq3 ee3) (pU_times_2 ng fp kp fq kq ee ng2 fp2 kp2 fq2 kq2 ee2 ng3 fp3 kp3 fq3 kq3 ee3) (pU_times_3 ng fp kp fq kq ee ng2 fp2 kp2 fq2 kq2 ee2 ng3 fp3 kp3 fq3 kq3 ee3) (pU_times_4 ng fp kp fq kq ee ng2 fp2 kp2 fq2 kq2 ee2 ng3 fp3 kp3 fq3 kq3 ee3) (pU_times_5 ng fp kp fq kq ee ng2 fp2 kp2 fq2 kq2 ee2 ng3 fp3 kp3 fq3 kq3 ee3))
      (pU_copy_3 ng2 fp2 kp2 fq2 kq2 ee2 (pU_times_0 ng fp kp fq kq ee ng2 fp2 kp2 fq2 kq2 ee2 ng3 fp3 kp3 fq3 kq3 ee3) (pU_times_1 ng fp kp fq kq ee ng2 fp2 kp2 fq2 kq2 ee2 ng3 fp3 kp3 fq3 kq3 ee3) (pU_times_2 ng fp kp fq kq ee ng2 fp2 kp2 fq2 kq2 ee2 ng3 fp3 kp3 fq3 kq3 ee3) (pU_times_3 ng fp kp fq kq ee ng2 fp2 kp2 fq2 kq2 ee2 ng3 fp3 kp3 fq3 kq3 ee3) (pU_times_4 ng fp kp fq kq ee ng2 fp2 kp2 fq2 kq2 ee2 ng3 fp3 kp3 fq3 kq3 ee3) (pU_times_5 ng fp kp fq kq ee ng2 fp2 kp2 fq2 kq2 ee2 ng3 fp3 kp3 fq3 kq3 ee3))
      (pU_copy_4 ng2 fp2 kp2 fq2 kq2 ee2 (pU_times_0 ng fp kp fq kq ee ng2 fp2 kp2 fq2 kq2 ee2 ng3 fp3 kp3 fq3 kq3 ee3) (pU_times_1 ng fp kp fq kq ee ng2 fp2 kp2 fq2 kq2 ee2 ng3 fp3 kp3 fq3 kq3 ee3) (pU_times_2 ng fp kp fq kq ee ng2 fp2 kp2 fq2 kq2 ee2 ng3 fp3 kp3 fq3 kq3 ee3) (pU_times_3 ng fp kp fq kq ee ng2 fp2 kp2 fq2 kq2 ee2 ng3 fp3 kp3 fq3 kq3 ee3) (pU_times_4 ng fp kp fq kq ee ng2 fp2 kp2 fq2 kq2 ee2 ng3 fp3 kp3 fq3 kq3 ee3) (pU_times_5 ng fp kp fq kq ee ng2 fp2 kp2 fq2 kq2 ee2 ng3 fp3 kp3 fq3 kq3 ee3))
      (pU_copy_5 ng2 fp2 kp2 fq2 kq2 ee2 (pU_times_0 ng fp kp fq kq ee ng2 fp2 kp2 fq2 kq2 ee2 ng3 fp3 kp3 fq3 kq3 ee3) (pU_times_1 ng fp kp fq kq ee ng2 fp2 kp2 fq2 kq2 ee2 ng3 fp3 kp3 fq3 kq3 ee3) (pU_times_2 ng fp kp fq kq ee ng2 fp2 kp2 fq2 kq2 ee2 ng3 fp3 kp3 fq3 kq3 ee3) (pU_times_3 ng fp kp fq kq ee ng2 fp2 kp2 fq2 kq2 ee2 ng3 fp3 kp3 fq3 kq3 ee3) (pU_times_4 ng fp kp fq kq ee ng2 fp2 kp2 fq2 kq2 ee2 ng3 fp3 kp3 fq3 kq3 ee3) (pU_times_5 ng fp kp fq kq ee ng2 fp2 kp2 fq2 kq2 ee2 ng3 fp3 kp3 fq3 kq3 ee3)) (b ^ (j + 1)) 1 (e * ((j + 1 : Nat) : Int)) := by
  have hm : e * (j : Int) ≤ 1100 * 40 ∧ -(1100 * 40) ≤ e * (j : Int) := by
    constructor
    · rcases Int.le_total 0 e with q | q
      · exact Int.mul_le_mul e2 (by omega) (by omega) (by omega)
      · have : e * (j : Int) ≤ 0 := Int.mul_nonpos_of_nonpos_of_nonneg q (by omega)
        omega
    · rcases Int.le_total 0 e with q | q
      · have : 0 ≤ e * (j : Int) := Int.mul_nonneg q (by omega)
        omega
      · have h := Int.mul_le_mul (a := -e) (b := (j : Int)) (c := 1100) (d := 40) (by omega) (by omega) (by omega) (by omega)
        rw [Int.neg_mul] at h
        omega
  have h := cp_NU ng2 fp2 kp2 fq2 kq2 ee2 (ng2 := pU_times_0 ng fp kp fq kq ee ng2 fp2 kp2 fq2 kq2 ee2 ng3 fp3 kp3 fq3 kq3 ee3) (tm_NU ng fp kp fq kq ee (ng2 := ng2) (ng3 := ng3) h2 h3 k1 k2 (by omega) (by omega))
  have e3 : e * (j : Int) + e = e * ((j + 1 : Nat) : Int) := by rw [Int.natCast_add, Int.mul_add]; simp
  rw [Nat.pow_succ, ← e3]
  exact h
end PWS

