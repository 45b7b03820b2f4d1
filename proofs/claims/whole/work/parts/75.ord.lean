/-! COMPARING NUMBERS OF THE REFERENCE -/
def cmN (a b : Nat) : Int32 := if a = b then 0 else if b < a then 1 else -1
theorem cmN_mul {a b c : Nat} (hc : 0 < c) : cmN (a * c) (b * c) = cmN a b := by
  unfold cmN
  have e1 : a * c = b * c ↔ a = b := ⟨fun h => Nat.eq_of_mul_eq_mul_right hc h, fun h => by rw [h]⟩
  have e2 : b * c < a * c ↔ b < a := ⟨fun h => Nat.lt_of_mul_lt_mul_right h, fun h => Nat.mul_lt_mul_of_pos_right h hc⟩
  by_cases q : a = b
  · rw [if_pos q, if_pos (e1.mpr q)]
  · rw [if_neg q, if_neg (fun h => q (e1.mp h))]
    by_cases w : b < a
    · rw [if_pos w, if_pos (e2.mpr w)]
    · rw [if_neg w, if_neg (fun h => w (e2.mp h))]
theorem bl_cmp {L R : Nat} {e f : Int} (hL : 0 < L) (r1 : -90000 ≤ e) (r3 : -90000 ≤ f) (h : (blen R : Int) + f < blen L + e) : R * WW f < L * WW e := by
  have h1 := lt_blen R
  have h2 := blen_ge hL
  have h3 := blen_pos hL
  have e1 : WW (f + (blen R : Nat)) = WW f * 2 ^ blen R := WW_add _ (by omega)
  have e2 : WW (e + (blen L - 1 : Nat)) = WW e * 2 ^ (blen L - 1) := WW_add _ (by omega)
  obtain ⟨d, hd⟩ : ∃ d : Nat, (d : Int) = (e + (blen L - 1 : Nat)) - (f + (blen R : Nat)) := ⟨((e + (blen L - 1 : Nat)) - (f + (blen R : Nat))).toNat, by omega⟩
  have e3 : WW (e + (blen L - 1 : Nat)) = WW (f + (blen R : Nat)) * 2 ^ d := WW_eq d (by omega) (by omega)
  calc R * WW f < 2 ^ blen R * WW f := Nat.mul_lt_mul_of_pos_right h1 (WW_pos _)
    _ = WW (f + (blen R : Nat)) := by rw [e1, Nat.mul_comm]
    _ ≤ WW (f + (blen R : Nat)) * 2 ^ d := Nat.le_mul_of_pos_right _ (Nat.pow_pos (by decide))
    _ = 2 ^ (blen L - 1) * WW e := by rw [← e3, e2, Nat.mul_comm]
    _ ≤ L * WW e := Nat.mul_le_mul_right _ h2
section CS
variable (fl : Nat → Int32) (kl : Nat) (fr : Nat → Int32) (kr : Nat) (ng2 : Bool) (fp2 : Nat → Int32) (kp2 : Nat) (fq2 : Nat → Int32) (kq2 : Nat) (ee2 : Int32) (ng3 : Bool) (fp3 : Nat → Int32) (kp3 : Nat) (fq3 : Nat → Int32) (kq3 : Nat) (ee3 : Int32)
theorem cs_ok {P2 Q2 P3 Q3 : Nat} {e2 e3 : Int} (h2 : NU fp2 kp2 fq2 kq2 ee2 P2 Q2 e2) (h3 : NU fp3 kp3 fq3 kq3 ee3 P3 Q3 e3) (p2 : 0 < P2) (p3 : 0 < P3) (q2 : 0 < Q2) (q3 : 0 < Q3) (hk1 : kp2 + kq3 ≤ 1000) (hk2 : kp3 + kq2 ≤ 1000) (r1 : -90000 ≤ e2) (r2 : e2 ≤ 90000) (r3 : -90000 ≤ e3) (r4 : e3 ≤ 90000) :
    pM_compareSizes fl kl fr kr ng2 fp2 kp2 fq2 kq2 ee2 ng3 fp3 kp3 fq3 kq3 ee3 (ee2 - ee3).toNatClampNeg (ee3 - ee2).toNatClampNeg = cmN (P2 * Q3 * WW e2) (P3 * Q2 * WW e3) := by
  have gL : Bg (v_M_compareSizes_7 fl kl fr kr ng2 fp2 kp2 fq2 kq2 ee2 ng3 fp3 kp3 fq3 kq3 ee3 (ee2 - ee3).toNatClampNeg (ee3 - ee2).toNatClampNeg) (v_M_compareSizes_6 fl kl fr kr ng2 fp2 kp2 fq2 kq2 ee2 ng3 fp3 kp3 fq3 kq3 ee3 (ee2 - ee3).toNatClampNeg (ee3 - ee2).toNatClampNeg) (P2 * Q3) := Bg_left fl kl h2.1 h3.2.1 (by omega)
  have gR : Bg (v_M_compareSizes_14 fl kl fr kr ng2 fp2 kp2 fq2 kq2 ee2 ng3 fp3 kp3 fq3 kq3 ee3 (ee2 - ee3).toNatClampNeg (ee3 - ee2).toNatClampNeg) (v_M_compareSizes_13 fl kl fr kr ng2 fp2 kp2 fq2 kq2 ee2 ng3 fp3 kp3 fq3 kq3 ee3 (ee2 - ee3).toNatClampNeg (ee3 - ee2).toNatClampNeg) (P3 * Q2) := Bg_left fr kr h3.1 h2.2.1 (by omega)
  have kL := gL.mul_len h2.1 h3.2.1
  have kR := gR.mul_len h3.1 h2.2.1
  have bL := gL.blen_le
  have bR := gR.blen_le
  have hL : 0 < P2 * Q3 := Nat.mul_pos p2 q3
  have hR : 0 < P3 * Q2 := Nat.mul_pos p3 q2
  have hee : ee2 ≤ ee3 ↔ e2 ≤ e3 := i_le h2.2.2 h3.2.2
  -- the words, by name
  have d16 : (v_M_compareSizes_16 fl kl fr kr ng2 fp2 kp2 fq2 kq2 ee2 ng3 fp3 kp3 fq3 kq3 ee3 (ee2 - ee3).toNatClampNeg (ee3 - ee2).toNatClampNeg).toInt = (blen (P2 * Q3) : Int) + e2 := by
    show (nI (v_B_bits_2 (v_M_compareSizes_7 fl kl fr kr ng2 fp2 kp2 fq2 kq2 ee2 ng3 fp3 kp3 fq3 kq3 ee3 (ee2 - ee3).toNatClampNeg (ee3 - ee2).toNatClampNeg) (v_M_compareSizes_6 fl kl fr kr ng2 fp2 kp2 fq2 kq2 ee2 ng3 fp3 kp3 fq3 kq3 ee3 (ee2 - ee3).toNatClampNeg (ee3 - ee2).toNatClampNeg)) + ee2).toInt = _
    rw [Bg_bits gL (by omega)]
    exact iA (nI_toInt (by omega)) h2.2.2 (by omega) (by omega)
  have d18 : (v_M_compareSizes_18 fl kl fr kr ng2 fp2 kp2 fq2 kq2 ee2 ng3 fp3 kp3 fq3 kq3 ee3 (ee2 - ee3).toNatClampNeg (ee3 - ee2).toNatClampNeg).toInt = (blen (P3 * Q2) : Int) + e3 := by
    show (nI (v_B_bits_2 (v_M_compareSizes_14 fl kl fr kr ng2 fp2 kp2 fq2 kq2 ee2 ng3 fp3 kp3 fq3 kq3 ee3 (ee2 - ee3).toNatClampNeg (ee3 - ee2).toNatClampNeg) (v_M_compareSizes_13 fl kl fr kr ng2 fp2 kp2 fq2 kq2 ee2 ng3 fp3 kp3 fq3 kq3 ee3 (ee2 - ee3).toNatClampNeg (ee3 - ee2).toNatClampNeg)) + ee3).toInt = _
    rw [Bg_bits gR (by omega)]
    exact iA (nI_toInt (by omega)) h3.2.2 (by omega) (by omega)
  have c1 := i_eq d16 d18
  have c2 := i_le d18 d16
  have d27 : v_M_compareSizes_27 fl kl fr kr ng2 fp2 kp2 fq2 kq2 ee2 ng3 fp3 kp3 fq3 kq3 ee3 (ee2 - ee3).toNatClampNeg (ee3 - ee2).toNatClampNeg = cmN (P2 * Q3 * WW e2) (P3 * Q2 * WW e3) := by
    show pB_compare (if ee2 ≤ ee3 then v_M_compareSizes_7 fl kl fr kr ng2 fp2 kp2 fq2 kq2 ee2 ng3 fp3 kp3 fq3 kq3 ee3 (ee2 - ee3).toNatClampNeg (ee3 - ee2).toNatClampNeg else pB_shift_0 (v_M_compareSizes_7 fl kl fr kr ng2 fp2 kp2 fq2 kq2 ee2 ng3 fp3 kp3 fq3 kq3 ee3 (ee2 - ee3).toNatClampNeg (ee3 - ee2).toNatClampNeg) (v_M_compareSizes_6 fl kl fr kr ng2 fp2 kp2 fq2 kq2 ee2 ng3 fp3 kp3 fq3 kq3 ee3 (ee2 - ee3).toNatClampNeg (ee3 - ee2).toNatClampNeg) (ee2 - ee3).toNatClampNeg)
      (if ee2 ≤ ee3 then v_M_compareSizes_6 fl kl fr kr ng2 fp2 kp2 fq2 kq2 ee2 ng3 fp3 kp3 fq3 kq3 ee3 (ee2 - ee3).toNatClampNeg (ee3 - ee2).toNatClampNeg else pB_shift_1 (v_M_compareSizes_7 fl kl fr kr ng2 fp2 kp2 fq2 kq2 ee2 ng3 fp3 kp3 fq3 kq3 ee3 (ee2 - ee3).toNatClampNeg (ee3 - ee2).toNatClampNeg) (v_M_compareSizes_6 fl kl fr kr ng2 fp2 kp2 fq2 kq2 ee2 ng3 fp3 kp3 fq3 kq3 ee3 (ee2 - ee3).toNatClampNeg (ee3 - ee2).toNatClampNeg) (ee2 - ee3).toNatClampNeg)
      (if ee2 ≤ ee3 then pB_shift_0 (v_M_compareSizes_14 fl kl fr kr ng2 fp2 kp2 fq2 kq2 ee2 ng3 fp3 kp3 fq3 kq3 ee3 (ee2 - ee3).toNatClampNeg (ee3 - ee2).toNatClampNeg) (v_M_compareSizes_13 fl kl fr kr ng2 fp2 kp2 fq2 kq2 ee2 ng3 fp3 kp3 fq3 kq3 ee3 (ee2 - ee3).toNatClampNeg (ee3 - ee2).toNatClampNeg) (ee3 - ee2).toNatClampNeg else v_M_compareSizes_14 fl kl fr kr ng2 fp2 kp2 fq2 kq2 ee2 ng3 fp3 kp3 fq3 kq3 ee3 (ee2 - ee3).toNatClampNeg (ee3 - ee2).toNatClampNeg)
      (if ee2 ≤ ee3 then pB_shift_1 (v_M_compareSizes_14 fl kl fr kr ng2 fp2 kp2 fq2 kq2 ee2 ng3 fp3 kp3 fq3 kq3 ee3 (ee2 - ee3).toNatClampNeg (ee3 - ee2).toNatClampNeg) (v_M_compareSizes_13 fl kl fr kr ng2 fp2 kp2 fq2 kq2 ee2 ng3 fp3 kp3 fq3 kq3 ee3 (ee2 - ee3).toNatClampNeg (ee3 - ee2).toNatClampNeg) (ee3 - ee2).toNatClampNeg else v_M_compareSizes_13 fl kl fr kr ng2 fp2 kp2 fq2 kq2 ee2 ng3 fp3 kp3 fq3 kq3 ee3 (ee2 - ee3).toNatClampNeg (ee3 - ee2).toNatClampNeg) = _
    clear c1 c2 d16 d18
    generalize v_M_compareSizes_7 fl kl fr kr ng2 fp2 kp2 fq2 kq2 ee2 ng3 fp3 kp3 fq3 kq3 ee3 (ee2 - ee3).toNatClampNeg (ee3 - ee2).toNatClampNeg = F7 at *
    generalize v_M_compareSizes_6 fl kl fr kr ng2 fp2 kp2 fq2 kq2 ee2 ng3 fp3 kp3 fq3 kq3 ee3 (ee2 - ee3).toNatClampNeg (ee3 - ee2).toNatClampNeg = K6 at *
    generalize v_M_compareSizes_14 fl kl fr kr ng2 fp2 kp2 fq2 kq2 ee2 ng3 fp3 kp3 fq3 kq3 ee3 (ee2 - ee3).toNatClampNeg (ee3 - ee2).toNatClampNeg = F14 at *
    generalize v_M_compareSizes_13 fl kl fr kr ng2 fp2 kp2 fq2 kq2 ee2 ng3 fp3 kp3 fq3 kq3 ee3 (ee2 - ee3).toNatClampNeg (ee3 - ee2).toNatClampNeg = K13 at *
    by_cases w : e2 ≤ e3
    · have w2 := hee.mpr w
      have hs := (cl_nI (iS h3.2.2 h2.2.2 (by omega) (by omega)) (by omega) (by omega)).2
      rw [if_pos w2, if_pos w2, if_pos w2, if_pos w2]
      generalize hsg : (ee3 - ee2).toNatClampNeg = s at *
      obtain ⟨g1, l1⟩ := Bg_shift gR s (by omega)
      rw [Bg_compare gL g1 (by omega) (by have : s / 16 ≤ 20000 := by omega
                                          omega)]
      rw [WW_eq (e := e2) (f := e3) s (by omega) (by omega), Nat.mul_comm (WW e2), ← Nat.mul_assoc, cmN_mul (WW_pos _)]
      rfl
    · have w2 := fun z => w (hee.mp z)
      have hs := (cl_nI (iS h2.2.2 h3.2.2 (by omega) (by omega)) (by omega) (by omega)).2
      rw [if_neg w2, if_neg w2, if_neg w2, if_neg w2]
      generalize hsg : (ee2 - ee3).toNatClampNeg = s at *
      obtain ⟨g1, l1⟩ := Bg_shift gL s (by omega)
      rw [Bg_compare g1 gR (by have : s / 16 ≤ 20000 := by omega
                               omega) (by omega)]
      rw [WW_eq (e := e3) (f := e2) s (by omega) (by omega), Nat.mul_comm (WW e3), ← Nat.mul_assoc (P2 * Q3), cmN_mul (WW_pos _)]
      rfl
  have d28 : v_M_compareSizes_28 fl kl fr kr ng2 fp2 kp2 fq2 kq2 ee2 ng3 fp3 kp3 fq3 kq3 ee3 (ee2 - ee3).toNatClampNeg (ee3 - ee2).toNatClampNeg = if v_M_compareSizes_18 fl kl fr kr ng2 fp2 kp2 fq2 kq2 ee2 ng3 fp3 kp3 fq3 kq3 ee3 (ee2 - ee3).toNatClampNeg (ee3 - ee2).toNatClampNeg ≤ v_M_compareSizes_16 fl kl fr kr ng2 fp2 kp2 fq2 kq2 ee2 ng3 fp3 kp3 fq3 kq3 ee3 (ee2 - ee3).toNatClampNeg (ee3 - ee2).toNatClampNeg then (1 : Int32) else (-1 : Int32) := rfl
  have d0 : pM_compareSizes fl kl fr kr ng2 fp2 kp2 fq2 kq2 ee2 ng3 fp3 kp3 fq3 kq3 ee3 (ee2 - ee3).toNatClampNeg (ee3 - ee2).toNatClampNeg = if v_M_compareSizes_16 fl kl fr kr ng2 fp2 kp2 fq2 kq2 ee2 ng3 fp3 kp3 fq3 kq3 ee3 (ee2 - ee3).toNatClampNeg (ee3 - ee2).toNatClampNeg = v_M_compareSizes_18 fl kl fr kr ng2 fp2 kp2 fq2 kq2 ee2 ng3 fp3 kp3 fq3 kq3 ee3 (ee2 - ee3).toNatClampNeg (ee3 - ee2).toNatClampNeg then v_M_compareSizes_27 fl kl fr kr ng2 fp2 kp2 fq2 kq2 ee2 ng3 fp3 kp3 fq3 kq3 ee3 (ee2 - ee3).toNatClampNeg (ee3 - ee2).toNatClampNeg else v_M_compareSizes_28 fl kl fr kr ng2 fp2 kp2 fq2 kq2 ee2 ng3 fp3 kp3 fq3 kq3 ee3 (ee2 - ee3).toNatClampNeg (ee3 - ee2).toNatClampNeg := rfl
  rw [d0, d27, d28]
  clear d0 d27 d28 gL gR kL kR bL bR
  by_cases w : (blen (P2 * Q3) : Int) + e2 = blen (P3 * Q2) + e3
  · rw [if_pos (c1.mpr w)]
  · rw [if_neg (fun z => w (c1.mp z))]
    unfold cmN
    by_cases u : (blen (P3 * Q2) : Int) + e3 ≤ blen (P2 * Q3) + e2
    · rw [if_pos (c2.mpr u)]
      have := bl_cmp (L := P2 * Q3) (R := P3 * Q2) (e := e2) (f := e3) hL r1 r3 (by omega)
      rw [if_neg (by omega), if_pos this]
    · rw [if_neg (fun z => u (c2.mp z))]
      have := bl_cmp (L := P3 * Q2) (R := P2 * Q3) (e := e3) (f := e2) hR r3 r1 (by omega)
      rw [if_neg (by omega), if_neg (by omega)]
end CS
def SV (ng : Bool) (a : Nat) : Int := if ng = true then -(a : Int) else (a : Int)
def cmZ (a b : Int) : Int32 := if a = b then 0 else if b < a then 1 else -1
theorem cmZ_pos {a b : Int} : 0 < cmZ a b ↔ b < a := by
  unfold cmZ
  by_cases q : a = b
  · rw [if_pos q]
    exact ⟨fun h => absurd h (by decide), fun h => by omega⟩
  · rw [if_neg q]
    by_cases w : b < a
    · rw [if_pos w]; exact ⟨fun _ => w, fun _ => by decide⟩
    · rw [if_neg w]; exact ⟨fun h => absurd h (by decide), fun h => absurd h w⟩
theorem cmZ_le {a b : Int} : cmZ a b ≤ 0 ↔ a ≤ b := by
  unfold cmZ
  by_cases q : a = b
  · rw [if_pos q]; exact ⟨fun _ => by omega, fun _ => by decide⟩
  · rw [if_neg q]
    by_cases w : b < a
    · rw [if_pos w]; exact ⟨fun h => absurd h (by decide), fun h => by omega⟩
    · rw [if_neg w]; exact ⟨fun _ => by omega, fun _ => by decide⟩
theorem cmZ_eq {a b : Int} : cmZ a b = 0 ↔ a = b := by
  unfold cmZ
  by_cases q : a = b
  · rw [if_pos q]; exact ⟨fun _ => q, fun _ => rfl⟩
  · rw [if_neg q]
    by_cases w : b < a
    · rw [if_pos w]; exact ⟨fun h => absurd h (by decide), fun h => absurd h q⟩
    · rw [if_neg w]; exact ⟨fun h => absurd h (by decide), fun h => absurd h q⟩
theorem sgn_ok {ng : Bool} {fp : Nat → Int32} {kp : Nat} {fq : Nat → Int32} {kq : Nat} {ee : Int32} {P Q : Nat} {e : Int} (h : NU fp kp fq kq ee P Q e) (hk : kp < 2147483648) : pU_sign ng fp kp fq kq ee = if P = 0 then 0 else if ng = true then -1 else 1 := by
  have c : nI kp = 0 ↔ kp = 0 := nI_eq (b := 0) hk (by decide)
  have z := h.1.zero
  show (if nI kp = 0 then (0 : Int32) else (if ng = true then (-1 : Int32) else (1 : Int32))) = _
  by_cases w : P = 0
  · rw [if_pos (c.mpr (z.mpr w)), if_pos w]
  · rw [if_neg (fun u => w (z.mp (c.mp u))), if_neg w]
theorem cmZ_lt1 {a b : Int} (h : a < b) : cmZ a b = -1 := by unfold cmZ; rw [if_neg (by omega), if_neg (by omega)]
theorem cmZ_gt1 {a b : Int} (h : b < a) : cmZ a b = 1 := by unfold cmZ; rw [if_neg (by omega), if_pos h]
theorem cmZ_eq1 {a b : Int} (h : a = b) : cmZ a b = 0 := by unfold cmZ; rw [if_pos h]
def orF (s t C : Int32) : Int32 := if s = t then (if s = 0 then (if t ≤ s then (if s ≤ t then (0 : Int32) else (1 : Int32)) else (-1 : Int32)) else s * C) else (if t ≤ s then (if s ≤ t then (0 : Int32) else (1 : Int32)) else (-1 : Int32))
theorem orF_pp (C : Int32) : orF 1 1 C = C := by
  have : orF 1 1 C = 1 * C := rfl
  rw [this, Int32.one_mul]
theorem orF_mm {a b : Nat} : orF (-1) (-1) (cmN a b) = cmN b a := by
  have e : orF (-1) (-1) (cmN a b) = -1 * cmN a b := rfl
  rw [e]
  unfold cmN
  rcases Nat.lt_trichotomy a b with w | w | w
  · rw [if_neg (by omega), if_neg (by omega), if_neg (by omega), if_pos w]; decide
  · rw [if_pos w, if_pos w.symm]; decide
  · rw [if_neg (by omega), if_pos w, if_neg (by omega), if_neg (by omega)]; decide
theorem cmN_Z {a b : Nat} : cmN a b = cmZ (a : Int) (b : Int) := by
  rcases Nat.lt_trichotomy a b with w | w | w
  · rw [cmZ_lt1 (by omega)]; unfold cmN; rw [if_neg (by omega), if_neg (by omega)]
  · rw [cmZ_eq1 (by omega)]; unfold cmN; rw [if_pos w]
  · rw [cmZ_gt1 (by omega)]; unfold cmN; rw [if_neg (by omega), if_pos w]
theorem cmZ_neg {a b : Int} : cmZ (-a) (-b) = cmZ b a := by
  rcases Int.lt_trichotomy a b with w | w | w
  · rw [cmZ_gt1 (by omega), cmZ_gt1 w]
  · rw [cmZ_eq1 (by omega), cmZ_eq1 w.symm]
  · rw [cmZ_lt1 (by omega), cmZ_lt1 w]
theorem SV_t (a : Nat) : SV true a = -(a : Int) := rfl
theorem SV_f (a : Nat) : SV false a = (a : Int) := rfl
theorem SV_0 (n : Bool) : SV n 0 = 0 := by cases n <;> rfl
section OR
variable (fl : Nat → Int32) (kl : Nat) (fr : Nat → Int32) (kr : Nat) (ng2 : Bool) (fp2 : Nat → Int32) (kp2 : Nat) (fq2 : Nat → Int32) (kq2 : Nat) (ee2 : Int32) (ng3 : Bool) (fp3 : Nat → Int32) (kp3 : Nat) (fq3 : Nat → Int32) (kq3 : Nat) (ee3 : Int32)
theorem or_ok {P2 Q2 P3 Q3 : Nat} {e2 e3 : Int} (h2 : NU fp2 kp2 fq2 kq2 ee2 P2 Q2 e2) (h3 : NU fp3 kp3 fq3 kq3 ee3 P3 Q3 e3) (q2 : 0 < Q2) (q3 : 0 < Q3) (hk1 : kp2 + kq3 ≤ 1000) (hk2 : kp3 + kq2 ≤ 1000) (r1 : -90000 ≤ e2) (r2 : e2 ≤ 90000) (r3 : -90000 ≤ e3) (r4 : e3 ≤ 90000) :
    pM_orderOf fl kl fr kr ng2 fp2 kp2 fq2 kq2 ee2 ng3 fp3 kp3 fq3 kq3 ee3 (ee2 - ee3).toNatClampNeg (ee3 - ee2).toNatClampNeg = cmZ (SV ng2 (P2 * Q3 * WW e2)) (SV ng3 (P3 * Q2 * WW e3)) := by
  have s2 := sgn_ok (ng := ng2) h2 (by omega)
  have s3 := sgn_ok (ng := ng3) h3 (by omega)
  have d0 : pM_orderOf fl kl fr kr ng2 fp2 kp2 fq2 kq2 ee2 ng3 fp3 kp3 fq3 kq3 ee3 (ee2 - ee3).toNatClampNeg (ee3 - ee2).toNatClampNeg = orF (pU_sign ng2 fp2 kp2 fq2 kq2 ee2) (pU_sign ng3 fp3 kp3 fq3 kq3 ee3) (pM_compareSizes fl kl fr kr ng2 fp2 kp2 fq2 kq2 ee2 ng3 fp3 kp3 fq3 kq3 ee3 (ee2 - ee3).toNatClampNeg (ee3 - ee2).toNatClampNeg) := rfl
  have hW2 := WW_pos e2
  have hW3 := WW_pos e3
  have z2 : 0 < P2 → 0 < P2 * Q3 * WW e2 := fun h => Nat.mul_pos (Nat.mul_pos h q3) hW2
  have z3 : 0 < P3 → 0 < P3 * Q2 * WW e3 := fun h => Nat.mul_pos (Nat.mul_pos h q2) hW3
  have hcs := cs_ok fl kl fr kr ng2 fp2 kp2 fq2 kq2 ee2 ng3 fp3 kp3 fq3 kq3 ee3 h2 h3
  rw [d0, s2, s3]
  clear d0 s2 s3
  by_cases p2 : P2 = 0
  · have e1 : P2 * Q3 * WW e2 = 0 := by rw [p2, Nat.zero_mul, Nat.zero_mul]
    rw [if_pos p2, e1, SV_0]
    by_cases p3 : P3 = 0
    · have e3 : P3 * Q2 * WW e3 = 0 := by rw [p3, Nat.zero_mul, Nat.zero_mul]
      rw [if_pos p3, e3, SV_0, cmZ_eq1 rfl]; rfl
    · have := z3 (by omega)
      rw [if_neg p3]
      cases ng3 with
      | true => rw [if_pos rfl, SV_t, cmZ_gt1 (by omega)]; rfl
      | false => rw [if_neg (by decide), SV_f, cmZ_lt1 (by omega)]; rfl
  · have h2' := z2 (by omega)
    rw [if_neg p2]
    by_cases p3 : P3 = 0
    · have e3 : P3 * Q2 * WW e3 = 0 := by rw [p3, Nat.zero_mul, Nat.zero_mul]
      rw [if_pos p3, e3, SV_0]
      cases ng2 with
      | true => rw [if_pos rfl, SV_t, cmZ_lt1 (by omega)]; rfl
      | false => rw [if_neg (by decide), SV_f, cmZ_gt1 (by omega)]; rfl
    · have h3' := z3 (by omega)
      rw [if_neg p3, hcs (by omega) (by omega) q2 q3 hk1 hk2 r1 r2 r3 r4]
      clear hcs
      cases ng2 <;> cases ng3
      · rw [if_neg (by decide), SV_f, SV_f, orF_pp, cmN_Z]
      · rw [if_neg (by decide), if_pos rfl, SV_f, SV_t, cmZ_gt1 (by omega)]; rfl
      · rw [if_pos rfl, if_neg (by decide), SV_f, SV_t, cmZ_lt1 (by omega)]; rfl
      · rw [if_pos rfl, SV_t, SV_t, orF_mm, cmZ_neg, cmN_Z]
end OR

