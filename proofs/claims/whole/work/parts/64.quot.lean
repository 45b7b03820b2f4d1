/-! QUOTIENTS -/
theorem qt_loop {D : Nat} (hD : D < 2 ^ 53) : ∀ (n j q r : Nat), j + n = 56 → q < 2 ^ j → r < 2 * D →
    ∃ q' r', qF_quotient_49 (lN D) n j (lN q) (lN r) = (lN q', lN r') ∧ (2 * q * D + r) * 2 ^ n = 2 * q' * D + r' ∧ r' < 2 * D ∧ q' < 2 ^ 56 := by
  intro n
  induction n with
  | zero =>
    intro j q r hj hq hr
    refine ⟨q, r, rfl, by omega, hr, ?_⟩
    have : j = 56 := by omega
    rw [← this]; exact hq
  | succ n ih =>
    intro j q r hj hq hr
    have hj2 : 2 ^ j ≤ 2 ^ 55 := Nat.pow_le_pow_right (by decide) (by omega)
    have hp : 2 ^ (j + 1) = 2 ^ j * 2 := Nat.pow_succ _ _
    have c : lN r < lN D ↔ r < D := pk_lLT (by omega) (by omega)
    have e8 : v_F_quotient_8 (lN D) j (lN q) (lN r) = lN (q * 2 ^ 1) := l_shl (k := 1) (by omega) (by decide)
    by_cases h : r < D
    · have e12 : v_F_quotient_12 (lN D) j (lN q) (lN r) = lN (q * 2 ^ 1) := (if_pos (c.mpr h)).trans e8
      have e11 : v_F_quotient_11 (lN D) j (lN q) (lN r) = lN r := if_pos (c.mpr h)
      have e13 : v_F_quotient_13 (lN D) j (lN q) (lN r) = lN (r * 2 ^ 1) := by
        show jlshl (v_F_quotient_11 (lN D) j (lN q) (lN r)) (nI 1) = _
        rw [e11]; exact l_shl (by omega) (by decide)
      obtain ⟨q', r', a1, a2, a3, a4⟩ := ih (j + 1) (q * 2 ^ 1) (r * 2 ^ 1) (by omega) (by omega) (by omega)
      refine ⟨q', r', ?_, ?_, a3, a4⟩
      · show qF_quotient_49 (lN D) n (j + 1) (v_F_quotient_12 (lN D) j (lN q) (lN r)) (v_F_quotient_13 (lN D) j (lN q) (lN r)) = _
        rw [e12, e13]; exact a1
      · rw [← a2, Nat.pow_succ, Nat.mul_comm (2 ^ n) 2, ← Nat.mul_assoc]
        congr 1
        rw [Nat.add_mul, Nat.mul_right_comm, Nat.mul_assoc 2 q]
    · have e10 : v_F_quotient_10 (lN D) j (lN q) (lN r) = lN (q * 2 ^ 1 + 1) := by
        show v_F_quotient_8 (lN D) j (lN q) (lN r) ||| lN 1 = _
        rw [e8]; exact l_or (k := 1) (by decide) (by omega)
      have e12 : v_F_quotient_12 (lN D) j (lN q) (lN r) = lN (q * 2 ^ 1 + 1) := (if_neg (fun z => h (c.mp z))).trans e10
      have e11 : v_F_quotient_11 (lN D) j (lN q) (lN r) = lN (r - D) := (if_neg (fun z => h (c.mp z))).trans (lN_sub (by omega))
      have e13 : v_F_quotient_13 (lN D) j (lN q) (lN r) = lN ((r - D) * 2 ^ 1) := by
        show jlshl (v_F_quotient_11 (lN D) j (lN q) (lN r)) (nI 1) = _
        rw [e11]; exact l_shl (by omega) (by decide)
      obtain ⟨q', r', a1, a2, a3, a4⟩ := ih (j + 1) (q * 2 ^ 1 + 1) ((r - D) * 2 ^ 1) (by omega) (by omega) (by omega)
      refine ⟨q', r', ?_, ?_, a3, a4⟩
      · show qF_quotient_49 (lN D) n (j + 1) (v_F_quotient_12 (lN D) j (lN q) (lN r)) (v_F_quotient_13 (lN D) j (lN q) (lN r)) = _
        rw [e12, e13]; exact a1
      · rw [← a2, Nat.pow_succ, Nat.mul_comm (2 ^ n) 2, ← Nat.mul_assoc]
        congr 1
        have e9 : 2 * (q * 2 ^ 1 + 1) * D = 2 * (2 * q * D) + 2 * D := by
          rw [Nat.mul_add, Nat.add_mul, Nat.mul_one, Nat.pow_one, Nat.mul_comm q 2, Nat.mul_assoc 2 (2 * q) D]
        omega
/-- the significand shifted up to 53 bits -/
theorem slack_ok {x : Int64} (h : mg x ≠ 0) : ∃ k, pF_slackOf x = nI k ∧ k ≤ 52 ∧ 2 ^ 52 ≤ sgf x * 2 ^ k ∧ sgf x * 2 ^ k < 2 ^ 53 ∧ jlshl (pF_significandOf x) (pF_slackOf x) = lN (sgf x * 2 ^ k) := by
  have hs : 0 < sgf x := Nat.pos_of_ne_zero (fun z => h ((sgf_0 x).mp z))
  have hl := sgf_lt x
  have h1 := blen_lt hl
  have h2 := blen_pos hs
  have h3 := blen_ge hs
  have h4 := lt_blen (sgf x)
  have e : pF_slackOf x = nI (53 - blen (sgf x)) := by
    show (53 : Int32) - pF_lengthOf (pF_significandOf x) = _
    rw [sig_ok, len_ok (by omega)]
    exact pk_sub (a := 53) h1
  have g1 : 2 ^ 52 ≤ sgf x * 2 ^ (53 - blen (sgf x)) := by
    have := Nat.mul_le_mul_right (2 ^ (53 - blen (sgf x))) h3
    rw [← Nat.pow_add] at this
    have e2 : blen (sgf x) - 1 + (53 - blen (sgf x)) = 52 := by omega
    rw [e2] at this
    exact this
  have g2 : sgf x * 2 ^ (53 - blen (sgf x)) < 2 ^ 53 := by
    have := Nat.mul_lt_mul_of_pos_right h4 (show 0 < 2 ^ (53 - blen (sgf x)) from Nat.pow_pos (by decide))
    rw [← Nat.pow_add] at this
    have e2 : blen (sgf x) + (53 - blen (sgf x)) = 53 := by omega
    rw [e2] at this
    exact this
  refine ⟨53 - blen (sgf x), e, by omega, g1, g2, ?_⟩
  rw [e, sig_ok]
  exact l_shl (by omega) (by omega)
theorem xor_neg (x y : Int64) : (0 : Int64) ≤ (x ^^^ y) ↔ decide (x < 0) = decide (y < 0) := by
  rw [Int64.le_iff_toInt_le]
  have e : (0 : Int64).toInt = 0 := rfl
  rw [e]
  have h1 : ∀ z : Int64, (0 ≤ z.toInt ↔ z.toBitVec.msb = false) := by
    intro z
    show 0 ≤ z.toBitVec.toInt ↔ _
    rw [BitVec.toInt_eq_msb_cond]
    have := z.toBitVec.isLt
    cases hz : z.toBitVec.msb with
    | true => simp <;> omega
    | false => simp <;> omega
  have h2 : ∀ z : Int64, decide (z < 0) = z.toBitVec.msb := by
    intro z
    have := h1 z
    rw [Bool.eq_iff_iff, decide_eq_true_iff, Int64.lt_iff_toInt_lt]
    show z.toInt < 0 ↔ _
    cases hz : z.toBitVec.msb with
    | true => rw [hz] at this; simp at this ⊢; omega
    | false => rw [hz] at this; simp at this ⊢; omega
  rw [h1, h2, h2]
  show (x.toBitVec ^^^ y.toBitVec).msb = false ↔ _
  rw [BitVec.msb_xor]
  cases x.toBitVec.msb <;> cases y.toBitVec.msb <;> decide
theorem xor_ng (x y : Int64) : (if (0 : Int64) ≤ (x ^^^ y) then false else true) = (decide (x < 0) != decide (y < 0)) := by
  by_cases h : (0 : Int64) ≤ (x ^^^ y)
  · rw [if_pos h, (xor_neg x y).mp h]; simp
  · rw [if_neg h]
    have := fun z => h ((xor_neg x y).mpr z)
    revert this
    cases decide (x < 0) <;> cases decide (y < 0) <;> simp
theorem quotient_ok {x y : Int64} {how : Int32} (hx : mg x ≠ 0) (hy : mg y ≠ 0) :
    ∃ M, M ≤ IM ∧ pF_quotient x y how = sgM M (decide (x < 0) != decide (y < 0)) ∧ RD how (decide (x < 0) != decide (y < 0)) M (sgf x * WW (exf x - exf y)) (sgf y) := by
  obtain ⟨k, a1, a2, a3, a4, a5⟩ := slack_ok hx
  obtain ⟨l, b1, b2, b3, b4, b5⟩ := slack_ok hy
  have hsx : 0 < sgf x := Nat.pos_of_ne_zero (fun z => hx ((sgf_0 x).mp z))
  have hsy : 0 < sgf y := Nat.pos_of_ne_zero (fun z => hy ((sgf_0 y).mp z))
  have g1 := exf_ge x
  have g2 := exf_le x
  have g3 := exf_ge y
  have g4 := exf_le y
  obtain ⟨q, r, c1, c2, c3, c4⟩ := qt_loop (D := sgf y * 2 ^ l) b4 56 0 0 (sgf x * 2 ^ k) rfl (by decide) (by omega)
  have e4 : v_F_quotient_4 x y how = lN q := by
    show (qF_quotient_49 (jlshl (pF_significandOf y) (pF_slackOf y)) 56 0 (lN 0) (jlshl (pF_significandOf x) (pF_slackOf x))).1 = _
    rw [a5, b5, c1]
  have e5 : v_F_quotient_5 x y how = lN r := by
    show (qF_quotient_49 (jlshl (pF_significandOf y) (pF_slackOf y)) 56 0 (lN 0) (jlshl (pF_significandOf x) (pF_slackOf x))).2 = _
    rw [a5, b5, c1]
  have e3 : ((v_F_quotient_3 x y how) - (55 : Int32)).toInt = exf x - k - exf y + l - 55 := by
    show ((((pF_exponentOf x - pF_slackOf x) - pF_exponentOf y) + pF_slackOf y) - (55 : Int32)).toInt = _
    rw [a1, b1]
    exact iS (iA (iS (iS (exp_ok x) (nI_toInt (by omega)) (by omega) (by omega)) (exp_ok y) (by omega) (by omega)) (nI_toInt (by omega)) (by omega) (by omega)) (show (55 : Int32).toInt = 55 from rfl) (by omega) (by omega)
  have e6 : v_F_quotient_6 x y how = decide (r ≠ 0) := by
    show (if v_F_quotient_5 x y how = lN 0 then false else true) = _
    rw [e5]
    have z : lN r = lN 0 ↔ r = 0 := lN_inj (by omega) (by decide)
    by_cases h : r = 0
    · rw [if_pos (z.mpr h)]; symm; exact decide_eq_false (fun w => w h)
    · rw [if_neg (fun w => h (z.mp w))]; symm; exact decide_eq_true h
  have e7 : v_F_quotient_7 x y how = (decide (x < 0) != decide (y < 0)) := xor_ng x y
  have e0 : pF_quotient x y how = pF_rounded (lN q) (v_F_quotient_3 x y how - (55 : Int32)) (decide (r ≠ 0)) (decide (x < 0) != decide (y < 0)) how := by
    rw [← e4, ← e6, ← e7]; rfl
  rw [e0]
  -- sgf x * 2 ^ (k + 55) = q * D + r / 2
  have c2' : 2 * (sgf x * 2 ^ k * 2 ^ 55) = 2 * (q * (sgf y * 2 ^ l)) + r := by
    rw [← Nat.mul_assoc 2 q, ← c2]
    omega
  have hU : WW (exf x - exf y) = WW (exf x - k - exf y + l - 55) * 2 ^ (k + 55 - l) := WW_eq _ (by omega) (by omega)
  have pl : 0 < 2 ^ l := Nat.pow_pos (by decide)
  have e9 : 2 ^ (k + 55 - l) * 2 ^ l = 2 ^ k * 2 ^ 55 := by
    rw [← Nat.pow_add, ← Nat.pow_add]
    congr 1
    omega
  have key1 : q * sgf y * 2 ^ l ≤ sgf x * 2 ^ (k + 55 - l) * 2 ^ l := by
    rw [Nat.mul_assoc (sgf x), e9, Nat.mul_assoc q, ← Nat.mul_assoc (sgf x)]
    omega
  have key2 : sgf x * 2 ^ (k + 55 - l) * 2 ^ l < (q + 1) * sgf y * 2 ^ l := by
    rw [Nat.mul_assoc (sgf x), e9, Nat.mul_assoc (q + 1), ← Nat.mul_assoc (sgf x), Nat.add_mul, Nat.one_mul]
    omega
  have key3 : r = 0 ↔ sgf x * 2 ^ (k + 55 - l) * 2 ^ l = q * sgf y * 2 ^ l := by
    rw [Nat.mul_assoc (sgf x), e9, Nat.mul_assoc q, ← Nat.mul_assoc (sgf x)]
    omega
  have k1 := Nat.le_of_mul_le_mul_right key1 pl
  have k2 := Nat.lt_of_mul_lt_mul_right key2
  have k3 : r = 0 ↔ sgf x * 2 ^ (k + 55 - l) = q * sgf y := key3.trans ⟨fun h => Nat.eq_of_mul_eq_mul_right pl h, fun h => by rw [h]⟩
  have hsw : ∀ z : Nat, z * WW (exf x - k - exf y + l - 55) * sgf y = z * sgf y * WW (exf x - k - exf y + l - 55) := fun z => Nat.mul_right_comm _ _ _
  have hA : sgf x * WW (exf x - exf y) = sgf x * 2 ^ (k + 55 - l) * WW (exf x - k - exf y + l - 55) := by
    rw [hU, Nat.mul_comm (WW _), Nat.mul_assoc]
  have hW := WW_pos (exf x - k - exf y + l - 55)
  refine rounded_ok e3 (by omega) (by omega) (by omega) hsy ?_ ?_ ?_ ?_ ?_
  · rw [hsw, hA]; exact Nat.mul_le_mul_right _ k1
  · rw [hsw, hA]; exact Nat.mul_lt_mul_of_pos_right k2 hW
  · intro h
    have h0 : r = 0 := by
      have := of_decide_eq_false h
      omega
    rw [hsw, hA, k3.mp h0]
  · intro h
    have h0 : r ≠ 0 := of_decide_eq_true h
    rw [hsw, hA]
    refine Nat.mul_lt_mul_of_pos_right (Nat.lt_of_le_of_ne k1 (fun z => h0 (k3.mpr z.symm))) hW
  · intro _
    refine Nat.le_of_not_lt (fun h => ?_)
    have : q * (sgf y * 2 ^ l) ≤ (2 ^ 53 - 1) * (sgf y * 2 ^ l) := Nat.mul_le_mul_right _ (by omega)
    have : (2 ^ 53 - 1) * (sgf y * 2 ^ l) + sgf y * 2 ^ l ≤ 2 ^ 53 * 2 ^ 53 := by
      rw [← Nat.succ_mul]
      exact Nat.mul_le_mul (by decide) (by omega)
    omega

