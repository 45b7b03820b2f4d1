theorem shush {n k : Nat} (hn : n < 2 ^ 64) (hk : k < 64) : (jlshl (jlush (lN n) (nI k)) (nI k) = lN n) ↔ n % 2 ^ k = 0 := by
  have hd := Nat.div_add_mod n (2 ^ k)
  rw [Nat.mul_comm] at hd
  rw [l_ush hn hk, l_shl (by omega) hk, lN_inj (by omega) hn]
  omega
theorem sink_ok {N s : Nat} {ep : Int32} {ng gn : Bool} {e : Int} (h : N < 2 ^ 127) (hs : 0 < s) (hs2 : s < 100000) (he : ep.toInt = e) (h1 : -100000 ≤ e) (h2 : e ≤ 100000) :
    pW_sink_0 (hw N) (lw N) ep ng gn (nI s) = hw (N / 2 ^ s) ∧ pW_sink_1 (hw N) (lw N) ep ng gn (nI s) = lw (N / 2 ^ s) ∧ (pW_sink_2 (hw N) (lw N) ep ng gn (nI s)).toInt = e + s ∧ pW_sink_3 (hw N) (lw N) ep ng gn (nI s) = (gn || decide (N % 2 ^ s ≠ 0)) := by
  have hpos : (0 : Int32) < nI s := (nI_ltI (a := 0) (by decide) (by omega)).mpr hs
  have c128 : nI s < (128 : Int32) ↔ s < 128 := nI_ltI (b := 128) (by omega) (by decide)
  have c64 : nI s < (64 : Int32) ↔ s < 64 := nI_ltI (b := 64) (by omega) (by decide)
  have f0 : pW_sink_0 (hw N) (lw N) ep ng gn (nI s) = v_W_sink_10 (hw N) (lw N) ep ng gn (nI s) := if_pos hpos
  have f1 : pW_sink_1 (hw N) (lw N) ep ng gn (nI s) = v_W_sink_11 (hw N) (lw N) ep ng gn (nI s) := if_pos hpos
  have f2 : pW_sink_2 (hw N) (lw N) ep ng gn (nI s) = ep + nI s := if_pos hpos
  have f3 : pW_sink_3 (hw N) (lw N) ep ng gn (nI s) = v_W_sink_12 (hw N) (lw N) ep ng gn (nI s) := if_pos hpos
  rw [f0, f1, f2, f3]
  have hd := Nat.div_add_mod N (2 ^ 64)
  have hh : N / 2 ^ 64 < 2 ^ 63 := by omega
  have hl : N % 2 ^ 64 < 2 ^ 64 := Nat.mod_lt _ (by decide)
  have ge : (ep + nI s).toInt = e + s := iA he (nI_toInt (by omega)) (by omega) (by omega)
  by_cases q : s < 64
  · have g0 : v_W_sink_10 (hw N) (lw N) ep ng gn (nI s) = jlush (hw N) (nI s) := (if_pos (c128.mpr (by omega))).trans (if_pos (c64.mpr q))
    have g1 : v_W_sink_11 (hw N) (lw N) ep ng gn (nI s) = jlush (lw N) (nI s) ||| jlshl (hw N) ((64 : Int32) - nI s) := (if_pos (c128.mpr (by omega))).trans (if_pos (c64.mpr q))
    have g3 : v_W_sink_12 (hw N) (lw N) ep ng gn (nI s) = if gn = true then true else (if jlshl (jlush (lw N) (nI s)) (nI s) = lw N then false else true) := (if_pos (c128.mpr (by omega))).trans (if_pos (c64.mpr q))
    have p64 : 2 ^ 64 = 2 ^ s * 2 ^ (64 - s) := by rw [← Nat.pow_add]; congr 1; omega
    have e4 : (64 : Int32) - nI s = nI (64 - s) := pk_sub (a := 64) (by omega)
    -- N / 2 ^ s, in words
    have eN : N / 2 ^ s = N / 2 ^ 64 * 2 ^ (64 - s) + N % 2 ^ 64 / 2 ^ s := by
      have : N = N % 2 ^ 64 + 2 ^ s * (N / 2 ^ 64 * 2 ^ (64 - s)) := by
        have e5 : 2 ^ s * (N / 2 ^ 64 * 2 ^ (64 - s)) = 2 ^ 64 * (N / 2 ^ 64) := by rw [p64]; rw [Nat.mul_comm (N / _), Nat.mul_assoc]
        rw [e5]; omega
      have e6 : N / 2 ^ s = (N % 2 ^ 64 + 2 ^ s * (N / 2 ^ 64 * 2 ^ (64 - s))) / 2 ^ s := by rw [← this]
      rw [e6, Nat.add_mul_div_left _ _ (Nat.pow_pos (by decide)), Nat.add_comm]
    have hlow : N % 2 ^ 64 / 2 ^ s < 2 ^ (64 - s) := by
      rw [Nat.div_lt_iff_lt_mul (Nat.pow_pos (by decide)), Nat.mul_comm, ← p64]; exact hl
    have eH : N / 2 ^ s / 2 ^ 64 = N / 2 ^ 64 / 2 ^ s := by rw [Nat.div_div_eq_div_mul, Nat.div_div_eq_div_mul, Nat.mul_comm]
    have eL : N / 2 ^ s % 2 ^ 64 = N / 2 ^ 64 * 2 ^ (64 - s) % 2 ^ 64 + N % 2 ^ 64 / 2 ^ s := by
      have : N / 2 ^ 64 * 2 ^ (64 - s) % 2 ^ 64 = N / 2 ^ 64 % 2 ^ s * 2 ^ (64 - s) := by rw [p64, Nat.mul_mod_mul_right]
      rw [eN, this]
      have e7 : N / 2 ^ 64 * 2 ^ (64 - s) = 2 ^ 64 * (N / 2 ^ 64 / 2 ^ s) + N / 2 ^ 64 % 2 ^ s * 2 ^ (64 - s) := by
        have e8 := Nat.div_add_mod (N / 2 ^ 64) (2 ^ s)
        have e9 : 2 ^ 64 * (N / 2 ^ 64 / 2 ^ s) = 2 ^ s * (N / 2 ^ 64 / 2 ^ s) * 2 ^ (64 - s) := by rw [p64]; exact Nat.mul_right_comm _ _ _
        rw [e9, ← Nat.add_mul, e8]
      rw [e7, Nat.add_assoc, Nat.mul_add_mod]
      apply Nat.mod_eq_of_lt
      have b1 : N / 2 ^ 64 % 2 ^ s * 2 ^ (64 - s) + 2 ^ (64 - s) ≤ 2 ^ s * 2 ^ (64 - s) := by
        rw [← Nat.succ_mul]
        exact Nat.mul_le_mul_right _ (Nat.mod_lt _ (Nat.pow_pos (by decide)))
      rw [← p64] at b1
      exact Nat.lt_of_lt_of_le (Nat.add_lt_add_left hlow _) b1
    have eZ : N % 2 ^ 64 % 2 ^ s = N % 2 ^ s := by rw [p64]; exact Nat.mod_mul_right_mod _ _ _
    refine ⟨?_, ?_, ge, ?_⟩
    · rw [g0]; unfold hw; rw [l_ush (by omega) q, eH]
    · rw [g1, e4, or_comm64]
      unfold hw lw
      have e7 : N / 2 ^ 64 * 2 ^ (64 - s) % 2 ^ 64 = N / 2 ^ 64 % 2 ^ s * 2 ^ (64 - s) := by rw [p64, Nat.mul_mod_mul_right]
      rw [shl_mod (by omega), l_ush hl q, eL, e7]
      apply l_or hlow
      rw [← e7, ← eL]
      exact Nat.mod_lt _ (by decide)
    · rw [g3]
      cases gn with
      | true => rw [if_pos rfl]; rfl
      | false =>
        rw [if_neg (by decide)]
        have z := shush (n := N % 2 ^ 64) (k := s) hl q
        rw [eZ] at z
        show (if jlshl (jlush (lN (N % 2 ^ 64)) (nI s)) (nI s) = lN (N % 2 ^ 64) then false else true) = _
        by_cases w : N % 2 ^ s = 0
        · rw [if_pos (z.mpr w), decide_eq_false (fun y => y w)]; rfl
        · rw [if_neg (fun y => w (z.mp y)), decide_eq_true (show N % 2 ^ s ≠ 0 from w)]; rfl
  · by_cases q2 : s < 128
    · have g0 : v_W_sink_10 (hw N) (lw N) ep ng gn (nI s) = lN 0 := (if_pos (c128.mpr q2)).trans (if_neg (fun z => q (c64.mp z)))
      have g1 : v_W_sink_11 (hw N) (lw N) ep ng gn (nI s) = jlush (hw N) (nI s - (64 : Int32)) := (if_pos (c128.mpr q2)).trans (if_neg (fun z => q (c64.mp z)))
      have g3 : v_W_sink_12 (hw N) (lw N) ep ng gn (nI s) = if gn = true then true else (if lw N = (0 : Int64) then (if jlshl (jlush (hw N) (nI s - (64 : Int32))) (nI s - (64 : Int32)) = hw N then false else true) else true) := (if_pos (c128.mpr q2)).trans (if_neg (fun z => q (c64.mp z)))
      have e4 : nI s - (64 : Int32) = nI (s - 64) := pk_sub (b := 64) (by omega)
      have p64 : 2 ^ s = 2 ^ 64 * 2 ^ (s - 64) := by rw [← Nat.pow_add]; congr 1; omega
      have eN : N / 2 ^ s = N / 2 ^ 64 / 2 ^ (s - 64) := by rw [p64, Nat.div_div_eq_div_mul]
      have hs3 : N / 2 ^ 64 / 2 ^ (s - 64) < 2 ^ 64 := Nat.lt_of_le_of_lt (Nat.div_le_self _ _) (by omega)
      have eZ : N % 2 ^ s = 2 ^ 64 * (N / 2 ^ 64 % 2 ^ (s - 64)) + N % 2 ^ 64 := by
        rw [p64, Nat.mod_mul, Nat.add_comm]
      refine ⟨?_, ?_, ge, ?_⟩
      · rw [g0, eN]; unfold hw; rw [Nat.div_eq_of_lt hs3]
      · rw [g1, e4, eN]; unfold hw lw; rw [l_ush (by omega) (by omega), Nat.mod_eq_of_lt hs3]
      · rw [g3, e4]
        cases gn with
        | true => rw [if_pos rfl]; rfl
        | false =>
          rw [if_neg (by decide), eZ]
          have z := shush (n := N / 2 ^ 64) (k := s - 64) (by omega) (by omega)
          by_cases w : N % 2 ^ 64 = 0
          · rw [if_pos (lw0.mpr w), w, Nat.add_zero]
            show (if jlshl (jlush (lN (N / 2 ^ 64)) (nI (s - 64))) (nI (s - 64)) = lN (N / 2 ^ 64) then false else true) = _
            by_cases w2 : N / 2 ^ 64 % 2 ^ (s - 64) = 0
            · rw [if_pos (z.mpr w2), w2]; rfl
            · rw [if_neg (fun y => w2 (z.mp y)), decide_eq_true (show 2 ^ 64 * (N / 2 ^ 64 % 2 ^ (s - 64)) ≠ 0 by omega)]; rfl
          · rw [if_neg (fun y => w (lw0.mp y)), decide_eq_true (show 2 ^ 64 * (N / 2 ^ 64 % 2 ^ (s - 64)) + N % 2 ^ 64 ≠ 0 by omega)]; rfl
    · have g0 : v_W_sink_10 (hw N) (lw N) ep ng gn (nI s) = lN 0 := if_neg (fun z => q2 (c128.mp z))
      have g1 : v_W_sink_11 (hw N) (lw N) ep ng gn (nI s) = lN 0 := if_neg (fun z => q2 (c128.mp z))
      have g3 : v_W_sink_12 (hw N) (lw N) ep ng gn (nI s) = if gn = true then true else (if pW_isNothing (hw N) (lw N) (ep + nI s) ng gn = true then false else true) := if_neg (fun z => q2 (c128.mp z))
      have hp : 2 ^ 128 ≤ 2 ^ s := Nat.pow_le_pow_right (by decide) (by omega)
      have eN : N / 2 ^ s = 0 := Nat.div_eq_of_lt (by omega)
      have eZ : N % 2 ^ s = N := Nat.mod_eq_of_lt (by omega)
      refine ⟨?_, ?_, ge, ?_⟩
      · rw [g0, eN]; rfl
      · rw [g1, eN]; rfl
      · rw [g3, eZ, nth_ok (by omega)]
        cases gn with
        | true => rw [if_pos rfl]; rfl
        | false =>
          rw [if_neg (by decide)]
          by_cases w : N = 0
          · rw [if_pos (decide_eq_true w), decide_eq_false (fun y => y w)]; rfl
          · rw [if_neg (by rw [decide_eq_false w]; decide), decide_eq_true (show N ≠ 0 from w)]; rfl
theorem sink_no {ep sh : Int32} {ng gn : Bool} {hi lo : Int64} (h : sh.toInt ≤ 0) : pW_sink_0 hi lo ep ng gn sh = hi ∧ pW_sink_1 hi lo ep ng gn sh = lo ∧ pW_sink_2 hi lo ep ng gn sh = ep ∧ pW_sink_3 hi lo ep ng gn sh = gn := by
  have c : ¬ (0 : Int32) < sh := by rw [i_lt (show (0 : Int32).toInt = 0 from rfl) rfl]; omega
  exact ⟨if_neg c, if_neg c, if_neg c, if_neg c⟩
theorem xor_min {r : Nat} (h : r < 2 ^ 63) : (2 ^ 63 + r) = 2 ^ 63 ^^^ r := by
  have e := Nat.two_pow_add_eq_or_of_lt h 1
  rw [Nat.mul_one] at e
  rw [e]
  apply Nat.eq_of_testBit_eq
  intro i
  rw [Nat.testBit_or, Nat.testBit_xor, Nat.testBit_two_pow]
  by_cases w : 63 = i
  · subst w
    rw [Nat.testBit_lt_two_pow h]
    decide
  · rw [decide_eq_false w]
    cases r.testBit i <;> rfl
theorem xor_sgn {n : Nat} (h : n < 2 ^ 64) : (lN n ^^^ (-9223372036854775808 : Int64)).toInt = (n : Int) - 2 ^ 63 := by
  have e0 : (lN n ^^^ (-9223372036854775808 : Int64)).toBitVec.toNat = n ^^^ 2 ^ 63 := by
    show ((lN n).toBitVec ^^^ (-9223372036854775808 : Int64).toBitVec).toNat = _
    rw [BitVec.toNat_xor, lN_tn h]
    rfl
  have e1 : (lN n ^^^ (-9223372036854775808 : Int64)).toInt = (lN n ^^^ (-9223372036854775808 : Int64)).toBitVec.toInt := rfl
  rw [e1, BitVec.toInt_eq_toNat_cond, e0]
  by_cases w : n < 2 ^ 63
  · have := xor_min w
    rw [Nat.xor_comm, ← this, if_neg (by omega)]
    omega
  · have := xor_min (r := n - 2 ^ 63) (by omega)
    have e2 : n ^^^ 2 ^ 63 = n - 2 ^ 63 := by
      have e3 : n = 2 ^ 63 ^^^ (n - 2 ^ 63) := by rw [← this]; omega
      rw [Nat.xor_comm]
      conv => lhs; rw [e3]
      rw [← Nat.xor_assoc, Nat.xor_self, Nat.zero_xor]
    rw [e2, if_pos (by omega)]
    omega
theorem less_ok {a b : Nat} (ha : a < 2 ^ 64) (hb : b < 2 ^ 64) : pW_isLess (lN a) (lN b) = decide (a < b) := by
  show (if (lN b ^^^ (-9223372036854775808 : Int64)) ≤ (lN a ^^^ (-9223372036854775808 : Int64)) then false else true) = _
  have c : (lN b ^^^ (-9223372036854775808 : Int64)) ≤ (lN a ^^^ (-9223372036854775808 : Int64)) ↔ b ≤ a := by
    rw [Int64.le_iff_toInt_le, xor_sgn ha, xor_sgn hb]; omega
  by_cases h : b ≤ a
  · rw [if_pos (c.mpr h)]; symm; apply decide_eq_false; omega
  · rw [if_neg (fun z => h (c.mp z))]; symm; apply decide_eq_true; omega
section WJ
variable {N K : Nat} {ep ep2 : Int32} {ng gn ng2 gn2 : Bool}
theorem below_ok (h : N < 2 ^ 127) (h2 : K < 2 ^ 127) : pW_isBelow (hw N) (lw N) ep ng gn (hw K) (lw K) ep2 ng2 gn2 = decide (N < K) := by
  show (if hw N = hw K then pW_isLess (lw N) (lw K) else (if hw K ≤ hw N then false else true)) = _
  have c1 : hw N = hw K ↔ N / 2 ^ 64 = K / 2 ^ 64 := lN_inj (by omega) (by omega)
  have c2 : hw K ≤ hw N ↔ K / 2 ^ 64 ≤ N / 2 ^ 64 := pk_lLE (by omega) (by omega)
  by_cases q : N / 2 ^ 64 = K / 2 ^ 64
  · rw [if_pos (c1.mpr q)]
    unfold lw
    rw [less_ok (by omega) (by omega)]
    by_cases w : N < K
    · rw [decide_eq_true w]; apply decide_eq_true; omega
    · rw [decide_eq_false w]; apply decide_eq_false; omega
  · rw [if_neg (fun z => q (c1.mp z))]
    by_cases w : K / 2 ^ 64 ≤ N / 2 ^ 64
    · rw [if_pos (c2.mpr w)]; symm; apply decide_eq_false; omega
    · rw [if_neg (fun z => w (c2.mp z))]; symm; apply decide_eq_true; omega
theorem lN_md (n : Nat) : lN n = lN (n % 2 ^ 64) := by
  apply l_eq
  exact BitVec.toNat_ofNat _ _
theorem bI_l (c : Bool) : (bI c).toInt64 = lN (if c = true then 1 else 0) := by cases c <;> decide
theorem raise_ok (h : N < 2 ^ 126) (h2 : K < 2 ^ 126) : pW_raise_0 (hw N) (lw N) ep ng gn (hw K) (lw K) ep2 ng2 gn2 = hw (N + K) ∧ pW_raise_1 (hw N) (lw N) ep ng gn (hw K) (lw K) ep2 ng2 gn2 = lw (N + K) ∧ pW_raise_2 (hw N) (lw N) ep ng gn (hw K) (lw K) ep2 ng2 gn2 = (gn || gn2) := by
  have e1 : v_W_raise_1 (hw N) (lw N) ep ng gn (hw K) (lw K) ep2 ng2 gn2 = lN ((N + K) % 2 ^ 64) := by
    show lN (N % 2 ^ 64) + lN (K % 2 ^ 64) = _
    rw [lN_add, lN_md (N % 2 ^ 64 + K % 2 ^ 64)]
    congr 1
    omega
  have e2 : v_W_raise_2 (hw N) (lw N) ep ng gn (hw K) (lw K) ep2 ng2 gn2 = decide ((N + K) % 2 ^ 64 < K % 2 ^ 64) := by
    show (if pW_isLess (v_W_raise_1 (hw N) (lw N) ep ng gn (hw K) (lw K) ep2 ng2 gn2) (lN (K % 2 ^ 64)) = true then true else false) = _
    rw [e1, less_ok (by omega) (by omega)]
    cases decide ((N + K) % 2 ^ 64 < K % 2 ^ 64) <;> rfl
  refine ⟨?_, e1, ?_⟩
  · show lN (N / 2 ^ 64) + (lN (K / 2 ^ 64) + (bI (v_W_raise_2 (hw N) (lw N) ep ng gn (hw K) (lw K) ep2 ng2 gn2)).toInt64) = lN ((N + K) / 2 ^ 64)
    rw [e2, bI_l, lN_add, lN_add]
    congr 1
    by_cases q : (N + K) % 2 ^ 64 < K % 2 ^ 64
    · rw [if_pos (decide_eq_true q)]; omega
    · rw [if_neg (by rw [decide_eq_false q]; decide)]; omega
  · show (if gn = true then true else (if gn2 = true then true else false)) = _
    cases gn <;> cases gn2 <;> rfl
theorem lN_sb {a b c d : Nat} (h : a + 2 ^ 64 * c = b + d) : lN a - lN b = lN d := by
  have e : lN a = lN b + lN d := by
    rw [lN_add, lN_md a, lN_md (b + d), ← h]
    congr 1
    omega
  rw [e, Int64.add_comm, Int64.add_sub_cancel]
theorem lower_ok (h : N < 2 ^ 127) (h2 : K + (if gn2 = true then 1 else 0) ≤ N) : pW_lower_0 (hw N) (lw N) ep ng gn (hw K) (lw K) ep2 ng2 gn2 = hw (N - K - (if gn2 = true then 1 else 0)) ∧ pW_lower_1 (hw N) (lw N) ep ng gn (hw K) (lw K) ep2 ng2 gn2 = lw (N - K - (if gn2 = true then 1 else 0)) ∧ pW_lower_2 (hw N) (lw N) ep ng gn (hw K) (lw K) ep2 ng2 gn2 = (gn2 || gn) := by
  have hK : K ≤ N := by omega
  have e1 : v_W_lower_1 (hw N) (lw N) ep ng gn (hw K) (lw K) ep2 ng2 gn2 = decide (N % 2 ^ 64 < K % 2 ^ 64) := by
    show (if pW_isLess (lN (N % 2 ^ 64)) (lN (K % 2 ^ 64)) = true then true else false) = _
    rw [less_ok (by omega) (by omega)]
    cases decide (N % 2 ^ 64 < K % 2 ^ 64) <;> rfl
  have e2 : v_W_lower_2 (hw N) (lw N) ep ng gn (hw K) (lw K) ep2 ng2 gn2 = lN ((N - K) / 2 ^ 64) := by
    show lN (N / 2 ^ 64) - (lN (K / 2 ^ 64) + (bI (v_W_lower_1 (hw N) (lw N) ep ng gn (hw K) (lw K) ep2 ng2 gn2)).toInt64) = _
    rw [e1, bI_l, lN_add]
    by_cases q : N % 2 ^ 64 < K % 2 ^ 64
    · rw [if_pos (decide_eq_true q), lN_sub (by omega)]; congr 1; omega
    · rw [if_neg (by rw [decide_eq_false q]; decide), lN_sub (by omega)]; congr 1; omega
  have e3 : v_W_lower_3 (hw N) (lw N) ep ng gn (hw K) (lw K) ep2 ng2 gn2 = lN ((N - K) % 2 ^ 64) := by
    show lN (N % 2 ^ 64) - lN (K % 2 ^ 64) = _
    by_cases q : N % 2 ^ 64 < K % 2 ^ 64
    · exact lN_sb (c := 1) (by omega)
    · exact lN_sb (c := 0) (by omega)
  cases gn2 with
  | false =>
    rw [if_neg (by decide), Nat.sub_zero]
    refine ⟨?_, ?_, ?_⟩
    · exact e2
    · exact e3
    · show (if false = true then true else gn) = _
      cases gn <;> rfl
  | true =>
    rw [if_pos rfl] at h2 ⊢
    have c : lN ((N - K) % 2 ^ 64) = lN 0 ↔ (N - K) % 2 ^ 64 = 0 := lN_inj (by omega) (by decide)
    have e4 : v_W_lower_4 (hw N) (lw N) ep ng gn (hw K) (lw K) ep2 ng2 true = lN (if (N - K) % 2 ^ 64 = 0 then 1 else 0) := by
      show (if v_W_lower_3 (hw N) (lw N) ep ng gn (hw K) (lw K) ep2 ng2 true = lN 0 then lN 1 else lN 0) = _
      rw [e3]
      by_cases q : (N - K) % 2 ^ 64 = 0
      · rw [if_pos (c.mpr q), if_pos q]
      · rw [if_neg (fun z => q (c.mp z)), if_neg q]
    refine ⟨?_, ?_, rfl⟩
    · show v_W_lower_2 (hw N) (lw N) ep ng gn (hw K) (lw K) ep2 ng2 true - v_W_lower_4 (hw N) (lw N) ep ng gn (hw K) (lw K) ep2 ng2 true = _
      rw [e2, e4]
      unfold hw
      by_cases q : (N - K) % 2 ^ 64 = 0
      · rw [if_pos q, lN_sub (by omega)]; congr 1; omega
      · rw [if_neg q, lN_sub (by omega)]; congr 1; omega
    · show v_W_lower_3 (hw N) (lw N) ep ng gn (hw K) (lw K) ep2 ng2 true - lN 1 = _
      rw [e3]
      unfold lw
      by_cases q : (N - K) % 2 ^ 64 = 0
      · exact lN_sb (c := 1) (by omega)
      · exact lN_sb (c := 0) (by omega)
end WJ
/-- a sum of two magnitudes with signs -/
def smM (A B : Nat) (n m : Bool) : Nat := if n = m then A + B else if B ≤ A then A - B else B - A
def smS (A B : Nat) (n m : Bool) : Bool := if n = m then n else if B ≤ A then n else m
/-- what the words say of a magnitude v, in fine units -/
def Wv (N : Nat) (e : Int) (gn : Bool) (v : Nat) : Prop := N * WW e ≤ v ∧ v < (N + 1) * WW e ∧ (gn = false → v = N * WW e) ∧ (gn = true → N * WW e < v)

