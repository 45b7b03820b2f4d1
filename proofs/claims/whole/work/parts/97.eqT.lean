/-! POWERS OF THE CLASS -/
theorem top_loop {f : Nat → Int32} {k v bo b : Nat} (h : Ng f k v) (hB : bo + b ≤ 2160) (hv : v < 2 ^ (bo + b)) (hb : b ≤ 60) : ∀ n, n ≤ b → qN_top_14 bo k f n (lN (v / 2 ^ (bo + n))) = lN (v / 2 ^ bo) := by
  intro n
  induction n with
  | zero => intro _; rfl
  | succ n ih =>
    intro hn
    have hb1 : v / 2 ^ (bo + (n + 1)) < 2 ^ 60 := by
      rw [Nat.div_lt_iff_lt_mul (Nat.pow_pos (by decide)), ← Nat.pow_add]
      exact Nat.lt_of_lt_of_le hv (Nat.pow_le_pow_right (by decide) (by omega))
    have e4 : v_N_top_4 bo k f n (lN (v / 2 ^ (bo + (n + 1)))) = lN (v / 2 ^ (bo + n)) := by
      show jlshl (lN (v / 2 ^ (bo + (n + 1)))) (nI 1) ||| (pN_bitAt f k (bo + n)).toInt64 = _
      rw [bitAt_ok h (by omega), nI_l (by omega), l_shl (by omega) (by decide), l_or (k := 1) (by omega) (by omega)]
      congr 1
      have : 2 ^ (bo + (n + 1)) = 2 ^ (bo + n) * 2 := by rw [← Nat.pow_succ]; congr 1
      rw [this, ← Nat.div_div_eq_div_mul]
      omega
    show qN_top_14 bo k f n (v_N_top_4 bo k f n (lN (v / 2 ^ (bo + (n + 1))))) = _
    rw [e4]
    exact ih (by omega)
theorem top_ok {f : Nat → Int32} {k v bo b : Nat} (h : Ng f k v) (hB : bo + b ≤ 2160) (hv : v < 2 ^ (bo + b)) (hb : b ≤ 60) : pN_top f k bo b = lN (v / 2 ^ bo) := by
  have := top_loop h hB hv hb b (Nat.le_refl _)
  rw [Nat.div_eq_of_lt hv] at this
  exact this
theorem rc_loop {f3 : Nat → Int32} {k3 N : Nat} (h3 : Ng f3 k3 N) (hN : N < 2 ^ 2121) : ∀ (m j q r : Nat) (y2 : Nat → Int32) (y3 : Nat), j + m = 55 → q < 2 ^ j → r < N → Ng y2 y3 r →
    ∃ q' r' y2' y3', qF_reciprocal_15 k3 f3 m j (lN q) y2 y3 = (lN q', y2', y3') ∧ (q * N + r) * 2 ^ m = q' * N + r' ∧ r' < N ∧ q' < 2 ^ 55 := by
  intro m
  induction m with
  | zero =>
    intro j q r y2 y3 hj hq hr hy
    have : j = 55 := by omega
    exact ⟨q, r, y2, y3, rfl, by omega, hr, by rw [← this]; exact hq⟩
  | succ m ih =>
    intro j q r y2 y3 hj hq hr hy
    have hj2 : 2 ^ j ≤ 2 ^ 54 := Nat.pow_le_pow_right (by decide) (by omega)
    have hp : 2 ^ (j + 1) = 2 ^ j * 2 := Nat.pow_succ _ _
    have h2r : 2 * r < 2 ^ 2160 := by
      have : (2 : Nat) ^ 2160 = 2 ^ 2121 * 2 ^ 39 := by rw [← Nat.pow_add]
      rw [this]
      have h39 : 2 ≤ 2 ^ 39 := by decide
      have := Nat.mul_le_mul_left (2 ^ 2121) h39
      omega
    have ht := twice_ok hy h2r
    have e8 : v_F_reciprocal_8 k3 f3 j (lN q) y2 y3 = lN (q * 2 ^ 1) := l_shl (k := 1) (by omega) (by decide)
    have e9 : v_F_reciprocal_9 k3 f3 j (lN q) y2 y3 = decide (2 * r < N) := isBelow_ok ht h3
    have e0 : qF_reciprocal_15 k3 f3 (m + 1) j (lN q) y2 y3 = qF_reciprocal_15 k3 f3 m (j + 1) (v_F_reciprocal_13 k3 f3 j (lN q) y2 y3) (v_F_reciprocal_15 k3 f3 j (lN q) y2 y3) (v_F_reciprocal_14 k3 f3 j (lN q) y2 y3) := rfl
    have d13 : v_F_reciprocal_13 k3 f3 j (lN q) y2 y3 = if v_F_reciprocal_9 k3 f3 j (lN q) y2 y3 = true then v_F_reciprocal_8 k3 f3 j (lN q) y2 y3 else v_F_reciprocal_8 k3 f3 j (lN q) y2 y3 ||| lN 1 := rfl
    have d14 : v_F_reciprocal_14 k3 f3 j (lN q) y2 y3 = if v_F_reciprocal_9 k3 f3 j (lN q) y2 y3 = true then pN_twice_1 y2 y3 else pN_take_1 (pN_twice_0 y2 y3) (pN_twice_1 y2 y3) f3 k3 := rfl
    have d15 : v_F_reciprocal_15 k3 f3 j (lN q) y2 y3 = if v_F_reciprocal_9 k3 f3 j (lN q) y2 y3 = true then pN_twice_0 y2 y3 else pN_take_0 (pN_twice_0 y2 y3) (pN_twice_1 y2 y3) f3 k3 := rfl
    have em : ∀ x y : Nat, x = 2 * y → x * 2 ^ m = y * 2 ^ (m + 1) := fun x y h => by rw [h, Nat.pow_succ, Nat.mul_comm 2 y, Nat.mul_assoc, Nat.mul_comm 2]
    rw [e0, d13, d14, d15, e9, e8]
    by_cases w : 2 * r < N
    · rw [if_pos (decide_eq_true w), if_pos (decide_eq_true w), if_pos (decide_eq_true w)]
      obtain ⟨q', r', y2', y3', a1, a2, a3, a4⟩ := ih (j + 1) (q * 2 ^ 1) (2 * r) _ _ (by omega) (by omega) w ht
      refine ⟨q', r', y2', y3', a1, ?_, a3, a4⟩
      rw [← a2]
      symm
      apply em
      rw [Nat.pow_one, Nat.mul_add, Nat.mul_comm q 2, Nat.mul_assoc]
    · have nw : ¬ decide (2 * r < N) = true := by rw [decide_eq_false w]; decide
      rw [if_neg nw, if_neg nw, if_neg nw, l_or (k := 1) (by decide) (by omega)]
      obtain ⟨q', r', y2', y3', a1, a2, a3, a4⟩ := ih (j + 1) (q * 2 ^ 1 + 1) (2 * r - N) _ _ (by omega) (by omega) (by omega) (take_ok ht h3 (by omega))
      refine ⟨q', r', y2', y3', a1, ?_, a3, a4⟩
      rw [← a2]
      symm
      apply em
      rw [Nat.pow_one, Nat.mul_add, Nat.add_mul, Nat.one_mul, Nat.mul_comm q 2, Nat.mul_assoc]
      omega
theorem rc_ok {f3 : Nat → Int32} {k3 N ln : Nat} (f4 : Nat → Int32) (k4 : Nat) (h3 : Ng f3 k3 N) (hN : N < 2 ^ 2121) (hl : 1 ≤ ln) (hl2 : ln ≤ 2120) (h1 : 2 ^ (ln - 1) < N) :
    ∃ q r, pF_reciprocal f3 k3 f4 k4 ln = lN q ∧ 2 ^ (ln - 1) * 2 ^ 55 = q * N + r ∧ r < N ∧ q < 2 ^ 55 := by
  obtain ⟨q, r, y2, y3, a1, a2, a3, a4⟩ := rc_loop h3 hN 55 0 0 (2 ^ (ln - 1)) _ _ rfl (by decide) h1 (setBit_ok f4 k4 (pb := ln - 1) (by omega))
  refine ⟨q, r, ?_, ?_, a3, a4⟩
  · show (qF_reciprocal_15 k3 f3 55 0 (lN 0) (pN_setBit_0 f4 k4 (ln - 1)) (pN_setBit_1 f4 k4 (ln - 1))).1 = _
    rw [a1]
  · rw [← a2, Nat.zero_mul, Nat.zero_add]
theorem odd_nd {N a : Nat} (h : N % 2 = 1) (h1 : 1 < N) {q : Nat} : 2 ^ a ≠ q * N := by
  induction a generalizing q with
  | zero =>
    intro e
    rw [Nat.pow_zero] at e
    have hq : 0 < q := Nat.pos_of_ne_zero (fun z => by rw [z, Nat.zero_mul] at e; omega)
    have : 1 * N ≤ q * N := Nat.mul_le_mul_right _ hq
    omega
  | succ a ih =>
    intro e
    have he : q % 2 = 0 := by
      have h5 : (q * N) % 2 = 0 := by rw [← e, Nat.pow_succ]; omega
      rw [Nat.mul_mod, h] at h5
      omega
    obtain ⟨u, hu⟩ : ∃ u, q = 2 * u := ⟨q / 2, by omega⟩
    apply ih (q := u)
    rw [Nat.pow_succ, hu, Nat.mul_comm, Nat.mul_assoc] at e
    exact Nat.eq_of_mul_eq_mul_left (by decide) e
theorem pow_odd {o m : Nat} (h : o % 2 = 1) : o ^ m % 2 = 1 := by
  induction m with
  | zero => rfl
  | succ m ih => rw [Nat.pow_succ, Nat.mul_mod, ih, h]
section PF
variable (f3 : Nat → Int32) (k3 : Nat) (f4 : Nat → Int32) (k4 : Nat) (x : Int64) (n : Int32) (ng : Bool) (how : Int32)
theorem pf_ok (hx : sgf x ≠ 0) (hn1 : ¬ n < (-40)) (hn2 : ¬ 40 < n) (hn0 : n.toInt ≠ 0) :
    ∃ M o t : Nat, M ≤ IM ∧ sgf x = o * 2 ^ t ∧ t ≤ 52 ∧ 0 < o ∧ pF_powerOfFinite f3 k3 f4 k4 x n ng how = sgM M ng ∧ (0 < n.toInt → RD how ng M (o ^ n.toInt.natAbs * WW ((exf x + t) * n.toInt)) 1) ∧ (n.toInt < 0 → RD how ng M (WW ((exf x + t) * n.toInt)) (o ^ n.toInt.natAbs)) := by
  obtain ⟨o, t, eo, ho, ht, ez, eu⟩ := tz_ok (Nat.pos_of_ne_zero hx) (sgf_lt x)
  have g1 := exf_ge x
  have g2 := exf_le x
  obtain ⟨tm1, tm2, tm3⟩ := ab_m hn1 hn2
  have hol := od_lt eo (sgf_lt x)
  have hN := setPower_ok f3 k3 (c := o) (tm := (if 0 ≤ n then n else 0 - n).toNatClampNeg) hol tm2
  rw [tm3] at hN tm2
  have hbl := pw_bl ho hol tm2
  have cn := i_le (show (0 : Int32).toInt = 0 from rfl) (show n.toInt = n.toInt from rfl)
  have hn3 : -40 ≤ n.toInt ∧ n.toInt ≤ 40 := by omega
  have hE : -46000 ≤ (exf x + t) * n.toInt ∧ (exf x + t) * n.toInt ≤ 46000 := by
    have h := em_rng (e := exf x + t) (j := n.toInt.natAbs) (by omega) (by omega) tm2
    rcases Int.le_total 0 n.toInt with q | q
    · have : ((n.toInt.natAbs : Nat) : Int) = n.toInt := by omega
      rw [this] at h; omega
    · have : ((n.toInt.natAbs : Nat) : Int) = -n.toInt := by omega
      rw [this, Int.mul_neg] at h; omega
  have x1 : (v_F_powerOfFinite_1 f3 k3 f4 k4 x n ng how) = nI t := by show pJ_numberOfTrailingZeros (pF_significandOf x) = _; rw [sig_ok, ez]
  have x2 : (v_F_powerOfFinite_2 f3 k3 f4 k4 x n ng how) = lN o := by show jlush (pF_significandOf x) (v_F_powerOfFinite_1 f3 k3 f4 k4 x n ng how) = _; rw [x1, sig_ok, eu]
  have x3 : ((v_F_powerOfFinite_3 f3 k3 f4 k4 x n ng how)).toInt = (exf x + t) * n.toInt := by
    show ((pF_exponentOf x + (v_F_powerOfFinite_1 f3 k3 f4 k4 x n ng how)) * n).toInt = _
    rw [x1, Int32.toInt_mul, iA (exp_ok x) (nI_toInt (n := t) (by omega)) (by omega) (by omega)]
    exact Int.bmod_eq_of_le (by omega) (by omega)
  have x4 : Ng (v_F_powerOfFinite_4 f3 k3 f4 k4 x n ng how) (v_F_powerOfFinite_5 f3 k3 f4 k4 x n ng how) (o ^ n.toInt.natAbs) := by
    have e4 : (v_F_powerOfFinite_4 f3 k3 f4 k4 x n ng how) = pN_setPower_0 f3 k3 (v_F_powerOfFinite_2 f3 k3 f4 k4 x n ng how) (if 0 ≤ n then n else 0 - n).toNatClampNeg := rfl
    have e5 : (v_F_powerOfFinite_5 f3 k3 f4 k4 x n ng how) = pN_setPower_1 f3 k3 (v_F_powerOfFinite_2 f3 k3 f4 k4 x n ng how) (if 0 ≤ n then n else 0 - n).toNatClampNeg := rfl
    rw [e4, e5, x2, tm3]; exact hN
  have hlc := (len_c x4).2
  have d0 : pF_powerOfFinite f3 k3 f4 k4 x n ng how = if (v_F_powerOfFinite_2 f3 k3 f4 k4 x n ng how) = (1 : Int64) then pF_rounded (1 : Int64) (v_F_powerOfFinite_3 f3 k3 f4 k4 x n ng how) false ng how else (if 0 ≤ n then pF_rounded (v_F_powerOfFinite_7 f3 k3 f4 k4 x n ng how) (((v_F_powerOfFinite_3 f3 k3 f4 k4 x n ng how) + nI (pN_length (v_F_powerOfFinite_4 f3 k3 f4 k4 x n ng how) (v_F_powerOfFinite_5 f3 k3 f4 k4 x n ng how)).toNatClampNeg) - nI (min (pN_length (v_F_powerOfFinite_4 f3 k3 f4 k4 x n ng how) (v_F_powerOfFinite_5 f3 k3 f4 k4 x n ng how)).toNatClampNeg 60)) (v_F_powerOfFinite_8 f3 k3 f4 k4 x n ng how) ng how else pF_rounded (v_F_powerOfFinite_9 f3 k3 f4 k4 x n ng how) (((v_F_powerOfFinite_3 f3 k3 f4 k4 x n ng how) - ni1 (pN_length (v_F_powerOfFinite_4 f3 k3 f4 k4 x n ng how) (v_F_powerOfFinite_5 f3 k3 f4 k4 x n ng how)).toNatClampNeg) - (55 : Int32)) true ng how) := rfl
  have x7 : (v_F_powerOfFinite_7 f3 k3 f4 k4 x n ng how) = pN_top (v_F_powerOfFinite_4 f3 k3 f4 k4 x n ng how) (v_F_powerOfFinite_5 f3 k3 f4 k4 x n ng how) ((pN_length (v_F_powerOfFinite_4 f3 k3 f4 k4 x n ng how) (v_F_powerOfFinite_5 f3 k3 f4 k4 x n ng how)).toNatClampNeg - min (pN_length (v_F_powerOfFinite_4 f3 k3 f4 k4 x n ng how) (v_F_powerOfFinite_5 f3 k3 f4 k4 x n ng how)).toNatClampNeg 60) (min (pN_length (v_F_powerOfFinite_4 f3 k3 f4 k4 x n ng how) (v_F_powerOfFinite_5 f3 k3 f4 k4 x n ng how)).toNatClampNeg 60) := rfl
  have x8 : (v_F_powerOfFinite_8 f3 k3 f4 k4 x n ng how) = if nI (pN_length (v_F_powerOfFinite_4 f3 k3 f4 k4 x n ng how) (v_F_powerOfFinite_5 f3 k3 f4 k4 x n ng how)).toNatClampNeg ≤ nI (min (pN_length (v_F_powerOfFinite_4 f3 k3 f4 k4 x n ng how) (v_F_powerOfFinite_5 f3 k3 f4 k4 x n ng how)).toNatClampNeg 60) then false else true := rfl
  have x9 : (v_F_powerOfFinite_9 f3 k3 f4 k4 x n ng how) = pF_reciprocal (v_F_powerOfFinite_4 f3 k3 f4 k4 x n ng how) (v_F_powerOfFinite_5 f3 k3 f4 k4 x n ng how) f4 k4 (pN_length (v_F_powerOfFinite_4 f3 k3 f4 k4 x n ng how) (v_F_powerOfFinite_5 f3 k3 f4 k4 x n ng how)).toNatClampNeg := rfl
  rw [hlc] at d0 x7 x8 x9
  have hN0 : 0 < o ^ n.toInt.natAbs := Nat.pow_pos (by omega)
  have hNo := pow_odd (o := o) (m := n.toInt.natAbs) ho
  have hge := blen_ge hN0
  have hlt := lt_blen (o ^ n.toInt.natAbs)
  have c1 : (v_F_powerOfFinite_2 f3 k3 f4 k4 x n ng how) = (1 : Int64) ↔ o = 1 := by rw [x2]; exact lN_inj (a := o) (b := 1) (by omega) (by decide)
  have hW := WW_pos ((exf x + t) * n.toInt)
  by_cases o1 : o = 1
  · rw [d0, if_pos (c1.mpr o1)]
    obtain ⟨M, m1, m2, m3⟩ := rounded_ok (n := 1) (a := WW ((exf x + t) * n.toInt)) (b := 1) (how := how) (ng := ng) (lo := false) x3 (by omega) (by omega) (by decide) (by decide) (by omega) (by omega) (fun _ => by omega) (fun z => absurd z (by decide)) (fun z => absurd z (by decide))
    refine ⟨M, o, t, m1, eo, ht, by omega, m2, fun _ => ?_, fun _ => ?_⟩
    · rw [o1, Nat.one_pow, Nat.one_mul]; exact m3
    · rw [o1, Nat.one_pow]; exact m3
  · have hN1 : 1 < o ^ n.toInt.natAbs := Nat.one_lt_pow (by omega) (by omega)
    generalize hNN : o ^ n.toInt.natAbs = N at *
    generalize hL : blen N = ln at *
    rw [d0, if_neg (fun z => o1 (c1.mp z))]
    by_cases q : 0 ≤ n.toInt
    · rw [if_pos (cn.mpr q)]
      -- the highest bits
      have et : (v_F_powerOfFinite_7 f3 k3 f4 k4 x n ng how) = lN (N / 2 ^ (ln - min ln 60)) := by
        rw [x7]
        have e1 : ln - min ln 60 + min ln 60 = ln := by omega
        exact top_ok x4 (by omega) (by rw [e1]; exact hlt) (by omega)
      have el : (v_F_powerOfFinite_8 f3 k3 f4 k4 x n ng how) = decide (60 < ln) := by
        rw [x8]
        have cc := nI_leI (a := ln) (b := min ln 60) (by omega) (by omega)
        by_cases w : 60 < ln
        · rw [if_neg (fun z => by have := cc.mp z; omega), decide_eq_true w]
        · rw [if_pos (cc.mpr (by omega)), decide_eq_false w]
      have ee : (((v_F_powerOfFinite_3 f3 k3 f4 k4 x n ng how) + nI ln) - nI (min ln 60)).toInt = (exf x + t) * n.toInt + ln - (min ln 60 : Nat) := iS (iA x3 (nI_toInt (n := ln) (by omega)) (by omega) (by omega)) (nI_toInt (n := min ln 60) (by omega)) (by omega) (by omega)
      have hs : (exf x + t) * n.toInt + ln - (min ln 60 : Nat) = (exf x + t) * n.toInt + (ln - min ln 60 : Nat) := by omega
      rw [et, el]
      have hwv := Wv_sink (K := N) (g := ln - min ln 60) (f := (exf x + t) * n.toInt) (e := (exf x + t) * n.toInt + ln - (min ln 60 : Nat)) (by omega) hs
      have hlo : decide (60 < ln) = decide (N % 2 ^ (ln - min ln 60) ≠ 0) := by
        by_cases w : 60 < ln
        · rw [decide_eq_true w]; symm; apply decide_eq_true
          intro z
          obtain ⟨j, hj⟩ : ∃ j, ln - min ln 60 = j + 1 := ⟨ln - min ln 60 - 1, by omega⟩
          rw [hj, Nat.pow_succ, Nat.mul_comm] at z
          have := Nat.mod_mul_right_mod N 2 (2 ^ j)
          rw [z] at this
          omega
        · rw [decide_eq_false w]; symm; apply decide_eq_false
          have : ln - min ln 60 = 0 := by omega
          rw [this, Nat.pow_zero, Nat.mod_one]
          exact fun z => z rfl
      rw [hlo]
      obtain ⟨w1, w2, w3, w4⟩ := hwv
      have hd60 : N / 2 ^ (ln - min ln 60) < 2 ^ 60 := by
        rw [Nat.div_lt_iff_lt_mul (Nat.pow_pos (by decide)), ← Nat.pow_add]
        exact Nat.lt_of_lt_of_le hlt (Nat.pow_le_pow_right (by decide) (by omega))
      obtain ⟨M, m1, m2, m3⟩ := rounded_ok (n := N / 2 ^ (ln - min ln 60)) (a := N * WW ((exf x + t) * n.toInt)) (b := 1) (how := how) (ng := ng) (lo := decide (N % 2 ^ (ln - min ln 60) ≠ 0)) ee (by omega) (by omega) (by omega) (by decide) (by rw [Nat.mul_one]; exact w1) (by rw [Nat.mul_one]; exact w2) (fun z => by rw [Nat.mul_one]; exact w3 z) (fun z => by rw [Nat.mul_one]; exact w4 z) (fun z => by
        rw [← hlo] at z
        have hz := of_decide_eq_true z
        have e60 : ln - min ln 60 = ln - 60 := by omega
        rw [e60, Nat.le_div_iff_mul_le (Nat.pow_pos (by decide)), ← Nat.pow_add]
        exact Nat.le_trans (Nat.pow_le_pow_right (by decide) (by omega)) hge)
      exact ⟨M, o, t, m1, eo, ht, by omega, m2, fun _ => by rw [hNN]; exact m3, fun z => by omega⟩
    · rw [if_neg (fun z => q (cn.mp z))]
      have hln2 : 2 ≤ ln := by
        refine Nat.le_of_not_lt (fun z => ?_)
        have : N < 2 ^ 1 := Nat.lt_of_lt_of_le hlt (Nat.pow_le_pow_right (by decide) (by omega))
        omega
      have hstr : 2 ^ (ln - 1) < N := by
        refine Nat.lt_of_le_of_ne hge (fun z => ?_)
        obtain ⟨j, hj⟩ : ∃ j, ln - 1 = j + 1 := ⟨ln - 2, by omega⟩
        rw [hj, Nat.pow_succ] at z
        omega
      obtain ⟨qq, rr, r1, r2, r3, r4⟩ := rc_ok f4 k4 x4 (Nat.lt_of_lt_of_le hlt (Nat.pow_le_pow_right (by decide) (by omega))) (by omega) (by omega) hstr
      have er : (v_F_powerOfFinite_9 f3 k3 f4 k4 x n ng how) = lN qq := by rw [x9]; exact r1
      have ee : (((v_F_powerOfFinite_3 f3 k3 f4 k4 x n ng how) - ni1 ln) - (55 : Int32)).toInt = (exf x + t) * n.toInt - (ln - 1 : Nat) - 55 := by
        have e1 : ni1 ln = nI (ln - 1) := ni1_p (by omega)
        rw [e1]
        exact iS (iS x3 (nI_toInt (n := ln - 1) (by omega)) (by omega) (by omega)) (show (55 : Int32).toInt = 55 from rfl) (by omega) (by omega)
      have hWE : WW ((exf x + t) * n.toInt) = WW ((exf x + t) * n.toInt - (ln - 1 : Nat) - 55) * (2 ^ (ln - 1) * 2 ^ 55) := by
        rw [← Nat.pow_add]
        exact WW_eq (ln - 1 + 55) (by omega) (by omega)
      have hw0 := WW_pos ((exf x + t) * n.toInt - (ln - 1 : Nat) - 55)
      have hr0 : rr ≠ 0 := fun z => by
        rw [z, Nat.add_zero, ← Nat.pow_add] at r2
        exact odd_nd hNo hN1 r2
      rw [er]
      generalize hw9 : WW ((exf x + t) * n.toInt - (ln - 1 : Nat) - 55) = w at *
      have hA : WW ((exf x + t) * n.toInt) = w * (qq * N + rr) := by rw [hWE, r2]
      have e1 : qq * w * N = w * (qq * N) := by rw [Nat.mul_comm qq w, Nat.mul_assoc]
      have e2 : (qq + 1) * w * N = w * (qq * N + N) := by rw [Nat.mul_comm (qq + 1) w, Nat.mul_assoc, Nat.add_mul, Nat.one_mul]
      obtain ⟨M, m1, m2, m3⟩ := rounded_ok (n := qq) (a := WW ((exf x + t) * n.toInt)) (b := N) (how := how) (ng := ng) (lo := true) ee (by omega) (by omega) (by omega) hN0
        (by rw [hw9, hA, e1]; exact Nat.mul_le_mul_left _ (by omega)) (by rw [hw9, hA, e2]; exact Nat.mul_lt_mul_of_pos_left (by omega) hw0) (fun z => absurd z (by decide)) (fun _ => by rw [hw9, hA, e1]; exact Nat.mul_lt_mul_of_pos_left (by omega) hw0) (fun _ => by
          refine Nat.le_of_not_lt (fun z => ?_)
          have h1 : (qq + 1) * N ≤ 2 ^ 53 * 2 ^ ln := Nat.mul_le_mul (by omega) (Nat.le_of_lt hlt)
          have h2 : 2 ^ (ln - 1) * 2 ^ 55 = 2 ^ 53 * 2 ^ ln * 2 := by
            rw [← Nat.pow_add, ← Nat.pow_add, show ln - 1 + 55 = 53 + ln + 1 by omega, Nat.pow_succ]
          have h3 : 0 < 2 ^ 53 * 2 ^ ln := Nat.mul_pos (by decide) (Nat.pow_pos (by decide))
          rw [Nat.add_mul] at h1
          omega)
      exact ⟨M, o, t, m1, eo, ht, by omega, m2, fun z => by omega, fun _ => by rw [hNN]; exact m3⟩
end PF
section EP
variable (f3 : Nat → Int32) (k3 : Nat) (f4 : Nat → Int32) (k4 : Nat) (fl : Nat → Int32) (kl : Nat) (fr : Nat → Int32) (kr : Nat) (ng2 : Bool) (fp2 : Nat → Int32) (kp2 : Nat) (fq2 : Nat → Int32) (kq2 : Nat) (ee2 : Int32) (ng4 : Bool) (fp4 : Nat → Int32) (kp4 : Nat) (fq4 : Nat → Int32) (kq4 : Nat) (ee4 : Int32) (ng6 : Bool) (fp6 : Nat → Int32) (kp6 : Nat) (fq6 : Nat → Int32) (kq6 : Nat) (ee6 : Int32) (ng7 : Bool) (fp7 : Nat → Int32) (kp7 : Nat) (fq7 : Nat → Int32) (kq7 : Nat) (ee7 : Int32) (ng8 : Bool) (fp8 : Nat → Int32) (kp8 : Nat) (fq8 : Nat → Int32) (kq8 : Nat) (ee8 : Int32) (ng9 : Bool) (fp9 : Nat → Int32) (kp9 : Nat) (fq9 : Nat → Int32) (kq9 : Nat) (ee9 : Int32) (x : Int64) (n : Int32) (up : Bool)
theorem ng_c : (v_F_power_1 f3 k3 f4 k4 x n up) = sgp (decide (x < 0)) n.toInt.natAbs := by
  show (if (0 : Int64) ≤ x then false else (if (n &&& (1 : Int32)) = 0 then false else true)) = _
  have hz := neg_z x
  have c1 := and1 n
  unfold sgp
  by_cases q : (0 : Int64) ≤ x
  · rw [if_pos q] at hz ⊢
    rw [← hz]; rfl
  · rw [if_neg q] at hz ⊢
    rw [← hz, Bool.true_and]
    by_cases w : n.toInt % 2 = 0
    · rw [if_pos (c1.mpr w)]; symm; apply decide_eq_false; omega
    · rw [if_neg (fun z => w (c1.mp z))]; symm; apply decide_eq_true; omega
theorem ab_v (hn1 : ¬ n < (-40)) (hn2 : ¬ 40 < n) : (v_M_power_1 fl kl fr kr ng2 fp2 kp2 fq2 kq2 ee2 ng4 fp4 kp4 fq4 kq4 ee4 ng6 fp6 kp6 fq6 kq6 ee6 ng7 fp7 kp7 fq7 kq7 ee7 ng8 fp8 kp8 fq8 kq8 ee8 ng9 fp9 kp9 fq9 kq9 ee9 x n up) = n.toInt.natAbs := by
  show (if 0 ≤ n then n.toNatClampNeg else (-n).toNatClampNeg) = _
  rw [Int32.lt_iff_toInt_lt] at hn1 hn2
  have c1 : (40 : Int32).toInt = 40 := rfl
  have c2 : (-40 : Int32).toInt = -40 := rfl
  rw [c2] at hn1
  rw [c1] at hn2
  have cc := i_le (show (0 : Int32).toInt = 0 from rfl) (show n.toInt = n.toInt from rfl)
  by_cases q : 0 ≤ n.toInt
  · rw [if_pos (cc.mpr q), (cl_nI (z := n) (v := n.toInt) rfl (by omega) (by omega)).2]; omega
  · rw [if_neg (fun z => q (cc.mp z)), (cl_nI (z := -n) (v := -n.toInt) (iNg rfl (by omega) (by omega)) (by omega) (by omega)).2]; omega
theorem pp_in (hn1 : ¬ n < (-40)) (hn2 : ¬ 40 < n) : ∃ N, (v_M_power_49 fl kl fr kr ng2 fp2 kp2 fq2 kq2 ee2 ng4 fp4 kp4 fq4 kq4 ee4 ng6 fp6 kp6 fq6 kq6 ee6 ng7 fp7 kp7 fq7 kq7 ee7 ng8 fp8 kp8 fq8 kq8 ee8 ng9 fp9 kp9 fq9 kq9 ee9 x n up) = sgM N (sgp (decide (x < 0)) n.toInt.natAbs) ∧ (up = sgp (decide (x < 0)) n.toInt.natAbs → FL N (sgf x ^ n.toInt.natAbs * WW (exf x * (n.toInt.natAbs : Int))) 1) ∧ (up ≠ sgp (decide (x < 0)) n.toInt.natAbs → CE N (sgf x ^ n.toInt.natAbs * WW (exf x * (n.toInt.natAbs : Int))) 1) := by
  have hv := ab_v fl kl fr kr ng2 fp2 kp2 fq2 kq2 ee2 ng4 fp4 kp4 fq4 kq4 ee4 ng6 fp6 kp6 fq6 kq6 ee6 ng7 fp7 kp7 fq7 kq7 ee7 ng8 fp8 kp8 fq8 kq8 ee8 ng9 fp9 kp9 fq9 kq9 ee9 x n up hn1 hn2
  have hm : n.toInt.natAbs ≤ 40 := by
    rw [Int32.lt_iff_toInt_lt] at hn1 hn2
    have c1 : (40 : Int32).toInt = 40 := rfl
    have c2 : (-40 : Int32).toInt = -40 := rfl
    rw [c2] at hn1
    rw [c1] at hn2
    omega
  have g1 := exf_ge x
  have g2 := exf_le x
  have hw := pw_NU ng8 fp8 kp8 fq8 kq8 ee8 ng7 fp7 kp7 fq7 kq7 ee7 ng9 fp9 kp9 fq9 kq9 ee9 x (v_M_power_1 fl kl fr kr ng2 fp2 kp2 fq2 kq2 ee2 ng4 fp4 kp4 fq4 kq4 ee4 ng6 fp6 kp6 fq6 kq6 ee6 ng7 fp7 kp7 fq7 kq7 ee7 ng8 fp8 kp8 fq8 kq8 ee8 ng9 fp9 kp9 fq9 kq9 ee9 x n up) (by rw [hv]; exact hm)
  rw [hv] at hw
  have hk := pw_k hw.1 (sgf_lt x) hm
  have hr := em_rng (e := exf x) (j := n.toInt.natAbs) (by omega) (by omega) hm
  obtain ⟨N, j1, j2, j3, j4⟩ := rd_ok fl kl fr kr ng2 fp2 kp2 fq2 kq2 ee2 ng4 fp4 kp4 fq4 kq4 ee4 _ _ _ _ _ _ up hw.1 (by decide) (Nat.le_trans hk.2 (by decide)) (Nat.le_trans hk.1 (by decide)) (by omega) (by omega)
  refine ⟨N, ?_, ?_⟩
  · have d49 : (v_M_power_49 fl kl fr kr ng2 fp2 kp2 fq2 kq2 ee2 ng4 fp4 kp4 fq4 kq4 ee4 ng6 fp6 kp6 fq6 kq6 ee6 ng7 fp7 kp7 fq7 kq7 ee7 ng8 fp8 kp8 fq8 kq8 ee8 ng9 fp9 kp9 fq9 kq9 ee9 x n up) = pM_round fl kl fr kr ng2 fp2 kp2 fq2 kq2 ee2 ng4 fp4 kp4 fq4 kq4 ee4 (pM_powerOf_0 ng8 fp8 kp8 fq8 kq8 ee8 ng7 fp7 kp7 fq7 kq7 ee7 ng9 fp9 kp9 fq9 kq9 ee9 x (v_M_power_1 fl kl fr kr ng2 fp2 kp2 fq2 kq2 ee2 ng4 fp4 kp4 fq4 kq4 ee4 ng6 fp6 kp6 fq6 kq6 ee6 ng7 fp7 kp7 fq7 kq7 ee7 ng8 fp8 kp8 fq8 kq8 ee8 ng9 fp9 kp9 fq9 kq9 ee9 x n up)) (pM_powerOf_1 ng8 fp8 kp8 fq8 kq8 ee8 ng7 fp7 kp7 fq7 kq7 ee7 ng9 fp9 kp9 fq9 kq9 ee9 x (v_M_power_1 fl kl fr kr ng2 fp2 kp2 fq2 kq2 ee2 ng4 fp4 kp4 fq4 kq4 ee4 ng6 fp6 kp6 fq6 kq6 ee6 ng7 fp7 kp7 fq7 kq7 ee7 ng8 fp8 kp8 fq8 kq8 ee8 ng9 fp9 kp9 fq9 kq9 ee9 x n up)) (pM_powerOf_2 ng8 fp8 kp8 fq8 kq8 ee8 ng7 fp7 kp7 fq7 kq7 ee7 ng9 fp9 kp9 fq9 kq9 ee9 x (v_M_power_1 fl kl fr kr ng2 fp2 kp2 fq2 kq2 ee2 ng4 fp4 kp4 fq4 kq4 ee4 ng6 fp6 kp6 fq6 kq6 ee6 ng7 fp7 kp7 fq7 kq7 ee7 ng8 fp8 kp8 fq8 kq8 ee8 ng9 fp9 kp9 fq9 kq9 ee9 x n up)) (pM_powerOf_3 ng8 fp8 kp8 fq8 kq8 ee8 ng7 fp7 kp7 fq7 kq7 ee7 ng9 fp9 kp9 fq9 kq9 ee9 x (v_M_power_1 fl kl fr kr ng2 fp2 kp2 fq2 kq2 ee2 ng4 fp4 kp4 fq4 kq4 ee4 ng6 fp6 kp6 fq6 kq6 ee6 ng7 fp7 kp7 fq7 kq7 ee7 ng8 fp8 kp8 fq8 kq8 ee8 ng9 fp9 kp9 fq9 kq9 ee9 x n up)) (pM_powerOf_4 ng8 fp8 kp8 fq8 kq8 ee8 ng7 fp7 kp7 fq7 kq7 ee7 ng9 fp9 kp9 fq9 kq9 ee9 x (v_M_power_1 fl kl fr kr ng2 fp2 kp2 fq2 kq2 ee2 ng4 fp4 kp4 fq4 kq4 ee4 ng6 fp6 kp6 fq6 kq6 ee6 ng7 fp7 kp7 fq7 kq7 ee7 ng8 fp8 kp8 fq8 kq8 ee8 ng9 fp9 kp9 fq9 kq9 ee9 x n up)) (pM_powerOf_5 ng8 fp8 kp8 fq8 kq8 ee8 ng7 fp7 kp7 fq7 kq7 ee7 ng9 fp9 kp9 fq9 kq9 ee9 x (v_M_power_1 fl kl fr kr ng2 fp2 kp2 fq2 kq2 ee2 ng4 fp4 kp4 fq4 kq4 ee4 ng6 fp6 kp6 fq6 kq6 ee6 ng7 fp7 kp7 fq7 kq7 ee7 ng8 fp8 kp8 fq8 kq8 ee8 ng9 fp9 kp9 fq9 kq9 ee9 x n up)) up := rfl
    rw [d49, hv, hw.2]; exact j2
  · exact ⟨j3, j4⟩
theorem pn_in (hx : sgf x ≠ 0) (hn1 : ¬ n < (-40)) (hn2 : ¬ 40 < n) : ∃ N, (v_M_power_32 fl kl fr kr ng2 fp2 kp2 fq2 kq2 ee2 ng4 fp4 kp4 fq4 kq4 ee4 ng6 fp6 kp6 fq6 kq6 ee6 ng7 fp7 kp7 fq7 kq7 ee7 ng8 fp8 kp8 fq8 kq8 ee8 ng9 fp9 kp9 fq9 kq9 ee9 x n up) = sgM N (sgp (decide (x < 0)) n.toInt.natAbs) ∧ (up = sgp (decide (x < 0)) n.toInt.natAbs → FL N (1 * 1 * WW (0 - exf x * (n.toInt.natAbs : Int))) (1 * sgf x ^ n.toInt.natAbs)) ∧ (up ≠ sgp (decide (x < 0)) n.toInt.natAbs → CE N (1 * 1 * WW (0 - exf x * (n.toInt.natAbs : Int))) (1 * sgf x ^ n.toInt.natAbs)) := by
  have hv := ab_v fl kl fr kr ng2 fp2 kp2 fq2 kq2 ee2 ng4 fp4 kp4 fq4 kq4 ee4 ng6 fp6 kp6 fq6 kq6 ee6 ng7 fp7 kp7 fq7 kq7 ee7 ng8 fp8 kp8 fq8 kq8 ee8 ng9 fp9 kp9 fq9 kq9 ee9 x n up hn1 hn2
  have hm : n.toInt.natAbs ≤ 40 := by
    rw [Int32.lt_iff_toInt_lt] at hn1 hn2
    have c1 : (40 : Int32).toInt = 40 := rfl
    have c2 : (-40 : Int32).toInt = -40 := rfl
    rw [c2] at hn1
    rw [c1] at hn2
    omega
  have g1 := exf_ge x
  have g2 := exf_le x
  have hw := pw_NU ng8 fp8 kp8 fq8 kq8 ee8 ng7 fp7 kp7 fq7 kq7 ee7 ng9 fp9 kp9 fq9 kq9 ee9 x (v_M_power_1 fl kl fr kr ng2 fp2 kp2 fq2 kq2 ee2 ng4 fp4 kp4 fq4 kq4 ee4 ng6 fp6 kp6 fq6 kq6 ee6 ng7 fp7 kp7 fq7 kq7 ee7 ng8 fp8 kp8 fq8 kq8 ee8 ng9 fp9 kp9 fq9 kq9 ee9 x n up) (by rw [hv]; exact hm)
  have hw1 : NU (v_M_power_3 fl kl fr kr ng2 fp2 kp2 fq2 kq2 ee2 ng4 fp4 kp4 fq4 kq4 ee4 ng6 fp6 kp6 fq6 kq6 ee6 ng7 fp7 kp7 fq7 kq7 ee7 ng8 fp8 kp8 fq8 kq8 ee8 ng9 fp9 kp9 fq9 kq9 ee9 x n up) (v_M_power_4 fl kl fr kr ng2 fp2 kp2 fq2 kq2 ee2 ng4 fp4 kp4 fq4 kq4 ee4 ng6 fp6 kp6 fq6 kq6 ee6 ng7 fp7 kp7 fq7 kq7 ee7 ng8 fp8 kp8 fq8 kq8 ee8 ng9 fp9 kp9 fq9 kq9 ee9 x n up) (v_M_power_5 fl kl fr kr ng2 fp2 kp2 fq2 kq2 ee2 ng4 fp4 kp4 fq4 kq4 ee4 ng6 fp6 kp6 fq6 kq6 ee6 ng7 fp7 kp7 fq7 kq7 ee7 ng8 fp8 kp8 fq8 kq8 ee8 ng9 fp9 kp9 fq9 kq9 ee9 x n up) (v_M_power_6 fl kl fr kr ng2 fp2 kp2 fq2 kq2 ee2 ng4 fp4 kp4 fq4 kq4 ee4 ng6 fp6 kp6 fq6 kq6 ee6 ng7 fp7 kp7 fq7 kq7 ee7 ng8 fp8 kp8 fq8 kq8 ee8 ng9 fp9 kp9 fq9 kq9 ee9 x n up) (v_M_power_7 fl kl fr kr ng2 fp2 kp2 fq2 kq2 ee2 ng4 fp4 kp4 fq4 kq4 ee4 ng6 fp6 kp6 fq6 kq6 ee6 ng7 fp7 kp7 fq7 kq7 ee7 ng8 fp8 kp8 fq8 kq8 ee8 ng9 fp9 kp9 fq9 kq9 ee9 x n up) (sgf x ^ (v_M_power_1 fl kl fr kr ng2 fp2 kp2 fq2 kq2 ee2 ng4 fp4 kp4 fq4 kq4 ee4 ng6 fp6 kp6 fq6 kq6 ee6 ng7 fp7 kp7 fq7 kq7 ee7 ng8 fp8 kp8 fq8 kq8 ee8 ng9 fp9 kp9 fq9 kq9 ee9 x n up)) 1 (exf x * ((v_M_power_1 fl kl fr kr ng2 fp2 kp2 fq2 kq2 ee2 ng4 fp4 kp4 fq4 kq4 ee4 ng6 fp6 kp6 fq6 kq6 ee6 ng7 fp7 kp7 fq7 kq7 ee7 ng8 fp8 kp8 fq8 kq8 ee8 ng9 fp9 kp9 fq9 kq9 ee9 x n up) : Nat)) := hw.1
  have hw2 : (v_M_power_2 fl kl fr kr ng2 fp2 kp2 fq2 kq2 ee2 ng4 fp4 kp4 fq4 kq4 ee4 ng6 fp6 kp6 fq6 kq6 ee6 ng7 fp7 kp7 fq7 kq7 ee7 ng8 fp8 kp8 fq8 kq8 ee8 ng9 fp9 kp9 fq9 kq9 ee9 x n up) = sgp (decide (x < 0)) (v_M_power_1 fl kl fr kr ng2 fp2 kp2 fq2 kq2 ee2 ng4 fp4 kp4 fq4 kq4 ee4 ng6 fp6 kp6 fq6 kq6 ee6 ng7 fp7 kp7 fq7 kq7 ee7 ng8 fp8 kp8 fq8 kq8 ee8 ng9 fp9 kp9 fq9 kq9 ee9 x n up) := hw.2
  rw [hv] at hw1 hw2
  clear hw
  have hk := pw_k hw1 (sgf_lt x) hm
  have hr := em_rng (e := exf x) (j := n.toInt.natAbs) (by omega) (by omega) hm
  have n6 : NU (v_M_power_21 fl kl fr kr ng2 fp2 kp2 fq2 kq2 ee2 ng4 fp4 kp4 fq4 kq4 ee4 ng6 fp6 kp6 fq6 kq6 ee6 ng7 fp7 kp7 fq7 kq7 ee7 ng8 fp8 kp8 fq8 kq8 ee8 ng9 fp9 kp9 fq9 kq9 ee9 x n up) (v_M_power_22 fl kl fr kr ng2 fp2 kp2 fq2 kq2 ee2 ng4 fp4 kp4 fq4 kq4 ee4 ng6 fp6 kp6 fq6 kq6 ee6 ng7 fp7 kp7 fq7 kq7 ee7 ng8 fp8 kp8 fq8 kq8 ee8 ng9 fp9 kp9 fq9 kq9 ee9 x n up) (v_M_power_23 fl kl fr kr ng2 fp2 kp2 fq2 kq2 ee2 ng4 fp4 kp4 fq4 kq4 ee4 ng6 fp6 kp6 fq6 kq6 ee6 ng7 fp7 kp7 fq7 kq7 ee7 ng8 fp8 kp8 fq8 kq8 ee8 ng9 fp9 kp9 fq9 kq9 ee9 x n up) (v_M_power_24 fl kl fr kr ng2 fp2 kp2 fq2 kq2 ee2 ng4 fp4 kp4 fq4 kq4 ee4 ng6 fp6 kp6 fq6 kq6 ee6 ng7 fp7 kp7 fq7 kq7 ee7 ng8 fp8 kp8 fq8 kq8 ee8 ng9 fp9 kp9 fq9 kq9 ee9 x n up) (v_M_power_25 fl kl fr kr ng2 fp2 kp2 fq2 kq2 ee2 ng4 fp4 kp4 fq4 kq4 ee4 ng6 fp6 kp6 fq6 kq6 ee6 ng7 fp7 kp7 fq7 kq7 ee7 ng8 fp8 kp8 fq8 kq8 ee8 ng9 fp9 kp9 fq9 kq9 ee9 x n up) 1 1 0 := set1_NU ng6 fp6 kp6 fq6 kq6 ee6
  have l6 : (v_M_power_22 fl kl fr kr ng2 fp2 kp2 fq2 kq2 ee2 ng4 fp4 kp4 fq4 kq4 ee4 ng6 fp6 kp6 fq6 kq6 ee6 ng7 fp7 kp7 fq7 kq7 ee7 ng8 fp8 kp8 fq8 kq8 ee8 ng9 fp9 kp9 fq9 kq9 ee9 x n up) ≤ 1 := n6.1.len (by decide)
  have l6q : (v_M_power_24 fl kl fr kr ng2 fp2 kp2 fq2 kq2 ee2 ng4 fp4 kp4 fq4 kq4 ee4 ng6 fp6 kp6 fq6 kq6 ee6 ng7 fp7 kp7 fq7 kq7 ee7 ng8 fp8 kp8 fq8 kq8 ee8 ng9 fp9 kp9 fq9 kq9 ee9 x n up) ≤ 1 := n6.2.1.len (by decide)
  have n9 := ov_NU (v_M_power_14 fl kl fr kr ng2 fp2 kp2 fq2 kq2 ee2 ng4 fp4 kp4 fq4 kq4 ee4 ng6 fp6 kp6 fq6 kq6 ee6 ng7 fp7 kp7 fq7 kq7 ee7 ng8 fp8 kp8 fq8 kq8 ee8 ng9 fp9 kp9 fq9 kq9 ee9 x n up) (v_M_power_15 fl kl fr kr ng2 fp2 kp2 fq2 kq2 ee2 ng4 fp4 kp4 fq4 kq4 ee4 ng6 fp6 kp6 fq6 kq6 ee6 ng7 fp7 kp7 fq7 kq7 ee7 ng8 fp8 kp8 fq8 kq8 ee8 ng9 fp9 kp9 fq9 kq9 ee9 x n up) (v_M_power_16 fl kl fr kr ng2 fp2 kp2 fq2 kq2 ee2 ng4 fp4 kp4 fq4 kq4 ee4 ng6 fp6 kp6 fq6 kq6 ee6 ng7 fp7 kp7 fq7 kq7 ee7 ng8 fp8 kp8 fq8 kq8 ee8 ng9 fp9 kp9 fq9 kq9 ee9 x n up) (v_M_power_17 fl kl fr kr ng2 fp2 kp2 fq2 kq2 ee2 ng4 fp4 kp4 fq4 kq4 ee4 ng6 fp6 kp6 fq6 kq6 ee6 ng7 fp7 kp7 fq7 kq7 ee7 ng8 fp8 kp8 fq8 kq8 ee8 ng9 fp9 kp9 fq9 kq9 ee9 x n up) (v_M_power_18 fl kl fr kr ng2 fp2 kp2 fq2 kq2 ee2 ng4 fp4 kp4 fq4 kq4 ee4 ng6 fp6 kp6 fq6 kq6 ee6 ng7 fp7 kp7 fq7 kq7 ee7 ng8 fp8 kp8 fq8 kq8 ee8 ng9 fp9 kp9 fq9 kq9 ee9 x n up) (v_M_power_19 fl kl fr kr ng2 fp2 kp2 fq2 kq2 ee2 ng4 fp4 kp4 fq4 kq4 ee4 ng6 fp6 kp6 fq6 kq6 ee6 ng7 fp7 kp7 fq7 kq7 ee7 ng8 fp8 kp8 fq8 kq8 ee8 ng9 fp9 kp9 fq9 kq9 ee9 x n up) (ng2 := (v_M_power_20 fl kl fr kr ng2 fp2 kp2 fq2 kq2 ee2 ng4 fp4 kp4 fq4 kq4 ee4 ng6 fp6 kp6 fq6 kq6 ee6 ng7 fp7 kp7 fq7 kq7 ee7 ng8 fp8 kp8 fq8 kq8 ee8 ng9 fp9 kp9 fq9 kq9 ee9 x n up)) (ng3 := (v_M_power_2 fl kl fr kr ng2 fp2 kp2 fq2 kq2 ee2 ng4 fp4 kp4 fq4 kq4 ee4 ng6 fp6 kp6 fq6 kq6 ee6 ng7 fp7 kp7 fq7 kq7 ee7 ng8 fp8 kp8 fq8 kq8 ee8 ng9 fp9 kp9 fq9 kq9 ee9 x n up)) n6 hw1 (by omega) (by omega) (by omega) (by omega)
  have k9 := ov_k (v_M_power_14 fl kl fr kr ng2 fp2 kp2 fq2 kq2 ee2 ng4 fp4 kp4 fq4 kq4 ee4 ng6 fp6 kp6 fq6 kq6 ee6 ng7 fp7 kp7 fq7 kq7 ee7 ng8 fp8 kp8 fq8 kq8 ee8 ng9 fp9 kp9 fq9 kq9 ee9 x n up) (v_M_power_15 fl kl fr kr ng2 fp2 kp2 fq2 kq2 ee2 ng4 fp4 kp4 fq4 kq4 ee4 ng6 fp6 kp6 fq6 kq6 ee6 ng7 fp7 kp7 fq7 kq7 ee7 ng8 fp8 kp8 fq8 kq8 ee8 ng9 fp9 kp9 fq9 kq9 ee9 x n up) (v_M_power_16 fl kl fr kr ng2 fp2 kp2 fq2 kq2 ee2 ng4 fp4 kp4 fq4 kq4 ee4 ng6 fp6 kp6 fq6 kq6 ee6 ng7 fp7 kp7 fq7 kq7 ee7 ng8 fp8 kp8 fq8 kq8 ee8 ng9 fp9 kp9 fq9 kq9 ee9 x n up) (v_M_power_17 fl kl fr kr ng2 fp2 kp2 fq2 kq2 ee2 ng4 fp4 kp4 fq4 kq4 ee4 ng6 fp6 kp6 fq6 kq6 ee6 ng7 fp7 kp7 fq7 kq7 ee7 ng8 fp8 kp8 fq8 kq8 ee8 ng9 fp9 kp9 fq9 kq9 ee9 x n up) (v_M_power_18 fl kl fr kr ng2 fp2 kp2 fq2 kq2 ee2 ng4 fp4 kp4 fq4 kq4 ee4 ng6 fp6 kp6 fq6 kq6 ee6 ng7 fp7 kp7 fq7 kq7 ee7 ng8 fp8 kp8 fq8 kq8 ee8 ng9 fp9 kp9 fq9 kq9 ee9 x n up) (v_M_power_19 fl kl fr kr ng2 fp2 kp2 fq2 kq2 ee2 ng4 fp4 kp4 fq4 kq4 ee4 ng6 fp6 kp6 fq6 kq6 ee6 ng7 fp7 kp7 fq7 kq7 ee7 ng8 fp8 kp8 fq8 kq8 ee8 ng9 fp9 kp9 fq9 kq9 ee9 x n up) (ng2 := (v_M_power_20 fl kl fr kr ng2 fp2 kp2 fq2 kq2 ee2 ng4 fp4 kp4 fq4 kq4 ee4 ng6 fp6 kp6 fq6 kq6 ee6 ng7 fp7 kp7 fq7 kq7 ee7 ng8 fp8 kp8 fq8 kq8 ee8 ng9 fp9 kp9 fq9 kq9 ee9 x n up)) (ng3 := (v_M_power_2 fl kl fr kr ng2 fp2 kp2 fq2 kq2 ee2 ng4 fp4 kp4 fq4 kq4 ee4 ng6 fp6 kp6 fq6 kq6 ee6 ng7 fp7 kp7 fq7 kq7 ee7 ng8 fp8 kp8 fq8 kq8 ee8 ng9 fp9 kp9 fq9 kq9 ee9 x n up)) n6 hw1 (by omega) (by omega)
  have hQ : 0 < 1 * sgf x ^ n.toInt.natAbs := by
    have : 0 < sgf x ^ n.toInt.natAbs := Nat.pow_pos (by omega)
    omega
  obtain ⟨N, j1, j2, j3, j4⟩ := rd_ok fl kl fr kr ng2 fp2 kp2 fq2 kq2 ee2 ng4 fp4 kp4 fq4 kq4 ee4 (v_M_power_26 fl kl fr kr ng2 fp2 kp2 fq2 kq2 ee2 ng4 fp4 kp4 fq4 kq4 ee4 ng6 fp6 kp6 fq6 kq6 ee6 ng7 fp7 kp7 fq7 kq7 ee7 ng8 fp8 kp8 fq8 kq8 ee8 ng9 fp9 kp9 fq9 kq9 ee9 x n up) _ _ _ _ _ up n9 hQ (Nat.le_trans k9.2 (by omega)) (Nat.le_trans k9.1 (by omega)) (by omega) (by omega)
  have e32 : (v_M_power_32 fl kl fr kr ng2 fp2 kp2 fq2 kq2 ee2 ng4 fp4 kp4 fq4 kq4 ee4 ng6 fp6 kp6 fq6 kq6 ee6 ng7 fp7 kp7 fq7 kq7 ee7 ng8 fp8 kp8 fq8 kq8 ee8 ng9 fp9 kp9 fq9 kq9 ee9 x n up) = sgM N (v_M_power_26 fl kl fr kr ng2 fp2 kp2 fq2 kq2 ee2 ng4 fp4 kp4 fq4 kq4 ee4 ng6 fp6 kp6 fq6 kq6 ee6 ng7 fp7 kp7 fq7 kq7 ee7 ng8 fp8 kp8 fq8 kq8 ee8 ng9 fp9 kp9 fq9 kq9 ee9 x n up) := j2
  have e26 : (v_M_power_26 fl kl fr kr ng2 fp2 kp2 fq2 kq2 ee2 ng4 fp4 kp4 fq4 kq4 ee4 ng6 fp6 kp6 fq6 kq6 ee6 ng7 fp7 kp7 fq7 kq7 ee7 ng8 fp8 kp8 fq8 kq8 ee8 ng9 fp9 kp9 fq9 kq9 ee9 x n up) = sgp (decide (x < 0)) n.toInt.natAbs := by
    have d26 : (v_M_power_26 fl kl fr kr ng2 fp2 kp2 fq2 kq2 ee2 ng4 fp4 kp4 fq4 kq4 ee4 ng6 fp6 kp6 fq6 kq6 ee6 ng7 fp7 kp7 fq7 kq7 ee7 ng8 fp8 kp8 fq8 kq8 ee8 ng9 fp9 kp9 fq9 kq9 ee9 x n up) = if (v_M_power_20 fl kl fr kr ng2 fp2 kp2 fq2 kq2 ee2 ng4 fp4 kp4 fq4 kq4 ee4 ng6 fp6 kp6 fq6 kq6 ee6 ng7 fp7 kp7 fq7 kq7 ee7 ng8 fp8 kp8 fq8 kq8 ee8 ng9 fp9 kp9 fq9 kq9 ee9 x n up) = (v_M_power_2 fl kl fr kr ng2 fp2 kp2 fq2 kq2 ee2 ng4 fp4 kp4 fq4 kq4 ee4 ng6 fp6 kp6 fq6 kq6 ee6 ng7 fp7 kp7 fq7 kq7 ee7 ng8 fp8 kp8 fq8 kq8 ee8 ng9 fp9 kp9 fq9 kq9 ee9 x n up) then false else true := rfl
    have d20 : (v_M_power_20 fl kl fr kr ng2 fp2 kp2 fq2 kq2 ee2 ng4 fp4 kp4 fq4 kq4 ee4 ng6 fp6 kp6 fq6 kq6 ee6 ng7 fp7 kp7 fq7 kq7 ee7 ng8 fp8 kp8 fq8 kq8 ee8 ng9 fp9 kp9 fq9 kq9 ee9 x n up) = false := by show (if (0 : Int64) ≤ 1 then false else true) = false; decide
    rw [d26, d20, hw2]
    cases sgp (decide (x < 0)) n.toInt.natAbs <;> rfl
  rw [e26] at e32 j3 j4
  exact ⟨N, e32, j3, j4⟩
theorem eq_power : pF_power f3 k3 f4 k4 x n up = pM_power fl kl fr kr ng2 fp2 kp2 fq2 kq2 ee2 ng4 fp4 kp4 fq4 kq4 ee4 ng6 fp6 kp6 fq6 kq6 ee6 ng7 fp7 kp7 fq7 kq7 ee7 ng8 fp8 kp8 fq8 kq8 ee8 ng9 fp9 kp9 fq9 kq9 ee9 x n up := by
  have nx : pF_isNaN x = pM_isNan x := rfl
  have ix : pF_isInfinite x = pM_isInfinite x := rfl
  have zx : pF_isZero x = pM_isZero x := rfl
  have p1 : (n < (-40 : Int32)) = (n.toInt < -40) := propext (i_lt (show n.toInt = n.toInt from rfl) (show (-40 : Int32).toInt = -40 from rfl))
  have p2 : ((40 : Int32) < n) = (40 < n.toInt) := propext (i_lt (show (40 : Int32).toInt = 40 from rfl) (show n.toInt = n.toInt from rfl))
  have p3 : ((0 : Int32) ≤ n) = (0 ≤ n.toInt) := propext (i_le (show (0 : Int32).toInt = 0 from rfl) (show n.toInt = n.toInt from rfl))
  have p4 : (n = (0 : Int32)) = (n.toInt = 0) := propext (i_eq (show n.toInt = n.toInt from rfl) (show (0 : Int32).toInt = 0 from rfl))
  have p5 : (n ≤ (0 : Int32)) = (n.toInt ≤ 0) := propext (i_le (show n.toInt = n.toInt from rfl) (show (0 : Int32).toInt = 0 from rfl))
  have a7 : (v_F_power_7 f3 k3 f4 k4 x n up) = if n ≤ 0 then (0 : Int64) else pF_withSign (9218868437227405312 : Int64) (v_F_power_1 f3 k3 f4 k4 x n up) := rfl
  have a14 : (v_F_power_14 f3 k3 f4 k4 x n up) = (v_F_power_7 f3 k3 f4 k4 x n up) := rfl
  have a9 : (v_F_power_9 f3 k3 f4 k4 x n up) = (v_F_power_2 f3 k3 f4 k4 x n up) := rfl
  have b134 : (v_M_power_134 fl kl fr kr ng2 fp2 kp2 fq2 kq2 ee2 ng4 fp4 kp4 fq4 kq4 ee4 ng6 fp6 kp6 fq6 kq6 ee6 ng7 fp7 kp7 fq7 kq7 ee7 ng8 fp8 kp8 fq8 kq8 ee8 ng9 fp9 kp9 fq9 kq9 ee9 x n up) = (v_M_power_67 fl kl fr kr ng2 fp2 kp2 fq2 kq2 ee2 ng4 fp4 kp4 fq4 kq4 ee4 ng6 fp6 kp6 fq6 kq6 ee6 ng7 fp7 kp7 fq7 kq7 ee7 ng8 fp8 kp8 fq8 kq8 ee8 ng9 fp9 kp9 fq9 kq9 ee9 x n up) := rfl
  have b99 : (v_M_power_99 fl kl fr kr ng2 fp2 kp2 fq2 kq2 ee2 ng4 fp4 kp4 fq4 kq4 ee4 ng6 fp6 kp6 fq6 kq6 ee6 ng7 fp7 kp7 fq7 kq7 ee7 ng8 fp8 kp8 fq8 kq8 ee8 ng9 fp9 kp9 fq9 kq9 ee9 x n up) = (v_M_power_32 fl kl fr kr ng2 fp2 kp2 fq2 kq2 ee2 ng4 fp4 kp4 fq4 kq4 ee4 ng6 fp6 kp6 fq6 kq6 ee6 ng7 fp7 kp7 fq7 kq7 ee7 ng8 fp8 kp8 fq8 kq8 ee8 ng9 fp9 kp9 fq9 kq9 ee9 x n up) := rfl
  have b116 : (v_M_power_116 fl kl fr kr ng2 fp2 kp2 fq2 kq2 ee2 ng4 fp4 kp4 fq4 kq4 ee4 ng6 fp6 kp6 fq6 kq6 ee6 ng7 fp7 kp7 fq7 kq7 ee7 ng8 fp8 kp8 fq8 kq8 ee8 ng9 fp9 kp9 fq9 kq9 ee9 x n up) = (v_M_power_49 fl kl fr kr ng2 fp2 kp2 fq2 kq2 ee2 ng4 fp4 kp4 fq4 kq4 ee4 ng6 fp6 kp6 fq6 kq6 ee6 ng7 fp7 kp7 fq7 kq7 ee7 ng8 fp8 kp8 fq8 kq8 ee8 ng9 fp9 kp9 fq9 kq9 ee9 x n up) := rfl
  have b67 : (v_M_power_67 fl kl fr kr ng2 fp2 kp2 fq2 kq2 ee2 ng4 fp4 kp4 fq4 kq4 ee4 ng6 fp6 kp6 fq6 kq6 ee6 ng7 fp7 kp7 fq7 kq7 ee7 ng8 fp8 kp8 fq8 kq8 ee8 ng9 fp9 kp9 fq9 kq9 ee9 x n up) = if 0 ≤ n then pM_infinity (v_M_power_66 fl kl fr kr ng2 fp2 kp2 fq2 kq2 ee2 ng4 fp4 kp4 fq4 kq4 ee4 ng6 fp6 kp6 fq6 kq6 ee6 ng7 fp7 kp7 fq7 kq7 ee7 ng8 fp8 kp8 fq8 kq8 ee8 ng9 fp9 kp9 fq9 kq9 ee9 x n up) else (0 : Int64) := rfl
  have hng := ng_c f3 k3 f4 k4 x n up
  have a2 : (v_F_power_2 f3 k3 f4 k4 x n up) = pF_powerOfFinite f3 k3 f4 k4 x n (v_F_power_1 f3 k3 f4 k4 x n up) (pF_direction up) := rfl
  cases hx : pM_isNan x with
  | true => simp only [pF_power, pM_power, nx, hx, if_true]
  | false =>
    by_cases q1 : n.toInt < -40
    · have q2 : ¬ 40 < n.toInt := by omega
      simp only [pF_power, pM_power, nx, hx, p1, p2, eq_true q1, eq_false q2, if_true, Bool.false_eq_true, if_false]
    · by_cases q2 : 40 < n.toInt
      · simp only [pF_power, pM_power, nx, hx, p1, p2, eq_false q1, eq_true q2, if_true, Bool.false_eq_true, if_false]
      · have h1 : ¬ n < (-40) := by rw [p1]; exact q1
        have h2 : ¬ 40 < n := by rw [p2]; exact q2
        by_cases q0 : n.toInt = 0
        · have q3 : 0 ≤ n.toInt := by omega
          simp only [pF_power, pM_power, nx, hx, p1, p2, p3, p4, eq_false q1, eq_false q2, eq_true q3, eq_true q0, if_true, Bool.false_eq_true, if_false, ite_self]
        · by_cases q3 : 0 ≤ n.toInt
          · -- n is above 0
            have q5 : ¬ n.toInt ≤ 0 := by omega
            obtain ⟨N, j1, j2, j3⟩ := pp_in fl kl fr kr ng2 fp2 kp2 fq2 kq2 ee2 ng4 fp4 kp4 fq4 kq4 ee4 ng6 fp6 kp6 fq6 kq6 ee6 ng7 fp7 kp7 fq7 kq7 ee7 ng8 fp8 kp8 fq8 kq8 ee8 ng9 fp9 kp9 fq9 kq9 ee9 x n up h1 h2
            have en : ((n.toInt.natAbs : Nat) : Int) = n.toInt := by omega
            cases qx : pM_isZero x with
            | true =>
              have hm : mg x = 0 := by rw [mzero_ok] at qx; exact of_decide_eq_true qx
              have hinf : pM_isInfinite x = false := by rw [minf_ok, hm]; decide
              have hs : sgf x = 0 := (sgf_0 x).mpr hm
              have hp0 : sgf x ^ n.toInt.natAbs * WW (exf x * (n.toInt.natAbs : Int)) = 0 := by rw [hs, Nat.zero_pow (by omega), Nat.zero_mul]
              rw [hp0] at j2 j3
              have hN : N = 0 := by
                by_cases u : up = sgp (decide (x < 0)) n.toInt.natAbs
                · exact FL_z (by decide) (j2 u)
                · exact CE_z (by decide) (j3 u)
              have e49 : (v_M_power_49 fl kl fr kr ng2 fp2 kp2 fq2 kq2 ee2 ng4 fp4 kp4 fq4 kq4 ee4 ng6 fp6 kp6 fq6 kq6 ee6 ng7 fp7 kp7 fq7 kq7 ee7 ng8 fp8 kp8 fq8 kq8 ee8 ng9 fp9 kp9 fq9 kq9 ee9 x n up) = (0 : Int64) := by rw [j1, hN, sgM_0]
              simp only [pF_power, pM_power, nx, hx, zx, qx, hinf, p1, p2, p3, p4, p5, eq_false q1, eq_false q2, eq_true q3, eq_false q0, eq_false q5, e49, if_true, Bool.false_eq_true, if_false]
            | false =>
              have hs : sgf x ≠ 0 := by rw [isz_sgf] at qx; exact of_decide_eq_false qx
              cases jx : pM_isInfinite x with
              | true =>
                have e66 : (v_M_power_66 fl kl fr kr ng2 fp2 kp2 fq2 kq2 ee2 ng4 fp4 kp4 fq4 kq4 ee4 ng6 fp6 kp6 fq6 kq6 ee6 ng7 fp7 kp7 fq7 kq7 ee7 ng8 fp8 kp8 fq8 kq8 ee8 ng9 fp9 kp9 fq9 kq9 ee9 x n up) = (v_F_power_1 f3 k3 f4 k4 x n up) := by
                  rw [hng]
                  show (if (0 : Int64) ≤ x then false else (if (n - n / (2 : Int32) * (2 : Int32)) = (1 : Int32) then true else false)) = _
                  have hz := neg_z x
                  unfold sgp
                  have en2 : n = nI n.toInt.natAbs := i_nI (by omega) (by omega)
                  have er : n - n / (2 : Int32) * (2 : Int32) = nI (n.toInt.natAbs % 2) := by
                    have := pk_rem (a := n.toInt.natAbs) (d := 2) (by omega) (by decide) (by decide)
                    rw [← en2] at this
                    exact this
                  have c1 : nI (n.toInt.natAbs % 2) = (1 : Int32) ↔ n.toInt.natAbs % 2 = 1 := nI_eq (b := 1) (by omega) (by decide)
                  rw [er]
                  by_cases w : (0 : Int64) ≤ x
                  · rw [if_pos w] at hz ⊢
                    rw [← hz]; rfl
                  · rw [if_neg w] at hz ⊢
                    rw [← hz, Bool.true_and]
                    by_cases u : n.toInt.natAbs % 2 = 1
                    · rw [if_pos (c1.mpr u), decide_eq_true u]
                    · rw [if_neg (fun y => u (c1.mp y)), decide_eq_false u]
                simp only [pF_power, pM_power, nx, hx, zx, qx, ix, jx, a7, b67, e66, inf_sg, p1, p2, p3, p4, p5, eq_false q1, eq_false q2, eq_true q3, eq_false q0, eq_false q5, if_true, Bool.false_eq_true, if_false]
              | false =>
                simp only [pF_power, pM_power, nx, hx, zx, qx, ix, jx, p1, p2, p3, p4, p5, eq_false q1, eq_false q2, eq_true q3, eq_false q0, eq_false q5, if_true, Bool.false_eq_true, if_false]
                obtain ⟨M, o, t, m1, m2, m3, m4, m5, m6, m7⟩ := pf_ok f3 k3 f4 k4 x n (v_F_power_1 f3 k3 f4 k4 x n up) (pF_direction up) hs h1 h2 q0
                rw [a2, m5, j1, hng]
                rw [hng] at m6
                have := RD_eq (m6 (by omega)) j2 j3 (by
                  rw [Nat.mul_one, Nat.mul_one, m2, Nat.mul_pow, ← Nat.pow_mul, Nat.mul_assoc]
                  congr 1
                  rw [Nat.mul_comm (2 ^ _)]
                  refine WW_eq (t * n.toInt.natAbs) ?_ ?_
                  · have g1 := exf_ge x
                    have g2 := exf_le x
                    have := em_rng (e := exf x) (j := n.toInt.natAbs) (by omega) (by omega) (by omega)
                    omega
                  · rw [en, Int.natCast_mul, en, Int.add_mul]) (by decide) (by decide)
                rw [this]
          · -- n is below 0
            have q5 : n.toInt ≤ 0 := by omega
            cases qx : pM_isZero x with
            | true => simp only [pF_power, pM_power, nx, hx, zx, qx, p1, p2, p3, eq_false q1, eq_false q2, eq_false q3, if_true, Bool.false_eq_true, if_false]
            | false =>
              have hs : sgf x ≠ 0 := by rw [isz_sgf] at qx; exact of_decide_eq_false qx
              cases jx : pM_isInfinite x with
              | true => simp only [pF_power, pM_power, nx, hx, zx, qx, ix, jx, a7, b134, b67, p1, p2, p3, p4, p5, eq_false q1, eq_false q2, eq_false q3, eq_false q0, eq_true q5, if_true, Bool.false_eq_true, if_false]
              | false =>
                simp only [pF_power, pM_power, nx, hx, zx, qx, ix, jx, b99, p1, p2, p3, p4, p5, eq_false q1, eq_false q2, eq_false q3, eq_false q0, eq_true q5, if_true, Bool.false_eq_true, if_false]
                obtain ⟨N, j1, j2, j3⟩ := pn_in fl kl fr kr ng2 fp2 kp2 fq2 kq2 ee2 ng4 fp4 kp4 fq4 kq4 ee4 ng6 fp6 kp6 fq6 kq6 ee6 ng7 fp7 kp7 fq7 kq7 ee7 ng8 fp8 kp8 fq8 kq8 ee8 ng9 fp9 kp9 fq9 kq9 ee9 x n up hs h1 h2
                obtain ⟨M, o, t, m1, m2, m3, m4, m5, m6, m7⟩ := pf_ok f3 k3 f4 k4 x n (v_F_power_1 f3 k3 f4 k4 x n up) (pF_direction up) hs h1 h2 q0
                have en : ((n.toInt.natAbs : Nat) : Int) = -n.toInt := by omega
                rw [a2, m5, j1, hng]
                rw [hng] at m7
                have hop : 0 < o ^ n.toInt.natAbs := Nat.pow_pos m4
                have := RD_eq (m7 (by omega)) j2 j3 (by
                  have e1 : WW (0 - exf x * (n.toInt.natAbs : Int)) = WW ((exf x + t) * n.toInt) * 2 ^ (t * n.toInt.natAbs) := by
                    refine WW_eq (t * n.toInt.natAbs) ?_ ?_
                    · have g1 := exf_ge x
                      have g2 := exf_le x
                      have := em_rng (e := exf x + t) (j := n.toInt.natAbs) (by omega) (by omega) (by omega)
                      rw [en, Int.mul_neg] at this
                      omega
                    · rw [Int.natCast_mul, en, Int.add_mul, Int.mul_neg, Int.mul_neg]
                      omega
                  rw [e1, Nat.one_mul, Nat.one_mul, m2, Nat.mul_pow, ← Nat.pow_mul]
                  generalize WW ((exf x + t) * n.toInt) = a
                  generalize 2 ^ (t * n.toInt.natAbs) = d
                  generalize o ^ n.toInt.natAbs = g
                  rw [Nat.mul_comm g d, ← Nat.mul_assoc]) hop (by
                  have : 0 < sgf x ^ n.toInt.natAbs := Nat.pow_pos (by omega)
                  omega)
                rw [this]
end EP

