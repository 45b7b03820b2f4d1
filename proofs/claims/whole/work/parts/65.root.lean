/-! ROOTS -/
def FR (M R : Nat) : Prop := M < IM ∧ FV M * FV M ≤ R ∧ (M + 1 < IM → R < FV (M + 1) * FV (M + 1))
def CR (M R : Nat) : Prop := M ≤ IM ∧ (M < IM → R ≤ FV M * FV M) ∧ ∀ N, M = N + 1 → FV N * FV N < R
def rT (S i : Nat) : Nat := if i ≤ 27 then S / 4 ^ (27 - i) else S * 4 ^ (i - 27)
theorem rT_s {S j : Nat} (h : 1 ≤ j) : rT S j = 4 * rT S (j - 1) + (if 27 < j then 0 else S / 4 ^ (27 - j) % 4) := by
  unfold rT
  by_cases c : 27 < j
  · rw [if_pos c, if_neg (by omega)]
    by_cases c2 : j = 28
    · subst c2; rw [if_pos (by decide)]; simp; omega
    · rw [if_neg (by omega)]
      have e : j - 27 = (j - 1 - 27) + 1 := by omega
      rw [e, Nat.pow_succ, Nat.add_zero, Nat.mul_comm (4 ^ _) 4, Nat.mul_left_comm]
  · rw [if_neg c, if_pos (by omega), if_pos (by omega)]
    have e : 27 - (j - 1) = (27 - j) + 1 := by omega
    rw [e, Nat.pow_succ, ← Nat.div_div_eq_div_mul]
    omega
theorem rt_pair {S j : Nat} (hS : S < 2 ^ 63) (hj : j < 100) (a b : Int64) : v_F_rootOfFinite_10 (lN S) j a b = lN (if 27 < j then 0 else S / 4 ^ (27 - j) % 4) := by
  show (if (27 : Int32) < nI j then lN 0 else jlush (lN S) ((2 : Int32) * ((27 : Int32) - nI j)) &&& (3 : Int64)) = _
  have c : (27 : Int32) < nI j ↔ 27 < j := nI_ltI (a := 27) (b := j) (by decide) (by omega)
  by_cases h : 27 < j
  · rw [if_pos (c.mpr h), if_pos h]
  · rw [if_neg (fun z => h (c.mp z)), if_neg h]
    have e1 : (27 : Int32) - nI j = nI (27 - j) := pk_sub (a := 27) (by omega)
    have e2 : (2 : Int32) * nI (27 - j) = nI (2 * (27 - j)) := pk_mul 2 (27 - j)
    have e3 : (3 : Int64) = lN (2 ^ 2 - 1) := by decide
    rw [e1, e2, l_ush (by omega) (by omega), e3, l_and (Nat.lt_of_le_of_lt (Nat.div_le_self _ _) (by omega)) (by decide), Nat.pow_mul]
theorem rt_loop {S : Nat} (hS : S < 2 ^ 54) : ∀ (n j d r : Nat), n + j = 56 → 1 ≤ j → d < 2 ^ (j - 1) → d * d + r = rT S (j - 1) → r ≤ 2 * d →
    ∃ d' r', qF_rootOfFinite_44 (lN S) n j (lN d) (lN r) = (lN d', lN r') ∧ d' * d' + r' = rT S 55 ∧ r' ≤ 2 * d' ∧ d' < 2 ^ 55 := by
  intro n
  induction n with
  | zero =>
    intro j d r hj h1 hd hi hr
    have : j - 1 = 55 := by omega
    rw [this] at hd hi
    exact ⟨d, r, rfl, hi, hr, hd⟩
  | succ n ih =>
    intro j d r hj h1 hd hi hr
    have hd2 : 2 ^ (j - 1) ≤ 2 ^ 54 := Nat.pow_le_pow_right (by decide) (by omega)
    have hp : 2 ^ (j + 1 - 1) = 2 ^ (j - 1) * 2 := by rw [← Nat.pow_succ]; congr 1; omega
    have hT := rT_s (S := S) h1
    have e10 := rt_pair (S := S) (j := j) (by omega) (by omega) (lN d) (lN r)
    have hpr : (if 27 < j then 0 else S / 4 ^ (27 - j) % 4) < 4 := by split <;> omega
    generalize (if 27 < j then 0 else S / 4 ^ (27 - j) % 4) = p at *
    have e11 : v_F_rootOfFinite_11 (lN S) j (lN d) (lN r) = lN (r * 2 ^ 2 + p) := by
      show jlshl (lN r) (nI 2) ||| v_F_rootOfFinite_10 (lN S) j (lN d) (lN r) = _
      rw [e10, l_shl (by omega) (by decide)]
      exact l_or (by omega) (by omega)
    have e12 : v_F_rootOfFinite_12 (lN S) j (lN d) (lN r) = lN (d * 2 ^ 2 + 1) := by
      show jlshl (lN d) (nI 2) ||| lN 1 = _
      rw [l_shl (by omega) (by decide)]
      exact l_or (by omega) (by omega)
    have e13 : v_F_rootOfFinite_13 (lN S) j (lN d) (lN r) = lN (d * 2 ^ 1) := l_shl (k := 1) (by omega) (by decide)
    have c : lN (r * 2 ^ 2 + p) < lN (d * 2 ^ 2 + 1) ↔ r * 2 ^ 2 + p < d * 2 ^ 2 + 1 := pk_lLT (by omega) (by omega)
    have hsq : (d * 2 ^ 1) * (d * 2 ^ 1) = 4 * (d * d) := by
      rw [Nat.mul_mul_mul_comm, Nat.mul_comm]
    by_cases h : r * 2 ^ 2 + p < d * 2 ^ 2 + 1
    · have e16 : v_F_rootOfFinite_16 (lN S) j (lN d) (lN r) = lN (d * 2 ^ 1) := by
        show (if v_F_rootOfFinite_11 (lN S) j (lN d) (lN r) < v_F_rootOfFinite_12 (lN S) j (lN d) (lN r) then v_F_rootOfFinite_13 (lN S) j (lN d) (lN r) else _) = _
        rw [e11, e12, if_pos (c.mpr h), e13]
      have e17 : v_F_rootOfFinite_17 (lN S) j (lN d) (lN r) = lN (r * 2 ^ 2 + p) := by
        show (if v_F_rootOfFinite_11 (lN S) j (lN d) (lN r) < v_F_rootOfFinite_12 (lN S) j (lN d) (lN r) then v_F_rootOfFinite_11 (lN S) j (lN d) (lN r) else _) = _
        rw [e11, e12, if_pos (c.mpr h)]
      obtain ⟨d', r', a1, a2, a3, a4⟩ := ih (j + 1) (d * 2 ^ 1) (r * 2 ^ 2 + p) (by omega) (by omega) (by omega) (by rw [hsq]; show _ = rT S j; omega) (by omega)
      refine ⟨d', r', ?_, a2, a3, a4⟩
      show qF_rootOfFinite_44 (lN S) n (j + 1) (v_F_rootOfFinite_16 (lN S) j (lN d) (lN r)) (v_F_rootOfFinite_17 (lN S) j (lN d) (lN r)) = _
      rw [e16, e17]; exact a1
    · have e15 : v_F_rootOfFinite_15 (lN S) j (lN d) (lN r) = lN (d * 2 ^ 1 + 1) := by
        show v_F_rootOfFinite_13 (lN S) j (lN d) (lN r) ||| lN 1 = _
        rw [e13]; exact l_or (k := 1) (by decide) (by omega)
      have e14 : v_F_rootOfFinite_14 (lN S) j (lN d) (lN r) = lN (r * 2 ^ 2 + p - (d * 2 ^ 2 + 1)) := by
        show v_F_rootOfFinite_11 (lN S) j (lN d) (lN r) - v_F_rootOfFinite_12 (lN S) j (lN d) (lN r) = _
        rw [e11, e12]; exact lN_sub (by omega)
      have e16 : v_F_rootOfFinite_16 (lN S) j (lN d) (lN r) = lN (d * 2 ^ 1 + 1) := by
        show (if v_F_rootOfFinite_11 (lN S) j (lN d) (lN r) < v_F_rootOfFinite_12 (lN S) j (lN d) (lN r) then _ else v_F_rootOfFinite_15 (lN S) j (lN d) (lN r)) = _
        rw [e11, e12, if_neg (fun z => h (c.mp z)), e15]
      have e17 : v_F_rootOfFinite_17 (lN S) j (lN d) (lN r) = lN (r * 2 ^ 2 + p - (d * 2 ^ 2 + 1)) := by
        show (if v_F_rootOfFinite_11 (lN S) j (lN d) (lN r) < v_F_rootOfFinite_12 (lN S) j (lN d) (lN r) then _ else v_F_rootOfFinite_14 (lN S) j (lN d) (lN r)) = _
        rw [e14, e11, e12, if_neg (fun z => h (c.mp z))]
      have hsq2 : (d * 2 ^ 1 + 1) * (d * 2 ^ 1 + 1) = 4 * (d * d) + 4 * d + 1 := by
        rw [Nat.add_mul, Nat.mul_add, hsq]; omega
      obtain ⟨d', r', a1, a2, a3, a4⟩ := ih (j + 1) (d * 2 ^ 1 + 1) (r * 2 ^ 2 + p - (d * 2 ^ 2 + 1)) (by omega) (by omega) (by omega) (by rw [hsq2]; show _ = rT S j; omega) (by omega)
      refine ⟨d', r', ?_, a2, a3, a4⟩
      show qF_rootOfFinite_44 (lN S) n (j + 1) (v_F_rootOfFinite_16 (lN S) j (lN d) (lN r)) (v_F_rootOfFinite_17 (lN S) j (lN d) (lN r)) = _
      rw [e16, e17]; exact a1
theorem grid {M d : Nat} {g : Int} (hg : -100000 ≤ g) (hd : 2 ^ 53 ≤ d) (h : d * WW g ≤ FV M) : ∃ m, FV M = m * WW g := by
  obtain ⟨pl, k, e, h2, hk⟩ : ∃ pl k, M = pl * 2 ^ 52 + k ∧ (pl = 0 ∨ 2 ^ 52 ≤ k) ∧ k < 2 ^ 53 := ⟨M / 2 ^ 52 - 1, M - (M / 2 ^ 52 - 1) * 2 ^ 52, by omega, by omega, by omega⟩
  subst e
  rw [FV_k h2 (by omega)] at h ⊢
  by_cases c : g ≤ (pl : Int) - 1074
  · obtain ⟨t, ht⟩ : ∃ t : Nat, (t : Int) = (pl : Int) - 1074 - g := ⟨((pl : Int) - 1074 - g).toNat, by omega⟩
    refine ⟨k * 2 ^ t, ?_⟩
    rw [WW_eq (e := g) (f := (pl : Int) - 1074) t hg (by omega), Nat.mul_comm (WW g), Nat.mul_assoc]
  · obtain ⟨t, ht⟩ : ∃ t : Nat, (t : Int) = g - ((pl : Int) - 1074) := ⟨(g - ((pl : Int) - 1074)).toNat, by omega⟩
    rw [WW_eq (e := (pl : Int) - 1074) (f := g) t (by omega) (by omega)] at h
    have h3 : k * WW ((pl : Int) - 1074) < d * WW ((pl : Int) - 1074) := Nat.mul_lt_mul_of_pos_right (by omega) (WW_pos _)
    have h4 : d * WW ((pl : Int) - 1074) ≤ d * (WW ((pl : Int) - 1074) * 2 ^ t) := Nat.mul_le_mul_left _ (Nat.le_mul_of_pos_right _ (Nat.pow_pos (by decide)))
    omega
theorem sq_le {a b : Nat} (h : a ≤ b) : a * a ≤ b * b := Nat.mul_le_mul h h
theorem sq_lt {a b : Nat} (h : a < b) : a * a < b * b := Nat.mul_lt_mul'' h h
theorem and1 (e : Int32) : (e &&& (1 : Int32)) = 0 ↔ e.toInt % 2 = 0 := by
  have h1 : (e &&& (1 : Int32)).toBitVec.toNat = e.toBitVec.toNat % 2 := by
    show (e.toBitVec &&& (1 : Int32).toBitVec).toNat = _
    rw [BitVec.toNat_and]
    exact Nat.and_two_pow_sub_one_eq_mod _ 1
  have h2 : e.toInt = e.toBitVec.toInt := rfl
  have h3 : e.toInt % 2 = ((e.toBitVec.toNat % 2 : Nat) : Int) := by
    rw [h2, BitVec.toInt_eq_toNat_cond]
    split <;> omega
  rw [h3, ← h1]
  constructor
  · intro h; rw [h]; rfl
  · intro h
    apply Int32.toBitVec_inj.mp
    apply BitVec.eq_of_toNat_eq
    show _ = 0
    omega
theorem half_even {e : Int32} {h : Int} (he : e.toInt = 2 * h) (h1 : -1000000 ≤ h) (h2 : h ≤ 1000000) : (e / (2 : Int32)).toInt = h := by
  rw [Int32.toInt_div, he]
  show ((2 * h).tdiv 2).bmod _ = h
  rw [Int.mul_comm, Int.mul_tdiv_cancel _ (by decide)]
  exact Int.bmod_eq_of_le (by omega) (by omega)
theorem root_ok {x : Int64} {how : Int32} (hx : mg x ≠ 0) : ∃ M, M ≤ IM ∧ pF_rootOfFinite x how = sgM M false ∧ (how = 0 → CR M (sgf x * WW (exf x) * WW 0)) ∧ (how = 1 → FR M (sgf x * WW (exf x) * WW 0)) := by
  obtain ⟨k, a1, a2, a3, a4, a5⟩ := slack_ok hx
  have g1 := exf_ge x
  have g2 := exf_le x
  have e1 : v_F_rootOfFinite_1 x how = lN (sgf x * 2 ^ k) := a5
  have e2 : (v_F_rootOfFinite_2 x how).toInt = exf x - k := by
    show (pF_exponentOf x - pF_slackOf x).toInt = _
    rw [a1]
    exact iS (exp_ok x) (nI_toInt (by omega)) (by omega) (by omega)
  -- the square and its even exponent
  obtain ⟨S, h, t, b1, b2, b3, b4, b5, b6, b7⟩ : ∃ (S : Nat) (h : Int) (t : Nat), v_F_rootOfFinite_5 x how = lN S ∧ (v_F_rootOfFinite_6 x how).toInt = 2 * h ∧ S = sgf x * 2 ^ t ∧ exf x = 2 * h + t ∧ 2 ^ 52 ≤ S ∧ S < 2 ^ 54 ∧ t ≤ 53 := by
    have c := and1 (v_F_rootOfFinite_2 x how)
    rw [e2] at c
    by_cases z : (exf x - k) % 2 = 0
    · refine ⟨sgf x * 2 ^ k, (exf x - k) / 2, k, ?_, ?_, rfl, by omega, a3, by omega, by omega⟩
      · exact (if_pos (c.mpr z)).trans e1
      · have : v_F_rootOfFinite_6 x how = v_F_rootOfFinite_2 x how := if_pos (c.mpr z)
        rw [this, e2]; omega
    · have p : 2 ^ (k + 1) = 2 ^ k * 2 := Nat.pow_succ _ _
      have q : sgf x * 2 ^ (k + 1) = sgf x * 2 ^ k * 2 := by rw [p, Nat.mul_assoc]
      refine ⟨sgf x * 2 ^ (k + 1), (exf x - k - 1) / 2, k + 1, ?_, ?_, rfl, by omega, by omega, by omega, by omega⟩
      · refine (if_neg (fun w => z (c.mp w))).trans ?_
        show jlshl (v_F_rootOfFinite_1 x how) (nI 1) = _
        rw [e1, l_shl (by omega) (by decide), q]
      · have : v_F_rootOfFinite_6 x how = v_F_rootOfFinite_2 x how + (-1) := if_neg (fun w => z (c.mp w))
        rw [this, iA e2 (show (-1 : Int32).toInt = -1 from rfl) (by omega) (by omega)]; omega
  obtain ⟨d, r, c1, c2, c3, c4⟩ := rt_loop b6 55 1 0 0 rfl (by decide) (by decide) (by unfold rT; rw [if_pos (by decide)]; show 0 = S / 4 ^ 27; omega) (by decide)
  have e7 : v_F_rootOfFinite_7 x how = lN d := by
    show (qF_rootOfFinite_44 (v_F_rootOfFinite_5 x how) 55 1 (lN 0) (lN 0)).1 = _
    rw [b1, c1]
  have e8 : v_F_rootOfFinite_8 x how = lN r := by
    show (qF_rootOfFinite_44 (v_F_rootOfFinite_5 x how) 55 1 (lN 0) (lN 0)).2 = _
    rw [b1, c1]
  have e9 : v_F_rootOfFinite_9 x how = decide (r ≠ 0) := by
    show (if v_F_rootOfFinite_8 x how = lN 0 then false else true) = _
    rw [e8]
    have z : lN r = lN 0 ↔ r = 0 := lN_inj (by omega) (by decide)
    by_cases w : r = 0
    · rw [if_pos (z.mpr w)]; symm; exact decide_eq_false (fun y => y w)
    · rw [if_neg (fun y => w (z.mp y))]; symm; exact decide_eq_true w
  have ee : ((v_F_rootOfFinite_6 x how) / (2 : Int32) - (28 : Int32)).toInt = h - 28 := iS (half_even b2 (by omega) (by omega)) (show (28 : Int32).toInt = 28 from rfl) (by omega) (by omega)
  have e0 : pF_rootOfFinite x how = pF_rounded (lN d) ((v_F_rootOfFinite_6 x how) / (2 : Int32) - (28 : Int32)) (decide (r ≠ 0)) false how := by
    rw [← e7, ← e9]; rfl
  rw [e0]
  have hT : rT S 55 = S * 2 ^ 56 := by
    unfold rT
    rw [if_neg (by decide)]
  rw [hT] at c2
  have hd : 2 ^ 54 ≤ d := by
    refine Nat.le_of_not_lt (fun z => ?_)
    have : (d + 1) * (d + 1) ≤ 2 ^ 54 * 2 ^ 54 := sq_le z
    have e : (d + 1) * (d + 1) = d * d + 2 * d + 1 := by rw [Nat.add_mul, Nat.mul_add]; omega
    omega
  -- R in units of U * U
  have hU0 := WW_pos (h - 28)
  have hR : sgf x * WW (exf x) * WW 0 = (d * d + r) * (WW (h - 28) * WW (h - 28)) := by
    rw [c2, WW_mul (e := h - 28) (f := h - 28) (by omega) (by omega), b3, WW_eq (e := h - 28 + (h - 28)) (f := exf x) (t + 56) (by omega) (by omega), Nat.pow_add]
    generalize WW (h - 28 + (h - 28)) = A
    generalize WW 0 = B
    rw [Nat.mul_assoc (sgf x) (A * _), Nat.mul_assoc (sgf x) (2 ^ t), Nat.mul_assoc (sgf x) (2 ^ t * 2 ^ 56)]
    congr 1
    rw [Nat.mul_comm A, Nat.mul_assoc (2 ^ t * 2 ^ 56)]
  have hsq : ∀ z : Nat, z * WW (h - 28) * (z * WW (h - 28)) = z * z * (WW (h - 28) * WW (h - 28)) := fun z => Nat.mul_mul_mul_comm _ _ _ _
  have hUU : 0 < WW (h - 28) * WW (h - 28) := Nat.mul_pos hU0 hU0
  by_cases hr : r = 0
  · rw [decide_eq_false (fun w => w hr)]
    have hR' : sgf x * WW (exf x) * WW 0 = d * WW (h - 28) * (d * WW (h - 28)) := by rw [hR, hr, hsq, Nat.add_zero]
    obtain ⟨M, m1, m2, m3⟩ := rounded_ok (n := d) (a := d * WW (h - 28)) (b := 1) (lo := false) (ng := false) (how := how) ee (by omega) (by omega) (by omega) (by decide) (by omega) (by rw [Nat.add_mul]; omega) (fun _ => by omega) (fun z => absurd z (by decide)) (fun z => absurd z (by decide))
    refine ⟨M, m1, m2, fun z => ?_, fun z => ?_⟩
    · obtain ⟨p1, p2, p3⟩ := m3.2.2.1 (by rw [z]; rfl)
      rw [hR']
      exact ⟨p1, fun w => sq_le (by have := p2 w; omega), fun N hN => sq_lt (by have := p3 N hN; omega)⟩
    · obtain ⟨p1, p2, p3⟩ := m3.2.1 (by rw [z]; rfl)
      rw [hR']
      exact ⟨p1, sq_le (by omega), fun w => sq_lt (by have := p3 w; omega)⟩
  · rw [decide_eq_true (show r ≠ 0 from hr)]
    have hlo : d * WW (h - 28) * (d * WW (h - 28)) < sgf x * WW (exf x) * WW 0 := by
      rw [hR, hsq]; exact Nat.mul_lt_mul_of_pos_right (by omega) hUU
    have hhi : sgf x * WW (exf x) * WW 0 < (d + 1) * WW (h - 28) * ((d + 1) * WW (h - 28)) := by
      rw [hR, hsq]
      have e : (d + 1) * (d + 1) = d * d + 2 * d + 1 := by rw [Nat.add_mul, Nat.mul_add]; omega
      rw [e]
      exact Nat.mul_lt_mul_of_pos_right (by omega) hUU
    generalize sgf x * WW (exf x) * WW 0 = R at *
    generalize hU : WW (h - 28) = U at *
    obtain ⟨M, m1, m2, m3⟩ := rounded_ok (n := d) (a := (2 * d + 1) * U) (b := 2) (lo := true) (ng := false) (how := how) ee (by omega) (by omega) (by omega) (by decide) (by rw [hU, Nat.add_mul, Nat.mul_assoc 2]; omega) (by rw [hU, Nat.add_mul, Nat.add_mul, Nat.mul_assoc 2]; omega) (fun z => absurd z (by decide)) (fun _ => by rw [hU, Nat.add_mul, Nat.mul_assoc 2]; omega) (fun _ => by omega)
    have ed : (2 * d + 1) * U = 2 * (d * U) + U := by rw [Nat.add_mul, Nat.mul_assoc]; omega
    have ed1 : (d + 1) * U = d * U + U := by rw [Nat.add_mul]; omega
    -- below the middle means not above d
    have lo : ∀ K, FV K * 2 ≤ (2 * d + 1) * U → FV K ≤ d * U := by
      intro K hK
      refine Nat.le_of_not_lt (fun z => ?_)
      obtain ⟨m, hm⟩ := grid (M := K) (d := d) (g := h - 28) (by omega) (by omega) (by rw [hU]; omega)
      rw [hU] at hm
      rw [hm] at z
      have := Nat.lt_of_mul_lt_mul_right z
      have : (d + 1) * U ≤ m * U := Nat.mul_le_mul_right _ this
      omega
    have hi : ∀ K, (2 * d + 1) * U ≤ FV K * 2 → (d + 1) * U ≤ FV K := by
      intro K hK
      obtain ⟨m, hm⟩ := grid (M := K) (d := d) (g := h - 28) (by omega) (by omega) (by rw [hU]; omega)
      rw [hU] at hm
      have z : d * U < m * U := by rw [← hm]; omega
      have := Nat.lt_of_mul_lt_mul_right z
      rw [hm]
      exact Nat.mul_le_mul_right _ this
    refine ⟨M, m1, m2, fun z => ?_, fun z => ?_⟩
    · obtain ⟨p1, p2, p3⟩ := m3.2.2.1 (by rw [z]; rfl)
      exact ⟨p1, fun w => Nat.le_trans (Nat.le_of_lt hhi) (sq_le (hi M (p2 w))), fun N hN => Nat.lt_of_le_of_lt (sq_le (lo N (Nat.le_of_lt (p3 N hN)))) hlo⟩
    · obtain ⟨p1, p2, p3⟩ := m3.2.1 (by rw [z]; rfl)
      exact ⟨p1, Nat.le_trans (sq_le (lo M p2)) (Nat.le_of_lt hlo), fun w => Nat.lt_of_lt_of_le hhi (sq_le (hi (M + 1) (Nat.le_of_lt (p3 w))))⟩
theorem FR_un {M N R : Nat} (h : FR M R) (h2 : FR N R) : M = N := by
  rcases Nat.lt_trichotomy M N with q | q | q
  · have h3 := h.2.2 (by have := h2.1; omega)
    have h4 := sq_le (FV_le (show M + 1 ≤ N from q))
    have := h2.2.1
    omega
  · exact q
  · have h3 := h2.2.2 (by have := h.1; omega)
    have h4 := sq_le (FV_le (show N + 1 ≤ M from q))
    have := h.2.1
    omega
theorem CR_un1 {M N R : Nat} (h : CR M R) (h2 : CR N R) : N ≤ M := by
  refine Nat.le_of_not_lt (fun q => ?_)
  obtain ⟨K, rfl⟩ : ∃ K, N = K + 1 := ⟨N - 1, by omega⟩
  have h3 := h2.2.2 K rfl
  have h4 := h.2.1 (by have := h2.1; omega)
  have h5 := sq_le (FV_le (show M ≤ K by omega))
  omega
theorem CR_un {M N R : Nat} (h : CR M R) (h2 : CR N R) : M = N := Nat.le_antisymm (CR_un1 h2 h) (CR_un1 h h2)

