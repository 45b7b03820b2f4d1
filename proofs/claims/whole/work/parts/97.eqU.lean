/-! WHOLE NUMBERS -/
theorem ow_loop : ∀ (n a j : Nat), 0 < a → a < 2 ^ 53 → 2 ^ 52 ≤ a * 2 ^ n → n ≤ 52 → j + n ≤ 100 → ∃ d, d ≤ n ∧ qM_ofWhole_24 n (lN a) (nI j) = (lN (a * 2 ^ d), nI (j + d)) ∧ 2 ^ 52 ≤ a * 2 ^ d ∧ a * 2 ^ d < 2 ^ 53 := by
  intro n
  induction n with
  | zero =>
    intro a j h0 h1 h2 _ _
    exact ⟨0, Nat.le_refl _, by rw [Nat.pow_zero, Nat.mul_one, Nat.add_zero]; rfl, h2, by omega⟩
  | succ n ih =>
    intro a j h0 h1 h2 hn hj
    have c : jlush (lN a) (52 : Int32) = (0 : Int64) ↔ a < 2 ^ 52 := by
      have e1 : jlush (lN a) (52 : Int32) = lN (a / 2 ^ 52) := l_ush (k := 52) (by omega) (by decide)
      have e2 : (0 : Int64) = lN 0 := rfl
      rw [e1, e2, lN_inj (by omega) (by decide)]
      omega
    by_cases q : a < 2 ^ 52
    · have e9 : v_M_ofWhole_9 n (lN a) (nI j) = lN (a * 2) := by
        have := l_shl (n := a) (k := 1) (by omega) (by decide)
        rw [Nat.pow_one] at this
        exact this
      have e10 : v_M_ofWhole_10 n (lN a) (nI j) = nI (j + 1) := nI_1 j
      have e0 : qM_ofWhole_24 (n + 1) (lN a) (nI j) = qM_ofWhole_24 n (v_M_ofWhole_9 n (lN a) (nI j)) (v_M_ofWhole_10 n (lN a) (nI j)) := if_pos (c.mpr q)
      obtain ⟨d, d1, d2, d3, d4⟩ := ih (a * 2) (j + 1) (by omega) (by omega) (by
        have e5 : 2 ^ (n + 1) = 2 ^ n * 2 := Nat.pow_succ _ _
        rw [e5, Nat.mul_comm (2 ^ n), ← Nat.mul_assoc] at h2
        exact h2) (by omega) (by omega)
      have ed : a * 2 * 2 ^ d = a * 2 ^ (d + 1) := by rw [Nat.pow_succ, Nat.mul_comm (2 ^ d), Nat.mul_assoc]
      refine ⟨d + 1, by omega, ?_, by rw [← ed]; exact d3, by rw [← ed]; exact d4⟩
      rw [e0, e9, e10, d2, ed]
      have : j + 1 + d = j + (d + 1) := by omega
      rw [this]
    · have e0 : qM_ofWhole_24 (n + 1) (lN a) (nI j) = (lN a, nI j) := if_neg (fun z => q (c.mp z))
      exact ⟨0, by omega, by rw [e0, Nat.pow_zero, Nat.mul_one, Nat.add_zero], by omega, by omega⟩
theorem ow_ok {c : Nat} {ng : Bool} (h0 : 0 < c) (h1 : c < 2 ^ 53) : ∃ M, M < IM ∧ 0 < M ∧ pM_ofWhole (if ng = true then -(lN c) else lN c) = sgM M ng ∧ FV M * 1 = c * WW 0 := by
  obtain ⟨d, d1, d2, d3, d4⟩ := ow_loop 52 c 0 h0 h1 (by omega) (by decide) (by decide)
  rw [Nat.zero_add] at d2
  have hp : (lN c).toInt = (c : Int) := pk_lT (by omega)
  have hn : (-(lN c)).toInt = -(c : Int) := by
    rw [Int64.toInt_neg, hp]
    exact Int.bmod_eq_of_le (by omega) (by omega)
  have cz : ∀ w : Int64, (0 : Int64) ≤ w ↔ 0 ≤ w.toInt := fun w => by rw [Int64.le_iff_toInt_le]; rfl
  generalize hw : (if ng = true then -(lN c) else lN c) = w
  have x1 : v_M_ofWhole_1 w = lN c := by
    show (if (0 : Int64) ≤ w then w else -w) = _
    rw [← hw]
    cases ng with
    | true => rw [if_pos rfl, if_neg (fun z => by have := (cz _).mp z; omega), Int64.neg_neg]
    | false => rw [if_neg (show ¬ (false = true) by decide), if_pos ((cz _).mpr (by omega))]
  have x8 : v_M_ofWhole_8 w = if ng = true then (-9223372036854775808 : Int64) else (0 : Int64) := by
    show (if (0 : Int64) ≤ w then (0 : Int64) else (-9223372036854775808 : Int64)) = _
    rw [← hw]
    cases ng with
    | true => rw [if_pos rfl, if_neg (fun z => by have := (cz _).mp z; omega), if_pos rfl]
    | false => rw [if_neg (show ¬ (false = true) by decide), if_pos ((cz _).mpr (by omega)), if_neg (show ¬ (false = true) by decide)]
  have x2 : v_M_ofWhole_2 w = lN (c * 2 ^ d) := by show (qM_ofWhole_24 52 (v_M_ofWhole_1 w) (nI 0)).1 = _; rw [x1, d2]
  have x3 : v_M_ofWhole_3 w = nI d := by show (qM_ofWhole_24 52 (v_M_ofWhole_1 w) (nI 0)).2 = _; rw [x1, d2]
  have c53 : jlush (v_M_ofWhole_2 w) (53 : Int32) = (0 : Int64) := by
    rw [x2]
    have e1 : jlush (lN (c * 2 ^ d)) (53 : Int32) = lN (c * 2 ^ d / 2 ^ 53) := l_ush (k := 53) (by omega) (by decide)
    rw [e1, Nat.div_eq_of_lt d4]; rfl
  have x6 : v_M_ofWhole_6 w = lN (c * 2 ^ d) := (if_pos c53).trans x2
  have x7 : v_M_ofWhole_7 w = nI d := (if_pos c53).trans x3
  have cc : ¬ v_M_ofWhole_1 w = (0 : Int64) := by
    rw [x1]
    intro z
    have := (lN_inj (a := c) (b := 0) (by omega) (by decide)).mp z
    omega
  have d0 : pM_ofWhole w = if v_M_ofWhole_1 w = (0 : Int64) then (0 : Int64) else ((jlshl ((1075 : Int64) - (v_M_ofWhole_7 w).toInt64) (52 : Int32)) + (v_M_ofWhole_6 w &&& (4503599627370495 : Int64))) ||| v_M_ofWhole_8 w := rfl
  have e1 : (1075 : Int64) - (nI d).toInt64 = lN (1075 - d) := by
    rw [nI_l (by omega)]
    exact lN_sub (a := 1075) (b := d) (by omega)
  have e2 : jlshl (lN (1075 - d)) (52 : Int32) = lN ((1075 - d) * 2 ^ 52) := l_shl (k := 52) (by omega) (by decide)
  have e3 : lN (c * 2 ^ d) &&& (4503599627370495 : Int64) = lN (c * 2 ^ d % 2 ^ 52) := l_and (k := 52) (by omega) (by decide)
  have e4 : (1075 - d) * 2 ^ 52 + c * 2 ^ d % 2 ^ 52 = (1074 - d) * 2 ^ 52 + c * 2 ^ d := by omega
  refine ⟨(1074 - d) * 2 ^ 52 + c * 2 ^ d, by unfold IM; omega, by omega, ?_, ?_⟩
  · rw [d0, if_neg cc, x6, x7, x8, e1, e2, e3, lN_add, e4]
    cases ng with
    | true => rw [if_pos rfl, or_sign (by omega), sgM_t (by omega) (by omega)]
    | false =>
      rw [if_neg (by decide), sgM_f]
      have := l_or (n := 0) (m := (1074 - d) * 2 ^ 52 + c * 2 ^ d) (k := 0) (by decide) (by omega)
      rw [Nat.pow_zero, Nat.mul_one, Nat.add_zero] at this
      exact this
  · rw [FV_k (by omega) (by omega), Nat.mul_one]
    have : WW 0 = WW (((1074 - d : Nat) : Int) - 1074) * 2 ^ d := WW_eq d (by omega) (by omega)
    rw [this, Nat.mul_comm (WW _), Nat.mul_assoc]
theorem ow_0 {ng : Bool} : pM_ofWhole (if ng = true then -(lN 0) else lN 0) = 0 := by cases ng <;> decide
/-- how much the class adds to the whole part -/
def adj (g s : Nat) (ng : Bool) (how : Int32) : Nat := if (false = false ∧ g % 2 ^ s = 0) ∨ how = 2 then 0 else if how = 3 then (if 2 ^ s < 2 * (g % 2 ^ s) ∨ (2 * (g % 2 ^ s) = 2 ^ s ∧ (false = true ∨ g / 2 ^ s % 2 = 1)) then 1 else 0) else if how = bI ng then 1 else 0
theorem adj_le (g s : Nat) (ng : Bool) (how : Int32) : adj g s ng how ≤ 1 := by
  unfold adj
  repeat' split
  all_goals omega
theorem wc_ok {x : Int64} {how : Int32} (hx : exf x < 0) : ∃ M s : Nat, (s : Int) = -exf x ∧ M ≤ IM ∧ pF_rounded (v_F_whole_2 x how) (0 : Int32) false (v_F_whole_3 x how) (2 : Int32) = sgM M (decide (x < 0)) ∧ FL M ((sgf x / 2 ^ s + adj (sgf x) s (decide (x < 0)) how) * WW 0) 1 ∧ sgf x / 2 ^ s + adj (sgf x) s (decide (x < 0)) how < 2 ^ 53 := by
  have g1 := exf_ge x
  have hl := sgf_lt x
  obtain ⟨s, hs⟩ : ∃ s : Nat, (s : Int) = -exf x := ⟨(-exf x).toNat, by omega⟩
  have e1 : -(pF_exponentOf x) = nI s := i_nI (by rw [iNg (exp_ok x) (by omega) (by omega)]; omega) (by omega)
  have e2 : v_F_whole_2 x how = lN (sgf x / 2 ^ s + adj (sgf x) s (decide (x < 0)) how) := by
    show pF_cut (pF_significandOf x) (-(pF_exponentOf x)) false (if (0 : Int64) ≤ x then false else true) how = _
    rw [e1, sig_ok, neg_z]
    exact cut_ok (by omega) (by omega) (by omega)
  have e3 : v_F_whole_3 x how = decide (x < 0) := neg_z x
  have hc : sgf x / 2 ^ s + adj (sgf x) s (decide (x < 0)) how < 2 ^ 53 := by
    have h1 := adj_le (sgf x) s (decide (x < 0)) how
    have h2 : sgf x / 2 ^ s ≤ sgf x / 2 := Nat.div_le_div_left (by
      have : 2 ^ 1 ≤ 2 ^ s := Nat.pow_le_pow_right (by decide) (by omega)
      omega) (by decide)
    omega
  rw [e2, e3]
  generalize hcN : sgf x / 2 ^ s + adj (sgf x) s (decide (x < 0)) how = cN at *
  have hw := WW_pos 0
  obtain ⟨M, m1, m2, m3⟩ := rounded_ok (n := cN) (ex := (0 : Int32)) (a := cN * WW 0) (b := 1) (how := (2 : Int32)) (ng := decide (x < 0)) (lo := false) (E := 0) rfl (by decide) (by decide) (by omega) (by decide) (by omega) (by rw [Nat.add_mul]; omega) (fun _ => by omega) (fun z => absurd z (by decide)) (fun z => absurd z (by decide))
  exact ⟨M, s, hs, m1, m2, by rw [hcN]; exact m3.1 rfl, by rw [hcN]; exact hc⟩
theorem self_sg {x : Int64} (h : mg x ≤ IM) (h0 : mg x ≠ 0) : sgM (mg x) (decide (x < 0)) = x := by
  have hb := bt_ok x
  rw [sgM_lN h, if_neg h0]
  by_cases q : x < 0
  · rw [decide_eq_true q, if_pos rfl]; rw [if_pos q] at hb; exact hb.symm
  · rw [decide_eq_false q, if_neg (by decide)]; rw [if_neg q] at hb; exact hb.symm
theorem l32 {x : Int64} {z : Int} (h : x.toInt = z) (h1 : -2147483648 ≤ z) (h2 : z < 2147483648) : x.toInt32.toInt = z := by
  rw [Int64.toInt_toInt32, h]
  exact Int.bmod_eq_of_le (by omega) (by omega)
theorem l_sb {a b : Nat} (ha : a < 2 ^ 31) (hb : b < 2 ^ 31) : (lN a - lN b).toInt = (a : Int) - b := by
  rw [Int64.toInt_sub, pk_lT (by omega), pk_lT (by omega)]
  exact Int.bmod_eq_of_le (by omega) (by omega)
theorem iw_ok (x : Int64) : pM_isWhole x = true ↔ sgf x = 0 ∨ 0 ≤ exf x ∨ sgf x % 2 ^ (-exf x).toNat = 0 := by
  have hm := mg_lt x
  have hl := sgf_lt x
  have g1 := exf_ge x
  have g2 := exf_le x
  have x1 : v_M_isWhole_1 x = lN (mg x / 2 ^ 52) := fld_ok x
  have cf : v_M_isWhole_1 x = (0 : Int64) ↔ mg x / 2 ^ 52 = 0 := by rw [x1]; exact lN_inj (a := mg x / 2 ^ 52) (b := 0) (by omega) (by decide)
  have x3 : v_M_isWhole_3 x = lN (sgf x) := by
    show (x &&& (4503599627370495 : Int64)) ||| (if v_M_isWhole_1 x = (0 : Int64) then (0 : Int64) else (4503599627370496 : Int64)) = _
    rw [and_52, sgf_def]
    by_cases q : mg x / 2 ^ 52 = 0
    · rw [if_pos (cf.mpr q), if_pos q]
      have := l_or (n := 0) (m := mg x % 2 ^ 52) (k := 0) (by decide) (by omega)
      rw [Nat.pow_zero, Nat.mul_one, Nat.add_zero] at this
      exact this
    · rw [if_neg (fun z => q (cf.mp z)), if_neg q, or_52 (by omega)]
  have x4 : (v_M_isWhole_4 x).toInt32.toInt = -exf x := by
    apply l32 _ (by omega) (by omega)
    show (if v_M_isWhole_1 x = (0 : Int64) then (1074 : Int64) else (1075 : Int64) - v_M_isWhole_1 x).toInt = _
    rw [exf_def]
    by_cases q : mg x / 2 ^ 52 = 0
    · rw [if_pos (cf.mpr q), if_pos q]; rfl
    · rw [if_neg (fun z => q (cf.mp z)), if_neg q, x1]
      have := l_sb (a := 1075) (b := mg x / 2 ^ 52) (by decide) (by omega)
      have e : (1075 : Int64) = lN 1075 := rfl
      rw [e, this]; omega
  have d0 : pM_isWhole x = if v_M_isWhole_3 x = (0 : Int64) then true else (if (v_M_isWhole_4 x).toInt32 ≤ 0 then true else (if (53 : Int32) ≤ (v_M_isWhole_4 x).toInt32 then false else (if (v_M_isWhole_3 x &&& ((jlshl (1 : Int64) (v_M_isWhole_4 x).toInt32) - (1 : Int64))) = (0 : Int64) then true else false))) := rfl
  have c3 : v_M_isWhole_3 x = (0 : Int64) ↔ sgf x = 0 := by rw [x3]; exact lN_inj (a := sgf x) (b := 0) (by omega) (by decide)
  have c4 := i_le x4 (show (0 : Int32).toInt = 0 from rfl)
  have c5 := i_le (show (53 : Int32).toInt = 53 from rfl) x4
  rw [d0]
  by_cases q : sgf x = 0
  · rw [if_pos (c3.mpr q)]; exact ⟨fun _ => Or.inl q, fun _ => rfl⟩
  · rw [if_neg (fun z => q (c3.mp z))]
    by_cases w : 0 ≤ exf x
    · rw [if_pos (c4.mpr (by omega))]; exact ⟨fun _ => Or.inr (Or.inl w), fun _ => rfl⟩
    · rw [if_neg (fun z => w (by have := c4.mp z; omega))]
      obtain ⟨s, hs⟩ : ∃ s : Nat, (s : Int) = -exf x := ⟨(-exf x).toNat, by omega⟩
      have es : (-exf x).toNat = s := by omega
      rw [es]
      by_cases u : 53 ≤ s
      · rw [if_pos (c5.mpr (by omega))]
        refine ⟨fun z => absurd z (by decide), fun z => ?_⟩
        have : 2 ^ 53 ≤ 2 ^ s := Nat.pow_le_pow_right (by decide) u
        rcases z with z | z | z
        · exact absurd z q
        · exact absurd z w
        · rw [Nat.mod_eq_of_lt (by omega)] at z; exact absurd z q
      · rw [if_neg (fun z => u (by have := c5.mp z; omega))]
        have e4 : (v_M_isWhole_4 x).toInt32 = nI s := i_nI (by rw [x4]; omega) (by omega)
        have hp : 2 ^ s ≤ 2 ^ 52 := Nat.pow_le_pow_right (by decide) (by omega)
        have hp0 : 0 < 2 ^ s := Nat.pow_pos (by decide)
        have e5 : jlshl (1 : Int64) (nI s) - (1 : Int64) = lN (2 ^ s - 1) := by
          have := l_shl (n := 1) (k := s) (by omega) (by omega)
          rw [Nat.one_mul] at this
          have e6 : jlshl (1 : Int64) (nI s) = lN (2 ^ s) := this
          rw [e6]
          exact lN_sub (b := 1) hp0
        rw [e4, e5, x3, l_and (by omega) (by omega)]
        have c6 : lN (sgf x % 2 ^ s) = (0 : Int64) ↔ sgf x % 2 ^ s = 0 := lN_inj (a := sgf x % 2 ^ s) (b := 0) (by have := Nat.mod_lt (sgf x) hp0; omega) (by decide)
        by_cases y : sgf x % 2 ^ s = 0
        · rw [if_pos (c6.mpr y)]; exact ⟨fun _ => Or.inr (Or.inr y), fun _ => rfl⟩
        · rw [if_neg (fun z => y (c6.mp z))]
          exact ⟨fun z => absurd z (by decide), fun z => by rcases z with z | z | z <;> first | exact absurd z q | exact absurd z w | exact absurd z y⟩
theorem l_shr {n k : Nat} (hn : n < 2 ^ 63) (hk : k < 64) : jlshr (lN n) (nI k) = lN (n / 2 ^ k) := by
  apply Int64.toInt_inj.mp
  have h2 : n / 2 ^ k ≤ n := Nat.div_le_self _ _
  rw [jl_shr _ hk, pk_lT hn, pk_lT (by omega)]
  simp
/-- the direction as the reference turns it -/
theorem wo_ok {x : Int64} {j s : Nat} (hj : j ≤ 3) (hs : (s : Int) = -exf x) (hs0 : 0 < s) (hr : sgf x % 2 ^ s ≠ 0) :
    v_M_wholeOf_12 x (if nI j = 0 then (1 : Int32) else (if nI j = (1 : Int32) then (0 : Int32) else nI j)) = if decide (x < 0) = true then -(lN (sgf x / 2 ^ s + adj (sgf x) s (decide (x < 0)) (nI j))) else lN (sgf x / 2 ^ s + adj (sgf x) s (decide (x < 0)) (nI j)) := by
  generalize hh : (if nI j = 0 then (1 : Int32) else (if nI j = (1 : Int32) then (0 : Int32) else nI j)) = how
  have hm := mg_lt x
  have hl := sgf_lt x
  have g1 := exf_ge x
  have g2 := exf_le x
  have x1 : v_M_wholeOf_1 x how = lN (mg x / 2 ^ 52) := fld_ok x
  have cf : v_M_wholeOf_1 x how = (0 : Int64) ↔ mg x / 2 ^ 52 = 0 := by rw [x1]; exact lN_inj (a := mg x / 2 ^ 52) (b := 0) (by omega) (by decide)
  have x4 : v_M_wholeOf_4 x how = decide (x < 0) := neg_z x
  have hsg := sgf_def x
  have hex := exf_def x
  have x2 : ¬ mg x / 2 ^ 52 = 0 → v_M_wholeOf_2 x how = lN (sgf x) := fun q => by
    show (x &&& (4503599627370495 : Int64)) ||| (4503599627370496 : Int64) = _
    rw [and_52, or_52 (by omega), hsg, if_neg q]
  have x3 : ¬ mg x / 2 ^ 52 = 0 → v_M_wholeOf_3 x how = nI s := fun q => by
    rw [if_neg q] at hex
    apply i_nI _ (by omega)
    show ((1075 : Int64) - v_M_wholeOf_1 x how).toInt32.toInt = _
    rw [x1]
    have e : (1075 : Int64) = lN 1075 := rfl
    rw [e, l32 (l_sb (a := 1075) (b := mg x / 2 ^ 52) (by decide) (by omega)) (by omega) (by omega)]
    omega
  have big : 54 ≤ s → 2 * sgf x < 2 ^ s := fun q => by
    have : 2 ^ 54 ≤ 2 ^ s := Nat.pow_le_pow_right (by decide) q
    omega
  have hsub : mg x / 2 ^ 52 = 0 → 54 ≤ s := fun q => by rw [if_pos q] at hex; omega
  have x5 : v_M_wholeOf_5 x how = lN (sgf x / 2 ^ s) := by
    have d5 : v_M_wholeOf_5 x how = if v_M_wholeOf_1 x how = (0 : Int64) then (0 : Int64) else (if v_M_wholeOf_3 x how ≤ (53 : Int32) then jlshr (v_M_wholeOf_2 x how) (v_M_wholeOf_3 x how) else (0 : Int64)) := rfl
    rw [d5]
    by_cases q : mg x / 2 ^ 52 = 0
    · rw [if_pos (cf.mpr q), Nat.div_eq_of_lt (by have := big (hsub q); omega)]; rfl
    · rw [if_neg (fun z => q (cf.mp z)), x3 q, x2 q]
      have cc : nI s ≤ (53 : Int32) ↔ s ≤ 53 := nI_leI (b := 53) (by omega) (by decide)
      by_cases w : s ≤ 53
      · rw [if_pos (cc.mpr w), l_shr (by omega) (by omega)]
      · rw [if_neg (fun z => w (cc.mp z)), Nat.div_eq_of_lt (by have := big (by omega); omega)]; rfl
  have x10 : v_M_wholeOf_10 x how = decide (adj (sgf x) s (decide (x < 0)) (nI j) = 1) := by
    have d10 : v_M_wholeOf_10 x how = if how = (3 : Int32) then (if v_M_wholeOf_1 x how ≤ (0 : Int64) then v_M_wholeOf_6 x how else (if (54 : Int32) ≤ v_M_wholeOf_3 x how then v_M_wholeOf_6 x how else v_M_wholeOf_9 x how)) else v_M_wholeOf_6 x how := rfl
    have d6 : v_M_wholeOf_6 x how = if how = 0 then v_M_wholeOf_4 x how else (if how = (1 : Int32) then (if v_M_wholeOf_4 x how = true then false else true) else false) := rfl
    have d9 : v_M_wholeOf_9 x how = if v_M_wholeOf_8 x how < v_M_wholeOf_7 x how then true else (if v_M_wholeOf_7 x how = v_M_wholeOf_8 x how then (if (v_M_wholeOf_5 x how - v_M_wholeOf_5 x how / (2 : Int64) * (2 : Int64)) = (1 : Int64) then true else false) else false) := rfl
    rw [x4] at d6
    have hnr : ¬ ((false = false ∧ sgf x % 2 ^ s = 0)) := fun z => hr z.2
    rcases (show j = 0 ∨ j = 1 ∨ j = 2 ∨ j = 3 by omega) with e | e | e | e
    · subst e
      have eh : how = 1 := by rw [← hh]; rfl
      have ea : adj (sgf x) s (decide (x < 0)) (nI 0) = if nI 0 = bI (decide (x < 0)) then 1 else 0 := by
        unfold adj
        rw [if_neg (fun z => z.elim hnr (by decide)), if_neg (by decide)]
      rw [ea, d10, d6, eh, if_neg (by decide), if_neg (by decide), if_pos rfl]
      cases decide (x < 0) <;> rfl
    · subst e
      have eh : how = 0 := by rw [← hh]; rfl
      have ea : adj (sgf x) s (decide (x < 0)) (nI 1) = if nI 1 = bI (decide (x < 0)) then 1 else 0 := by
        unfold adj
        rw [if_neg (fun z => z.elim hnr (by decide)), if_neg (by decide)]
      rw [ea, d10, d6, eh, if_neg (by decide), if_pos rfl]
      cases decide (x < 0) <;> rfl
    · subst e
      have eh : how = 2 := by rw [← hh]; rfl
      rw [d10, d6, eh, if_neg (by decide), if_neg (by decide), if_neg (by decide)]
      unfold adj
      rw [if_pos (Or.inr (by decide))]; rfl
    · subst e
      have eh : how = 3 := by rw [← hh]; rfl
      have e6 : v_M_wholeOf_6 x how = false := by rw [d6, eh, if_neg (by decide), if_neg (by decide)]
      rw [d10, e6, if_pos eh]
      have ea : adj (sgf x) s (decide (x < 0)) (nI 3) = if 2 ^ s < 2 * (sgf x % 2 ^ s) ∨ (2 * (sgf x % 2 ^ s) = 2 ^ s ∧ (false = true ∨ sgf x / 2 ^ s % 2 = 1)) then 1 else 0 := by
        unfold adj
        rw [if_neg (fun z => z.elim hnr (by decide)), if_pos (by decide)]
      rw [ea]
      have hmle : sgf x % 2 ^ s ≤ sgf x := Nat.mod_le _ _
      have far : 54 ≤ s → false = decide ((if 2 ^ s < 2 * (sgf x % 2 ^ s) ∨ (2 * (sgf x % 2 ^ s) = 2 ^ s ∧ (false = true ∨ sgf x / 2 ^ s % 2 = 1)) then 1 else 0) = 1) := fun q => by
        have := big q
        rw [if_neg (by omega)]; rfl
      have c1 : v_M_wholeOf_1 x how ≤ (0 : Int64) ↔ mg x / 2 ^ 52 = 0 := by
        rw [x1]
        have := pk_lLE (a := mg x / 2 ^ 52) (b := 0) (by omega) (by decide)
        exact this.trans (by omega)
      by_cases q : mg x / 2 ^ 52 = 0
      · rw [if_pos (c1.mpr q)]; exact far (hsub q)
      · rw [if_neg (fun z => q (c1.mp z)), x3 q]
        have cc : (54 : Int32) ≤ nI s ↔ 54 ≤ s := nI_leI (a := 54) (by decide) (by omega)
        by_cases w : 54 ≤ s
        · rw [if_pos (cc.mpr w)]; exact far w
        · rw [if_neg (fun z => w (cc.mp z)), d9]
          have hp : 2 ^ s ≤ 2 ^ 53 := Nat.pow_le_pow_right (by decide) (by omega)
          have hp0 : 0 < 2 ^ s := Nat.pow_pos (by decide)
          have hmod := Nat.mod_lt (sgf x) hp0
          obtain ⟨u, hu⟩ : ∃ u, s = u + 1 := ⟨s - 1, by omega⟩
          have hp2 : 2 ^ s = 2 ^ u * 2 := by rw [hu, Nat.pow_succ]
          have x7 : v_M_wholeOf_7 x how = lN (sgf x % 2 ^ s) := by
            show v_M_wholeOf_2 x how &&& (jlshl (1 : Int64) (v_M_wholeOf_3 x how) - (1 : Int64)) = _
            rw [x2 q, x3 q]
            have := l_shl (n := 1) (k := s) (by omega) (by omega)
            rw [Nat.one_mul] at this
            have e6 : jlshl (1 : Int64) (nI s) = lN (2 ^ s) := this
            have e7 : lN (2 ^ s) - (1 : Int64) = lN (2 ^ s - 1) := lN_sub (b := 1) hp0
            rw [e6, e7, l_and (by omega) (by omega)]
          have x8 : v_M_wholeOf_8 x how = lN (2 ^ u) := by
            show jlshl (1 : Int64) (v_M_wholeOf_3 x how - (1 : Int32)) = _
            rw [x3 q, hu, nI_pred]
            have := l_shl (n := 1) (k := u) (by omega) (by omega)
            rw [Nat.one_mul] at this
            exact this
          have e5 : v_M_wholeOf_5 x how - v_M_wholeOf_5 x how / (2 : Int64) * (2 : Int64) = lN (sgf x / 2 ^ s % 2) := by
            rw [x5]
            have h2 : sgf x / 2 ^ s ≤ sgf x := Nat.div_le_self _ _
            exact pk_lRem (a := sgf x / 2 ^ s) (b := 2) (by omega) (by decide) (by decide)
          rw [x7, x8, e5]
          have k1 : lN (2 ^ u) < lN (sgf x % 2 ^ s) ↔ 2 ^ u < sgf x % 2 ^ s := pk_lLT (by omega) (by omega)
          have k2 : lN (sgf x % 2 ^ s) = lN (2 ^ u) ↔ sgf x % 2 ^ s = 2 ^ u := lN_inj (by omega) (by omega)
          have k3 : lN (sgf x / 2 ^ s % 2) = (1 : Int64) ↔ sgf x / 2 ^ s % 2 = 1 := lN_inj (b := 1) (by omega) (by decide)
          by_cases a1 : 2 ^ u < sgf x % 2 ^ s
          · rw [if_pos (k1.mpr a1), if_pos (by omega)]; rfl
          · rw [if_neg (fun z => a1 (k1.mp z))]
            by_cases a2 : sgf x % 2 ^ s = 2 ^ u
            · rw [if_pos (k2.mpr a2)]
              by_cases a3 : sgf x / 2 ^ s % 2 = 1
              · rw [if_pos (k3.mpr a3), if_pos (Or.inr ⟨by omega, Or.inr a3⟩)]; rfl
              · rw [if_neg (fun z => a3 (k3.mp z)), if_neg (by rintro (z | ⟨-, z | z⟩) <;> first | omega | exact absurd z (by decide))]; rfl
            · rw [if_neg (fun z => a2 (k2.mp z)), if_neg (by rintro (z | ⟨z, -⟩) <;> omega)]; rfl
  have d11 : v_M_wholeOf_11 x how = if v_M_wholeOf_10 x how = true then v_M_wholeOf_5 x how + lN 1 else v_M_wholeOf_5 x how := rfl
  have x11 : v_M_wholeOf_11 x how = lN (sgf x / 2 ^ s + adj (sgf x) s (decide (x < 0)) (nI j)) := by
    rw [d11, x10, x5, lN_add]
    have ha := adj_le (sgf x) s (decide (x < 0)) (nI j)
    by_cases q : adj (sgf x) s (decide (x < 0)) (nI j) = 1
    · rw [if_pos (decide_eq_true q), q]
    · rw [if_neg (by rw [decide_eq_false q]; decide)]
      have : adj (sgf x) s (decide (x < 0)) (nI j) = 0 := by omega
      rw [this, Nat.add_zero]
  have d12 : v_M_wholeOf_12 x how = if v_M_wholeOf_4 x how = true then -(v_M_wholeOf_11 x how) else v_M_wholeOf_11 x how := rfl
  rw [d12, x4, x11]
theorem eq_whole (x : Int64) (how : Int32) : pF_whole x how = pM_whole x how := by
  have nx : pF_isNaN x = pM_isNan x := rfl
  have d0 : pM_wholeOf (pM_plainZero x) (v_M_whole_1 x how) = if pM_isInfinite (pM_plainZero x) = true then pM_plainZero (pM_plainZero x) else (if pM_isWhole (pM_plainZero x) = true then pM_plainZero (pM_plainZero x) else pM_ofWhole (v_M_wholeOf_12 (pM_plainZero x) (v_M_whole_1 x how))) := rfl
  have hpz : pM_plainZero x = if pM_isZero x = true then (0 : Int64) else x := rfl
  have pz2 : pM_plainZero (pM_plainZero x) = pM_plainZero x := by
    rw [hpz]
    cases q : pM_isZero x with
    | true => rw [if_pos rfl]; decide
    | false =>
      rw [if_neg (by decide)]
      show (if pM_isZero x = true then (0 : Int64) else x) = x
      rw [q, if_neg (by decide)]
  cases hx : pM_isNan x with
  | true => simp only [pF_whole, pM_whole, nx, hx, if_true]
  | false =>
    by_cases h0 : how < 0
    · simp only [pF_whole, pM_whole, nx, hx, eq_true h0, if_true, Bool.false_eq_true, if_false]
    · by_cases h3 : how ≤ 3
      · simp only [pF_whole, pM_whole, nx, hx, eq_false h0, eq_true h3, if_true, Bool.false_eq_true, if_false]
        obtain ⟨j, hj, ej⟩ := nI_of2 (M := 3) (n := 3) rfl h0 h3
        have hmn : mg x ≤ IM := by rw [mnan_ok] at hx; have := of_decide_eq_false hx; omega
        have hI := IM_lt
        have ce := i_lt (exp_ok x) (show (0 : Int32).toInt = 0 from rfl)
        rw [d0, pz2]
        by_cases q : exf x < 0
        · rw [if_pos (ce.mpr q)]
          obtain ⟨M, s, hs, m1, m2, m3, m4⟩ := wc_ok (how := how) q
          have hfin : mg x < IM := by
            refine Nat.lt_of_le_of_ne hmn (fun z => ?_)
            have e1 := exf_def x
            rw [z, IM_e] at e1
            rw [if_neg (by decide)] at e1
            omega
          rw [m2]
          by_cases z0 : mg x = 0
          · have hz : pM_isZero x = true := by rw [mzero_ok]; exact decide_eq_true z0
            have hs0 : sgf x = 0 := (sgf_0 x).mpr z0
            rw [hz, if_pos rfl] at hpz
            have hi0 : pM_isInfinite (0 : Int64) = false := by decide
            have hw0 : pM_isWhole (0 : Int64) = true := by decide
            rw [hpz, hi0, hw0, if_neg (by decide), if_pos rfl]
            have hc0 : (sgf x / 2 ^ s + adj (sgf x) s (decide (x < 0)) how) = 0 := by
              rw [hs0, Nat.zero_div, Nat.zero_add]
              unfold adj
              rw [if_pos (Or.inl ⟨rfl, Nat.zero_mod _⟩)]
            rw [hc0, Nat.zero_mul] at m3
            rw [FL_z (by decide) m3, sgM_0]
          · have hz : pM_isZero x = false := by rw [mzero_ok]; exact decide_eq_false z0
            have hs0 : sgf x ≠ 0 := fun y => z0 ((sgf_0 x).mp y)
            rw [hz, if_neg (by decide)] at hpz
            have hi0 : pM_isInfinite x = false := by rw [minf_ok]; apply decide_eq_false; omega
            rw [hpz, hi0, if_neg (by decide)]
            have hiw := iw_ok x
            have es : (-exf x).toNat = s := by omega
            rw [es] at hiw
            by_cases w : sgf x % 2 ^ s = 0
            · rw [if_pos (hiw.mpr (Or.inr (Or.inr w)))]
              have ha : adj (sgf x) s (decide (x < 0)) how = 0 := by unfold adj; rw [if_pos (Or.inl ⟨rfl, w⟩)]
              rw [ha, Nat.add_zero] at m3
              have hv : FV (mg x) * 1 = sgf x / 2 ^ s * WW 0 := by
                rw [Nat.mul_one, FV_mg, WW_eq (e := exf x) (f := 0) s (by have := exf_ge x; omega) (by omega), Nat.mul_comm (WW _), ← Nat.mul_assoc, Nat.div_mul_cancel (Nat.dvd_of_mod_eq_zero w)]
              rw [FL_un m3 (ex_FL (by decide) hfin hv), self_sg hmn z0]
            · rw [if_neg (fun y => by
                rcases hiw.mp y with y | y | y
                · exact hs0 y
                · omega
                · exact w y)]
              have e1 : v_M_whole_1 x how = if nI j = 0 then (1 : Int32) else (if nI j = (1 : Int32) then (0 : Int32) else nI j) := by rw [← ej]; rfl
              rw [e1, wo_ok hj hs (by omega) w]
              rw [ej] at m3 m4
              by_cases y : sgf x / 2 ^ s + adj (sgf x) s (decide (x < 0)) (nI j) = 0
              · rw [y, Nat.zero_mul] at m3
                rw [FL_z (by decide) m3, sgM_0, y, ow_0]
              · obtain ⟨M0, o1, o2, o3, o4⟩ := ow_ok (ng := decide (x < 0)) (Nat.pos_of_ne_zero y) m4
                rw [o3, FL_un m3 (ex_FL (by decide) o1 o4)]
        · rw [if_neg (fun z => q (ce.mp z))]
          have hf : mg x / 2 ^ 52 ≠ 0 := by
            intro z
            have e1 := exf_def x
            rw [if_pos z] at e1
            omega
          have hz : pM_isZero x = false := by rw [mzero_ok]; apply decide_eq_false; omega
          rw [hz, if_neg (by decide)] at hpz
          rw [hpz]
          rw [(iw_ok x).mpr (Or.inr (Or.inl (by omega))), if_pos rfl, ite_self]
      · simp only [pF_whole, pM_whole, nx, hx, eq_false h0, eq_false h3, if_true, Bool.false_eq_true, if_false]

