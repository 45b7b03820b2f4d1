theorem lN_shl52 {p : Nat} (hp : p ≤ 2045) : jlshl (nI p).toInt64 (52 : Int32) = lN (p * 2 ^ 52) := by
  rw [nI_l (by omega)]
  exact l_shl (k := 52) (by omega) (by decide)
theorem sgM_eq {M : Nat} {ng : Bool} (hM : M < 2 ^ 64) : (if lN M = (0 : Int64) then (0 : Int64) else pF_withSign (lN M) ng) = sgM M ng := by
  unfold sgM
  have q : lN M = (0 : Int64) ↔ M = 0 := lN_inj (a := M) (b := 0) hM (by decide)
  by_cases h : M = 0
  · rw [if_pos (q.mpr h), if_pos h]
  · rw [if_neg (fun z => h (q.mp z)), if_neg h]
theorem bI_3 (b : Bool) : bI b ≠ 3 := by cases b <;> decide
theorem bI_2 (b : Bool) : bI b ≠ 2 := by cases b <;> decide
theorem bI_n (b : Bool) : bI (!b) ≠ bI b := by cases b <;> decide
theorem RD_ex {how : Int32} {ng : Bool} {M a b : Nat} (hb : 0 < b) (hM : M < IM) (h : FV M * b = a) : RD how ng M a b :=
  ⟨fun _ => ex_FL hb hM h, fun _ => ex_FL hb hM h, fun _ => ex_CE hb hM h, fun _ _ => Or.inl h⟩
/-- the answer of cut, as a rounding of a magnitude a / b -/
theorem cut_RD {n s pl a b T : Nat} {lo ng : Bool} {how : Int32} (hT : T = WW ((pl : Int) - 1074)) {U : Nat} (hU : T = 2 ^ s * U) (hU0 : 0 < U) (hb : 0 < b) (hs : 0 < s) (hp : pl ≤ 2045) (hk : n / 2 ^ s < 2 ^ 53) (hk2 : pl = 0 ∨ 2 ^ 52 ≤ n / 2 ^ s)
    (h1 : n * U * b ≤ a) (h2 : a < (n + 1) * U * b) (h3 : lo = false → a = n * U * b) (h4 : lo = true → n * U * b < a) :
    RD how ng (pl * 2 ^ 52 + (n / 2 ^ s + (if (lo = false ∧ n % 2 ^ s = 0) ∨ how = 2 then 0 else if how = 3 then (if 2 ^ s < 2 * (n % 2 ^ s) ∨ (2 * (n % 2 ^ s) = 2 ^ s ∧ (lo = true ∨ n / 2 ^ s % 2 = 1)) then 1 else 0) else if how = bI ng then 1 else 0))) a b := by
  have hm := Nat.div_add_mod n (2 ^ s)
  have hr : n % 2 ^ s < 2 ^ s := Nat.mod_lt _ (Nat.pow_pos (by decide))
  generalize hq : n / 2 ^ s = k at *
  generalize n % 2 ^ s = r at *
  have hUb : 0 < U * b := Nat.mul_pos hU0 hb
  -- all in units of U * b
  have e1 : k * T * b = (2 ^ s * k) * (U * b) := by rw [hU, Nat.mul_comm (2 ^ s) k, Nat.mul_assoc, Nat.mul_assoc, Nat.mul_assoc]
  have e2 : (k + 1) * T * b = (2 ^ s * k + 2 ^ s) * (U * b) := by
    have : 2 ^ s * k + 2 ^ s = (k + 1) * 2 ^ s := by rw [Nat.add_mul, Nat.one_mul, Nat.mul_comm]
    rw [hU, this, Nat.mul_assoc, Nat.mul_assoc, Nat.mul_assoc]
  have e3 : (2 * k + 1) * T * b = (2 * (2 ^ s * k) + 2 ^ s) * (U * b) := by
    have : 2 * (2 ^ s * k) + 2 ^ s = (2 * k + 1) * 2 ^ s := by rw [Nat.add_mul, Nat.one_mul, Nat.mul_comm (2 ^ s) k, Nat.mul_assoc]
    rw [hU, this, Nat.mul_assoc, Nat.mul_assoc, Nat.mul_assoc]
  rw [Nat.mul_assoc] at h1 h2
  have h3' : lo = false → a = n * (U * b) := fun z => by rw [h3 z, Nat.mul_assoc]
  have h4' : lo = true → n * (U * b) < a := fun z => by rw [← Nat.mul_assoc]; exact h4 z
  have f1 : k * T * b ≤ a := by
    rw [e1]
    exact Nat.le_trans (Nat.mul_le_mul_right _ (by omega)) h1
  have f2 : a < (k + 1) * T * b := by
    rw [e2]
    exact Nat.lt_of_lt_of_le h2 (Nat.mul_le_mul_right _ (by omega))
  by_cases c1 : lo = false ∧ r = 0
  · rw [if_pos (Or.inl c1), Nat.add_zero]
    exact RD_ex hb (by rw [IM_e]; omega) (rd_ex hT hk2 hk (by rw [h3' c1.1, e1]; congr 1; omega))
  · have f3 : k * T * b < a := by
      rw [e1]
      cases lo with
      | true => exact Nat.lt_of_le_of_lt (Nat.mul_le_mul_right _ (by omega)) (h4' rfl)
      | false =>
        have hr0 : r ≠ 0 := fun z => c1 ⟨rfl, z⟩
        rw [h3' rfl]
        exact Nat.mul_lt_mul_of_pos_right (by omega) hUb
    have gF := rd_FL hT hk2 hk hp f1 f2
    have gC := rd_CE hT hk2 hk hp f3 f2
    refine ⟨fun q => ?_, fun q => ?_, fun q => ?_, fun q _ => ?_⟩
    · rw [if_pos (Or.inr q), Nat.add_zero]; exact gF
    · rw [if_neg (fun z => z.elim c1 (fun w => bI_2 _ (q.symm.trans w))), if_neg (fun w => bI_3 _ (q.symm.trans w)), if_neg (fun w => bI_n _ (q.symm.trans w)), Nat.add_zero]; exact gF
    · rw [if_neg (fun z => z.elim c1 (fun w => bI_2 _ (q.symm.trans w))), if_neg (fun w => bI_3 _ (q.symm.trans w)), if_pos q]; exact gC
    · rw [if_neg (fun z => z.elim c1 (fun w => absurd (q.symm.trans w) (by decide))), if_pos q]
      have key := rd_NE (c := decide (2 ^ s < 2 * r ∨ (2 * r = 2 ^ s ∧ (lo = true ∨ k % 2 = 1)))) hT hk2 hk f3 f2 (fun z => ?_) (fun z => ?_)
      · by_cases c5 : 2 ^ s < 2 * r ∨ (2 * r = 2 ^ s ∧ (lo = true ∨ k % 2 = 1))
        · rw [if_pos c5]
          rw [if_pos (decide_eq_true c5)] at key
          exact key
        · rw [if_neg c5, Nat.add_zero]
          rw [if_neg (by rw [decide_eq_false c5]; decide)] at key
          exact key
      · have z2 := of_decide_eq_true z
        rw [e3]
        rcases z2 with w | ⟨w, w2⟩
        · left
          have : (2 * (2 ^ s * k) + 2 ^ s) * (U * b) < (2 * n) * (U * b) := Nat.mul_lt_mul_of_pos_right (by omega) hUb
          rw [Nat.mul_assoc 2 n] at this
          omega
        · have e5 : 2 * (2 ^ s * k) + 2 ^ s = 2 * n := by omega
          rw [e5, Nat.mul_assoc 2 n]
          cases lo with
          | true => left; have := h4' rfl; omega
          | false =>
            right
            have := h3' rfl
            rcases w2 with w3 | w3
            · exact absurd w3 (by decide)
            · exact ⟨by omega, w3⟩
      · have z2 := of_decide_eq_false z
        rw [e3]
        by_cases w : 2 * r < 2 ^ s
        · left
          have w1 : 2 * ((n + 1) * (U * b)) ≤ (2 * (2 ^ s * k) + 2 ^ s) * (U * b) := by
            rw [← Nat.mul_assoc]
            apply Nat.mul_le_mul_right
            obtain ⟨t, rfl⟩ : ∃ t, s = t + 1 := ⟨s - 1, by omega⟩
            rw [Nat.pow_succ] at *
            omega
          omega
        · have w1 : 2 * r = 2 ^ s := by omega
          have lf : lo = false := by
            cases lo with
            | false => rfl
            | true => exact absurd (Or.inr ⟨w1, Or.inl rfl⟩) z2
          have e5 : 2 * (2 ^ s * k) + 2 ^ s = 2 * n := by omega
          rw [e5, Nat.mul_assoc 2 n]
          right
          have := h3' lf
          refine ⟨by omega, ?_⟩
          have : ¬ k % 2 = 1 := fun w2 => z2 (Or.inr ⟨w1, Or.inr w2⟩)
          omega
theorem past_ok {ng : Bool} {how : Int32} {a b : Nat} (hb : 0 < b) (h : FV IM * b ≤ a) : ∃ M, M ≤ IM ∧ pF_withSign (pF_pastGreatest ng how) ng = sgM M ng ∧ RD how ng M a b := by
  have e1 : v_F_pastGreatest_1 ng how = !ng := by cases ng <;> rfl
  have e2 : pF_pastGreatest ng how = if how = 2 ∨ how = bI (!ng) then lN (IM - 1) else lN IM := by
    show (if (if how = (2 : Int32) then true else (if how = bI (v_F_pastGreatest_1 ng how) then true else false)) = true then lN (IM - 1) else lN IM) = _
    rw [e1]
    by_cases c1 : how = 2
    · rw [if_pos c1, if_pos rfl, if_pos (Or.inl c1)]
    · rw [if_neg c1]
      by_cases c2 : how = bI (!ng)
      · rw [if_pos c2, if_pos rfl, if_pos (Or.inr c2)]
      · rw [if_neg c2, if_neg (by decide), if_neg (fun z => z.elim c1 c2)]
  have n1 : ¬ IM - 1 = 0 := by decide
  have n2 : ¬ IM = 0 := by decide
  have hNE : a ≤ FV (IM - 1) * b → False := fun q => by
    have := Nat.mul_lt_mul_of_pos_right (FV_lt (show IM - 1 < IM by decide)) hb
    omega
  by_cases c : how = 2 ∨ how = bI (!ng)
  · refine ⟨IM - 1, Nat.sub_le _ _, by rw [e2, if_pos c]; unfold sgM; rw [if_neg n1], fun _ => big_FL h, fun _ => big_FL h, fun q => ?_, fun _ q => (hNE q).elim⟩
    rcases c with w | w
    · exact absurd (q.symm.trans w) (bI_2 _)
    · exact absurd (w.symm.trans q) (bI_n _)
  · exact ⟨IM, Nat.le_refl _, by rw [e2, if_neg c]; unfold sgM; rw [if_neg n2], fun q => absurd (Or.inl q) c, fun q => absurd (Or.inr q) c, fun _ => big_CE hb h, fun _ q => (hNE q).elim⟩
theorem blen_pos {n : Nat} (h : 0 < n) : 1 ≤ blen n := by
  refine Nat.pos_of_ne_zero (fun q => ?_)
  have := lt_blen n
  rw [q] at this
  omega
theorem blen_ge {n : Nat} (h : 0 < n) : 2 ^ (blen n - 1) ≤ n := by
  unfold blen
  rw [if_neg (by omega)]
  exact Nat.log2_self_le (by omega)
theorem rounded_ok {n a b : Nat} {ex how : Int32} {E : Int} {lo ng : Bool} (hE : ex.toInt = E) (hE1 : -60000 ≤ E) (hE2 : E ≤ 60000) (hn : n < 2 ^ 63) (hb : 0 < b)
    (h1 : n * WW E * b ≤ a) (h2 : a < (n + 1) * WW E * b) (h3 : lo = false → a = n * WW E * b) (h4 : lo = true → n * WW E * b < a) (h5 : lo = true → 2 ^ 53 ≤ n) :
    ∃ M, M ≤ IM ∧ pF_rounded (lN n) ex lo ng how = sgM M ng ∧ RD how ng M a b := by
  have q0 : lN n = (0 : Int64) ↔ n = 0 := lN_inj (a := n) (b := 0) (by omega) (by decide)
  by_cases z : n = 0
  · refine ⟨0, Nat.zero_le _, (if_pos (q0.mpr z)).trans (by unfold sgM; rw [if_pos rfl]), ?_⟩
    have lf : lo = false := by
      cases lo with
      | false => rfl
      | true => have := h5 rfl; omega
    refine RD_ex hb (by decide) ?_
    rw [h3 lf, z, FV_0, Nat.zero_mul, Nat.zero_mul, Nat.zero_mul]
  · have e0 : pF_rounded (lN n) ex lo ng how = (if v_F_rounded_1 (lN n) ex lo ng how ≤ (971 : Int32) then v_F_rounded_5 (lN n) ex lo ng how else pF_withSign (pF_pastGreatest ng how) ng) := if_neg (fun w => z (q0.mp w))
    have hl := blen_lt hn
    have hl0 := blen_pos (show 0 < n by omega)
    have hge := blen_ge (show 0 < n by omega)
    have hlt := lt_blen n
    have elen : (pF_lengthOf (lN n)).toInt = (blen n : Int) := by rw [len_ok hn, nI_toInt (by omega)]
    generalize hL : blen n = L at *
    have t1 : (((ex + pF_lengthOf (lN n)) - (1 : Int32)) - (52 : Int32)).toInt = E + L - 1 - 52 :=
      iS (iS (iA hE elen (by omega) (by omega)) (show (1 : Int32).toInt = 1 from rfl) (by omega) (by omega)) (show (52 : Int32).toInt = 52 from rfl) (by omega) (by omega)
    have e1 : (v_F_rounded_1 (lN n) ex lo ng how).toInt = if E + L - 53 < -1074 then -1074 else E + L - 53 := by
      have c := i_lt t1 (show (-1074 : Int32).toInt = -1074 from rfl)
      show (if (((ex + pF_lengthOf (lN n)) - (1 : Int32)) - (52 : Int32)) < (-1074 : Int32) then (-1074 : Int32) else (((ex + pF_lengthOf (lN n)) - (1 : Int32)) - (52 : Int32))).toInt = _
      by_cases w : E + L - 53 < -1074
      · rw [if_pos (c.mpr (by omega)), if_pos w]; rfl
      · rw [if_neg (fun y => w (by have := c.mp y; omega)), if_neg w, t1]; omega
    obtain ⟨P, hP, hP1, hP2⟩ : ∃ P : Int, (v_F_rounded_1 (lN n) ex lo ng how).toInt = P ∧ -1074 ≤ P ∧ E + L - 53 ≤ P ∧ (P = -1074 ∨ P = E + L - 53) := by
      refine ⟨_, e1, ?_⟩
      split <;> omega
    have c971 := i_le hP (show (971 : Int32).toInt = 971 from rfl)
    rw [e0]
    by_cases w : P ≤ 971
    · rw [if_pos (c971.mpr w)]
      obtain ⟨pl, hpl⟩ : ∃ pl : Nat, P = (pl : Int) - 1074 := ⟨(P + 1074).toNat, by omega⟩
      have hp45 : pl ≤ 2045 := by omega
      have e2 : (v_F_rounded_2 (lN n) ex lo ng how).toInt = P - E := iS hP hE (by omega) (by omega)
      have epl : v_F_rounded_1 (lN n) ex lo ng how - (-1074 : Int32) = nI pl := i_nI (by rw [iS hP (show (-1074 : Int32).toInt = -1074 from rfl) (by omega) (by omega)]; omega) (by omega)
      -- the magnitude is pl * 2 ^ 52 + k
      have fin : ∀ k, k ≤ 2 ^ 53 → v_F_rounded_3 (lN n) ex lo ng how = lN k → v_F_rounded_5 (lN n) ex lo ng how = sgM (pl * 2 ^ 52 + k) ng := by
        intro k hk h
        have e4 : v_F_rounded_4 (lN n) ex lo ng how = lN (pl * 2 ^ 52 + k) := by
          show jlshl ((v_F_rounded_1 (lN n) ex lo ng how - (-1074 : Int32)).toInt64) (52 : Int32) + v_F_rounded_3 (lN n) ex lo ng how = _
          rw [epl, h, lN_shl52 hp45, lN_add]
        show (if v_F_rounded_4 (lN n) ex lo ng how = (0 : Int64) then (0 : Int64) else pF_withSign (v_F_rounded_4 (lN n) ex lo ng how) ng) = _
        rw [e4]
        exact sgM_eq (by omega)
      have c0 := i_le e2 (show (0 : Int32).toInt = 0 from rfl)
      by_cases v : P - E ≤ 0
      · -- nothing is cut
        obtain ⟨t, ht⟩ : ∃ t : Nat, (t : Int) = E - P := ⟨(E - P).toNat, by omega⟩
        have lf : lo = false := by
          cases lo with
          | false => rfl
          | true =>
            have := h5 rfl
            have : L ≤ 53 := by omega
            have : 2 ^ L ≤ 2 ^ 53 := Nat.pow_le_pow_right (by decide) this
            omega
        have eneg : -(v_F_rounded_2 (lN n) ex lo ng how) = nI t := i_nI (by rw [iNg e2 (by omega) (by omega)]; omega) (by omega)
        have hkb : n * 2 ^ t < 2 ^ 53 := by
          have h8 : n * 2 ^ t < 2 ^ L * 2 ^ t := Nat.mul_lt_mul_of_pos_right hlt (Nat.pow_pos (by decide))
          rw [← Nat.pow_add] at h8
          have : 2 ^ (L + t) ≤ 2 ^ 53 := Nat.pow_le_pow_right (by decide) (by omega)
          omega
        have e3 : v_F_rounded_3 (lN n) ex lo ng how = lN (n * 2 ^ t) := by
          refine (if_pos (c0.mpr v)).trans ?_
          rw [eneg]
          exact l_shl (by omega) (by omega)
        refine ⟨pl * 2 ^ 52 + n * 2 ^ t, by rw [IM_e]; omega, fin _ (by omega) e3, ?_⟩
        refine RD_ex hb (by rw [IM_e]; omega) ?_
        refine rd_ex (T := WW P) (by rw [hpl]) ?_ hkb ?_
        · rcases hP2.2 with y | y
          · left; omega
          · right
            have h9 : 2 ^ (L - 1) * 2 ^ t ≤ n * 2 ^ t := Nat.mul_le_mul_right _ hge
            rw [← Nat.pow_add] at h9
            have : L - 1 + t = 52 := by omega
            rw [this] at h9
            exact h9
        · rw [h3 lf, WW_eq (e := P) (f := E) t (by omega) (by omega), Nat.mul_comm (WW P) (2 ^ t), ← Nat.mul_assoc n]
      · -- something is cut
        obtain ⟨s, hs⟩ : ∃ s : Nat, (s : Int) = P - E := ⟨(P - E).toNat, by omega⟩
        have es : v_F_rounded_2 (lN n) ex lo ng how = nI s := i_nI (by rw [e2, hs]) (by omega)
        have e3a : v_F_rounded_3 (lN n) ex lo ng how = pF_cut (lN n) (nI s) lo ng how := by rw [← es]; exact if_neg (fun y => v (c0.mp y))
        have e3 := e3a.trans (cut_ok (n := n) (s := s) (lo := lo) (ng := ng) (how := how) (by omega) hn (by omega))
        have hk : n / 2 ^ s < 2 ^ 53 := by
          rw [Nat.div_lt_iff_lt_mul (Nat.pow_pos (by decide)), ← Nat.pow_add]
          have : 2 ^ L ≤ 2 ^ (53 + s) := Nat.pow_le_pow_right (by decide) (by omega)
          omega
        have hk2 : pl = 0 ∨ 2 ^ 52 ≤ n / 2 ^ s := by
          rcases hP2.2 with y | y
          · left; omega
          · right
            rw [Nat.le_div_iff_mul_le (Nat.pow_pos (by decide)), ← Nat.pow_add]
            have : 52 + s = L - 1 := by omega
            rw [this]; exact hge
        have key := cut_RD (n := n) (s := s) (pl := pl) (a := a) (b := b) (T := WW P) (lo := lo) (ng := ng) (how := how) (by rw [hpl]) (U := WW E) (by rw [WW_eq (e := E) (f := P) s (by omega) (by omega), Nat.mul_comm]) (WW_pos _) hb (by omega) hp45 hk hk2 h1 h2 h3 h4
        refine ⟨_, ?_, fin _ ?_ e3, key⟩
        · rw [IM_e]
          have : ∀ (p q r : Prop) [Decidable p] [Decidable q] [Decidable r] (s : Prop) [Decidable s], (if p then 0 else if q then (if r then 1 else 0) else if s then 1 else 0) ≤ 1 := by
            intro p q r _ _ _ s _
            repeat' split
            all_goals omega
          have := this ((lo = false ∧ n % 2 ^ s = 0) ∨ how = 2) (how = 3) (2 ^ s < 2 * (n % 2 ^ s) ∨ (2 * (n % 2 ^ s) = 2 ^ s ∧ (lo = true ∨ n / 2 ^ s % 2 = 1))) (how = bI ng)
          omega
        · have : ∀ (p q r : Prop) [Decidable p] [Decidable q] [Decidable r] (s : Prop) [Decidable s], (if p then 0 else if q then (if r then 1 else 0) else if s then 1 else 0) ≤ 1 := by
            intro p q r _ _ _ s _
            repeat' split
            all_goals omega
          have := this ((lo = false ∧ n % 2 ^ s = 0) ∨ how = 2) (how = 3) (2 ^ s < 2 * (n % 2 ^ s) ∨ (2 * (n % 2 ^ s) = 2 ^ s ∧ (lo = true ∨ n / 2 ^ s % 2 = 1))) (how = bI ng)
          omega
    · rw [if_neg (fun y => w (c971.mp y))]
      apply past_ok hb
      rw [FV_IM]
      refine Nat.le_trans ?_ h1
      apply Nat.mul_le_mul_right
      obtain ⟨d, hd⟩ : ∃ d : Nat, (d : Int) = E + L - 1 - 1024 := ⟨(E + L - 1 - 1024).toNat, by omega⟩
      have e8 : WW (E + (L - 1 : Nat)) = WW E * 2 ^ (L - 1) := WW_add (L - 1) (by omega)
      have e9 : WW (E + (L - 1 : Nat)) = WW 1024 * 2 ^ d := WW_eq d (by omega) (by omega)
      calc WW 1024 ≤ WW 1024 * 2 ^ d := Nat.le_mul_of_pos_right _ (Nat.pow_pos (by decide))
        _ = WW E * 2 ^ (L - 1) := by rw [← e9, e8]
        _ ≤ WW E * n := Nat.mul_le_mul_left _ hge
        _ = n * WW E := Nat.mul_comm _ _

