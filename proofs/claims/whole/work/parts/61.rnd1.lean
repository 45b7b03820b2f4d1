/-! INTS IN THEIR RANGE -/
theorem iA {a b : Int32} {x y : Int} (ha : a.toInt = x) (hb : b.toInt = y) (h1 : -2147483648 ≤ x + y) (h2 : x + y < 2147483648) : (a + b).toInt = x + y := by
  rw [Int32.toInt_add, ha, hb]
  exact Int.bmod_eq_of_le (by omega) (by omega)
theorem iS {a b : Int32} {x y : Int} (ha : a.toInt = x) (hb : b.toInt = y) (h1 : -2147483648 ≤ x - y) (h2 : x - y < 2147483648) : (a - b).toInt = x - y := by
  rw [Int32.toInt_sub, ha, hb]
  exact Int.bmod_eq_of_le (by omega) (by omega)
theorem iNg {a : Int32} {x : Int} (ha : a.toInt = x) (h1 : -2147483648 < x) (h2 : x < 2147483648) : (-a).toInt = -x := by
  rw [Int32.toInt_neg, ha]
  exact Int.bmod_eq_of_le (by omega) (by omega)
theorem i_nI {a : Int32} {n : Nat} (h : a.toInt = n) (hn : n < 2147483648) : a = nI n := by
  apply Int32.toInt_inj.mp
  rw [h, nI_toInt hn]
theorem i_le {a b : Int32} {x y : Int} (ha : a.toInt = x) (hb : b.toInt = y) : a ≤ b ↔ x ≤ y := by rw [Int32.le_iff_toInt_le, ha, hb]
theorem i_lt {a b : Int32} {x y : Int} (ha : a.toInt = x) (hb : b.toInt = y) : a < b ↔ x < y := by rw [Int32.lt_iff_toInt_lt, ha, hb]
theorem i_eq {a b : Int32} {x y : Int} (ha : a.toInt = x) (hb : b.toInt = y) : a = b ↔ x = y := by rw [← Int32.toInt_inj, ha, hb]
theorem lN_inj {a b : Nat} (ha : a < 2 ^ 64) (hb : b < 2 ^ 64) : lN a = lN b ↔ a = b := by
  constructor
  · intro h
    have e0 : (lN a).toBitVec.toNat = (lN b).toBitVec.toNat := by rw [h]
    have e1 := lN_tn ha
    have e2 := lN_tn hb
    omega
  · intro h; rw [h]
theorem l_eq {x : Int64} {n : Nat} (h : x.toBitVec.toNat = n) : x = lN n := by
  apply Int64.toBitVec_inj.mp
  show _ = BitVec.ofNat 64 _
  rw [← h, BitVec.ofNat_toNat, BitVec.setWidth_eq]
theorem l_nat (x : Int64) : ∃ n, n < 2 ^ 64 ∧ x = lN n := ⟨x.toBitVec.toNat, x.toBitVec.isLt, l_eq rfl⟩
theorem l_ush {n k : Nat} (hn : n < 2 ^ 64) (hk : k < 64) : jlush (lN n) (nI k) = lN (n / 2 ^ k) := by
  apply l_eq
  rw [jl_ush _ hk, lN_tn hn]
theorem l_shl {n k : Nat} (hn : n * 2 ^ k < 2 ^ 64) (hk : k < 64) : jlshl (lN n) (nI k) = lN (n * 2 ^ k) := by
  apply l_eq
  have : n ≤ n * 2 ^ k := Nat.le_mul_of_pos_right _ (Nat.pow_pos (by decide))
  rw [jl_shl _ hk, lN_tn (by omega), Nat.mod_eq_of_lt hn]
theorem l_and {n k : Nat} (hn : n < 2 ^ 64) (hk : k ≤ 64) : lN n &&& lN (2 ^ k - 1) = lN (n % 2 ^ k) := by
  apply l_eq
  show ((lN n).toBitVec &&& (lN (2 ^ k - 1)).toBitVec).toNat = _
  have : 2 ^ k ≤ 2 ^ 64 := Nat.pow_le_pow_right (by decide) hk
  rw [BitVec.toNat_and, lN_tn hn, lN_tn (by omega)]
  exact Nat.and_two_pow_sub_one_eq_mod _ k
theorem l_or {n m k : Nat} (hn : n < 2 ^ k) (hm : m * 2 ^ k + n < 2 ^ 64) : lN (m * 2 ^ k) ||| lN n = lN (m * 2 ^ k + n) := by
  apply l_eq
  show ((lN (m * 2 ^ k)).toBitVec ||| (lN n).toBitVec).toNat = _
  rw [BitVec.toNat_or, lN_tn (by omega), lN_tn (by omega), Nat.mul_comm, Nat.two_pow_add_eq_or_of_lt hn]
/-- a magnitude with its sign; 0 has none -/
def sgM (M : Nat) (ng : Bool) : Int64 := if M = 0 then 0 else pF_withSign (lN M) ng
/-- what a direction finds: 0 up, 1 down, 2 toward 0, 3 nearest -/
def RD (how : Int32) (ng : Bool) (M a b : Nat) : Prop :=
  (how = 2 → FL M a b) ∧ (how = bI (!ng) → FL M a b) ∧ (how = bI ng → CE M a b) ∧ (how = 3 → a ≤ FV (IM - 1) * b → NE M a b)
theorem cut_nb {n s k r : Nat} {c : Bool} (hs : 0 < s) (hn : n < 2 ^ 63) (hk : k = n / 2 ^ s) (hr : r = n % 2 ^ s) (hsh : s < 2147483648) :
    pF_isNearerAbove (lN n) (nI s) c = decide (2 ^ s < 2 * r ∨ (2 * r = 2 ^ s ∧ (c = true ∨ k % 2 = 1))) := by
  have n1 : ¬ nI s < (1 : Int32) := fun q => by
    have := (nI_ltI (a := s) (b := 1) hsh (by decide)).mp q
    omega
  have el : nI s ≤ (63 : Int32) ↔ s ≤ 63 := nI_leI (a := s) (b := 63) hsh (by decide)
  by_cases h63 : s ≤ 63
  · have e0 : pF_isNearerAbove (lN n) (nI s) c = (if v_F_isNearerAbove_2 (lN n) (nI s) c = v_F_isNearerAbove_1 (lN n) (nI s) c then v_F_isNearerAbove_3 (lN n) (nI s) c else v_F_isNearerAbove_4 (lN n) (nI s) c) := (if_neg n1).trans (if_pos (el.mpr h63))
    obtain ⟨t, rfl⟩ : ∃ t, s = t + 1 := ⟨s - 1, by omega⟩
    have p2 : 2 ^ (t + 1) = 2 ^ t * 2 := Nat.pow_succ _ _
    have pl : 2 ^ t ≤ 2 ^ 62 := Nat.pow_le_pow_right (by decide) (by omega)
    have pp : 0 < 2 ^ t := Nat.pow_pos (by decide)
    have e1 : v_F_isNearerAbove_1 (lN n) (nI (t + 1)) c = lN (2 ^ t) := by
      show jlshl (lN 1) (nI (t + 1) - (1 : Int32)) = _
      rw [nI_pred, l_shl (by rw [Nat.one_mul]; omega) (by omega), Nat.one_mul]
    have e2 : v_F_isNearerAbove_2 (lN n) (nI (t + 1)) c = lN r := by
      show lN n &&& (v_F_isNearerAbove_1 (lN n) (nI (t + 1)) c ||| (v_F_isNearerAbove_1 (lN n) (nI (t + 1)) c - lN 1)) = _
      rw [e1, lN_sub pp]
      have := l_or (n := 2 ^ t - 1) (m := 1) (k := t) (by omega) (by omega)
      rw [Nat.one_mul] at this
      rw [this]
      have e3 : 2 ^ t + (2 ^ t - 1) = 2 ^ (t + 1) - 1 := by omega
      rw [e3, l_and (by omega) (by omega), hr]
    have hr2 : r < 2 ^ (t + 1) := by rw [hr]; exact Nat.mod_lt _ (Nat.pow_pos (by decide))
    rw [e0, e1, e2]
    have q1 : lN r = lN (2 ^ t) ↔ r = 2 ^ t := lN_inj (by omega) (by omega)
    by_cases h1 : r = 2 ^ t
    · rw [if_pos (q1.mpr h1)]
      show (if c = true then true else (if (jlush (lN n) (nI (t + 1)) &&& lN (2 ^ 1 - 1)) = lN 0 then false else true)) = _
      rw [l_ush (by omega) (by omega), ← hk, l_and (by rw [hk]; exact Nat.lt_of_le_of_lt (Nat.div_le_self _ _) (by omega)) (by decide)]
      have q2 : lN (k % 2 ^ 1) = lN 0 ↔ k % 2 = 0 := lN_inj (by omega) (by omega)
      cases c with
      | true => rw [if_pos rfl]; symm; exact decide_eq_true (Or.inr ⟨by omega, Or.inl rfl⟩)
      | false =>
        rw [if_neg (by decide)]
        by_cases h2 : k % 2 = 0
        · rw [if_pos (q2.mpr h2)]; symm; apply decide_eq_false; rintro (z | ⟨-, z | z⟩)
          · omega
          · exact absurd z (by decide)
          · omega
        · rw [if_neg (fun z => h2 (q2.mp z))]; symm; apply decide_eq_true; omega
    · rw [if_neg (fun z => h1 (q1.mp z))]
      show (if v_F_isNearerAbove_2 (lN n) (nI (t + 1)) c ≤ v_F_isNearerAbove_1 (lN n) (nI (t + 1)) c then false else true) = _
      rw [e1, e2]
      have q3 : lN r ≤ lN (2 ^ t) ↔ r ≤ 2 ^ t := pk_lLE (by omega) (by omega)
      by_cases h2 : r ≤ 2 ^ t
      · rw [if_pos (q3.mpr h2)]; symm; apply decide_eq_false; intro z; omega
      · rw [if_neg (fun z => h2 (q3.mp z))]; symm; apply decide_eq_true; omega
  · have e0 : pF_isNearerAbove (lN n) (nI s) c = false := (if_neg n1).trans (if_neg (fun z => h63 (el.mp z)))
    rw [e0]
    symm
    apply decide_eq_false
    have : 2 ^ 64 ≤ 2 ^ s := Nat.pow_le_pow_right (by decide) (by omega)
    have : r ≤ n := by rw [hr]; exact Nat.mod_le _ _
    omega
theorem cut_ok {n s : Nat} {lo ng : Bool} {how : Int32} (hs : 0 < s) (hn : n < 2 ^ 63) (hsh : s < 2147483648) :
    pF_cut (lN n) (nI s) lo ng how = lN (n / 2 ^ s + (if (lo = false ∧ n % 2 ^ s = 0) ∨ how = 2 then 0 else if how = 3 then (if 2 ^ s < 2 * (n % 2 ^ s) ∨ (2 * (n % 2 ^ s) = 2 ^ s ∧ (lo = true ∨ n / 2 ^ s % 2 = 1)) then 1 else 0) else if how = bI ng then 1 else 0)) := by
  have el : (64 : Int32) ≤ nI s ↔ 64 ≤ s := nI_leI (a := 64) (b := s) (by decide) hsh
  have hp : 0 < 2 ^ s := Nat.pow_pos (by decide)
  have hk : n / 2 ^ s < 2 ^ 63 := Nat.lt_of_le_of_lt (Nat.div_le_self _ _) hn
  have e1 : v_F_cut_1 (lN n) (nI s) lo ng how = lN (n / 2 ^ s) := by
    show (if (64 : Int32) ≤ nI s then lN 0 else jlush (lN n) (nI s)) = _
    by_cases h : 64 ≤ s
    · rw [if_pos (el.mpr h)]
      have : 2 ^ 64 ≤ 2 ^ s := Nat.pow_le_pow_right (by decide) h
      rw [Nat.div_eq_of_lt (by omega)]
    · rw [if_neg (fun z => h (el.mp z)), l_ush (by omega) (by omega)]
  have e2 : v_F_cut_2 (lN n) (nI s) lo ng how = decide (lo = false ∧ n % 2 ^ s = 0) := by
    show (if lo = true then false else (if (64 : Int32) ≤ nI s then (if lN n = lN 0 then true else false) else (if jlshl (v_F_cut_1 (lN n) (nI s) lo ng how) (nI s) = lN n then true else false))) = _
    rw [e1]
    cases lo with
    | true => rw [if_pos rfl]; symm; exact decide_eq_false (fun z => absurd z.1 (by decide))
    | false =>
      rw [if_neg (by decide)]
      by_cases h : 64 ≤ s
      · rw [if_pos (el.mpr h)]
        have : 2 ^ 64 ≤ 2 ^ s := Nat.pow_le_pow_right (by decide) h
        have q : lN n = lN 0 ↔ n = 0 := lN_inj (by omega) (by omega)
        have em : n % 2 ^ s = n := Nat.mod_eq_of_lt (by omega)
        rw [em]
        by_cases z : n = 0
        · rw [if_pos (q.mpr z)]; symm; exact decide_eq_true ⟨rfl, z⟩
        · rw [if_neg (fun w => z (q.mp w))]; symm; exact decide_eq_false (fun w => z w.2)
      · rw [if_neg (fun z => h (el.mp z))]
        have hm := Nat.div_add_mod n (2 ^ s)
        rw [Nat.mul_comm] at hm
        rw [l_shl (by omega) (by omega)]
        have q : lN (n / 2 ^ s * 2 ^ s) = lN n ↔ n / 2 ^ s * 2 ^ s = n := lN_inj (by omega) (by omega)
        by_cases z : n % 2 ^ s = 0
        · rw [if_pos (q.mpr (by omega))]; symm; exact decide_eq_true ⟨rfl, z⟩
        · rw [if_neg (fun w => z (by have := q.mp w; omega))]; symm; exact decide_eq_false (fun w => z w.2)
  show (if v_F_cut_2 (lN n) (nI s) lo ng how = true then v_F_cut_1 (lN n) (nI s) lo ng how else (if how = (2 : Int32) then v_F_cut_1 (lN n) (nI s) lo ng how else v_F_cut_5 (lN n) (nI s) lo ng how)) = _
  rw [e1, e2]
  by_cases c1 : lo = false ∧ n % 2 ^ s = 0
  · rw [if_pos (decide_eq_true c1), if_pos (Or.inl c1), Nat.add_zero]
  · rw [if_neg (by rw [decide_eq_false c1]; decide)]
    by_cases c2 : how = 2
    · rw [if_pos c2, if_pos (Or.inr c2), Nat.add_zero]
    · rw [if_neg c2, if_neg (fun z => z.elim c1 c2)]
      show (if v_F_cut_4 (lN n) (nI s) lo ng how = true then v_F_cut_1 (lN n) (nI s) lo ng how + lN 1 else v_F_cut_1 (lN n) (nI s) lo ng how) = _
      have en : (if ng = true then true else false) = ng := by cases ng <;> rfl
      have e4 : v_F_cut_4 (lN n) (nI s) lo ng how = if how = (3 : Int32) then pF_isNearerAbove (lN n) (nI s) lo else (if how = bI (if ng = true then true else false) then true else false) := rfl
      rw [e1, e4, lN_add, en]
      by_cases c3 : how = 3
      · rw [if_pos c3, if_pos c3, cut_nb hs hn rfl rfl hsh]
        by_cases c5 : 2 ^ s < 2 * (n % 2 ^ s) ∨ (2 * (n % 2 ^ s) = 2 ^ s ∧ (lo = true ∨ n / 2 ^ s % 2 = 1))
        · rw [if_pos c5, if_pos (decide_eq_true c5)]
        · rw [if_neg c5, if_neg (by rw [decide_eq_false c5]; decide), Nat.add_zero]
      · rw [if_neg c3, if_neg c3]
        by_cases c5 : how = bI ng
        · rw [if_pos c5, if_pos c5, if_pos rfl]
        · rw [if_neg c5, if_neg c5, if_neg (by decide), Nat.add_zero]

