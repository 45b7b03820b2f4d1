/-! WHAT THE BITS SAY -/
noncomputable def mgs : { f : Int64 → Nat // ∀ x, f x = x.toBitVec.toNat % 2 ^ 63 } := Classical.choice ⟨⟨_, fun _ => rfl⟩⟩
noncomputable def mg (x : Int64) : Nat := mgs.1 x
theorem mg_def (x : Int64) : mg x = x.toBitVec.toNat % 2 ^ 63 := mgs.2 x
noncomputable def sgs : { f : Int64 → Nat // ∀ x, f x = if mg x / 2 ^ 52 = 0 then mg x % 2 ^ 52 else mg x % 2 ^ 52 + 2 ^ 52 } := Classical.choice ⟨⟨_, fun _ => rfl⟩⟩
noncomputable def sgf (x : Int64) : Nat := sgs.1 x
theorem sgf_def (x : Int64) : sgf x = if mg x / 2 ^ 52 = 0 then mg x % 2 ^ 52 else mg x % 2 ^ 52 + 2 ^ 52 := sgs.2 x
noncomputable def exs : { f : Int64 → Int // ∀ x, f x = if mg x / 2 ^ 52 = 0 then -1074 else ((mg x / 2 ^ 52 : Nat) : Int) - 1075 } := Classical.choice ⟨⟨_, fun _ => rfl⟩⟩
noncomputable def exf (x : Int64) : Int := exs.1 x
theorem exf_def (x : Int64) : exf x = if mg x / 2 ^ 52 = 0 then -1074 else ((mg x / 2 ^ 52 : Nat) : Int) - 1075 := exs.2 x
theorem mg_lt (x : Int64) : mg x < 2 ^ 63 := by rw [mg_def]; exact Nat.mod_lt _ (by decide)
theorem and_mg (x : Int64) : x &&& (9223372036854775807 : Int64) = lN (mg x) := by
  obtain ⟨n, hn, e⟩ := l_nat x
  have : (9223372036854775807 : Int64) = lN (2 ^ 63 - 1) := by decide
  rw [this]
  rw [mg_def]
  rw [e, l_and hn (by decide), lN_tn hn]
theorem and_52 (x : Int64) : x &&& (4503599627370495 : Int64) = lN (mg x % 2 ^ 52) := by
  obtain ⟨n, hn, e⟩ := l_nat x
  have : (4503599627370495 : Int64) = lN (2 ^ 52 - 1) := by decide
  rw [this]
  rw [mg_def]
  rw [e, l_and hn (by decide), lN_tn hn, Nat.mod_mod_of_dvd _ (by decide)]
theorem fld_ok (x : Int64) : jlush x (52 : Int32) &&& (2047 : Int64) = lN (mg x / 2 ^ 52) := by
  obtain ⟨n, hn, e⟩ := l_nat x
  have h1 : (2047 : Int64) = lN (2 ^ 11 - 1) := by decide
  have h2 : jlush x (52 : Int32) = lN (n / 2 ^ 52) := by rw [e]; exact l_ush (k := 52) hn (by decide)
  rw [h1, h2, l_and (by omega) (by decide)]
  rw [mg_def]
  rw [e, lN_tn hn]
  congr 1
  omega
theorem fieldOf_ok (x : Int64) : pF_fieldOf x = nI (mg x / 2 ^ 52) := by
  show (jlush x (52 : Int32) &&& (2047 : Int64)).toInt32 = _
  rw [fld_ok, lN_i]
theorem or_52 {m : Nat} (h : m < 2 ^ 52) : lN m ||| (4503599627370496 : Int64) = lN (m + 2 ^ 52) := by
  have e : (4503599627370496 : Int64) = lN (1 * 2 ^ 52) := by decide
  apply l_eq
  have := congrArg (fun z : Int64 => z.toBitVec.toNat) (l_or (n := m) (m := 1) (k := 52) h (by omega))
  have e2 : (lN (1 * 2 ^ 52) ||| lN m).toBitVec.toNat = (lN (1 * 2 ^ 52 + m)).toBitVec.toNat := this
  rw [lN_tn (by omega)] at e2
  have e3 : (lN m ||| (4503599627370496 : Int64)).toBitVec.toNat = ((lN m).toBitVec ||| (lN (1 * 2 ^ 52)).toBitVec).toNat := by rw [e]; rfl
  have e4 : (lN (1 * 2 ^ 52) ||| lN m).toBitVec.toNat = ((lN (1 * 2 ^ 52)).toBitVec ||| (lN m).toBitVec).toNat := rfl
  rw [e3, BitVec.or_comm, ← e4, e2]
  omega
theorem fld0 (x : Int64) : nI (mg x / 2 ^ 52) = 0 ↔ mg x / 2 ^ 52 = 0 := by
  have := mg_lt x
  exact nI_eq (a := mg x / 2 ^ 52) (b := 0) (by omega) (by decide)
theorem sig_ok (x : Int64) : pF_significandOf x = lN (sgf x) := by
  show (if pF_fieldOf x = 0 then x &&& (4503599627370495 : Int64) else (x &&& (4503599627370495 : Int64)) ||| (4503599627370496 : Int64)) = _
  rw [fieldOf_ok, and_52]
  rw [sgf_def]
  by_cases h : mg x / 2 ^ 52 = 0
  · rw [if_pos ((fld0 x).mpr h), if_pos h]
  · rw [if_neg (fun z => h ((fld0 x).mp z)), if_neg h, or_52 (by omega)]
theorem exp_ok (x : Int64) : (pF_exponentOf x).toInt = exf x := by
  show (if pF_fieldOf x = 0 then (-1074 : Int32) else (pF_fieldOf x - (1 : Int32)) + (-1074 : Int32)).toInt = _
  rw [fieldOf_ok]
  have hm := mg_lt x
  rw [exf_def]
  by_cases h : mg x / 2 ^ 52 = 0
  · rw [if_pos ((fld0 x).mpr h), if_pos h]; rfl
  · rw [if_neg (fun z => h ((fld0 x).mp z)), if_neg h]
    rw [iA (iS (nI_toInt (by omega)) (show (1 : Int32).toInt = 1 from rfl) (by omega) (by omega)) (show (-1074 : Int32).toInt = -1074 from rfl) (by omega) (by omega)]
    omega
theorem sgf_lt (x : Int64) : sgf x < 2 ^ 53 := by rw [sgf_def]; split <;> omega
theorem exf_ge (x : Int64) : -1074 ≤ exf x := by rw [exf_def]; split <;> omega
theorem exf_le (x : Int64) : exf x ≤ 972 := by have := mg_lt x; rw [exf_def]; split <;> omega
theorem exf_fin {x : Int64} (h : mg x < IM) : exf x ≤ 971 := by rw [IM_e] at h; rw [exf_def]; split <;> omega
theorem sgf_0 (x : Int64) : sgf x = 0 ↔ mg x = 0 := by rw [sgf_def]; split <;> omega
theorem FV_mg (x : Int64) : FV (mg x) = sgf x * WW (exf x) := by
  have hm := mg_lt x
  by_cases h : mg x / 2 ^ 52 = 0
  · have e : mg x = 0 * 2 ^ 52 + mg x % 2 ^ 52 := by omega
    rw [sgf_def, exf_def]
    rw [if_pos h, if_pos h]
    have := FV_k (pl := 0) (k := mg x % 2 ^ 52) (Or.inl rfl) (by omega)
    rw [← e] at this
    exact this
  · rw [sgf_def, exf_def]
    rw [if_neg h, if_neg h]
    have e : mg x = (mg x / 2 ^ 52 - 1) * 2 ^ 52 + (mg x % 2 ^ 52 + 2 ^ 52) := by omega
    have := FV_k (pl := mg x / 2 ^ 52 - 1) (k := mg x % 2 ^ 52 + 2 ^ 52) (by omega) (by omega)
    rw [← e] at this
    rw [this]
    congr 2
    omega
section SF2
variable (ng : Bool) (fp : Nat → Int32) (kp : Nat) (fq : Nat → Int32) (kq : Nat) (ee : Int32) (x : Int64)
theorem sf_v : (v_U_setFloat_4 ng fp kp fq kq ee x).toBitVec.toNat = sgf x := by
  have hm := mg_lt x
  have e : v_U_setFloat_4 ng fp kp fq kq ee x = lN (sgf x) := by
    show (if (jlush x (52 : Int32) &&& (2047 : Int64)) = lN 0 then x &&& (4503599627370495 : Int64) else (x &&& (4503599627370495 : Int64)) ||| (4503599627370496 : Int64)) = _
    rw [fld_ok, and_52]
    have q : lN (mg x / 2 ^ 52) = lN 0 ↔ mg x / 2 ^ 52 = 0 := lN_inj (by omega) (by decide)
    rw [sgf_def]
    by_cases h : mg x / 2 ^ 52 = 0
    · rw [if_pos (q.mpr h), if_pos h]
    · rw [if_neg (fun z => h (q.mp z)), if_neg h, or_52 (by omega)]
  have := sgf_lt x
  rw [e, lN_tn (by omega)]
theorem sf_pv : Bg (pU_setFloat_1 ng fp kp fq kq ee x) (pU_setFloat_2 ng fp kp fq kq ee x) (sgf x) := by
  have := sf_p ng fp kp fq kq ee x
  rw [sf_v] at this
  exact this
theorem sf_ev : (pU_setFloat_5 ng fp kp fq kq ee x).toInt = exf x := by
  have hm := mg_lt x
  show (if (jlush x (52 : Int32) &&& (2047 : Int64)) = lN 0 then (-1074 : Int32) else (jlush x (52 : Int32) &&& (2047 : Int64)).toInt32 - (1075 : Int32)).toInt = _
  rw [fld_ok, lN_i]
  have q : lN (mg x / 2 ^ 52) = lN 0 ↔ mg x / 2 ^ 52 = 0 := lN_inj (by omega) (by decide)
  rw [exf_def]
  by_cases h : mg x / 2 ^ 52 = 0
  · rw [if_pos (q.mpr h), if_pos h]; rfl
  · rw [if_neg (fun z => h (q.mp z)), if_neg h]
    exact iS (nI_toInt (by omega)) (show (1075 : Int32).toInt = 1075 from rfl) (by omega) (by omega)
theorem sf_nv : pU_setFloat_0 ng fp kp fq kq ee x = decide (x < 0) := by
  show (if (0 : Int64) ≤ x then false else true) = _
  by_cases h : (0 : Int64) ≤ x
  · rw [if_pos h]; symm; apply decide_eq_false; rw [Int64.le_iff_toInt_le] at h; rw [Int64.lt_iff_toInt_lt]; omega
  · rw [if_neg h]; symm; apply decide_eq_true; rw [Int64.le_iff_toInt_le] at h; rw [Int64.lt_iff_toInt_lt]; omega
end SF2
theorem nan_ok (x : Int64) : pF_isNaN x = decide (IM < mg x) := by
  have hm := mg_lt x
  show (if (x &&& (9223372036854775807 : Int64)) ≤ lN IM then false else true) = _
  rw [and_mg]
  have q : lN (mg x) ≤ lN IM ↔ mg x ≤ IM := pk_lLE hm (by decide)
  by_cases h : mg x ≤ IM
  · rw [if_pos (q.mpr h)]; symm; apply decide_eq_false; omega
  · rw [if_neg (fun z => h (q.mp z))]; symm; apply decide_eq_true; omega
theorem inf_ok (x : Int64) : pF_isInfinite x = decide (mg x = IM) := by
  have hm := mg_lt x
  show (if (x &&& (9223372036854775807 : Int64)) = lN IM then true else false) = _
  rw [and_mg]
  have q : lN (mg x) = lN IM ↔ mg x = IM := pk_lEQ hm (by decide)
  by_cases h : mg x = IM
  · rw [if_pos (q.mpr h)]; symm; exact decide_eq_true h
  · rw [if_neg (fun z => h (q.mp z))]; symm; exact decide_eq_false h
theorem fin_ok (x : Int64) : pF_isFinite x = decide (mg x < IM) := by
  have hm := mg_lt x
  show (if lN IM ≤ (x &&& (9223372036854775807 : Int64)) then false else true) = _
  rw [and_mg]
  have q : lN IM ≤ lN (mg x) ↔ IM ≤ mg x := pk_lLE (by decide) hm
  by_cases h : IM ≤ mg x
  · rw [if_pos (q.mpr h)]; symm; apply decide_eq_false; omega
  · rw [if_neg (fun z => h (q.mp z))]; symm; apply decide_eq_true; omega
theorem zro_ok (x : Int64) : pF_isZero x = decide (mg x = 0) := by
  have hm := mg_lt x
  show (if (x &&& (9223372036854775807 : Int64)) = lN 0 then true else false) = _
  rw [and_mg]
  have q : lN (mg x) = lN 0 ↔ mg x = 0 := pk_lEQ hm (by decide)
  by_cases h : mg x = 0
  · rw [if_pos (q.mpr h)]; symm; exact decide_eq_true h
  · rw [if_neg (fun z => h (q.mp z))]; symm; exact decide_eq_false h
theorem mnan_ok (x : Int64) : pM_isNan x = decide (IM < mg x) := nan_ok x
theorem minf_ok (x : Int64) : pM_isInfinite x = decide (mg x = IM) := inf_ok x
theorem mzero_ok (x : Int64) : pM_isZero x = decide (mg x = 0) := zro_ok x
theorem sgM_0 (ng : Bool) : sgM 0 ng = 0 := if_pos rfl
theorem neg_bit (x : Int64) : x < 0 ↔ 2 ^ 63 ≤ x.toBitVec.toNat := by
  rw [Int64.lt_iff_toInt_lt]
  show x.toBitVec.toInt < 0 ↔ _
  rw [BitVec.toInt_eq_toNat_cond]
  have := x.toBitVec.isLt
  split <;> omega
theorem or_sign {M : Nat} (h : M < 2 ^ 63) : lN M ||| (-9223372036854775808 : Int64) = lN (M + 2 ^ 63) := by
  have e : (-9223372036854775808 : Int64) = lN (1 * 2 ^ 63) := by decide
  have e2 := l_or (n := M) (m := 1) (k := 63) h (by omega)
  have e3 : lN M ||| lN (1 * 2 ^ 63) = lN (1 * 2 ^ 63) ||| lN M := by
    apply Int64.toBitVec_inj.mp
    show (lN M).toBitVec ||| (lN (1 * 2 ^ 63)).toBitVec = (lN (1 * 2 ^ 63)).toBitVec ||| (lN M).toBitVec
    exact BitVec.or_comm _ _
  rw [e, e3, e2]
  congr 1
  omega
/-- bits from a magnitude and a sign -/
theorem bt_ok (x : Int64) : x = lN (if x < 0 then mg x + 2 ^ 63 else mg x) := by
  apply l_eq
  have := neg_bit x
  have h2 := x.toBitVec.isLt
  rw [mg_def]
  by_cases h : x < 0
  · rw [if_pos h]; have := this.mp h; omega
  · rw [if_neg h]
    have : ¬ 2 ^ 63 ≤ x.toBitVec.toNat := fun z => h (this.mpr z)
    omega
theorem ws_ok {M : Nat} {ng : Bool} (h : M < 2 ^ 63) : pF_withSign (lN M) ng = lN (if ng = true then M + 2 ^ 63 else M) := by
  show (if ng = true then lN M ||| (-9223372036854775808 : Int64) else lN M) = _
  cases ng with
  | true => rw [if_pos rfl, if_pos rfl, or_sign h]
  | false => rw [if_neg (by decide), if_neg (by decide)]

