/-! BIG NUMBERS: what the arrays say -/
def dn (x : Int32) : Nat := x.toBitVec.toNat
theorem dn_0 : dn 0 = 0 := by decide
theorem dn_inj {x y : Int32} (h : dn x = dn y) : x = y := Int32.toBitVec_inj.mp (BitVec.eq_of_toNat_eq h)
theorem dn_pos {x : Int32} (h : x ≠ 0) : 1 ≤ dn x := by
  rcases Nat.eq_zero_or_pos (dn x) with q | q
  · exact absurd (dn_inj (q.trans dn_0.symm)) h
  · exact q
def bv (f : Nat → Int32) : Nat → Nat
  | 0 => 0
  | n + 1 => bv f n + dn (f n) * 65536 ^ n
theorem bv_congr {f g : Nat → Int32} : ∀ {n : Nat}, (∀ i, i < n → f i = g i) → bv f n = bv g n
  | 0, _ => rfl
  | n + 1, h => by
    show bv f n + dn (f n) * 65536 ^ n = bv g n + dn (g n) * 65536 ^ n
    rw [bv_congr (n := n) (fun i hi => h i (by omega)), h n (by omega)]
theorem bv_lt {f : Nat → Int32} : ∀ {n : Nat}, (∀ i, i < n → dg (f i)) → bv f n < 65536 ^ n
  | 0, _ => Nat.one_pos
  | n + 1, h => by
    show bv f n + dn (f n) * 65536 ^ n < 65536 ^ (n + 1)
    have h1 := bv_lt (n := n) (fun i hi => h i (by omega))
    have h2 : dn (f n) < 65536 := h n (by omega)
    have h3 : dn (f n) * 65536 ^ n ≤ 65535 * 65536 ^ n := Nat.mul_le_mul_right _ (by omega)
    rw [Nat.pow_succ]
    omega
/-- the first k digits are v, without a 0 on top -/
def Bg (f : Nat → Int32) (k v : Nat) : Prop := (∀ i, i < k → dg (f i)) ∧ (∀ j, k = j + 1 → f j ≠ 0) ∧ bv f k = v
theorem Bg.low {f : Nat → Int32} {j v : Nat} (h : Bg f (j + 1) v) : 65536 ^ j ≤ v := by
  obtain ⟨-, h2, h3⟩ := h
  have h4 := dn_pos (h2 j rfl)
  have h5 : 1 * 65536 ^ j ≤ dn (f j) * 65536 ^ j := Nat.mul_le_mul_right _ h4
  have h6 : bv f (j + 1) = bv f j + dn (f j) * 65536 ^ j := rfl
  omega
theorem Bg.high {f : Nat → Int32} {k v : Nat} (h : Bg f k v) : v < 65536 ^ k := by
  rw [← h.2.2]; exact bv_lt h.1
theorem Bg.len {f : Nat → Int32} {k v m : Nat} (h : Bg f k v) (hv : v < 65536 ^ m) : k ≤ m := by
  cases k with
  | zero => omega
  | succ j =>
    have h1 := h.low
    have h2 : 65536 ^ j < 65536 ^ m := by omega
    have := (Nat.pow_lt_pow_iff_right (a := 65536) (by decide)).mp h2
    omega
theorem Bg.zero {f : Nat → Int32} {k v : Nat} (h : Bg f k v) : k = 0 ↔ v = 0 := by
  constructor
  · intro q; subst q; exact h.2.2.symm
  · intro q
    have := h.len (m := 0) (by rw [q]; decide)
    omega
theorem lo16 (w : Int64) : (w &&& (65535 : Int64)).toBitVec.toNat = w.toBitVec.toNat % 65536 := by
  show (w.toBitVec &&& (65535 : Int64).toBitVec).toNat = _
  rw [BitVec.toNat_and]
  exact Nat.and_two_pow_sub_one_eq_mod _ 16
theorem dn_lo (w : Int64) : dn (w &&& (65535 : Int64)).toInt32 = w.toBitVec.toNat % 65536 := by
  unfold dn
  rw [Int64.toBitVec_toInt32, BitVec.signExtend_eq_setWidth_of_le _ (by decide), BitVec.toNat_setWidth, lo16]
  omega
theorem dg_lo (w : Int64) : dg (w &&& (65535 : Int64)).toInt32 := by
  have := dn_lo w
  unfold dn at this
  unfold dg
  rw [this]
  omega
theorem upd_s {f : Nat → Int32} {k : Nat} {x : Int32} : upd f k x k = x := pk_us
theorem bv_upd {f : Nat → Int32} {n : Nat} {x : Int32} : bv (upd f n x) n = bv f n := bv_congr fun i hi => pk_un (by omega)
theorem set_ok : ∀ (n : Nat) (w : Int64) (f : Nat → Int32) (c : Nat), wlt w n →
    (w = 0 → qB_set_7 n w f c = (w, f, c)) ∧ (∀ i, i < c → (qB_set_7 n w f c).2.1 i = f i) ∧ c ≤ (qB_set_7 n w f c).2.2 ∧
    (∀ i, c ≤ i → i < (qB_set_7 n w f c).2.2 → dg ((qB_set_7 n w f c).2.1 i)) ∧ (w ≠ 0 → ∃ j, c ≤ j ∧ (qB_set_7 n w f c).2.2 = j + 1 ∧ (qB_set_7 n w f c).2.1 j ≠ 0) ∧
    bv (qB_set_7 n w f c).2.1 (qB_set_7 n w f c).2.2 = bv f c + w.toBitVec.toNat * 65536 ^ c := by
  intro n
  induction n with
  | zero =>
    intro w f c h
    have h0 := wlt_0 h
    subst h0
    exact ⟨fun _ => rfl, fun _ _ => rfl, Nat.le_refl _, fun i a b => absurd b (by show ¬ i < c; omega), fun q => absurd rfl q, by show bv f c = bv f c + 0 * _; omega⟩
  | succ n ih =>
    intro w f c h
    by_cases h0 : w = 0
    · have e : qB_set_7 (n + 1) w f c = (w, f, c) := if_pos h0
      rw [e]
      subst h0
      exact ⟨fun _ => rfl, fun _ _ => rfl, Nat.le_refl _, fun i a b => absurd b (by show ¬ i < c; omega), fun q => absurd rfl q, by show bv f c = bv f c + 0 * _; omega⟩
    · have e : qB_set_7 (n + 1) w f c = qB_set_7 n (jlush w (16 : Int32)) (upd f c (w &&& (65535 : Int64)).toInt32) (c + 1) := if_neg h0
      rw [e]
      obtain ⟨a1, a2, a3, a4, a5, a6⟩ := ih (jlush w (16 : Int32)) (upd f c (w &&& (65535 : Int64)).toInt32) (c + 1) (wlt_s h)
      have eu : (jlush w (16 : Int32)).toBitVec.toNat = w.toBitVec.toNat / 65536 := jl_ush w (k := 16) (by decide)
      refine ⟨fun q => absurd q h0, fun i hi => (a2 i (by omega)).trans (pk_un (by omega)), by omega, fun i p q => ?_, fun _ => ?_, ?_⟩
      · by_cases ei : i = c
        · subst ei; rw [a2 i (by omega), upd_s]; exact dg_lo w
        · exact a4 i (by omega) q
      · by_cases hw : jlush w (16 : Int32) = 0
        · have e2 := a1 hw
          rw [e2]
          refine ⟨c, Nat.le_refl _, rfl, ?_⟩
          show upd f c _ c ≠ 0
          rw [upd_s]
          intro q
          have q2 : dn (w &&& (65535 : Int64)).toInt32 = 0 := by rw [q]; rfl
          rw [dn_lo] at q2
          rw [hw] at eu
          have e3 : (0 : Int64).toBitVec.toNat = 0 := rfl
          apply h0
          apply Int64.toBitVec_inj.mp
          apply BitVec.eq_of_toNat_eq
          rw [e3] at eu ⊢
          omega
        · obtain ⟨j, p, q, r⟩ := a5 hw
          exact ⟨j, by omega, q, r⟩
      · rw [a6, eu]
        show bv (upd f c _) c + dn (upd f c _ c) * 65536 ^ c + _ = _
        rw [bv_upd, upd_s, dn_lo, Nat.pow_succ]
        have h1 := Nat.div_add_mod (w.toBitVec.toNat) 65536
        generalize w.toBitVec.toNat / 65536 = a at *
        generalize w.toBitVec.toNat % 65536 = b at *
        rw [← h1, Nat.add_mul, Nat.mul_comm (65536 ^ c) 65536, ← Nat.mul_assoc, Nat.mul_comm a 65536]
        omega
theorem Bg_set (f : Nat → Int32) (k : Nat) (v : Int64) : Bg (pB_set_0 f k v) (pB_set_1 f k v) v.toBitVec.toNat := by
  obtain ⟨a1, a2, a3, a4, a5, a6⟩ := set_ok 4 v f 0 (wlt_4 v)
  refine ⟨fun i hi => a4 i (Nat.zero_le _) hi, fun j hj => ?_, ?_⟩
  · by_cases h0 : v = 0
    · have e : pB_set_1 f k v = 0 := by show (qB_set_7 4 v f 0).2.2 = 0; rw [a1 h0]
      omega
    · obtain ⟨j2, -, q, r⟩ := a5 h0
      have e : pB_set_1 f k v = j2 + 1 := q
      have : j = j2 := by omega
      rw [this]; exact r
  · show bv (qB_set_7 4 v f 0).2.1 (qB_set_7 4 v f 0).2.2 = _
    rw [a6]
    show 0 + _ * 1 = _
    omega
theorem copy_ok (g : Nat → Int32) : ∀ (n j : Nat) (f : Nat → Int32) (i : Nat), qB_copy_10 g n j f i = if j ≤ i ∧ i < j + n then g i else f i := by
  intro n
  induction n with
  | zero => intro j f i; rw [if_neg (by omega)]; rfl
  | succ n ih =>
    intro j f i
    show qB_copy_10 g n (j + 1) (upd f j (g j)) i = _
    rw [ih]
    by_cases h : j + 1 ≤ i ∧ i < j + 1 + n
    · rw [if_pos h, if_pos (by omega)]
    · rw [if_neg h]
      by_cases e : i = j
      · subst e; rw [upd_s, if_pos (by omega)]
      · rw [pk_un e, if_neg (by omega)]
theorem Bg.congr {f g : Nat → Int32} {k v : Nat} (h : Bg f k v) (e : ∀ i, i < k → g i = f i) : Bg g k v :=
  ⟨fun i hi => by rw [e i hi]; exact h.1 i hi, fun j hj => by rw [e j (by omega)]; exact h.2.1 j hj, by rw [← h.2.2]; exact bv_congr e⟩
theorem Bg_copy (f : Nat → Int32) (k : Nat) {f2 : Nat → Int32} {k2 v : Nat} (h : Bg f2 k2 v) : Bg (pB_copy_0 f k f2 k2) (pB_copy_1 f k f2 k2) v := by
  refine h.congr (fun i hi => ?_)
  show qB_copy_10 f2 k2 0 f i = f2 i
  rw [copy_ok, if_pos ⟨Nat.zero_le _, by have : i < k2 := hi; omega⟩]

