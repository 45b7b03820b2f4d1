theorem dn_toInt {x : Int32} (h : dg x) : x.toInt = (dn x : Int) := by
  unfold dg at h
  show x.toBitVec.toInt = _
  rw [BitVec.toInt_eq_toNat_cond, if_pos (by omega)]
  rfl
theorem dn_and16 (v : Int32) : (dn (v &&& (65535 : Int32)) : Int) = v.toInt % 65536 := by
  have e : dn (v &&& (65535 : Int32)) = v.toBitVec.toNat % 65536 := by
    show (v.toBitVec &&& (65535 : Int32).toBitVec).toNat = _
    rw [BitVec.toNat_and]
    exact Nat.and_two_pow_sub_one_eq_mod _ 16
  have e2 : v.toInt = v.toBitVec.toInt := rfl
  rw [e, e2, BitVec.toInt_eq_toNat_cond]
  have := v.toBitVec.isLt
  split <;> omega
/-- the first k digits, then 0 -/
def cutd (f : Nat → Int32) (k : Nat) : Nat → Int32 := fun i => if i < k then f i else 0
theorem cutd_if {f : Nat → Int32} {k j : Nat} (hk : k < 2147483648) (hj : j < 2147483648) : (if nI k ≤ nI j then (0 : Int32) else f j) = cutd f k j := by
  unfold cutd
  by_cases h : j < k
  · rw [if_pos h, if_neg (fun z => by have := (nI_leI hk hj).mp z; omega)]
  · rw [if_neg h, if_pos ((nI_leI hk hj).mpr (by omega))]
theorem cutd_dg {f : Nat → Int32} {k : Nat} (h : ∀ i, i < k → dg (f i)) (j : Nat) : dg (cutd f k j) := by
  unfold cutd
  split
  · rename_i q; exact h j q
  · exact dg_0
theorem bw_zero {f : Nat → Int32} : ∀ {n j : Nat}, (∀ i, j ≤ i → f i = 0) → bw f j n = 0
  | 0, _, _ => rfl
  | n + 1, j, h => by
    show dn (f j) + 65536 * bw f (j + 1) n = 0
    rw [h j (Nat.le_refl _), dn_0, bw_zero (n := n) (j := j + 1) (fun i hi => h i (by omega))]
theorem bw_add (f : Nat → Int32) : ∀ (m j n : Nat), bw f j (m + n) = bw f j m + bw f (j + m) n * 65536 ^ m
  | 0, j, n => by
    rw [Nat.zero_add, Nat.add_zero]
    show _ = 0 + _ * 1
    omega
  | m + 1, j, n => by
    have e : m + 1 + n = (m + n) + 1 := by omega
    rw [e]
    show dn (f j) + 65536 * bw f (j + 1) (m + n) = dn (f j) + 65536 * bw f (j + 1) m + bw f (j + (m + 1)) n * 65536 ^ (m + 1)
    rw [bw_add f m (j + 1) n, Nat.pow_succ, ← Nat.mul_assoc, Nat.mul_comm _ 65536]
    have e2 : j + 1 + m = j + (m + 1) := by omega
    rw [e2]
    omega
theorem bv_cutd {f : Nat → Int32} {k m : Nat} (h : k ≤ m) : bv (cutd f k) m = bv f k := by
  obtain ⟨d, rfl⟩ : ∃ d, m = k + d := ⟨m - k, by omega⟩
  rw [bv_bw, bw_zero (fun i hi => by unfold cutd; rw [if_neg (by omega)]), Nat.zero_mul, Nat.add_zero]
  exact bv_congr fun i hi => by unfold cutd; rw [if_pos hi]
def bN (b : Bool) : Nat := if b = true then 1 else 0
theorem bI_toInt (b : Bool) : (bI b).toInt = (bN b : Int) := by cases b <;> decide
theorem sub_ok {k2 : Nat} {g : Nat → Int32} (hk2 : k2 < 2147483648) (hg : ∀ i, i < k2 → dg (g i)) : ∀ (n j : Nat) (b : Bool) (f : Nat → Int32), j + n < 2147483648 → (∀ i, j ≤ i → i < j + n → dg (f i)) →
    (∀ i, i < j ∨ j + n ≤ i → (qB_subtract_4 k2 g n j b f).2 i = f i) ∧ (∀ i, j ≤ i → i < j + n → dg ((qB_subtract_4 k2 g n j b f).2 i)) ∧
    bw (qB_subtract_4 k2 g n j b f).2 j n + bw (cutd g k2) j n + bN b = bw f j n + bN (qB_subtract_4 k2 g n j b f).1 * 65536 ^ n := by
  intro n
  induction n with
  | zero =>
    intro j b f _ _
    exact ⟨fun _ _ => rfl, fun i p q => absurd q (by omega), by show 0 + 0 + bN b = 0 + bN b * 1; omega⟩
  | succ n ih =>
    intro j b f hj hf
    have hfj := hf j (by omega) (by omega)
    have hgj := cutd_dg hg j
    have ec := cutd_if (f := g) hk2 (show j < 2147483648 by omega)
    generalize hv : (f j - (if nI k2 ≤ nI j then (0 : Int32) else g j)) - bI b = v
    have hvI : v.toInt = (dn (f j) : Int) - (dn (cutd g k2 j) : Int) - (bN b : Int) := by
      rw [← hv, ec, Int32.toInt_sub, Int32.toInt_sub, dn_toInt hfj, dn_toInt hgj, bI_toInt]
      have h1 : dn (f j) < 65536 := hfj
      have h2 : dn (cutd g k2 j) < 65536 := hgj
      have h3 : bN b ≤ 1 := by cases b <;> decide
      rw [Int.bmod_eq_of_le (n := (dn (f j) : Int) - (dn (cutd g k2 j) : Int)) (by omega) (by omega)]
      exact Int.bmod_eq_of_le (by omega) (by omega)
    have e : qB_subtract_4 k2 g (n + 1) j b f = qB_subtract_4 k2 g n (j + 1) (if 0 ≤ v then false else true) (upd f j (v &&& (65535 : Int32))) := by
      rw [← hv]; rfl
    rw [e]
    obtain ⟨a1, a2, a3⟩ := ih (j + 1) (if 0 ≤ v then false else true) (upd f j (v &&& (65535 : Int32))) (by omega) (fun i p q => by rw [pk_un (by omega)]; exact hf i (by omega) (by omega))
    refine ⟨fun i hi => (a1 i (by omega)).trans (pk_un (by omega)), fun i p q => ?_, ?_⟩
    · by_cases ei : i = j
      · rw [ei, a1 j (by omega), upd_s]; exact dg_and v
      · exact a2 i (by omega) (by omega)
    · show dn ((qB_subtract_4 k2 g n (j + 1) (if 0 ≤ v then false else true) (upd f j (v &&& (65535 : Int32)))).2 j) + 65536 * bw _ (j + 1) n + (dn (cutd g k2 j) + 65536 * bw (cutd g k2) (j + 1) n) + bN b = (dn (f j) + 65536 * bw f (j + 1) n) + _ * 65536 ^ (n + 1)
      rw [a1 j (by omega), upd_s, Nat.pow_succ]
      have e2 : bw (upd f j (v &&& (65535 : Int32))) (j + 1) n = bw f (j + 1) n := bw_congr fun i p q => pk_un (by omega)
      rw [e2] at a3
      have hd := dn_and16 v
      have hb1 : (v.toInt % 65536 : Int) = v.toInt + 65536 * (bN (if 0 ≤ v then false else true) : Int) := by
        have h1 : dn (f j) < 65536 := hfj
        have h2 : dn (cutd g k2 j) < 65536 := hgj
        have h3 : bN b ≤ 1 := by cases b <;> decide
        by_cases q : 0 ≤ v
        · rw [if_pos q]
          rw [Int32.le_iff_toInt_le] at q
          have q2 : 0 ≤ v.toInt := q
          have : bN false = 0 := rfl
          rw [this]
          omega
        · rw [if_neg q]
          rw [Int32.le_iff_toInt_le] at q
          have q2 : ¬ 0 ≤ v.toInt := q
          have : bN true = 1 := rfl
          rw [this]
          omega
      rw [hb1, hvI] at hd
      generalize bN (qB_subtract_4 k2 g n (j + 1) (if 0 ≤ v then false else true) (upd f j (v &&& (65535 : Int32)))).1 = B9 at a3 ⊢
      generalize bN (if 0 ≤ v then false else true) = b9 at a3 hd
      have e3 : B9 * (65536 ^ n * 65536) = 65536 * (B9 * 65536 ^ n) := by rw [← Nat.mul_assoc, Nat.mul_comm]
      rw [e3]
      generalize B9 * 65536 ^ n = Z at a3 ⊢
      omega
theorem Bg_subtract {f g : Nat → Int32} {k k2 a b : Nat} (h : Bg f k a) (h2 : Bg g k2 b) (hab : b ≤ a) (hk : k < 2147483648) : Bg (pB_subtract_0 f k g k2) (pB_subtract_1 f k g k2) (a - b) ∧ pB_subtract_1 f k g k2 ≤ k := by
  have hkk : k2 ≤ k := h2.len (Nat.lt_of_le_of_lt hab h.high)
  obtain ⟨a1, a2, a3⟩ := sub_ok (k2 := k2) (g := g) (by omega) h2.1 k 0 false f (by omega) (fun i _ q => h.1 i (by omega))
  rw [bw_0, bw_0, bw_0, bv_cutd hkk, h.2.2, h2.2.2] at a3
  have e0 : pB_subtract_0 f k g k2 = (qB_subtract_4 k2 g k 0 false f).2 := rfl
  have e1 : pB_subtract_1 f k g k2 = pB_trim_0 (qB_subtract_4 k2 g k 0 false f).2 k := rfl
  generalize hr : qB_subtract_4 k2 g k 0 false f = r at *
  have hd : ∀ i, i < k → dg (r.2 i) := fun i hi => a2 i (Nat.zero_le _) (by omega)
  have hlt := bv_lt hd
  have hb : bN false = 0 := rfl
  rw [hb] at a3
  have hz : bN r.1 = 0 := by
    rcases Nat.eq_zero_or_pos (bN r.1) with q | q
    · exact q
    · have : 1 * 65536 ^ k ≤ bN r.1 * 65536 ^ k := Nat.mul_le_mul_right _ q
      omega
  rw [hz, Nat.zero_mul] at a3
  have hv : a - b = bv r.2 k := by omega
  rw [e0, e1, hv]
  exact ⟨Bg_trim hd, (trim_ok r.2 k).1⟩

