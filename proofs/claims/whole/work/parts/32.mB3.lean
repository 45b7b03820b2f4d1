/-- digits j .. j+n-1, from their own place on -/
def bw (f : Nat → Int32) : Nat → Nat → Nat
  | _, 0 => 0
  | j, n + 1 => dn (f j) + 65536 * bw f (j + 1) n
theorem bw_congr {f g : Nat → Int32} : ∀ {n j : Nat}, (∀ i, j ≤ i → i < j + n → f i = g i) → bw f j n = bw g j n
  | 0, _, _ => rfl
  | n + 1, j, h => by
    show dn (f j) + 65536 * bw f (j + 1) n = dn (g j) + 65536 * bw g (j + 1) n
    rw [h j (by omega) (by omega), bw_congr (n := n) (j := j + 1) (fun i a b => h i (by omega) (by omega))]
theorem bv_bw (f : Nat → Int32) : ∀ (n j : Nat), bv f (j + n) = bv f j + bw f j n * 65536 ^ j
  | 0, j => by show bv f j = bv f j + 0 * _; omega
  | n + 1, j => by
    have h := bv_bw f n (j + 1)
    have e : j + (n + 1) = j + 1 + n := by omega
    rw [e, h]
    show bv f j + dn (f j) * 65536 ^ j + _ = bv f j + (dn (f j) + 65536 * bw f (j + 1) n) * 65536 ^ j
    rw [Nat.pow_succ, Nat.add_mul, Nat.mul_comm 65536 (bw f (j + 1) n), Nat.mul_assoc, Nat.mul_comm 65536 (65536 ^ j)]
    omega
theorem bw_0 (f : Nat → Int32) (n : Nat) : bw f 0 n = bv f n := by
  have := bv_bw f n 0
  rw [Nat.zero_add] at this
  rw [this]
  show _ = 0 + _ * 1
  omega
theorem i2l_dn {x : Int32} (h : 0 ≤ x.toInt) : x.toInt64 = lN (dn x) := by
  apply Int64.toInt_inj.mp
  have h1 : x.toInt64.toInt = x.toInt := Int32.toInt_toInt64 x
  have h2 : x.toInt = (dn x : Int) := by
    show x.toBitVec.toInt = _
    have h3 : x.toInt = x.toBitVec.toInt := rfl
    rw [h3, BitVec.toInt_eq_toNat_cond] at h
    rw [BitVec.toInt_eq_toNat_cond]
    split at h
    · rename_i q; rw [if_pos q]; rfl
    · exfalso
      have := x.toBitVec.isLt
      omega
  have h4 : dn x < 2 ^ 32 := x.toBitVec.isLt
  rw [h1, h2, pk_lT (by omega)]
theorem lN_tn {n : Nat} (h : n < 2 ^ 64) : (lN n).toBitVec.toNat = n := by
  show (BitVec.ofNat 64 n).toNat = n
  rw [BitVec.toNat_ofNat]
  exact Nat.mod_eq_of_lt h
theorem lN_shr16 {n : Nat} (h : n < 2 ^ 63) : jlshr (lN n) (16 : Int32) = lN (n / 65536) := by
  apply Int64.toInt_inj.mp
  have e : jlshr (lN n) (16 : Int32) = jlshr (lN n) (nI 16) := rfl
  rw [e, jl_shr _ (by decide), pk_lT h, pk_lT (by omega)]
  rfl
theorem dn_lo' {n : Nat} (h : n < 2 ^ 64) : dn (lN n &&& (65535 : Int64)).toInt32 = n % 65536 := by
  rw [dn_lo, lN_tn h]
theorem dn_l2i {n : Nat} (h : n < 65536) : dn (lN n).toInt32 = n := by
  unfold dn
  rw [Int64.toBitVec_toInt32, BitVec.signExtend_eq_setWidth_of_le _ (by decide), BitVec.toNat_setWidth, lN_tn (by omega)]
  omega
theorem grow_ok {ti : Int32} (ht : 0 ≤ ti.toInt ∧ ti.toInt ≤ 65535) : ∀ (n j C : Nat) (f : Nat → Int32), C ≤ 65535 → (∀ i, j ≤ i → i < j + n → dg (f i)) →
    ∃ C', C' ≤ 65535 ∧ (qB_grow_6 ti n j (lN C) f).1 = lN C' ∧ (∀ i, i < j ∨ j + n ≤ i → (qB_grow_6 ti n j (lN C) f).2 i = f i) ∧ (∀ i, j ≤ i → i < j + n → dg ((qB_grow_6 ti n j (lN C) f).2 i)) ∧
    bw (qB_grow_6 ti n j (lN C) f).2 j n + C' * 65536 ^ n = bw f j n * dn ti + C := by
  have hT : dn ti ≤ 65535 := by
    have e := i2l_dn ht.1
    have h1 : ti.toInt64.toInt = ti.toInt := Int32.toInt_toInt64 ti
    have h4 : dn ti < 2 ^ 32 := ti.toBitVec.isLt
    rw [e, pk_lT (by omega)] at h1
    omega
  intro n
  induction n with
  | zero =>
    intro j C f hC _
    exact ⟨C, hC, rfl, fun _ _ => rfl, fun i a b => absurd b (by omega), by show 0 + C * 1 = 0 * _ + C; omega⟩
  | succ n ih =>
    intro j C f hC hd
    have hj := hd j (by omega) (by omega)
    have hj2 : dn (f j) ≤ 65535 := by have : dn (f j) < 65536 := hj; omega
    have hm : dn (f j) * dn ti ≤ 65535 * 65535 := Nat.mul_le_mul hj2 hT
    have ev : (f j).toInt64 * ti.toInt64 + lN C = lN (dn (f j) * dn ti + C) := by
      rw [i2l_dn (dg_int hj).1, i2l_dn ht.1, lN_mul, lN_add]
    generalize hV : dn (f j) * dn ti + C = V at ev
    have hV2 : V ≤ 65535 * 65535 + 65535 := by omega
    have e : qB_grow_6 ti (n + 1) j (lN C) f = qB_grow_6 ti n (j + 1) (lN (V / 65536)) (upd f j (lN V &&& (65535 : Int64)).toInt32) := by
      show qB_grow_6 ti n (j + 1) (jlshr ((f j).toInt64 * ti.toInt64 + lN C) (16 : Int32)) (upd f j (((f j).toInt64 * ti.toInt64 + lN C) &&& (65535 : Int64)).toInt32) = _
      rw [ev, lN_shr16 (by omega)]
    rw [e]
    have hq : V / 65536 ≤ 65535 := by omega
    obtain ⟨C', a1, a2, a3, a4, a5⟩ := ih (j + 1) (V / 65536) (upd f j (lN V &&& (65535 : Int64)).toInt32) hq (fun i p q => by rw [pk_un (by omega)]; exact hd i (by omega) (by omega))
    refine ⟨C', a1, a2, fun i hi => (a3 i (by omega)).trans (pk_un (by omega)), fun i p q => ?_, ?_⟩
    · by_cases ei : i = j
      · subst ei; rw [a3 i (by omega), upd_s]; exact dg_lo _
      · exact a4 i (by omega) (by omega)
    · show dn ((qB_grow_6 ti n (j + 1) (lN (V / 65536)) (upd f j (lN V &&& (65535 : Int64)).toInt32)).2 j) + 65536 * bw _ (j + 1) n + C' * 65536 ^ (n + 1) = (dn (f j) + 65536 * bw f (j + 1) n) * dn ti + C
      rw [a3 j (by omega), upd_s, dn_lo' (by omega), Nat.pow_succ]
      have e2 : bw (upd f j (lN V &&& (65535 : Int64)).toInt32) (j + 1) n = bw f (j + 1) n := bw_congr fun i p q => pk_un (by omega)
      rw [e2] at a5
      have h1 := Nat.div_add_mod V 65536
      generalize bw (qB_grow_6 ti n (j + 1) (lN (V / 65536)) (upd f j (lN V &&& (65535 : Int64)).toInt32)).2 (j + 1) n = X at a5 ⊢
      rw [Nat.add_mul, Nat.mul_assoc]
      generalize bw f (j + 1) n * dn ti = Y at a5 ⊢
      have e3 : C' * (65536 ^ n * 65536) = 65536 * (C' * 65536 ^ n) := by rw [← Nat.mul_assoc, Nat.mul_comm]
      rw [e3]
      generalize C' * 65536 ^ n = Z at a5 ⊢
      omega
theorem carry_ok {C : Nat} (hC : C ≤ 65535) (f : Nat → Int32) (k : Nat) : qB_grow_56 4 (lN C) f k = if C = 0 then (lN C, f, k) else (lN 0, upd f k (lN C &&& (65535 : Int64)).toInt32, k + 1) := by
  have z : ∀ (n : Nat) (g : Nat → Int32) (k : Nat), qB_grow_56 (n + 1) (lN 0) g k = (lN 0, g, k) := fun n g k => if_pos (by decide)
  by_cases h : C = 0
  · subst h; rw [if_pos rfl]; exact z 3 f k
  · rw [if_neg h]
    have h1 : ¬ lN C ≤ (0 : Int64) := by
      intro q
      have := (pk_lLE (a := C) (b := 0) (by omega) (by decide)).mp q
      omega
    have e : qB_grow_56 4 (lN C) f k = qB_grow_56 3 (jlshr (lN C) (16 : Int32)) (upd f k (lN C &&& (65535 : Int64)).toInt32) (k + 1) := if_neg h1
    rw [e, lN_shr16 (by omega)]
    have e2 : C / 65536 = 0 := by omega
    rw [e2]
    exact z 2 _ _
theorem Bg_grow {f : Nat → Int32} {k v : Nat} (h : Bg f k v) {ti : Int32} (ht : 1 ≤ ti.toInt ∧ ti.toInt ≤ 65535) : Bg (pB_grow_0 f k ti 0) (pB_grow_1 f k ti 0) (v * dn ti) ∧ pB_grow_1 f k ti 0 ≤ k + 1 := by
  obtain ⟨C', a1, a2, a3, a4, a5⟩ := grow_ok (ti := ti) ⟨by omega, ht.2⟩ k 0 0 f (by omega) (fun i _ q => h.1 i (by omega))
  have hT : 1 ≤ dn ti := by
    apply dn_pos
    intro q
    rw [q] at ht
    exact absurd ht.1 (by decide)
  have e0 : (0 : Int32).toInt64 = lN 0 := rfl
  generalize hg : (qB_grow_6 ti k 0 (lN 0) f).2 = g at a3 a4 a5
  have E : ∀ r, r = qB_grow_56 4 (lN C') g k → pB_grow_0 f k ti 0 = r.2.1 ∧ pB_grow_1 f k ti 0 = r.2.2 := by
    intro r hr
    subst hr
    rw [← a2, ← hg]
    exact ⟨rfl, rfl⟩
  rw [bw_0, bw_0, h.2.2] at a5
  have hlow : bv g k + C' * 65536 ^ k = v * dn ti := by omega
  by_cases hc : C' = 0
  · obtain ⟨p0, p1⟩ := E (lN C', g, k) (by rw [carry_ok a1, if_pos hc])
    rw [p0, p1]
    rw [hc, Nat.zero_mul, Nat.add_zero] at hlow
    refine ⟨⟨fun i hi => a4 i (Nat.zero_le _) (by have : i < k := hi; omega), fun j hj => ?_, hlow⟩, by show k ≤ k + 1; omega⟩
    intro q
    have hj : k = j + 1 := hj
    subst hj
    have h1 := h.low
    have h2 : bv g (j + 1) = bv g j + dn (g j) * 65536 ^ j := rfl
    have q : g j = 0 := q
    rw [q, dn_0] at h2
    have h3 := bv_lt (f := g) (n := j) (fun i hi => a4 i (Nat.zero_le _) (by omega))
    have h4 : v * 1 ≤ v * dn ti := Nat.mul_le_mul_left _ hT
    omega
  · obtain ⟨p0, p1⟩ := E (lN 0, upd g k (lN C' &&& (65535 : Int64)).toInt32, k + 1) (by rw [carry_ok a1, if_neg hc])
    rw [p0, p1]
    have ed : dn (lN C' &&& (65535 : Int64)).toInt32 = C' := by rw [dn_lo' (by omega)]; omega
    refine ⟨⟨fun i hi => ?_, fun j hj => ?_, ?_⟩, Nat.le_refl _⟩
    · show dg (upd g k _ i)
      by_cases ei : i = k
      · rw [ei, upd_s]; exact dg_lo _
      · rw [pk_un ei]; exact a4 i (Nat.zero_le _) (by have : i < k + 1 := hi; omega)
    · have : j = k := by have : k + 1 = j + 1 := hj; omega
      rw [this]
      show upd g k _ k ≠ 0
      rw [upd_s]
      intro q
      rw [q, dn_0] at ed
      omega
    · show bv (upd g k _) k + dn (upd g k _ k) * 65536 ^ k = _
      rw [bv_upd, upd_s, ed]
      exact hlow

