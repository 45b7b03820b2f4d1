/-! NATURALS OF 72 DIGITS OF 30 BITS -/
def dv (f : Nat → Int32) : Nat → Nat
  | 0 => 0
  | n + 1 => dv f n + dn (f n) * 2 ^ (30 * n)
theorem p30 (n : Nat) : 2 ^ (30 * (n + 1)) = 2 ^ 30 * 2 ^ (30 * n) := by rw [← Nat.pow_add]; congr 1; omega
theorem dv_congr {f g : Nat → Int32} : ∀ {n : Nat}, (∀ i, i < n → f i = g i) → dv f n = dv g n
  | 0, _ => rfl
  | n + 1, h => by
    show dv f n + dn (f n) * 2 ^ (30 * n) = dv g n + dn (g n) * 2 ^ (30 * n)
    rw [dv_congr (n := n) (fun i hi => h i (by omega)), h n (by omega)]
theorem dv_lt {f : Nat → Int32} : ∀ {n : Nat}, (∀ i, i < n → dn (f i) < 2 ^ 30) → dv f n < 2 ^ (30 * n)
  | 0, _ => Nat.one_pos
  | n + 1, h => by
    show dv f n + dn (f n) * 2 ^ (30 * n) < 2 ^ (30 * (n + 1))
    have h1 := dv_lt (n := n) (fun i hi => h i (by omega))
    have h2 : dn (f n) < 2 ^ 30 := h n (by omega)
    have h3 : dn (f n) * 2 ^ (30 * n) ≤ (2 ^ 30 - 1) * 2 ^ (30 * n) := Nat.mul_le_mul_right _ (by omega)
    rw [p30]
    omega
theorem dv_0 {f : Nat → Int32} {k : Nat} : ∀ {n : Nat}, k ≤ n → (∀ i, k ≤ i → i < n → f i = 0) → dv f n = dv f k
  | 0, h, _ => by have : k = 0 := by omega
                  rw [this]
  | n + 1, h, z => by
    by_cases q : k = n + 1
    · rw [q]
    · show dv f n + dn (f n) * 2 ^ (30 * n) = _
      rw [z n (by omega) (by omega), dn_0, Nat.zero_mul, Nat.add_zero]
      exact dv_0 (by omega) (fun i a b => z i a (by omega))
theorem dv_upd {f : Nat → Int32} {n : Nat} {x : Int32} : dv (upd f n x) n = dv f n := dv_congr fun i hi => pk_un (by omega)
/-- k digits of 30 bits say v, the rest of 72 is 0 -/
def Ng (f : Nat → Int32) (k v : Nat) : Prop := k ≤ 72 ∧ (∀ i, i < 72 → dn (f i) < 2 ^ 30) ∧ (∀ i, k ≤ i → i < 72 → f i = 0) ∧ (∀ j, k = j + 1 → f j ≠ 0) ∧ dv f 72 = v
theorem Ng.dvk {f : Nat → Int32} {k v : Nat} (h : Ng f k v) : dv f k = v := by
  rw [← h.2.2.2.2]; exact (dv_0 h.1 h.2.2.1).symm
theorem Ng.hi {f : Nat → Int32} {k v : Nat} (h : Ng f k v) : v < 2 ^ (30 * k) := by
  rw [← h.dvk]; exact dv_lt (fun i hi => h.2.1 i (by have := h.1; omega))
theorem Ng.lo {f : Nat → Int32} {j v : Nat} (h : Ng f (j + 1) v) : 2 ^ (30 * j) ≤ v := by
  have h1 := dn_pos (h.2.2.2.1 j rfl)
  rw [← h.dvk]
  show _ ≤ dv f j + dn (f j) * 2 ^ (30 * j)
  have : 1 * 2 ^ (30 * j) ≤ dn (f j) * 2 ^ (30 * j) := Nat.mul_le_mul_right _ h1
  omega
theorem Ng.z {f : Nat → Int32} {k v : Nat} (h : Ng f k v) : k = 0 ↔ v = 0 := by
  constructor
  · intro q; subst q; exact h.dvk.symm
  · intro q
    cases k with
    | zero => rfl
    | succ j => have := h.lo; have : 0 < 2 ^ (30 * j) := Nat.pow_pos (by decide); omega
theorem clear_ok : ∀ (n j : Nat) (f : Nat → Int32) (i : Nat), qN_clear_2 n j f i = if j ≤ i ∧ i < j + n then 0 else f i := by
  intro n
  induction n with
  | zero => intro j f i; rw [if_neg (by omega)]; rfl
  | succ n ih =>
    intro j f i
    show qN_clear_2 n (j + 1) (upd f j 0) i = _
    rw [ih]
    by_cases h : j + 1 ≤ i ∧ i < j + 1 + n
    · rw [if_pos h, if_pos (by omega)]
    · rw [if_neg h]
      by_cases e : i = j
      · subst e; rw [upd_s, if_pos (by omega)]
      · rw [pk_un e, if_neg (by omega)]
theorem sh30 {c : Nat} (h : c < 30) : (1 : Int32) <<< ((nI c) &&& 31) = nI (2 ^ c) := by
  have hs : ∀ c, c < 30 → ((nI c &&& 31).toBitVec.smod 32).toNat = c := by decide +kernel
  have hp : 2 ^ c ≤ 2 ^ 29 := Nat.pow_le_pow_right (by decide) (by omega)
  have := pk_shlN (n := 1) (nI c &&& 31) c (hs c h) (by omega)
  rw [Nat.one_mul] at this
  exact this
theorem dn_nI {n : Nat} (h : n < 2 ^ 32) : dn (nI n) = n := pk_tn h
theorem setBit_ok (f : Nat → Int32) (k : Nat) {pb : Nat} (h : pb < 2160) : Ng (pN_setBit_0 f k pb) (pN_setBit_1 f k pb) (2 ^ pb) := by
  have hp : 2 ^ (pb % 30) ≤ 2 ^ 29 := Nat.pow_le_pow_right (by decide) (by omega)
  have h0 : 0 < 2 ^ (pb % 30) := Nat.pow_pos (by decide)
  have e3 : v_N_setBit_3 f k pb = nI (2 ^ (pb % 30)) := sh30 (by omega)
  have e0 : ∀ i, i < 72 → pN_setBit_0 f k pb i = if i = pb / 30 then nI (2 ^ (pb % 30)) else 0 := by
    intro i hi
    show upd (qN_clear_2 72 0 f) (pb / 30) (v_N_setBit_3 f k pb) i = _
    by_cases q : i = pb / 30
    · rw [if_pos q, q, upd_s, e3]
    · rw [if_neg q, pk_un q, clear_ok, if_pos ⟨Nat.zero_le _, by omega⟩]
  have e1 : pN_setBit_1 f k pb = pb / 30 + 1 := rfl
  have hz : ∀ i, pb / 30 + 1 ≤ i → i < 72 → pN_setBit_0 f k pb i = 0 := fun i a b => by rw [e0 i b, if_neg (by omega)]
  rw [e1]
  refine ⟨by omega, fun i hi => ?_, hz, fun j hj => ?_, ?_⟩
  · rw [e0 i hi]
    split
    · rw [dn_nI (by omega)]; omega
    · rw [dn_0]; decide
  · have : j = pb / 30 := by omega
    rw [e0 j (by omega), if_pos this]
    intro q
    have := dn_nI (n := 2 ^ (pb % 30)) (by omega)
    rw [q, dn_0] at this
    omega
  · rw [dv_0 (k := pb / 30 + 1) (by omega) hz]
    show dv _ (pb / 30) + dn (pN_setBit_0 f k pb (pb / 30)) * _ = _
    rw [dv_0 (k := 0) (Nat.zero_le _) (fun i _ hi => by rw [e0 i (by omega), if_neg (by omega)]), e0 _ (by omega), if_pos rfl, dn_nI (by omega)]
    show 0 + _ = _
    rw [Nat.zero_add, ← Nat.pow_add]
    congr 1
    omega
theorem trimN (f : Nat → Int32) : ∀ k, qN_trim_0 f k ≤ k ∧ (∀ i, qN_trim_0 f k ≤ i → i < k → f i = 0) ∧ (∀ j, qN_trim_0 f k = j + 1 → f j ≠ 0) := by
  intro k
  induction k with
  | zero => exact ⟨Nat.le_refl _, fun i a b => by omega, fun j h => absurd h (by show ¬ 0 = j + 1; omega)⟩
  | succ k ih =>
    by_cases q : f k = 0
    · have e : qN_trim_0 f (k + 1) = qN_trim_0 f k := if_pos q
      rw [e]
      refine ⟨by omega, fun i a b => ?_, ih.2.2⟩
      by_cases w : i = k
      · rw [w]; exact q
      · exact ih.2.1 i a (by omega)
    · have e : qN_trim_0 f (k + 1) = k + 1 := if_neg q
      rw [e]
      refine ⟨Nat.le_refl _, fun i a b => by omega, fun j h => ?_⟩
      have ej : j = k := by omega
      rw [ej]; exact q
theorem Ng_trim {f : Nat → Int32} {e v : Nat} (he : e ≤ 72) (h1 : ∀ i, i < 72 → dn (f i) < 2 ^ 30) (h2 : ∀ i, e ≤ i → i < 72 → f i = 0) (hv : dv f 72 = v) : Ng f (pN_trim_0 f e) v := by
  obtain ⟨a, b, c⟩ := trimN f e
  refine ⟨Nat.le_trans a he, h1, fun i p q => ?_, c, hv⟩
  by_cases w : e ≤ i
  · exact h2 i w q
  · exact b i p (by omega)
theorem d64 {x : Int32} (h : dn x < 2 ^ 30) : x.toInt64 = lN (dn x) := by
  have e : x = nI (dn x) := dn_inj (by rw [dn_nI (by omega)])
  exact (congrArg Int32.toInt64 e).trans (nI_l (by omega))
theorem scale_loop {c : Nat} (hc : c < 2 ^ 53) {f : Nat → Int32} (hf : ∀ i, i < 72 → dn (f i) < 2 ^ 30) : ∀ (n j bf cy : Nat) (y : Nat → Int32), j + n ≤ 72 → bf < 2 ^ 30 → cy < 2 ^ 31 → (∀ i, j ≤ i → i < 72 → y i = f i) → (∀ i, i < 72 → dn (y i) < 2 ^ 30) → dv y j + (cy + bf * (c / 2 ^ 30)) * 2 ^ (30 * j) = dv f j * c →
    ∃ bf' cy' y', qN_scale_34 (lN (c % 2 ^ 30)) (lN (c / 2 ^ 30)) n j (lN bf) (lN cy) y = (lN bf', lN cy', y') ∧ (∀ i, j + n ≤ i → i < 72 → y' i = f i) ∧ (∀ i, i < 72 → dn (y' i) < 2 ^ 30) ∧ dv y' (j + n) + (cy' + bf' * (c / 2 ^ 30)) * 2 ^ (30 * (j + n)) = dv f (j + n) * c := by
  intro n
  induction n with
  | zero => intro j bf cy y hj hb hcy h1 h2 h3; exact ⟨bf, cy, y, rfl, h1, h2, h3⟩
  | succ n ih =>
    intro j bf cy y hj hb hcy h1 h2 h3
    have hfj := hf j (by omega)
    have ey : y j = f j := h1 j (Nat.le_refl _) (by omega)
    have b1 : dn (f j) * (c % 2 ^ 30) < 2 ^ 60 := Nat.lt_of_lt_of_le (Nat.mul_lt_mul'' hfj (Nat.mod_lt _ (by decide))) (by decide)
    have b2 : bf * (c / 2 ^ 30) < 2 ^ 53 := Nat.lt_of_lt_of_le (Nat.mul_lt_mul'' hb (show c / 2 ^ 30 < 2 ^ 23 by omega)) (by decide)
    generalize hS : dn (f j) * (c % 2 ^ 30) + bf * (c / 2 ^ 30) + cy = S
    have e7 : v_N_scale_7 (lN (c % 2 ^ 30)) (lN (c / 2 ^ 30)) j (lN bf) (lN cy) y = f j := ey
    have e8 : v_N_scale_8 (lN (c % 2 ^ 30)) (lN (c / 2 ^ 30)) j (lN bf) (lN cy) y = lN S := by
      show ((y j).toInt64 * lN (c % 2 ^ 30) + lN bf * lN (c / 2 ^ 30)) + lN cy = _
      rw [ey, d64 hfj, lN_mul, lN_mul, lN_add, lN_add, hS]
    have e9 : v_N_scale_9 (lN (c % 2 ^ 30)) (lN (c / 2 ^ 30)) j (lN bf) (lN cy) y = nI (S % 2 ^ 30) := by
      have hm : (1073741823 : Int64) = lN (2 ^ 30 - 1) := by decide
      show (v_N_scale_8 (lN (c % 2 ^ 30)) (lN (c / 2 ^ 30)) j (lN bf) (lN cy) y &&& (1073741823 : Int64)).toInt32 = _
      rw [e8, hm, l_and (by omega) (by decide), lN_i]
    have e11 : v_N_scale_11 (lN (c % 2 ^ 30)) (lN (c / 2 ^ 30)) j (lN bf) (lN cy) y = lN (S / 2 ^ 30) := by
      have hm : (30 : Int32) = nI 30 := rfl
      show jlush (v_N_scale_8 (lN (c % 2 ^ 30)) (lN (c / 2 ^ 30)) j (lN bf) (lN cy) y) (30 : Int32) = _
      rw [e8, hm, l_ush (by omega) (by decide)]
    have e10 : v_N_scale_10 (lN (c % 2 ^ 30)) (lN (c / 2 ^ 30)) j (lN bf) (lN cy) y = upd y j (nI (S % 2 ^ 30)) := by
      show upd y j (v_N_scale_9 (lN (c % 2 ^ 30)) (lN (c / 2 ^ 30)) j (lN bf) (lN cy) y) = _
      rw [e9]
    have e0 : qN_scale_34 (lN (c % 2 ^ 30)) (lN (c / 2 ^ 30)) (n + 1) j (lN bf) (lN cy) y = qN_scale_34 (lN (c % 2 ^ 30)) (lN (c / 2 ^ 30)) n (j + 1) (lN (dn (f j))) (lN (S / 2 ^ 30)) (upd y j (nI (S % 2 ^ 30))) := by
      show qN_scale_34 (lN (c % 2 ^ 30)) (lN (c / 2 ^ 30)) n (j + 1) (v_N_scale_7 (lN (c % 2 ^ 30)) (lN (c / 2 ^ 30)) j (lN bf) (lN cy) y).toInt64 (v_N_scale_11 (lN (c % 2 ^ 30)) (lN (c / 2 ^ 30)) j (lN bf) (lN cy) y) (v_N_scale_10 (lN (c % 2 ^ 30)) (lN (c / 2 ^ 30)) j (lN bf) (lN cy) y) = _
      rw [e10, e11, e7, d64 hfj]
    obtain ⟨bf', cy', y', a1, a2, a3, a4⟩ := ih (j + 1) (dn (f j)) (S / 2 ^ 30) (upd y j (nI (S % 2 ^ 30))) (by omega) hfj (by omega) (fun i p q => by rw [pk_un (by omega)]; exact h1 i (by omega) q)
      (fun i hi => by
        by_cases q : i = j
        · rw [q, upd_s, dn_nI (by omega)]; omega
        · rw [pk_un q]; exact h2 i hi) (by
        show dv (upd y j (nI (S % 2 ^ 30))) j + dn (upd y j (nI (S % 2 ^ 30)) j) * 2 ^ (30 * j) + _ = (dv f j + dn (f j) * 2 ^ (30 * j)) * c
        rw [dv_upd, upd_s, dn_nI (by omega), p30, Nat.add_mul (dv f j), ← h3]
        generalize 2 ^ (30 * j) = T
        have hm := Nat.div_add_mod S (2 ^ 30)
        have hcm := Nat.div_add_mod c (2 ^ 30)
        generalize S / 2 ^ 30 = s1 at *
        generalize S % 2 ^ 30 = s0 at *
        generalize c / 2 ^ 30 = c1 at *
        generalize c % 2 ^ 30 = c0 at *
        have ek : s0 + (s1 + dn (f j) * c1) * 2 ^ 30 = cy + bf * c1 + dn (f j) * c := by
          rw [← hcm, Nat.mul_add, Nat.add_mul]
          have : dn (f j) * c1 * 2 ^ 30 = dn (f j) * (2 ^ 30 * c1) := by rw [Nat.mul_comm (2 ^ 30) c1, Nat.mul_assoc]
          omega
        have el : s0 * T + (s1 + dn (f j) * c1) * (2 ^ 30 * T) = (cy + bf * c1) * T + dn (f j) * T * c := by
          rw [← Nat.mul_assoc, ← Nat.add_mul, ek, Nat.add_mul, Nat.mul_right_comm (dn (f j)) c T]
        omega)
    rw [e0]
    have ej : j + 1 + n = j + (n + 1) := by omega
    rw [ej] at a2 a4
    exact ⟨bf', cy', y', a1, a2, a3, a4⟩
theorem scale_ok {f : Nat → Int32} {k v c : Nat} (h : Ng f k v) (hc : c < 2 ^ 53) (hv : v * c < 2 ^ 2160) : Ng (pN_scale_0 f k (lN c)) (pN_scale_1 f k (lN c)) (v * c) := by
  obtain ⟨h0, h1, h2, h3, h4⟩ := h
  have x1 : v_N_scale_1 f k (lN c) = lN (c % 2 ^ 30) := l_and (k := 30) (by omega) (by decide)
  have x2 : v_N_scale_2 f k (lN c) = lN (c / 2 ^ 30) := l_ush (k := 30) (by omega) (by decide)
  obtain ⟨bf, cy, y, a1, a2, a3, a4⟩ := scale_loop hc h1 (min (k + 2) 72) 0 0 0 f (by omega) (by decide) (by decide) (fun _ _ _ => rfl) h1 (by show 0 + (0 + 0 * _) * _ = 0 * c; omega)
  rw [Nat.zero_add] at a2 a4
  have e5 : v_N_scale_5 f k (lN c) = y := by
    show (qN_scale_34 (v_N_scale_1 f k (lN c)) (v_N_scale_2 f k (lN c)) (min (k + 2) 72) 0 (lN 0) (lN 0) f).2.2 = _
    rw [x1, x2, a1]
  have hz : ∀ i, min (k + 2) 72 ≤ i → i < 72 → y i = 0 := fun i p q => by rw [a2 i p q]; exact h2 i (by omega) q
  have hfe : dv f (min (k + 2) 72) = v := by rw [← h4]; exact (dv_0 (by omega) (fun i p q => h2 i (by omega) q)).symm
  have hye : dv y 72 = dv y (min (k + 2) 72) := dv_0 (by omega) hz
  have hvk : dv f k = v := by rw [← h4]; exact (dv_0 h0 h2).symm
  have hlt : v * c < 2 ^ (30 * min (k + 2) 72) := by
    by_cases q : k + 2 ≤ 72
    · have e : min (k + 2) 72 = k + 2 := by omega
      have b1 : v < 2 ^ (30 * k) := by rw [← hvk]; exact dv_lt (fun i hi => h1 i (by omega))
      rw [e]
      have e2 : 2 ^ (30 * (k + 2)) = 2 ^ (30 * k) * 2 ^ 60 := by rw [← Nat.pow_add]; congr 1
      rw [e2]
      exact Nat.mul_lt_mul'' b1 (by omega)
    · have e : min (k + 2) 72 = 72 := by omega
      rw [e]; exact hv
  rw [hfe] at a4
  have hcz : cy + bf * (c / 2 ^ 30) = 0 := by
    refine Nat.eq_zero_of_not_pos (fun q => ?_)
    have : 1 * 2 ^ (30 * min (k + 2) 72) ≤ (cy + bf * (c / 2 ^ 30)) * 2 ^ (30 * min (k + 2) 72) := Nat.mul_le_mul_right _ q
    omega
  rw [hcz, Nat.zero_mul, Nat.add_zero] at a4
  have e0 : pN_scale_0 f k (lN c) = y := e5
  have e1 : pN_scale_1 f k (lN c) = pN_trim_0 y (min (k + 2) 72) := by
    show pN_trim_0 (v_N_scale_5 f k (lN c)) (min (k + 2) 72) = _
    rw [e5]
  rw [e0, e1]
  exact Ng_trim (by omega) a3 hz (by rw [hye, a4])
theorem setPower_ok (f : Nat → Int32) (k : Nat) {c tm : Nat} (hc : c < 2 ^ 53) (ht : tm ≤ 40) : Ng (pN_setPower_0 f k (lN c) tm) (pN_setPower_1 f k (lN c) tm) (c ^ tm) := by
  have hb : ∀ n, n ≤ 40 → c ^ n < 2 ^ 2160 := fun n hn => by
    have h1 : c ^ n ≤ (2 ^ 53) ^ n := Nat.pow_le_pow_left (Nat.le_of_lt hc) n
    rw [← Nat.pow_mul] at h1
    exact Nat.lt_of_le_of_lt h1 ((Nat.pow_lt_pow_iff_right (by decide)).mpr (by omega))
  have lp : ∀ (n j : Nat) (y : Nat → Int32) (q : Nat), j + n = tm → Ng y q (c ^ j) → Ng (qN_setPower_8 (lN c) n j y q).1 (qN_setPower_8 (lN c) n j y q).2 (c ^ tm) := by
    intro n
    induction n with
    | zero => intro j y q hj h; have : j = tm := by omega
              rw [← this]; exact h
    | succ n ih =>
      intro j y q hj h
      have := scale_ok h hc (by rw [← Nat.pow_succ]; exact hb (j + 1) (by omega))
      rw [← Nat.pow_succ] at this
      exact ih (j + 1) _ _ (by omega) this
  exact lp tm 0 _ _ (by omega) (by
    have := setBit_ok f k (pb := 0) (by decide)
    exact this)
theorem len_N {f : Nat → Int32} {k v : Nat} (h : Ng f k v) : pN_length f k = nI (blen v) := by
  have hk := h.1
  have c : nI k = 0 ↔ k = 0 := nI_eq (b := 0) (by omega) (by decide)
  show (if nI k = 0 then (0 : Int32) else nI ((k - 1) * 30) + pF_lengthOf (f (k - 1)).toInt64) = _
  cases k with
  | zero =>
    rw [if_pos (c.mpr rfl), h.z.mp rfl]; rfl
  | succ j =>
    rw [if_neg (fun q => by have := c.mp q; omega), Nat.add_sub_cancel]
    have hd := h.2.1 j (by omega)
    have hp := dn_pos (h.2.2.2.1 j rfl)
    rw [d64 hd, len_ok (by omega), nI_add]
    congr 1
    have hg := blen_ge (show 0 < dn (f j) by omega)
    have hl := lt_blen (dn (f j))
    have hp2 := blen_pos (show 0 < dn (f j) by omega)
    have e : v = dv f j + dn (f j) * 2 ^ (30 * j) := h.dvk.symm
    have hlow : dv f j < 2 ^ (30 * j) := dv_lt (fun i hi => h.2.1 i (by omega))
    symm
    have e2 : j * 30 + blen (dn (f j)) = (30 * j + (blen (dn (f j)) - 1)) + 1 := by omega
    rw [e2]
    apply blen_eq
    · rw [Nat.pow_add, e, Nat.mul_comm]
      have := Nat.mul_le_mul_right (2 ^ (30 * j)) hg
      omega
    · have e3 : 30 * j + (blen (dn (f j)) - 1) + 1 = blen (dn (f j)) + 30 * j := by omega
      rw [e3, Nat.pow_add, e]
      have : (dn (f j) + 1) * 2 ^ (30 * j) ≤ 2 ^ blen (dn (f j)) * 2 ^ (30 * j) := Nat.mul_le_mul_right _ hl
      rw [Nat.add_mul] at this
      omega

