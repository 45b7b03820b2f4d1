theorem zero_ok : ∀ (n j : Nat) (f : Nat → Int32) (i : Nat), qB_shift_56 n j f i = if j ≤ i ∧ i < j + n then 0 else f i := by
  intro n
  induction n with
  | zero => intro j f i; rw [if_neg (by omega)]; rfl
  | succ n ih =>
    intro j f i
    show qB_shift_56 n (j + 1) (upd f j 0) i = _
    rw [ih]
    by_cases h : j + 1 ≤ i ∧ i < j + 1 + n
    · rw [if_pos h, if_pos (by omega)]
    · rw [if_neg h]
      by_cases e : i = j
      · subst e; rw [upd_s, if_pos (by omega)]
      · rw [pk_un e, if_neg (by omega)]
theorem move_ok (sb : Nat) : ∀ (n : Nat) (f : Nat → Int32) (i : Nat), qB_shift_26 sb n f i = if sb / 16 ≤ i ∧ i < sb / 16 + n then f (i - sb / 16) else f i := by
  intro n
  induction n with
  | zero => intro f i; rw [if_neg (by omega)]; rfl
  | succ n ih =>
    intro f i
    show qB_shift_26 sb n (upd f (n + sb / 16) (f n)) i = _
    rw [ih]
    by_cases h : sb / 16 ≤ i ∧ i < sb / 16 + n
    · rw [if_pos h, if_pos (by omega), pk_un (by omega)]
    · rw [if_neg h]
      by_cases e : i = n + sb / 16
      · rw [e, upd_s, if_pos (by omega)]
        congr 1; omega
      · rw [pk_un e, if_neg (by omega)]
theorem bv_move {f g : Nat → Int32} {s : Nat} (h0 : ∀ i, i < s → g i = 0) : ∀ {n : Nat}, (∀ i, i < n → g (i + s) = f i) → bv g (n + s) = bv f n * 65536 ^ s
  | 0, _ => by
    rw [Nat.zero_add]
    have : ∀ m, m ≤ s → bv g m = 0 := by
      intro m
      induction m with
      | zero => intro _; rfl
      | succ m ih =>
        intro hm
        show bv g m + dn (g m) * _ = 0
        rw [ih (by omega), h0 m (by omega), dn_0, Nat.zero_mul]
    rw [this s (Nat.le_refl _)]
    show 0 = 0 * _
    omega
  | n + 1, h => by
    have e : n + 1 + s = (n + s) + 1 := by omega
    rw [e]
    show bv g (n + s) + dn (g (n + s)) * 65536 ^ (n + s) = (bv f n + dn (f n) * 65536 ^ n) * 65536 ^ s
    rw [bv_move h0 (n := n) (fun i hi => h i (by omega)), h n (by omega), Nat.pow_add, Nat.add_mul, Nat.mul_assoc]
theorem shl1 : ∀ r, r < 16 → ((1 : Int32) <<< (nI r &&& 31)).toInt = (2 : Int) ^ r ∧ dn ((1 : Int32) <<< (nI r &&& 31)) = 2 ^ r := by decide +kernel
theorem Bg_shift {f : Nat → Int32} {k v : Nat} (h : Bg f k v) (sb : Nat) (hk : k < 2147483648) : Bg (pB_shift_0 f k sb) (pB_shift_1 f k sb) (v * 2 ^ sb) ∧ pB_shift_1 f k sb ≤ k + sb / 16 + 1 := by
  have e0 : nI k = 0 ↔ k = 0 := nI_eq (a := k) (b := 0) hk (by decide)
  by_cases q : k = 0
  · have p0 : pB_shift_0 f k sb = f := if_pos (e0.mpr q)
    have p1 : pB_shift_1 f k sb = k := if_pos (e0.mpr q)
    rw [p0, p1, h.zero.mp q, Nat.zero_mul]
    have := h.zero.mp q
    subst this
    exact ⟨h, by omega⟩
  · have p0 : pB_shift_0 f k sb = pB_grow_0 (v_B_shift_2 f k sb) (k + sb / 16) ((1 : Int32) <<< (nI (sb % 16) &&& 31)) 0 := if_neg (fun z => q (e0.mp z))
    have p1 : pB_shift_1 f k sb = pB_grow_1 (v_B_shift_2 f k sb) (k + sb / 16) ((1 : Int32) <<< (nI (sb % 16) &&& 31)) 0 := if_neg (fun z => q (e0.mp z))
    rw [p0, p1]
    have eg : ∀ i, v_B_shift_2 f k sb i = if i < sb / 16 then 0 else if i < sb / 16 + k then f (i - sb / 16) else f i := by
      intro i
      show qB_shift_56 (sb / 16) 0 (qB_shift_26 sb k f) i = _
      rw [zero_ok, move_ok]
      by_cases a : i < sb / 16
      · rw [if_pos (by omega), if_pos a]
      · rw [if_neg (by omega), if_neg a]
        by_cases b : i < sb / 16 + k
        · rw [if_pos (by omega), if_pos b]
        · rw [if_neg (by omega), if_neg b]
    have hm : ∀ i, i < k → v_B_shift_2 f k sb (i + sb / 16) = f i := by
      intro i hi
      rw [eg, if_neg (by omega), if_pos (by omega)]
      congr 1; omega
    have h1 : Bg (v_B_shift_2 f k sb) (k + sb / 16) (v * 65536 ^ (sb / 16)) := by
      refine ⟨fun i hi => ?_, fun j hj => ?_, ?_⟩
      · rw [eg]
        split
        · exact dg_0
        · rw [if_pos (by omega)]; exact h.1 _ (by omega)
      · have e : j = (k - 1) + sb / 16 := by omega
        rw [e, hm (k - 1) (by omega)]
        exact h.2.1 (k - 1) (by omega)
      · rw [bv_move (f := f) (fun i hi => by rw [eg, if_pos hi]) hm, h.2.2]
    have hs := shl1 (sb % 16) (Nat.mod_lt _ (by decide))
    have hp : ∀ r, r < 16 → (1 : Int) ≤ 2 ^ r ∧ (2 : Int) ^ r ≤ 65535 := by decide +kernel
    obtain ⟨a, b⟩ := Bg_grow h1 (ti := (1 : Int32) <<< (nI (sb % 16) &&& 31)) (by rw [hs.1]; exact hp _ (Nat.mod_lt _ (by decide)))
    rw [hs.2] at a
    have e : v * 65536 ^ (sb / 16) * 2 ^ (sb % 16) = v * 2 ^ sb := by
      rw [p65536, Nat.mul_assoc, ← Nat.pow_add, Nat.div_add_mod]
    rw [e] at a
    exact ⟨a, b⟩
theorem zero2_ok : ∀ (n j : Nat) (f : Nat → Int32) (i : Nat), qB_product_33 n j f i = if j ≤ i ∧ i < j + n then 0 else f i := by
  intro n
  induction n with
  | zero => intro j f i; rw [if_neg (by omega)]; rfl
  | succ n ih =>
    intro j f i
    show qB_product_33 n (j + 1) (upd f j 0) i = _
    rw [ih]
    by_cases h : j + 1 ≤ i ∧ i < j + 1 + n
    · rw [if_pos h, if_pos (by omega)]
    · rw [if_neg h]
      by_cases e : i = j
      · subst e; rw [upd_s, if_pos (by omega)]
      · rw [pk_un e, if_neg (by omega)]
theorem prod_in {i : Nat} {a b : Nat → Int32} (ha : dg (a i)) : ∀ (n j C : Nat) (g : Nat → Int32), C ≤ 65535 → (∀ t, j ≤ t → t < j + n → dg (b t)) → (∀ t, i + j ≤ t → t < i + j + n → dg (g t)) →
    ∃ C', C' ≤ 65535 ∧ (qB_product_77 i a b n j (lN C) g).1 = lN C' ∧ (∀ t, t < i + j ∨ i + j + n ≤ t → (qB_product_77 i a b n j (lN C) g).2 t = g t) ∧ (∀ t, i + j ≤ t → t < i + j + n → dg ((qB_product_77 i a b n j (lN C) g).2 t)) ∧
    bw (qB_product_77 i a b n j (lN C) g).2 (i + j) n + C' * 65536 ^ n = bw g (i + j) n + dn (a i) * bw b j n + C := by
  have hA : dn (a i) ≤ 65535 := by have : dn (a i) < 65536 := ha; omega
  intro n
  induction n with
  | zero =>
    intro j C g hC _ _
    exact ⟨C, hC, rfl, fun _ _ => rfl, fun t p q => absurd q (by omega), by show 0 + C * 1 = 0 + dn (a i) * 0 + C; omega⟩
  | succ n ih =>
    intro j C g hC hb hg
    have hbj := hb j (by omega) (by omega)
    have hgj := hg (i + j) (by omega) (by omega)
    have hB : dn (b j) ≤ 65535 := by have : dn (b j) < 65536 := hbj; omega
    have hG : dn (g (i + j)) ≤ 65535 := by have : dn (g (i + j)) < 65536 := hgj; omega
    have hm : dn (a i) * dn (b j) ≤ 65535 * 65535 := Nat.mul_le_mul hA hB
    have ev : (a i).toInt64 * (b j).toInt64 + (g (i + j)).toInt64 + lN C = lN (dn (a i) * dn (b j) + dn (g (i + j)) + C) := by
      rw [i2l_dn (dg_int ha).1, i2l_dn (dg_int hbj).1, i2l_dn (dg_int hgj).1, lN_mul, lN_add, lN_add]
    generalize hV : dn (a i) * dn (b j) + dn (g (i + j)) + C = V at ev
    have hV2 : V ≤ 65535 * 65535 + 65535 + 65535 := by omega
    have e : qB_product_77 i a b (n + 1) j (lN C) g = qB_product_77 i a b n (j + 1) (lN (V / 65536)) (upd g (i + j) (lN V &&& (65535 : Int64)).toInt32) := by
      show qB_product_77 i a b n (j + 1) (jlshr ((a i).toInt64 * (b j).toInt64 + (g (i + j)).toInt64 + lN C) (16 : Int32)) (upd g (i + j) (((a i).toInt64 * (b j).toInt64 + (g (i + j)).toInt64 + lN C) &&& (65535 : Int64)).toInt32) = _
      rw [ev, lN_shr16 (by omega)]
    rw [e]
    obtain ⟨C', a1, a2, a3, a4, a5⟩ := ih (j + 1) (V / 65536) (upd g (i + j) (lN V &&& (65535 : Int64)).toInt32) (by omega) (fun t p q => hb t (by omega) (by omega)) (fun t p q => by rw [pk_un (by omega)]; exact hg t (by omega) (by omega))
    refine ⟨C', a1, a2, fun t ht => (a3 t (by omega)).trans (pk_un (by omega)), fun t p q => ?_, ?_⟩
    · by_cases et : t = i + j
      · rw [et, a3 (i + j) (by omega), upd_s]; exact dg_lo _
      · exact a4 t (by omega) (by omega)
    · show dn ((qB_product_77 i a b n (j + 1) (lN (V / 65536)) (upd g (i + j) (lN V &&& (65535 : Int64)).toInt32)).2 (i + j)) + 65536 * bw _ (i + j + 1) n + C' * 65536 ^ (n + 1) = (dn (g (i + j)) + 65536 * bw g (i + j + 1) n) + dn (a i) * (dn (b j) + 65536 * bw b (j + 1) n) + C
      rw [a3 (i + j) (by omega), upd_s, dn_lo' (by omega), Nat.pow_succ]
      have e2 : bw (upd g (i + j) (lN V &&& (65535 : Int64)).toInt32) (i + (j + 1)) n = bw g (i + j + 1) n := bw_congr fun t p q => pk_un (by omega)
      rw [e2] at a5
      have e5 : i + (j + 1) = i + j + 1 := by omega
      rw [e5] at a5
      have h1 := Nat.div_add_mod V 65536
      generalize bw (qB_product_77 i a b n (j + 1) (lN (V / 65536)) (upd g (i + j) (lN V &&& (65535 : Int64)).toInt32)).2 (i + j + 1) n = X at a5 ⊢
      have e3 : C' * (65536 ^ n * 65536) = 65536 * (C' * 65536 ^ n) := by rw [← Nat.mul_assoc, Nat.mul_comm]
      have e4 : dn (a i) * (dn (b j) + 65536 * bw b (j + 1) n) = dn (a i) * dn (b j) + 65536 * (dn (a i) * bw b (j + 1) n) := by
        rw [Nat.mul_add, ← Nat.mul_assoc, Nat.mul_comm (dn (a i)) 65536, Nat.mul_assoc]
      rw [e3, e4]
      generalize C' * 65536 ^ n = Z at a5 ⊢
      generalize dn (a i) * bw b (j + 1) n = Y at a5 ⊢
      generalize bw g (i + j + 1) n = Q at a5 ⊢
      omega

