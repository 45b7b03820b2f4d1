theorem dv_split (f : Nat → Int32) (j : Nat) : ∀ m, ∃ R, dv f (j + m) = dv f j + 2 ^ (30 * j) * R := by
  intro m
  induction m with
  | zero => exact ⟨0, rfl⟩
  | succ m ih =>
    obtain ⟨R, hR⟩ := ih
    refine ⟨R + 2 ^ (30 * m) * dn (f (j + m)), ?_⟩
    show dv f (j + m) + dn (f (j + m)) * 2 ^ (30 * (j + m)) = _
    have e : 2 ^ (30 * (j + m)) = 2 ^ (30 * j) * 2 ^ (30 * m) := by rw [← Nat.pow_add]; congr 1; omega
    rw [hR, e, Nat.mul_add, Nat.add_assoc, Nat.mul_comm (dn _), Nat.mul_assoc]
theorem dig_ok {f : Nat → Int32} {k v j : Nat} (h : Ng f k v) (hj : j < 72) : ∃ R, v / 2 ^ (30 * j) = dn (f j) + 2 ^ 30 * R := by
  obtain ⟨R, hR⟩ := dv_split f (j + 1) (72 - (j + 1))
  have e : j + 1 + (72 - (j + 1)) = 72 := by omega
  rw [e, h.2.2.2.2] at hR
  have hl : dv f j < 2 ^ (30 * j) := dv_lt (fun i hi => h.2.1 i (by omega))
  have e2 : dv f (j + 1) = dv f j + dn (f j) * 2 ^ (30 * j) := rfl
  refine ⟨R, ?_⟩
  rw [hR, e2, p30]
  have e3 : dv f j + dn (f j) * 2 ^ (30 * j) + 2 ^ 30 * 2 ^ (30 * j) * R = dv f j + 2 ^ (30 * j) * (dn (f j) + 2 ^ 30 * R) := by
    rw [Nat.mul_add, Nat.mul_comm (dn (f j)), Nat.mul_comm (2 ^ 30) (2 ^ (30 * j)), Nat.mul_assoc, Nat.add_assoc]
  rw [e3, Nat.add_mul_div_left _ _ (Nat.pow_pos (by decide)), Nat.div_eq_of_lt hl, Nat.zero_add]
theorem bitAt_ok {f : Nat → Int32} {k v pb : Nat} (h : Ng f k v) (hp : pb < 2160) : pN_bitAt f k pb = nI (v / 2 ^ pb % 2) := by
  obtain ⟨R, hR⟩ := dig_ok h (show pb / 30 < 72 by omega)
  have hd := h.2.1 (pb / 30) (by omega)
  have hs : ∀ c, c < 30 → ((((nI c).toUInt32 &&& Int32.toUInt32 31).toBitVec % 32).toNat) = c := by decide +kernel
  have e1 : (jiush (f (pb / 30)) (nI (pb % 30))).toBitVec.toNat = dn (f (pb / 30)) / 2 ^ (pb % 30) := pk_ushr (f (pb / 30)) (nI (pb % 30)) (pb % 30) (hs _ (by omega))
  show jiush (f (pb / 30)) (nI (pb % 30)) &&& (1 : Int32) = _
  rw [pk_and _ (m := 1) 1 (by decide), e1]
  congr 1
  have e2 : 2 ^ pb = 2 ^ (30 * (pb / 30)) * 2 ^ (pb % 30) := by rw [← Nat.pow_add]; congr 1; omega
  rw [e2, ← Nat.div_div_eq_div_mul, hR]
  have e3 : 2 ^ 30 * R = 2 ^ (pb % 30) * (2 ^ (30 - pb % 30) * R) := by rw [← Nat.mul_assoc, ← Nat.pow_add]; congr 2; omega
  rw [e3, Nat.add_mul_div_left _ _ (Nat.pow_pos (by decide))]
  obtain ⟨t, ht⟩ : ∃ t, 30 - pb % 30 = t + 1 := ⟨29 - pb % 30, by omega⟩
  have e4 : 2 ^ (30 - pb % 30) * R = 2 * (2 ^ t * R) := by rw [ht, Nat.pow_succ, Nat.mul_comm (2 ^ t) 2, Nat.mul_assoc]
  rw [e4, Nat.pow_one]
  omega
theorem i_or {n m k : Nat} (hn : n < 2 ^ k) (hm : m * 2 ^ k + n < 2 ^ 32) : nI (m * 2 ^ k) ||| nI n = nI (m * 2 ^ k + n) := by
  apply dn_inj
  show ((nI (m * 2 ^ k)).toBitVec ||| (nI n).toBitVec).toNat = _
  rw [BitVec.toNat_or, pk_tn (by omega), pk_tn (by omega), dn_nI hm, Nat.mul_comm, Nat.two_pow_add_eq_or_of_lt hn]
theorem dnI (x : Int32) : x = nI (dn x) := dn_inj (dn_nI (n := dn x) x.toBitVec.isLt).symm
theorem tw_loop {f : Nat → Int32} (hf : ∀ i, i < 72 → dn (f i) < 2 ^ 30) : ∀ (n j cy : Nat) (y : Nat → Int32), j + n ≤ 72 → cy ≤ 1 → (∀ i, j ≤ i → i < 72 → y i = f i) → (∀ i, i < 72 → dn (y i) < 2 ^ 30) → dv y j + cy * 2 ^ (30 * j) = 2 * dv f j →
    ∃ cy' y', qN_twice_4 n j (nI cy) y = (nI cy', y') ∧ cy' ≤ 1 ∧ (∀ i, j + n ≤ i → i < 72 → y' i = f i) ∧ (∀ i, i < 72 → dn (y' i) < 2 ^ 30) ∧ dv y' (j + n) + cy' * 2 ^ (30 * (j + n)) = 2 * dv f (j + n) := by
  intro n
  induction n with
  | zero => intro j cy y hj hc h1 h2 h3; exact ⟨cy, y, rfl, hc, h1, h2, h3⟩
  | succ n ih =>
    intro j cy y hj hc h1 h2 h3
    have hfj := hf j (by omega)
    have ey : y j = f j := h1 j (Nat.le_refl _) (by omega)
    have e7 : v_N_twice_7 j (nI cy) y = nI (dn (f j) * 2 ^ 1 + cy) := by
      show (y j <<< ((1 : Int32) &&& 31)) ||| nI cy = _
      have e1 : y j <<< ((1 : Int32) &&& 31) = nI (dn (f j) * 2 ^ 1) := by
        rw [ey]
        have := pk_shlN (n := dn (f j)) ((1 : Int32) &&& 31) 1 (by decide) (by omega)
        rw [← dnI (f j)] at this
        exact this
      rw [e1]
      exact i_or (by omega) (by omega)
    have e8 : v_N_twice_8 j (nI cy) y = nI ((dn (f j) * 2 ^ 1 + cy) % 2 ^ 30) := by
      show v_N_twice_7 j (nI cy) y &&& (1073741823 : Int32) = _
      rw [e7]
      exact pk_andN (by omega) 30 (by decide)
    have e10 : v_N_twice_10 j (nI cy) y = nI ((dn (f j) * 2 ^ 1 + cy) / 2 ^ 30) := by
      show jiush (v_N_twice_7 j (nI cy) y) (30 : Int32) = _
      rw [e7]
      exact pk_ushrN (by omega) 30 30 (by decide)
    have e9 : v_N_twice_9 j (nI cy) y = upd y j (nI ((dn (f j) * 2 ^ 1 + cy) % 2 ^ 30)) := by
      show upd y j (v_N_twice_8 j (nI cy) y) = _
      rw [e8]
    have e0 : qN_twice_4 (n + 1) j (nI cy) y = qN_twice_4 n (j + 1) (nI ((dn (f j) * 2 ^ 1 + cy) / 2 ^ 30)) (upd y j (nI ((dn (f j) * 2 ^ 1 + cy) % 2 ^ 30))) := by
      show qN_twice_4 n (j + 1) (v_N_twice_10 j (nI cy) y) (v_N_twice_9 j (nI cy) y) = _
      rw [e9, e10]
    obtain ⟨cy', y', a1, a2, a3, a4, a5⟩ := ih (j + 1) ((dn (f j) * 2 ^ 1 + cy) / 2 ^ 30) (upd y j (nI ((dn (f j) * 2 ^ 1 + cy) % 2 ^ 30))) (by omega) (by omega) (fun i p q => by rw [pk_un (by omega)]; exact h1 i (by omega) q)
      (fun i hi => by
        by_cases q : i = j
        · rw [q, upd_s, dn_nI (by omega)]; omega
        · rw [pk_un q]; exact h2 i hi) (by
        show dv (upd y j _) j + dn (upd y j _ j) * 2 ^ (30 * j) + _ = 2 * (dv f j + dn (f j) * 2 ^ (30 * j))
        rw [dv_upd, upd_s, dn_nI (by omega), p30, Nat.mul_add, ← h3]
        generalize 2 ^ (30 * j) = T
        have hm := Nat.div_add_mod (dn (f j) * 2 ^ 1 + cy) (2 ^ 30)
        generalize (dn (f j) * 2 ^ 1 + cy) / 2 ^ 30 = s1 at *
        generalize (dn (f j) * 2 ^ 1 + cy) % 2 ^ 30 = s0 at *
        have el : s0 * T + s1 * (2 ^ 30 * T) = (dn (f j) * 2 ^ 1 + cy) * T := by
          rw [← Nat.mul_assoc, ← Nat.add_mul]; congr 1; omega
        have em : (dn (f j) * 2 ^ 1 + cy) * T = 2 * (dn (f j) * T) + cy * T := by
          rw [Nat.add_mul, Nat.pow_one, Nat.mul_comm (dn (f j)) 2, Nat.mul_assoc]
        omega)
    rw [e0]
    have ej : j + 1 + n = j + (n + 1) := by omega
    rw [ej] at a3 a5
    exact ⟨cy', y', a1, a2, a3, a4, a5⟩
theorem twice_ok {f : Nat → Int32} {k v : Nat} (h : Ng f k v) (hv : 2 * v < 2 ^ 2160) : Ng (pN_twice_0 f k) (pN_twice_1 f k) (2 * v) := by
  obtain ⟨h0, h1, h2, h3, h4⟩ := h
  have hvk : dv f k = v := by rw [← h4]; exact (dv_0 h0 h2).symm
  obtain ⟨cy, y, a1, a2, a3, a4, a5⟩ := tw_loop h1 k 0 0 f (by omega) (by decide) (fun _ _ _ => rfl) h1 (by show 0 + 0 * _ = 2 * 0; omega)
  rw [Nat.zero_add] at a3 a5
  rw [hvk] at a5
  have t1 : v_N_twice_1 f k = nI cy := by show (qN_twice_4 k 0 (nI 0) f).1 = _; rw [a1]
  have t2 : v_N_twice_2 f k = y := by show (qN_twice_4 k 0 (nI 0) f).2 = _; rw [a1]
  have e0 : pN_twice_0 f k = if v_N_twice_1 f k = 0 then v_N_twice_2 f k else (if (72 : Int32) ≤ nI k then v_N_twice_2 f k else upd (v_N_twice_2 f k) k (v_N_twice_1 f k)) := rfl
  have e1 : pN_twice_1 f k = if v_N_twice_1 f k = 0 then k else (if (72 : Int32) ≤ nI k then k else k + 1) := rfl
  have hyz : ∀ i, k ≤ i → i < 72 → y i = 0 := fun i p q => by rw [a3 i p q]; exact h2 i p q
  have c0 : nI cy = 0 ↔ cy = 0 := nI_eq (b := 0) (by omega) (by decide)
  rw [t1, t2] at e0
  rw [t1] at e1
  by_cases q : cy = 0
  · rw [e0, e1, if_pos (c0.mpr q), if_pos (c0.mpr q)]
    rw [q, Nat.zero_mul, Nat.add_zero] at a5
    refine ⟨h0, a4, hyz, fun j hj z => ?_, by rw [dv_0 h0 hyz, a5]⟩
    -- the top digit was not 0, and nothing was carried out
    subst hj
    have hp := dn_pos (h3 j rfl)
    have e2 : dv y (j + 1) = dv y j + dn (y j) * 2 ^ (30 * j) := rfl
    rw [z, dn_0, Nat.zero_mul, Nat.add_zero] at e2
    have hl : dv y j < 2 ^ (30 * j) := dv_lt (fun i hi => a4 i (by omega))
    have e3 : dv f (j + 1) = dv f j + dn (f j) * 2 ^ (30 * j) := rfl
    have : 1 * 2 ^ (30 * j) ≤ dn (f j) * 2 ^ (30 * j) := Nat.mul_le_mul_right _ hp
    omega
  · have hc : cy = 1 := by omega
    have hk : k < 72 := by
      refine Nat.lt_of_not_le (fun z => ?_)
      have ek : k = 72 := by omega
      rw [hc, Nat.one_mul, ek] at a5
      omega
    have ck : ¬ (72 : Int32) ≤ nI k := fun z => by
      have := (nI_leI (a := 72) (b := k) (by decide) (by omega)).mp z
      omega
    rw [e0, e1, if_neg (fun z => q (c0.mp z)), if_neg (fun z => q (c0.mp z)), if_neg ck, if_neg ck, hc]
    have hz2 : ∀ i, k + 1 ≤ i → i < 72 → upd y k (nI 1) i = 0 := fun i p r => by rw [pk_un (by omega)]; exact hyz i (by omega) r
    refine ⟨by omega, fun i hi => ?_, hz2, fun j hj => ?_, ?_⟩
    · by_cases w : i = k
      · rw [w, upd_s]; decide
      · rw [pk_un w]; exact a4 i hi
    · have : j = k := by omega
      rw [this, upd_s]; decide
    · rw [dv_0 (k := k + 1) (by omega) hz2]
      show dv (upd y k (nI 1)) k + dn (upd y k (nI 1) k) * _ = _
      rw [dv_upd, upd_s, ← a5, hc]
      rfl
theorem below_N {f g : Nat → Int32} : ∀ (n : Nat), (∀ i, i < n → dn (f i) < 2 ^ 30) → (∀ i, i < n → dn (g i) < 2 ^ 30) → qN_isBelow_14 f g n = decide (dv f n < dv g n) := by
  intro n
  induction n with
  | zero => intro _ _; rfl
  | succ n ih =>
    intro hf hg
    have hl1 := dv_lt (f := f) (n := n) (fun i hi => hf i (by omega))
    have hl2 := dv_lt (f := g) (n := n) (fun i hi => hg i (by omega))
    have h1 := hf n (by omega)
    have h2 := hg n (by omega)
    have e1 : dv f (n + 1) = dv f n + dn (f n) * 2 ^ (30 * n) := rfl
    have e2 : dv g (n + 1) = dv g n + dn (g n) * 2 ^ (30 * n) := rfl
    rw [e1, e2]
    by_cases q : f n = g n
    · have e : qN_isBelow_14 f g (n + 1) = qN_isBelow_14 f g n := if_pos q
      rw [e, ih (fun i hi => hf i (by omega)) (fun i hi => hg i (by omega)), q]
      by_cases w : dv f n < dv g n
      · rw [decide_eq_true w]; symm; apply decide_eq_true; omega
      · rw [decide_eq_false w]; symm; apply decide_eq_false; omega
    · have e : qN_isBelow_14 f g (n + 1) = if g n ≤ f n then false else true := if_neg q
      have c : g n ≤ f n ↔ dn (g n) ≤ dn (f n) := by
        rw [dnI (g n), dnI (f n), nI_leI (by omega) (by omega), dn_nI (by omega), dn_nI (by omega)]
      have hne : dn (f n) ≠ dn (g n) := fun z => q (dn_inj z)
      rw [e]
      by_cases w : dn (g n) ≤ dn (f n)
      · rw [if_pos (c.mpr w)]
        symm; apply decide_eq_false
        have : (dn (g n) + 1) * 2 ^ (30 * n) ≤ dn (f n) * 2 ^ (30 * n) := Nat.mul_le_mul_right _ (by omega)
        rw [Nat.add_mul] at this
        omega
      · rw [if_neg (fun z => w (c.mp z))]
        symm; apply decide_eq_true
        have : (dn (f n) + 1) * 2 ^ (30 * n) ≤ dn (g n) * 2 ^ (30 * n) := Nat.mul_le_mul_right _ (by omega)
        rw [Nat.add_mul] at this
        omega
theorem isBelow_ok {f g : Nat → Int32} {k k2 v v2 : Nat} (h : Ng f k v) (h2 : Ng g k2 v2) : pN_isBelow f k g k2 = decide (v < v2) := by
  have hk := h.1
  have hk2 := h2.1
  have e : pN_isBelow f k g k2 = qN_isBelow_14 f g (max k k2) := rfl
  rw [e, below_N _ (fun i hi => h.2.1 i (by omega)) (fun i hi => h2.2.1 i (by omega)), dv_0 (f := f) (k := k) (by omega) (fun i p q => h.2.2.1 i p (by omega)), dv_0 (f := g) (k := k2) (by omega) (fun i p q => h2.2.2.1 i p (by omega)), h.dvk, h2.dvk]
theorem bI_n1 (b : Bool) : (bI b).toInt = if b = true then 1 else 0 := by cases b <;> rfl
theorem tk_loop {f g : Nat → Int32} (hf : ∀ i, i < 72 → dn (f i) < 2 ^ 30) (hg : ∀ i, i < 72 → dn (g i) < 2 ^ 30) : ∀ (n j : Nat) (bw : Bool) (y : Nat → Int32), j + n ≤ 72 → (∀ i, j ≤ i → i < 72 → y i = f i) → (∀ i, i < 72 → dn (y i) < 2 ^ 30) → dv f j + (if bw = true then 1 else 0) * 2 ^ (30 * j) = dv y j + dv g j →
    ∃ bw' y', qN_take_4 g n j bw y = (bw', y') ∧ (∀ i, j + n ≤ i → i < 72 → y' i = f i) ∧ (∀ i, i < 72 → dn (y' i) < 2 ^ 30) ∧ dv f (j + n) + (if bw' = true then 1 else 0) * 2 ^ (30 * (j + n)) = dv y' (j + n) + dv g (j + n) := by
  intro n
  induction n with
  | zero => intro j bw y hj h1 h2 h3; exact ⟨bw, y, rfl, h1, h2, h3⟩
  | succ n ih =>
    intro j bw y hj h1 h2 h3
    have hfj := hf j (by omega)
    have hgj := hg j (by omega)
    have ey : y j = f j := h1 j (Nat.le_refl _) (by omega)
    have tf : (f j).toInt = (dn (f j) : Int) := (congrArg Int32.toInt (dnI (f j))).trans (nI_toInt (by omega))
    have tg : (g j).toInt = (dn (g j) : Int) := (congrArg Int32.toInt (dnI (g j))).trans (nI_toInt (by omega))
    have hb := bI_n1 bw
    have t6 : (v_N_take_6 g j bw y).toInt = (dn (f j) : Int) - dn (g j) - (if bw = true then 1 else 0 : Int) := by
      show ((y j - g j) - bI bw).toInt = _
      rw [ey]
      exact iS (iS tf tg (by omega) (by omega)) hb (by split <;> omega) (by split <;> omega)
    have e7 : v_N_take_7 g j bw y = decide ((dn (f j) : Int) - dn (g j) - (if bw = true then 1 else 0 : Int) < 0) := by
      show (if (0 : Int32) ≤ v_N_take_6 g j bw y then false else true) = _
      have c := i_le (show (0 : Int32).toInt = 0 from rfl) t6
      by_cases w : (dn (f j) : Int) - dn (g j) - (if bw = true then 1 else 0 : Int) < 0
      · rw [if_neg (fun z => by have := c.mp z; omega), decide_eq_true w]
      · rw [if_pos (c.mpr (by omega)), decide_eq_false w]
    obtain ⟨D, hD, hD2⟩ : ∃ D : Nat, v_N_take_8 g j bw y = nI D ∧ D < 2 ^ 30 ∧ (D : Int) = (dn (f j) : Int) - dn (g j) - (if bw = true then 1 else 0 : Int) + (if (dn (f j) : Int) - dn (g j) - (if bw = true then 1 else 0 : Int) < 0 then 2 ^ 30 else 0) := by
      refine ⟨(v_N_take_6 g j bw y).toBitVec.toNat % 2 ^ 30, pk_and _ 30 (by decide), Nat.mod_lt _ (by decide), ?_⟩
      have e : (v_N_take_6 g j bw y).toInt = (v_N_take_6 g j bw y).toBitVec.toInt := rfl
      rw [BitVec.toInt_eq_toNat_cond] at e
      rw [t6] at e
      have hlt := (v_N_take_6 g j bw y).toBitVec.isLt
      generalize (v_N_take_6 g j bw y).toBitVec.toNat = N at *
      have hbb : (if bw = true then 1 else 0 : Int) = 0 ∨ (if bw = true then 1 else 0 : Int) = 1 := by split <;> omega
      generalize (if bw = true then 1 else 0 : Int) = B at *
      split at e <;> split <;> omega
    have e9 : v_N_take_9 g j bw y = upd y j (nI D) := by
      show upd y j (v_N_take_8 g j bw y) = _
      rw [hD]
    have e0 : qN_take_4 g (n + 1) j bw y = qN_take_4 g n (j + 1) (decide ((dn (f j) : Int) - dn (g j) - (if bw = true then 1 else 0 : Int) < 0)) (upd y j (nI D)) := by
      show qN_take_4 g n (j + 1) (v_N_take_7 g j bw y) (v_N_take_9 g j bw y) = _
      rw [e7, e9]
    obtain ⟨bw', y', a1, a3, a4, a5⟩ := ih (j + 1) (decide ((dn (f j) : Int) - dn (g j) - (if bw = true then 1 else 0 : Int) < 0)) (upd y j (nI D)) (by omega) (fun i p q => by rw [pk_un (by omega)]; exact h1 i (by omega) q)
      (fun i hi => by
        by_cases q : i = j
        · rw [q, upd_s, dn_nI (by omega)]; omega
        · rw [pk_un q]; exact h2 i hi) (by
        show (dv f j + dn (f j) * 2 ^ (30 * j)) + _ = (dv (upd y j (nI D)) j + dn (upd y j (nI D) j) * 2 ^ (30 * j)) + (dv g j + dn (g j) * 2 ^ (30 * j))
        rw [dv_upd, upd_s, dn_nI (by omega), p30]
        clear e0 e9 e7 t6 hD tf tg hb ih
        generalize 2 ^ (30 * j) = T at *
        -- dn f + b' * 2^30 = D + dn g + b
        obtain ⟨b', hb', ek⟩ : ∃ b' : Nat, b' = (if decide ((dn (f j) : Int) - dn (g j) - (if bw = true then 1 else 0 : Int) < 0) = true then 1 else 0) ∧ dn (f j) + b' * 2 ^ 30 = D + dn (g j) + (if bw = true then 1 else 0) := by
          refine ⟨_, rfl, ?_⟩
          have hD3 := hD2.2
          cases bw with
          | true =>
            rw [if_pos rfl] at *
            by_cases w : (dn (f j) : Int) - dn (g j) - 1 < 0
            · rw [if_pos w] at hD3
              rw [if_pos (decide_eq_true w), if_pos rfl]; omega
            · rw [if_neg w] at hD3
              rw [if_neg (by rw [decide_eq_false w]; decide), if_pos rfl]; omega
          | false =>
            rw [if_neg (show ¬ (false = true) by decide)] at *
            by_cases w : (dn (f j) : Int) - dn (g j) - 0 < 0
            · rw [if_pos w] at hD3
              rw [if_pos (decide_eq_true w), if_neg (by decide)]; omega
            · rw [if_neg w] at hD3
              rw [if_neg (by rw [decide_eq_false w]; decide), if_neg (by decide)]; omega
        rw [← hb']
        generalize (if bw = true then 1 else 0) = b at *
        have el : (dn (f j) + b' * 2 ^ 30) * T = (D + dn (g j) + b) * T := by rw [ek]
        rw [Nat.add_mul, Nat.add_mul, Nat.add_mul, Nat.mul_assoc] at el
        omega)
    rw [e0]
    have ej : j + 1 + n = j + (n + 1) := by omega
    rw [ej] at a3 a5
    exact ⟨bw', y', a1, a3, a4, a5⟩
theorem take_ok {f g : Nat → Int32} {k k2 v v2 : Nat} (h : Ng f k v) (h2 : Ng g k2 v2) (hle : v2 ≤ v) : Ng (pN_take_0 f k g k2) (pN_take_1 f k g k2) (v - v2) := by
  have hk := h.1
  have hk2 : k2 ≤ k := by
    cases k2 with
    | zero => omega
    | succ j =>
      have h5 := h2.lo
      have h6 := h.hi
      have h7 : 2 ^ (30 * j) < 2 ^ (30 * k) := by omega
      have := (Nat.pow_lt_pow_iff_right (a := 2) (by decide)).mp h7
      omega
  obtain ⟨bw, y, a1, a3, a4, a5⟩ := tk_loop h.2.1 h2.2.1 k 0 false f (by omega) (fun _ _ _ => rfl) h.2.1 (by show 0 + 0 * _ = 0 + 0; omega)
  rw [Nat.zero_add] at a3 a5
  have eg : dv g k = v2 := by rw [← h2.dvk]; exact dv_0 hk2 (fun i p q => h2.2.2.1 i p (by omega))
  rw [h.dvk, eg] at a5
  have hyz : ∀ i, k ≤ i → i < 72 → y i = 0 := fun i p q => by rw [a3 i p q]; exact h.2.2.1 i p q
  have hyl : dv y k < 2 ^ (30 * k) := dv_lt (fun i hi => a4 i (by omega))
  have hb : bw = false := by
    cases bw with
    | false => rfl
    | true => rw [if_pos rfl, Nat.one_mul] at a5; omega
  rw [hb, if_neg (by decide), Nat.zero_mul, Nat.add_zero] at a5
  have t2 : v_N_take_2 f k g k2 = y := by show (qN_take_4 g k 0 false f).2 = _; rw [a1]
  have e0 : pN_take_0 f k g k2 = v_N_take_2 f k g k2 := rfl
  have e1 : pN_take_1 f k g k2 = pN_trim_0 (v_N_take_2 f k g k2) k := rfl
  rw [e0, e1, t2]
  exact Ng_trim hk a4 hyz (by rw [dv_0 hk hyz]; omega)

