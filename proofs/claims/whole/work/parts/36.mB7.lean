theorem bw_cutd_lo {f y : Nat → Int32} {k j n : Nat} (hy : ∀ i, j ≤ i → i < k → y i = f i) (hn : k ≤ j + n) : bv y (max k j) = bv y j + bw (cutd f k) j n * 65536 ^ j := by
  by_cases h : j ≤ k
  · have e : max k j = j + (k - j) := by omega
    obtain ⟨d, hd⟩ : ∃ d, n = (k - j) + d := ⟨n - (k - j), by omega⟩
    rw [e, bv_bw, hd, bw_add, bw_zero (f := cutd f k) (n := d) (fun i hi => by unfold cutd; rw [if_neg (by omega)]), Nat.zero_mul, Nat.add_zero]
    have : bw y j (k - j) = bw (cutd f k) j (k - j) := bw_congr fun i p q => by unfold cutd; rw [if_pos (by omega)]; exact hy i p (by omega)
    rw [this]
  · have e : max k j = j := by omega
    rw [e, bw_zero (f := cutd f k) (fun i hi => by unfold cutd; rw [if_neg (by omega)]), Nat.zero_mul, Nat.add_zero]
theorem c_le0 {c : Int32} (hc : c = 0 ∨ c = 1) : c ≤ 0 ↔ c = 0 := by rcases hc with rfl | rfl <;> decide
theorem add_ok {k k2 : Nat} {f g : Nat → Int32} (hk : k < 1073741824) (hk2 : k2 < 1073741824) (hf : ∀ i, i < k → dg (f i)) (hg : ∀ i, i < k2 → dg (g i)) : ∀ (n j : Nat) (c : Int32) (y : Nat → Int32), j + n = max k k2 + 1 → (c = 0 ∨ c = 1) → (max k k2 < j → c = 0) → (∀ i, i < max k j → dg (y i)) → (∀ i, j ≤ i → i < k → y i = f i) →
    (max k j = k ∨ max k j = k2 ∨ ∀ t, max k j = t + 1 → j ≤ k2 ∨ y t ≠ 0) →
    (∀ i, i < (qB_add_4 k2 g n j c y (max k j)).2.2 → dg ((qB_add_4 k2 g n j c y (max k j)).2.1 i)) ∧ (qB_add_4 k2 g n j c y (max k j)).2.2 ≤ max k k2 + 1 ∧
    ((qB_add_4 k2 g n j c y (max k j)).2.2 = k ∨ (qB_add_4 k2 g n j c y (max k j)).2.2 = k2 ∨ ∀ t, (qB_add_4 k2 g n j c y (max k j)).2.2 = t + 1 → (qB_add_4 k2 g n j c y (max k j)).2.1 t ≠ 0) ∧
    bv (qB_add_4 k2 g n j c y (max k j)).2.1 (qB_add_4 k2 g n j c y (max k j)).2.2 = bv y j + (bw (cutd f k) j n + bw (cutd g k2) j n + dn c) * 65536 ^ j := by
  intro n
  -- where it ends
  have fin : ∀ (n j : Nat) (c : Int32) (y : Nat → Int32), j + n = max k k2 + 1 → k2 ≤ j → c = 0 → (∀ i, i < max k j → dg (y i)) → (∀ i, j ≤ i → i < k → y i = f i) → (max k j = k ∨ max k j = k2 ∨ ∀ t, max k j = t + 1 → j ≤ k2 ∨ y t ≠ 0) → qB_add_4 k2 g n j c y (max k j) = (c, y, max k j) →
      (∀ i, i < (qB_add_4 k2 g n j c y (max k j)).2.2 → dg ((qB_add_4 k2 g n j c y (max k j)).2.1 i)) ∧ (qB_add_4 k2 g n j c y (max k j)).2.2 ≤ max k k2 + 1 ∧
      ((qB_add_4 k2 g n j c y (max k j)).2.2 = k ∨ (qB_add_4 k2 g n j c y (max k j)).2.2 = k2 ∨ ∀ t, (qB_add_4 k2 g n j c y (max k j)).2.2 = t + 1 → (qB_add_4 k2 g n j c y (max k j)).2.1 t ≠ 0) ∧
      bv (qB_add_4 k2 g n j c y (max k j)).2.1 (qB_add_4 k2 g n j c y (max k j)).2.2 = bv y j + (bw (cutd f k) j n + bw (cutd g k2) j n + dn c) * 65536 ^ j := by
    intro n j c y hj hkj hc hd hy ht e
    rw [e]
    refine ⟨hd, by show max k j ≤ max k k2 + 1; omega, ?_, ?_⟩
    · show max k j = k ∨ max k j = k2 ∨ ∀ t, max k j = t + 1 → y t ≠ 0
      rcases ht with q | q | q
      · exact Or.inl q
      · exact Or.inr (Or.inl q)
      · by_cases z : j ≤ k2
        · have : j = k2 := by omega
          by_cases w : k ≤ k2
          · exact Or.inr (Or.inl (by omega))
          · exact Or.inl (by omega)
        · exact Or.inr (Or.inr (fun t ht => (q t ht).resolve_left z))
    · show bv y (max k j) = _
      rw [bw_cutd_lo (n := n) hy (by omega), bw_zero (f := cutd g k2) (fun i hi => by unfold cutd; rw [if_neg (by omega)]), hc, dn_0]
      rfl
  induction n with
  | zero =>
    intro j c y hj hc hz hd hy ht
    exact fin 0 j c y hj (by omega) (hz (by omega)) hd hy ht rfl
  | succ n ih =>
    intro j c y hj hc hz hd hy ht
    have hj3 : j < 2147483648 := by omega
    have hm3 : max k j < 2147483648 := by omega
    have eltk2 : nI j < nI k2 ↔ j < k2 := nI_ltI hj3 (by omega)
    by_cases stop : ¬ j < k2 ∧ c = 0
    · refine fin (n + 1) j c y hj (by omega) stop.2 hd hy ht ?_
      exact (if_neg (fun z => stop.1 (eltk2.mp z))).trans (if_pos ((c_le0 hc).mpr stop.2))
    · -- one more digit
      generalize hv : ((if nI (max k j) ≤ nI j then (0 : Int32) else y j) + (if nI k2 ≤ nI j then (0 : Int32) else g j)) + c = v
      have e : qB_add_4 k2 g (n + 1) j c y (max k j) = qB_add_4 k2 g n (j + 1) (v >>> ((16 : Int32) &&& 31)) (upd y j (v &&& (65535 : Int32))) (max k (j + 1)) := by
        rw [← badd_y (k := k) (j := j) rfl hm3 hj3, ← hv]
        by_cases z : j < k2
        · exact if_pos (eltk2.mpr z)
        · exact (if_neg (fun q => z (eltk2.mp q))).trans (if_neg (fun q => stop ⟨z, (c_le0 hc).mp q⟩))
      rw [e]
      have ha : (if nI (max k j) ≤ nI j then (0 : Int32) else y j) = cutd f k j := by
        rw [cutd_if hm3 hj3]
        unfold cutd
        by_cases q : j < k
        · rw [if_pos (by omega), if_pos q]; exact hy j (Nat.le_refl _) q
        · rw [if_neg (by omega), if_neg q]
      have hb := cutd_if (f := g) (show k2 < 2147483648 by omega) hj3
      have da := cutd_dg hf j
      have db := cutd_dg hg j
      rw [ha, hb] at hv
      have hvI : v.toInt = (dn (cutd f k j) : Int) + (dn (cutd g k2 j) : Int) + (dn c : Int) := by
        rw [← hv, dg_sum da db hc, dn_toInt da, dn_toInt db]
        rcases hc with rfl | rfl <;> rfl
      have h1 : dn (cutd f k j) < 65536 := da
      have h2 : dn (cutd g k2 j) < 65536 := db
      have h3 : dn c ≤ 1 := by rcases hc with rfl | rfl <;> decide
      have hs := i32_shr16 v
      have hd16 := dn_and16 v
      have hc1 : v >>> ((16 : Int32) &&& 31) = 0 ∨ v >>> ((16 : Int32) &&& 31) = 1 := by
        have : v.toInt / 65536 = 0 ∨ v.toInt / 65536 = 1 := by omega
        rcases this with q | q
        · exact Or.inl (i32_0 (hs.trans q))
        · exact Or.inr (i32_1 (hs.trans q))
      have hcn : (dn (v >>> ((16 : Int32) &&& 31)) : Int) = v.toInt / 65536 := by
        rw [← hs]
        rcases hc1 with q | q <;> rw [q] <;> rfl
      have hz1 : max k k2 < j + 1 → v >>> ((16 : Int32) &&& 31) = 0 := by
        intro q
        apply i32_0
        rw [hs]
        have z1 : cutd f k j = 0 := by unfold cutd; rw [if_neg (by omega)]
        have z2 : cutd g k2 j = 0 := by unfold cutd; rw [if_neg (by omega)]
        rw [z1, z2, dn_0] at hvI
        omega
      have htop : max k (j + 1) = k ∨ max k (j + 1) = k2 ∨ ∀ t, max k (j + 1) = t + 1 → j + 1 ≤ k2 ∨ upd y j (v &&& (65535 : Int32)) t ≠ 0 := by
        by_cases q : j + 1 ≤ k
        · exact Or.inl (by omega)
        · refine Or.inr (Or.inr (fun t ht9 => ?_))
          have et : t = j := by omega
          rw [et, upd_s]
          by_cases z : j < k2
          · exact Or.inl (by omega)
          · refine Or.inr (fun w => ?_)
            have cc : c = 1 := hc.resolve_left (fun u => stop ⟨z, u⟩)
            have z1 : cutd f k j = 0 := by unfold cutd; rw [if_neg (by omega)]
            have z2 : cutd g k2 j = 0 := by unfold cutd; rw [if_neg (by omega)]
            rw [w, dn_0, hvI, z1, z2, cc, dn_0] at hd16
            exact absurd hd16 (by decide)
      obtain ⟨a1, a2, a3, a4⟩ := ih (j + 1) (v >>> ((16 : Int32) &&& 31)) (upd y j (v &&& (65535 : Int32))) (by omega) hc1 hz1
        (fun i hi => by
          by_cases ei : i = j
          · rw [ei, upd_s]; exact dg_and v
          · rw [pk_un ei]; exact hd i (by omega))
        (fun i p q => by rw [pk_un (by omega)]; exact hy i (by omega) q) htop
      refine ⟨a1, a2, a3, a4.trans ?_⟩
      show bv (upd y j (v &&& (65535 : Int32))) j + dn (upd y j (v &&& (65535 : Int32)) j) * 65536 ^ j + _ = bv y j + ((dn (cutd f k j) + 65536 * bw (cutd f k) (j + 1) n) + (dn (cutd g k2 j) + 65536 * bw (cutd g k2) (j + 1) n) + dn c) * 65536 ^ j
      rw [bv_upd, upd_s, Nat.pow_succ, Nat.add_assoc, Nat.mul_comm (65536 ^ j) 65536, ← Nat.mul_assoc, ← Nat.add_mul]
      congr 2
      generalize bw (cutd f k) (j + 1) n = X
      generalize bw (cutd g k2) (j + 1) n = Y
      omega
theorem Bg_add {f g : Nat → Int32} {k k2 a b : Nat} (h : Bg f k a) (h2 : Bg g k2 b) (hk : k < 1073741824) (hk2 : k2 < 1073741824) : Bg (pB_add_0 f k g k2) (pB_add_1 f k g k2) (a + b) ∧ pB_add_1 f k g k2 ≤ max k k2 + 1 := by
  have em : max k 0 = k := by omega
  obtain ⟨a1, a2, a3, a4⟩ := add_ok hk hk2 h.1 h2.1 (max k k2 + 1) 0 0 f (by omega) (Or.inl rfl) (fun _ => rfl) (by rw [em]; exact h.1) (fun _ _ _ => rfl) (Or.inl em)
  rw [em] at a1 a2 a3 a4
  rw [bw_0, bw_0, bv_cutd (by omega), bv_cutd (by omega), h.2.2, h2.2.2, dn_0] at a4
  have e0 : pB_add_0 f k g k2 = (qB_add_4 k2 g (max k k2 + 1) 0 0 f k).2.1 := rfl
  have e1 : pB_add_1 f k g k2 = (qB_add_4 k2 g (max k k2 + 1) 0 0 f k).2.2 := rfl
  rw [e0, e1]
  generalize qB_add_4 k2 g (max k k2 + 1) 0 0 f k = r at *
  have hv : bv r.2.1 r.2.2 = a + b := by
    rw [a4]
    show 0 + (a + b + 0) * 1 = _
    omega
  refine ⟨⟨a1, fun j hj q => ?_, hv⟩, a2⟩
  have hlow : 65536 ^ j ≤ a + b ∨ r.2.1 j ≠ 0 := by
    rcases a3 with z | z | z
    · left
      have : k = j + 1 := by omega
      subst this
      have := h.low
      omega
    · left
      have : k2 = j + 1 := by omega
      subst this
      have := h2.low
      omega
    · exact Or.inr (z j hj)
  rcases hlow with z | z
  · rw [hj] at hv
    have e : bv r.2.1 (j + 1) = bv r.2.1 j + dn (r.2.1 j) * 65536 ^ j := rfl
    rw [q, dn_0] at e
    have hl := bv_lt (f := r.2.1) (n := j) (fun i hi => a1 i (by omega))
    omega
  · exact z q

