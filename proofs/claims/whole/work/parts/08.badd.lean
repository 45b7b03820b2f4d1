theorem dg_0 : dg 0 := by unfold dg; decide
theorem dg_and (v : Int32) : dg (v &&& (65535 : Int32)) := by
  unfold dg
  have e : (v &&& (65535 : Int32)).toBitVec.toNat = v.toBitVec.toNat &&& 65535 := by
    show (v.toBitVec &&& (65535 : Int32).toBitVec).toNat = _
    rw [BitVec.toNat_and]; rfl
  rw [e]
  exact Nat.lt_of_le_of_lt Nat.and_le_right (by decide)
theorem dg_if {y : Nat → Int32} {n j : Nat} (hn : n < 2147483648) (hj : j < 2147483648) (hd : ∀ i, i < n → dg (y i)) : dg (if nI n ≤ nI j then (0 : Int32) else y j) := by
  split
  · exact dg_0
  · rename_i h
    exact hd j (Nat.lt_of_not_le fun q => h ((nI_leI hn hj).mpr q))
theorem dg_sum {a b c : Int32} (ha : dg a) (hb : dg b) (hc : c = 0 ∨ c = 1) : ((a + b) + c).toInt = a.toInt + b.toInt + c.toInt := by
  have h1 := dg_int ha
  have h2 := dg_int hb
  have h3 : 0 ≤ c.toInt ∧ c.toInt ≤ 1 := by rcases hc with rfl | rfl <;> decide
  rw [Int32.toInt_add, Int32.toInt_add]
  rw [Int.bmod_eq_of_le (n := a.toInt + b.toInt) (by omega) (by omega)]
  exact Int.bmod_eq_of_le (by omega) (by omega)
theorem i32_0 {x : Int32} (h : x.toInt = 0) : x = 0 := Int32.toInt_inj.mp (by rw [h]; rfl)
theorem i32_1 {x : Int32} (h : x.toInt = 1) : x = 1 := Int32.toInt_inj.mp (by rw [h]; rfl)
theorem i32_shr16 (x : Int32) : (x >>> ((16 : Int32) &&& 31)).toInt = x.toInt / 65536 := by
  rw [pk_shr x ((16 : Int32) &&& 31) 16 (by decide), Int.shiftRight_eq_div_pow]; rfl
theorem badd_c {y0 : Int32} {y1 f2 : Nat → Int32} {y2 k2 j : Nat} (hc : y0 = 0 ∨ y0 = 1) (hb : y2 < 2147483648 ∧ j < 2147483648 ∧ k2 < 2147483648) (hd : ∀ i, i < y2 → dg (y1 i)) (hd2 : ∀ i, i < k2 → dg (f2 i)) :
    (((if nI y2 ≤ nI j then (0 : Int32) else y1 j) + (if nI k2 ≤ nI j then (0 : Int32) else f2 j)) + y0) >>> ((16 : Int32) &&& 31) = 0 ∨ (((if nI y2 ≤ nI j then (0 : Int32) else y1 j) + (if nI k2 ≤ nI j then (0 : Int32) else f2 j)) + y0) >>> ((16 : Int32) &&& 31) = 1 := by
  have ha := dg_if hb.1 hb.2.1 hd
  have hb' := dg_if hb.2.2 hb.2.1 hd2
  generalize (if nI y2 ≤ nI j then (0 : Int32) else y1 j) = a at ha ⊢
  generalize (if nI k2 ≤ nI j then (0 : Int32) else f2 j) = b at hb' ⊢
  have h1 := dg_int ha
  have h2 := dg_int hb'
  have h3 : 0 ≤ y0.toInt ∧ y0.toInt ≤ 1 := by rcases hc with rfl | rfl <;> decide
  have e := i32_shr16 ((a + b) + y0)
  rw [dg_sum ha hb' hc] at e
  have : ((a.toInt + b.toInt + y0.toInt) / 65536 = 0) ∨ ((a.toInt + b.toInt + y0.toInt) / 65536 = 1) := by omega
  rcases this with q | q
  · exact Or.inl (i32_0 (e.trans q))
  · exact Or.inr (i32_1 (e.trans q))
theorem badd_z {y0 : Int32} {y1 f2 : Nat → Int32} {y2 k k2 j : Nat} (hc : y0 = 0 ∨ y0 = 1) (hy : y2 = max k j) (hb : y2 < 2147483648 ∧ j < 2147483648 ∧ k2 < 2147483648) (h : max k k2 < j + 1) :
    (((if nI y2 ≤ nI j then (0 : Int32) else y1 j) + (if nI k2 ≤ nI j then (0 : Int32) else f2 j)) + y0) >>> ((16 : Int32) &&& 31) = 0 := by
  rw [if_pos ((nI_leI hb.1 hb.2.1).mpr (by omega)), if_pos ((nI_leI hb.2.2 hb.2.1).mpr (by omega))]
  rcases hc with rfl | rfl <;> decide
theorem badd_y {y2 k j : Nat} (hy : y2 = max k j) (h1 : y2 < 2147483648) (h2 : j < 2147483648) : (if nI y2 ≤ nI j then j + 1 else y2) = max k (j + 1) := by
  by_cases h : y2 ≤ j
  · rw [if_pos ((nI_leI h1 h2).mpr h)]; omega
  · rw [if_neg (fun q => h ((nI_leI h1 h2).mp q))]; omega
theorem badd_d {y1 : Nat → Int32} {y2 k j : Nat} {v : Int32} (hy : y2 = max k j) (hd : ∀ i, i < y2 → dg (y1 i)) (h1 : y2 < 2147483648) (h2 : j < 2147483648) : ∀ i, i < (if nI y2 ≤ nI j then j + 1 else y2) → dg (upd y1 j (v &&& (65535 : Int32)) i) := by
  intro i hi
  rw [badd_y hy h1 h2] at hi
  by_cases e : i = j
  · subst e; rw [pk_us]; exact dg_and v
  · rw [pk_un e]; exact hd i (by omega)

