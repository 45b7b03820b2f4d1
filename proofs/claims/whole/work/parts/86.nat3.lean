theorem nI_asub (B b : Nat) : nI (B + b) - nI b = nI B := by rw [pk_sub (Nat.le_add_left b B), Nat.add_sub_cancel]
theorem ni1_p {n : Nat} (h : 1 ≤ n) : nI n - (1 : Int32) = nI (n - 1) := by
  obtain ⟨m, rfl⟩ : ∃ m, n = m + 1 := ⟨n - 1, by omega⟩
  rw [nI_pred, Nat.add_sub_cancel]
theorem twice_le {f : Nat → Int32} {k : Nat} (h : k ≤ 72) : pN_twice_1 f k ≤ 72 := by
  show (if v_N_twice_1 f k = 0 then k else (if (72 : Int32) ≤ nI k then k else k + 1)) ≤ 72
  split
  · exact h
  · split
    · exact h
    · next q =>
      have : ¬ 72 ≤ k := fun z => q ((nI_leI (a := 72) (b := k) (by decide) (by omega)).mpr z)
      omega
theorem rc_le {f : Nat → Int32} {k : Nat} {f3 : Nat → Int32} {k3 : Nat} (h : k ≤ 72) : (if pN_isBelow (pN_twice_0 f k) (pN_twice_1 f k) f3 k3 = true then pN_twice_1 f k else pN_take_1 (pN_twice_0 f k) (pN_twice_1 f k) f3 k3) ≤ 72 := by
  have h1 := twice_le (f := f) h
  split
  · exact h1
  · exact Nat.le_trans (trimN _ _).1 h1
theorem len_c {f : Nat → Int32} {k v : Nat} (h : Ng f k v) : pN_length f k = nI (pN_length f k).toNatClampNeg ∧ (pN_length f k).toNatClampNeg = blen v := by
  have h1 := h.hi
  have h2 := blen_lt h1
  have h3 := h.1
  have e := len_N h
  have e2 : (pN_length f k).toNatClampNeg = blen v := by rw [e]; exact nI_clamp (by omega)
  rw [e2]
  exact ⟨e, rfl⟩

