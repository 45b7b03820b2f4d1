theorem ntrim_le (f : Nat → Int32) : ∀ k : Nat, qN_trim_0 f k ≤ k := by
  intro k
  induction k with
  | zero => exact Nat.le_refl _
  | succ n ih =>
    by_cases h : f n = 0
    · have e : qN_trim_0 f (n + 1) = qN_trim_0 f n := if_pos h
      rw [e]; omega
    · have e : qN_trim_0 f (n + 1) = n + 1 := if_neg h
      rw [e]; exact Nat.le_refl _
theorem nscale_le (f : Nat → Int32) (k : Nat) (b : Int64) : pN_scale_1 f k b ≤ 72 := by
  have h := ntrim_le (v_N_scale_5 f k b) (min (k + 2) 72)
  have e : pN_scale_1 f k b = qN_trim_0 (v_N_scale_5 f k b) (min (k + 2) 72) := rfl
  rw [e]; omega

