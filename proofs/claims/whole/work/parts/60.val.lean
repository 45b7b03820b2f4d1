/-! THE VALUES: a magnitude M in units of 2 ^ -1074, and of 2 ^ -100000 -/
def VMg (M : Nat) : Nat := if M < 2 ^ 52 then M else (M % 2 ^ 52 + 2 ^ 52) * 2 ^ (M / 2 ^ 52 - 1)
theorem VMg_k {pl k : Nat} (h : pl = 0 ∨ 2 ^ 52 ≤ k) (hk : k ≤ 2 ^ 53) : VMg (pl * 2 ^ 52 + k) = k * 2 ^ pl := by
  unfold VMg
  by_cases h1 : pl * 2 ^ 52 + k < 2 ^ 52
  · have e : pl = 0 := by omega
    subst e
    rw [if_pos h1, Nat.zero_mul, Nat.zero_add, Nat.pow_zero, Nat.mul_one]
  · rw [if_neg h1]
    by_cases h2 : k = 2 ^ 53
    · have e1 : (pl * 2 ^ 52 + k) % 2 ^ 52 = 0 := by omega
      have e2 : (pl * 2 ^ 52 + k) / 2 ^ 52 - 1 = pl + 1 := by omega
      have e3 : 2 ^ (pl + 1) = 2 ^ pl * 2 := Nat.pow_succ _ _
      rw [e1, e2, h2, e3]
      omega
    · have h3 : 2 ^ 52 ≤ k := by omega
      have e1 : (pl * 2 ^ 52 + k) % 2 ^ 52 + 2 ^ 52 = k := by omega
      have e2 : (pl * 2 ^ 52 + k) / 2 ^ 52 - 1 = pl := by omega
      rw [e1, e2]
theorem VMg_s (M : Nat) : VMg M < VMg (M + 1) := by
  obtain ⟨pl, k, e, h, hk⟩ : ∃ pl k, M = pl * 2 ^ 52 + k ∧ (pl = 0 ∨ 2 ^ 52 ≤ k) ∧ k < 2 ^ 53 := ⟨M / 2 ^ 52 - 1, M - (M / 2 ^ 52 - 1) * 2 ^ 52, by omega, by omega, by omega⟩
  subst e
  rw [Nat.add_assoc, VMg_k h (by omega), VMg_k (by omega) (by omega)]
  exact Nat.mul_lt_mul_of_pos_right (by omega) (Nat.pow_pos (by decide))
theorem VMg_lt {a b : Nat} (h : a < b) : VMg a < VMg b := by
  induction b with
  | zero => omega
  | succ b ih =>
    rcases Nat.lt_or_eq_of_le (Nat.le_of_lt_succ h) with q | q
    · exact Nat.lt_trans (ih q) (VMg_s b)
    · subst q; exact VMg_s a
theorem VMg_le {a b : Nat} (h : a ≤ b) : VMg a ≤ VMg b := by
  rcases Nat.lt_or_eq_of_le h with q | q
  · exact Nat.le_of_lt (VMg_lt q)
  · subst q; exact Nat.le_refl _
noncomputable def WWs : { f : Int → Nat // ∀ e, f e = 2 ^ (e + 100000).toNat } := Classical.choice ⟨⟨_, fun _ => rfl⟩⟩
noncomputable def WW (e : Int) : Nat := WWs.1 e
theorem WW_def (e : Int) : WW e = 2 ^ (e + 100000).toNat := WWs.2 e
theorem WW_pos (e : Int) : 0 < WW e := by rw [WW_def]; exact Nat.pow_pos (by decide)
theorem WW_add {e : Int} (k : Nat) (h : -100000 ≤ e) : WW (e + k) = WW e * 2 ^ k := by
  rw [WW_def, WW_def, ← Nat.pow_add]
  congr 1
  omega
theorem WW_eq {e f : Int} (k : Nat) (h : -100000 ≤ e) (hf : f = e + k) : WW f = WW e * 2 ^ k := by rw [hf, WW_add k h]
theorem WW_mul {e f : Int} (h : -50000 ≤ e) (hf : -50000 ≤ f) : WW e * WW f = WW (e + f) * WW 0 := by
  rw [WW_def, WW_def, WW_def, WW_def, ← Nat.pow_add, ← Nat.pow_add]
  congr 1
  omega
noncomputable def FV (M : Nat) : Nat := VMg M * WW (-1074)
theorem FV_lt {a b : Nat} (h : a < b) : FV a < FV b := Nat.mul_lt_mul_of_pos_right (VMg_lt h) (WW_pos _)
theorem FV_le {a b : Nat} (h : a ≤ b) : FV a ≤ FV b := Nat.mul_le_mul_right _ (VMg_le h)
theorem FV_0 : FV 0 = 0 := by
  unfold FV
  have : VMg 0 = 0 := by decide
  rw [this, Nat.zero_mul]
theorem FV_k {pl k : Nat} (h : pl = 0 ∨ 2 ^ 52 ≤ k) (hk : k ≤ 2 ^ 53) : FV (pl * 2 ^ 52 + k) = k * WW ((pl : Int) - 1074) := by
  unfold FV
  rw [VMg_k h hk, WW_eq (e := -1074) (f := (pl : Int) - 1074) pl (by omega) (by omega), Nat.mul_assoc, Nat.mul_comm (2 ^ pl)]
/-- the magnitude of what is endless -/
def IM : Nat := 9218868437227405312
theorem IM_e : IM = 2047 * 2 ^ 52 := by decide
/-- M is the greatest finite magnitude up to a / b -/
def FL (M a b : Nat) : Prop := M < IM ∧ FV M * b ≤ a ∧ (M + 1 < IM → a < FV (M + 1) * b)
/-- M is the least magnitude from a / b on -/
def CE (M a b : Nat) : Prop := M ≤ IM ∧ (M < IM → a ≤ FV M * b) ∧ ∀ N, M = N + 1 → FV N * b < a
/-- M is the nearest one, the even one of two -/
def NE (M a b : Nat) : Prop := FV M * b = a ∨ ∃ N, FV N * b < a ∧ a < FV (N + 1) * b ∧
  ((M = N ∧ (2 * a < (FV N + FV (N + 1)) * b ∨ (2 * a = (FV N + FV (N + 1)) * b ∧ N % 2 = 0))) ∨ (M = N + 1 ∧ ((FV N + FV (N + 1)) * b < 2 * a ∨ (2 * a = (FV N + FV (N + 1)) * b ∧ N % 2 = 1))))
theorem FL_un {M N a b : Nat} (h : FL M a b) (h2 : FL N a b) : M = N := by
  rcases Nat.lt_trichotomy M N with q | q | q
  · have h3 := h.2.2 (by have := h2.1; omega)
    have h4 : FV (M + 1) * b ≤ FV N * b := Nat.mul_le_mul_right _ (FV_le q)
    have := h2.2.1
    omega
  · exact q
  · have h3 := h2.2.2 (by have := h.1; omega)
    have h4 : FV (N + 1) * b ≤ FV M * b := Nat.mul_le_mul_right _ (FV_le q)
    have := h.2.1
    omega
theorem CE_un1 {M N a b : Nat} (h : CE M a b) (h2 : CE N a b) : N ≤ M := by
  refine Nat.le_of_not_lt (fun q => ?_)
  obtain ⟨K, rfl⟩ : ∃ K, N = K + 1 := ⟨N - 1, by omega⟩
  have h3 := h2.2.2 K rfl
  have h4 := h.2.1 (by have := h2.1; omega)
  have h5 : FV M * b ≤ FV K * b := Nat.mul_le_mul_right _ (FV_le (by omega))
  omega
theorem CE_un {M N a b : Nat} (h : CE M a b) (h2 : CE N a b) : M = N := Nat.le_antisymm (CE_un1 h2 h) (CE_un1 h h2)
theorem FV_inj {M N a b : Nat} (hb : 0 < b) (h : FV M * b = a) (h2 : FV N * b = a) : M = N := by
  rcases Nat.lt_trichotomy M N with q | q | q
  · have := Nat.mul_lt_mul_of_pos_right (FV_lt q) hb; omega
  · exact q
  · have := Nat.mul_lt_mul_of_pos_right (FV_lt q) hb; omega
theorem FV_bt {M N a b : Nat} (h1 : FV N * b < a) (h2 : a < FV (N + 1) * b) (h3 : FV M * b ≤ a) : M ≤ N := by
  refine Nat.le_of_not_lt (fun q => ?_)
  have h5 : FV (N + 1) * b ≤ FV M * b := Nat.mul_le_mul_right _ (FV_le (by omega))
  omega
theorem FV_bt2 {M N a b : Nat} (h1 : FV N * b < a) (h3 : a ≤ FV M * b) : N < M := by
  refine Nat.lt_of_not_le (fun q => ?_)
  have h5 : FV M * b ≤ FV N * b := Nat.mul_le_mul_right _ (FV_le q)
  omega
theorem NE_un {M N a b : Nat} (hb : 0 < b) (h : NE M a b) (h2 : NE N a b) : M = N := by
  rcases h with h | ⟨K, a1, a2, a3⟩
  · rcases h2 with h2 | ⟨L, b1, b2, b3⟩
    · exact FV_inj hb h h2
    · have := FV_bt b1 b2 (Nat.le_of_eq h)
      have := FV_bt2 b1 (Nat.le_of_eq h.symm)
      omega
  · rcases h2 with h2 | ⟨L, b1, b2, b3⟩
    · have := FV_bt a1 a2 (Nat.le_of_eq h2)
      have := FV_bt2 a1 (Nat.le_of_eq h2.symm)
      omega
    · have e : K = L := Nat.le_antisymm (FV_bt b1 b2 (Nat.le_of_lt a1)) (FV_bt a1 a2 (Nat.le_of_lt b1))
      subst e
      omega
/-- what a rounding to 53 bits finds -/
theorem rd_FL {pl k T a b : Nat} (hT : T = WW ((pl : Int) - 1074)) (h : pl = 0 ∨ 2 ^ 52 ≤ k) (hk : k < 2 ^ 53) (hp : pl ≤ 2045) (h1 : k * T * b ≤ a) (h2 : a < (k + 1) * T * b) : FL (pl * 2 ^ 52 + k) a b := by
  subst hT
  refine ⟨by rw [IM_e]; omega, by rw [FV_k h (by omega)]; exact h1, fun _ => ?_⟩
  rw [Nat.add_assoc, FV_k (by omega) (by omega)]; exact h2
theorem rd_CE {pl k T a b : Nat} (hT : T = WW ((pl : Int) - 1074)) (h : pl = 0 ∨ 2 ^ 52 ≤ k) (hk : k < 2 ^ 53) (hp : pl ≤ 2045) (h1 : k * T * b < a) (h2 : a < (k + 1) * T * b) : CE (pl * 2 ^ 52 + (k + 1)) a b := by
  subst hT
  refine ⟨by rw [IM_e]; omega, fun _ => ?_, fun N hN => ?_⟩
  · rw [FV_k (by omega) (by omega)]; exact Nat.le_of_lt h2
  · have : N = pl * 2 ^ 52 + k := by omega
    rw [this, FV_k h (by omega)]; exact h1
theorem ex_FL {M a b : Nat} (hb : 0 < b) (hM : M < IM) (h : FV M * b = a) : FL M a b :=
  ⟨hM, Nat.le_of_eq h, fun _ => by rw [← h]; exact Nat.mul_lt_mul_of_pos_right (FV_lt (by omega)) hb⟩
theorem ex_CE {M a b : Nat} (hb : 0 < b) (hM : M < IM) (h : FV M * b = a) : CE M a b :=
  ⟨Nat.le_of_lt hM, fun _ => Nat.le_of_eq h.symm, fun N hN => by rw [← h]; exact Nat.mul_lt_mul_of_pos_right (FV_lt (by omega)) hb⟩
theorem rd_ex {pl k T a b : Nat} (hT : T = WW ((pl : Int) - 1074)) (h : pl = 0 ∨ 2 ^ 52 ≤ k) (hk : k < 2 ^ 53) (h1 : a = k * T * b) : FV (pl * 2 ^ 52 + k) * b = a := by
  subst hT
  rw [FV_k h (by omega), h1]
theorem rd_NE {pl k T a b : Nat} {c : Bool} (hT : T = WW ((pl : Int) - 1074)) (h : pl = 0 ∨ 2 ^ 52 ≤ k) (hk : k < 2 ^ 53) (h1 : k * T * b < a) (h2 : a < (k + 1) * T * b)
    (hc : c = true → (2 * k + 1) * T * b < 2 * a ∨ (2 * a = (2 * k + 1) * T * b ∧ k % 2 = 1)) (hd : c = false → 2 * a < (2 * k + 1) * T * b ∨ (2 * a = (2 * k + 1) * T * b ∧ k % 2 = 0)) : NE (pl * 2 ^ 52 + (if c = true then k + 1 else k)) a b := by
  subst hT
  have e1 : FV (pl * 2 ^ 52 + k) = k * WW ((pl : Int) - 1074) := FV_k h (by omega)
  have e2 : FV (pl * 2 ^ 52 + k + 1) = (k + 1) * WW ((pl : Int) - 1074) := by rw [Nat.add_assoc]; exact FV_k (by omega) (by omega)
  have e3 : FV (pl * 2 ^ 52 + k) + FV (pl * 2 ^ 52 + k + 1) = (2 * k + 1) * WW ((pl : Int) - 1074) := by
    rw [e1, e2, ← Nat.add_mul]
    congr 1
    omega
  right
  refine ⟨pl * 2 ^ 52 + k, by rw [e1]; exact h1, by rw [e2]; exact h2, ?_⟩
  rw [e3]
  cases c with
  | true =>
    right
    refine ⟨by rw [if_pos rfl]; omega, ?_⟩
    rcases hc rfl with q | q
    · exact Or.inl q
    · exact Or.inr ⟨q.1, by omega⟩
  | false =>
    left
    refine ⟨by rw [if_neg (by decide)], ?_⟩
    rcases hd rfl with q | q
    · exact Or.inl q
    · exact Or.inr ⟨q.1, by omega⟩
theorem big_FL {a b : Nat} (h : FV IM * b ≤ a) : FL (IM - 1) a b :=
  ⟨by decide, Nat.le_trans (Nat.mul_le_mul_right _ (FV_le (by decide))) h, fun q => absurd q (by decide)⟩
theorem big_CE {a b : Nat} (hb : 0 < b) (h : FV IM * b ≤ a) : CE IM a b :=
  ⟨Nat.le_refl _, fun q => absurd q (by decide), fun N hN => Nat.lt_of_lt_of_le (Nat.mul_lt_mul_of_pos_right (FV_lt (by omega)) hb) h⟩
theorem FV_IM : FV IM = WW 1024 := by
  have e : IM = 2046 * 2 ^ 52 + 2 ^ 52 := by decide
  rw [e, FV_k (by omega) (by decide), Nat.mul_comm]
  exact (WW_eq 52 (by decide) (by decide)).symm

