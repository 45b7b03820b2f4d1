theorem Wv_ex {N : Nat} {e : Int} : Wv N e false (N * WW e) := ⟨Nat.le_refl _, Nat.mul_lt_mul_of_pos_right (Nat.lt_succ_self _) (WW_pos _), fun _ => rfl, fun h => absurd h (by decide)⟩
theorem Wv_sink {K g : Nat} {e f : Int} (h : -100000 ≤ f) (he : e = f + g) : Wv (K / 2 ^ g) e (decide (K % 2 ^ g ≠ 0)) (K * WW f) := by
  have hw := WW_eq g h he
  have hd := Nat.div_add_mod K (2 ^ g)
  have hm : K % 2 ^ g < 2 ^ g := Nat.mod_lt _ (Nat.pow_pos (by decide))
  have hp := WW_pos f
  have e1 : ∀ z : Nat, z * WW e = 2 ^ g * z * WW f := fun z => by rw [hw, Nat.mul_comm (WW f), ← Nat.mul_assoc, Nat.mul_comm z]
  have e2 : 2 ^ g * (K / 2 ^ g + 1) = 2 ^ g * (K / 2 ^ g) + 2 ^ g := Nat.mul_succ _ _
  refine ⟨?_, ?_, fun h => ?_, fun h => ?_⟩
  · rw [e1]; exact Nat.mul_le_mul_right _ (by omega)
  · rw [e1]; exact Nat.mul_lt_mul_of_pos_right (by omega) hp
  · have := of_decide_eq_false h
    rw [e1]; congr 1; omega
  · have := of_decide_eq_true h
    rw [e1]; exact Nat.mul_lt_mul_of_pos_right (by omega) hp
theorem Wv_add {N K B : Nat} {e : Int} {gn : Bool} (h : Wv K e gn B) : Wv (N + K) e gn (N * WW e + B) := by
  obtain ⟨h1, h2, h3, h4⟩ := h
  have e1 : (N + K) * WW e = N * WW e + K * WW e := Nat.add_mul _ _ _
  have e2 : (N + K + 1) * WW e = N * WW e + (K + 1) * WW e := by rw [Nat.add_assoc, Nat.add_mul]
  exact ⟨by omega, by omega, fun q => by have := h3 q; omega, fun q => by have := h4 q; omega⟩
theorem Wv_sub {N K B : Nat} {e : Int} {gn : Bool} (h : Wv K e gn B) (hN : K + (if gn = true then 1 else 0) ≤ N) : B ≤ N * WW e ∧ Wv (N - K - (if gn = true then 1 else 0)) e gn (N * WW e - B) := by
  obtain ⟨h1, h2, h3, h4⟩ := h
  have hp := WW_pos e
  cases gn with
  | false =>
    rw [if_neg (by decide)] at hN ⊢
    obtain ⟨d, rfl⟩ : ∃ d, N = K + d := ⟨N - K, by omega⟩
    have hB := h3 rfl
    have e1 : (K + d) * WW e = K * WW e + d * WW e := Nat.add_mul _ _ _
    have e2 : K + d - K - 0 = d := by omega
    have e3 : (K + d) * WW e - B = d * WW e := by omega
    rw [e2, e3]
    exact ⟨by omega, Wv_ex⟩
  | true =>
    rw [if_pos rfl] at hN ⊢
    obtain ⟨d, rfl⟩ : ∃ d, N = K + 1 + d := ⟨N - K - 1, by omega⟩
    have hB := h4 rfl
    have e1 : (K + 1 + d) * WW e = (K + 1) * WW e + d * WW e := Nat.add_mul _ _ _
    have e2 : K + 1 + d - K - 1 = d := by omega
    have e3 : (K + 1) * WW e = K * WW e + WW e := Nat.succ_mul _ _
    have e4 : (d + 1) * WW e = d * WW e + WW e := Nat.succ_mul _ _
    rw [e2]
    exact ⟨by omega, by omega, by omega, fun q => absurd q (by decide), fun _ => by omega⟩
/-- two lifted numbers, the second one sunk by g -/
theorem jn_core {N K g : Nat} {e f : Int} {ng ng2 : Bool} (h1 : 2 ^ 125 ≤ N) (h2 : N < 2 ^ 126) (h3 : 2 ^ 125 ≤ K) (h4 : K < 2 ^ 126) (h20 : K % 2 ^ 20 = 0) (hf : -100000 ≤ f) (he : e = f + g) (hg : 0 < g) :
    K / 2 ^ g < N ∧ K / 2 ^ g < 2 ^ 125 ∧ K / 2 ^ g + (if decide (K % 2 ^ g ≠ 0) = true then 1 else 0) ≤ N ∧ K * WW f ≤ N * WW e ∧ (decide (K % 2 ^ g ≠ 0) = true → K / 2 ^ g < 2 ^ 105) := by
  have hv := Wv_sink (K := K) hf he
  have b1 : K / 2 ^ g < 2 ^ 125 := by
    rw [Nat.div_lt_iff_lt_mul (Nat.pow_pos (by decide))]
    have : 2 ^ 1 ≤ 2 ^ g := Nat.pow_le_pow_right (by decide) hg
    have : 2 ^ 125 * 2 ^ 1 ≤ 2 ^ 125 * 2 ^ g := Nat.mul_le_mul_left _ this
    omega
  have b2 : K / 2 ^ g + (if decide (K % 2 ^ g ≠ 0) = true then 1 else 0) ≤ N := by split <;> omega
  refine ⟨by omega, b1, b2, (Wv_sub hv b2).1, fun q => ?_⟩
  have hr := of_decide_eq_true q
  have : 20 < g := by
    refine Nat.lt_of_not_le (fun z => hr ?_)
    have e2 : 2 ^ 20 = 2 ^ g * 2 ^ (20 - g) := by rw [← Nat.pow_add]; congr 1; omega
    have := Nat.mod_mul_right_mod K (2 ^ g) (2 ^ (20 - g))
    rw [← e2, h20] at this
    rw [← this]; exact Nat.zero_mod _
  rw [Nat.div_lt_iff_lt_mul (Nat.pow_pos (by decide))]
  have h5 : 2 ^ 21 ≤ 2 ^ g := Nat.pow_le_pow_right (by decide) this
  have : 2 ^ 105 * 2 ^ 21 ≤ 2 ^ 105 * 2 ^ g := Nat.mul_le_mul_left _ h5
  omega
theorem join_ok {N K : Nat} {ep ep2 : Int32} {ng ng2 : Bool} {e f : Int} (hN : N < 2 ^ 106) (hK : K < 2 ^ 106) (he : ep.toInt = e) (hf : ep2.toInt = f) (r1 : -5000 ≤ e) (r2 : e ≤ 5000) (r3 : -5000 ≤ f) (r4 : f ≤ 5000) :
    ∃ (R : Nat) (g : Int) (lo : Bool), pW_join_0 (hw N) (lw N) ep ng false (hw K) (lw K) ep2 ng2 false = hw R ∧ pW_join_1 (hw N) (lw N) ep ng false (hw K) (lw K) ep2 ng2 false = lw R ∧
      (pW_join_2 (hw N) (lw N) ep ng false (hw K) (lw K) ep2 ng2 false).toInt = g ∧ pW_join_3 (hw N) (lw N) ep ng false (hw K) (lw K) ep2 ng2 false = smS (N * WW e) (K * WW f) ng ng2 ∧
      pW_join_4 (hw N) (lw N) ep ng false (hw K) (lw K) ep2 ng2 false = lo ∧ R < 2 ^ 127 ∧ Wv R g lo (smM (N * WW e) (K * WW f) ng ng2) ∧ (lo = true → 2 ^ 124 ≤ R) ∧ -6000 ≤ g ∧ g ≤ 6000 := by
  have n2 : v_W_join_1 (hw N) (lw N) ep ng false (hw K) (lw K) ep2 ng2 false = decide (K = 0) := nth_ok (by omega) _ _ _
  have n1 : v_W_join_2 (hw N) (lw N) ep ng false (hw K) (lw K) ep2 ng2 false = decide (N = 0) := nth_ok (by omega) _ _ _
  by_cases k0 : K = 0
  · have c := n2.trans (decide_eq_true k0)
    refine ⟨N, e, false, if_pos c, if_pos c, ?_, ?_, if_pos c, by omega, ?_, fun q => absurd q (by decide), by omega, by omega⟩
    · have : pW_join_2 (hw N) (lw N) ep ng false (hw K) (lw K) ep2 ng2 false = ep := if_pos c
      rw [this, he]
    · refine (if_pos c).trans ?_
      unfold smS
      rw [k0, Nat.zero_mul, if_pos (Nat.zero_le _), ite_self]
    · have : smM (N * WW e) (K * WW f) ng ng2 = N * WW e := by
        unfold smM
        rw [k0, Nat.zero_mul, if_pos (Nat.zero_le _), Nat.sub_zero, Nat.add_zero, ite_self]
      rw [this]; exact Wv_ex
  · have c := fun z => k0 (of_decide_eq_true (n2.symm.trans z))
    by_cases n0 : N = 0
    · have d := n1.trans (decide_eq_true n0)
      have hB : 0 < K * WW f := Nat.mul_pos (by omega) (WW_pos _)
      refine ⟨K, f, false, (if_neg c).trans (if_pos d), (if_neg c).trans (if_pos d), ?_, ?_, (if_neg c).trans (if_pos d), by omega, ?_, fun q => absurd q (by decide), by omega, by omega⟩
      · have : pW_join_2 (hw N) (lw N) ep ng false (hw K) (lw K) ep2 ng2 false = ep2 := (if_neg c).trans (if_pos d)
        rw [this, hf]
      · refine ((if_neg c).trans (if_pos d)).trans ?_
        show ng2 = _
        unfold smS
        rw [n0, Nat.zero_mul, if_neg (show ¬ K * WW f ≤ 0 by omega)]
        split
        · next q => exact q.symm
        · rfl
      · have : smM (N * WW e) (K * WW f) ng ng2 = K * WW f := by
          unfold smM
          rw [n0, Nat.zero_mul, if_neg (show ¬ K * WW f ≤ 0 by omega), Nat.zero_add, Nat.sub_zero, ite_self]
        rw [this]; exact Wv_ex
    · have d := fun z => n0 (of_decide_eq_true (n1.symm.trans z))
      have j0 : pW_join_0 (hw N) (lw N) ep ng false (hw K) (lw K) ep2 ng2 false = v_W_join_33 (hw N) (lw N) ep ng false (hw K) (lw K) ep2 ng2 false := (if_neg c).trans (if_neg d)
      have j1 : pW_join_1 (hw N) (lw N) ep ng false (hw K) (lw K) ep2 ng2 false = v_W_join_34 (hw N) (lw N) ep ng false (hw K) (lw K) ep2 ng2 false := (if_neg c).trans (if_neg d)
      have j2 : pW_join_2 (hw N) (lw N) ep ng false (hw K) (lw K) ep2 ng2 false = v_W_join_35 (hw N) (lw N) ep ng false (hw K) (lw K) ep2 ng2 false := (if_neg c).trans (if_neg d)
      have j3 : pW_join_3 (hw N) (lw N) ep ng false (hw K) (lw K) ep2 ng2 false = v_W_join_36 (hw N) (lw N) ep ng false (hw K) (lw K) ep2 ng2 false := (if_neg c).trans (if_neg d)
      have j4 : pW_join_4 (hw N) (lw N) ep ng false (hw K) (lw K) ep2 ng2 false = v_W_join_37 (hw N) (lw N) ep ng false (hw K) (lw K) ep2 ng2 false := (if_neg c).trans (if_neg d)
      rw [j0, j1, j2, j3, j4]
      obtain ⟨s, s1, s2, s3, s4, s5, s6, s7, s8⟩ := lift_ok (N := N) (ep := ep) (ng := ng) (gn := false) (by omega) he (by omega) (by omega)
      obtain ⟨t, t1, t2, t3, t4, t5, t6, t7, t8⟩ := lift_ok (N := K) (ep := ep2) (ng := ng2) (gn := false) (by omega) hf (by omega) (by omega)
      have s9 := s8 106 n0 hN (by decide)
      have t9 := t8 106 k0 hK (by decide)
      have s7 := s7 (by omega)
      have t7 := t7 (by omega)
      have s6 := s6 n0
      have t6 := t6 k0
      have m20 : ∀ a b : Nat, 20 ≤ b → a * 2 ^ b % 2 ^ 20 = 0 := fun a b hb => by
        have : 2 ^ b = 2 ^ (b - 20) * 2 ^ 20 := by rw [← Nat.pow_add]; congr 1; omega
        rw [this, ← Nat.mul_assoc, Nat.mul_mod_left]
      have hN20 := m20 N s (by omega)
      have hK20 := m20 K t (by omega)
      have eA : N * WW e = N * 2 ^ s * WW (e - s) := by rw [WW_eq (e := e - s) (f := e) s (by omega) (by omega), Nat.mul_comm (WW _), Nat.mul_assoc]
      have eB : K * WW f = K * 2 ^ t * WW (f - t) := by rw [WW_eq (e := f - t) (f := f) t (by omega) (by omega), Nat.mul_comm (WW _), Nat.mul_assoc]
      rw [eA, eB]
      have v3 : v_W_join_3 (hw N) (lw N) ep ng false (hw K) (lw K) ep2 ng2 false = hw (N * 2 ^ s) := s2
      have v4 : v_W_join_4 (hw N) (lw N) ep ng false (hw K) (lw K) ep2 ng2 false = lw (N * 2 ^ s) := s3
      have v5 : (v_W_join_5 (hw N) (lw N) ep ng false (hw K) (lw K) ep2 ng2 false).toInt = e - s := s4
      have v6 : v_W_join_6 (hw N) (lw N) ep ng false (hw K) (lw K) ep2 ng2 false = hw (K * 2 ^ t) := t2
      have v7 : v_W_join_7 (hw N) (lw N) ep ng false (hw K) (lw K) ep2 ng2 false = lw (K * 2 ^ t) := t3
      have v8 : (v_W_join_8 (hw N) (lw N) ep ng false (hw K) (lw K) ep2 ng2 false).toInt = f - t := t4
      have v9 : (v_W_join_9 (hw N) (lw N) ep ng false (hw K) (lw K) ep2 ng2 false).toInt = (e - s) - (f - t) := iS v5 v8 (by omega) (by omega)
      have v9n : (-(v_W_join_9 (hw N) (lw N) ep ng false (hw K) (lw K) ep2 ng2 false)).toInt = -((e - s) - (f - t)) := iNg v9 (by omega) (by omega)
      -- the common form: both words, with the same exponent
      obtain ⟨A, B, la, lb, g, x14, x15, x16, x17, x10, x11, x12, x13, hA, hB, hla, hlb, hg1, hg2, hcmp⟩ : ∃ (A B : Nat) (la lb : Bool) (g : Int),
          v_W_join_14 (hw N) (lw N) ep ng false (hw K) (lw K) ep2 ng2 false = hw A ∧ v_W_join_15 (hw N) (lw N) ep ng false (hw K) (lw K) ep2 ng2 false = lw A ∧ (v_W_join_16 (hw N) (lw N) ep ng false (hw K) (lw K) ep2 ng2 false).toInt = g ∧ v_W_join_17 (hw N) (lw N) ep ng false (hw K) (lw K) ep2 ng2 false = la ∧
          v_W_join_10 (hw N) (lw N) ep ng false (hw K) (lw K) ep2 ng2 false = hw B ∧ v_W_join_11 (hw N) (lw N) ep ng false (hw K) (lw K) ep2 ng2 false = lw B ∧ (v_W_join_12 (hw N) (lw N) ep ng false (hw K) (lw K) ep2 ng2 false).toInt = g ∧ v_W_join_13 (hw N) (lw N) ep ng false (hw K) (lw K) ep2 ng2 false = lb ∧
          A < 2 ^ 126 ∧ B < 2 ^ 126 ∧ Wv A g la (N * 2 ^ s * WW (e - s)) ∧ Wv B g lb (K * 2 ^ t * WW (f - t)) ∧ -6000 ≤ g ∧ g ≤ 6000 ∧
          ((la = false ∧ lb = false ∧ 2 ^ 125 ≤ A ∧ 2 ^ 125 ≤ B) ∨ (la = false ∧ 2 ^ 125 ≤ A ∧ B < A ∧ B + (if lb = true then 1 else 0) ≤ A ∧ (lb = true → B < 2 ^ 105)) ∨ (lb = false ∧ 2 ^ 125 ≤ B ∧ A < B ∧ A + (if la = true then 1 else 0) ≤ B ∧ (la = true → A < 2 ^ 105))) := by
        rcases Int.lt_trichotomy (e - s) (f - t) with q | q | q
        · -- the first is sunk
          obtain ⟨g, hg⟩ : ∃ g : Nat, (g : Int) = (f - t) - (e - s) := ⟨((f - t) - (e - s)).toNat, by omega⟩
          have en : -(v_W_join_9 (hw N) (lw N) ep ng false (hw K) (lw K) ep2 ng2 false) = nI g := i_nI (by rw [v9n]; omega) (by omega)
          obtain ⟨k1, k2, k3, k4⟩ := sink_ok (N := N * 2 ^ s) (s := g) (ep := v_W_join_5 (hw N) (lw N) ep ng false (hw K) (lw K) ep2 ng2 false) (ng := ng) (gn := false) (by omega) (by omega) (by omega) v5 (by omega) (by omega)
          obtain ⟨l1, l2, l3, l4⟩ := sink_no (hi := v_W_join_6 (hw N) (lw N) ep ng false (hw K) (lw K) ep2 ng2 false) (lo := v_W_join_7 (hw N) (lw N) ep ng false (hw K) (lw K) ep2 ng2 false) (ep := v_W_join_8 (hw N) (lw N) ep ng false (hw K) (lw K) ep2 ng2 false) (ng := ng2) (gn := false) (sh := v_W_join_9 (hw N) (lw N) ep ng false (hw K) (lw K) ep2 ng2 false) (by omega)
          obtain ⟨c1, c2, c3, c4, c5⟩ := jn_core (N := K * 2 ^ t) (K := N * 2 ^ s) (g := g) (e := f - t) (f := e - s) (ng := ng) (ng2 := ng2) t6 t7 s6 s7 hN20 (by omega) (by omega) (by omega)
          refine ⟨N * 2 ^ s / 2 ^ g, K * 2 ^ t, decide (N * 2 ^ s % 2 ^ g ≠ 0), false, f - t, ?_, ?_, ?_, ?_, l1.trans v6, l2.trans v7, (congrArg Int32.toInt l3).trans v8, l4, by omega, t7, Wv_sink (by omega) (by omega), Wv_ex, by omega, by omega, Or.inr (Or.inr ⟨rfl, t6, c1, c3, c5⟩)⟩
          · rw [← k1, ← en, ← v3, ← v4]; rfl
          · rw [← k2, ← en, ← v3, ← v4]; rfl
          · have : (e - s : Int) + g = f - t := by omega
            rw [← this, ← k3, ← en, ← v3, ← v4]; rfl
          · rw [← Bool.false_or (decide _), ← k4, ← en, ← v3, ← v4]; rfl
        · obtain ⟨k1, k2, k3, k4⟩ := sink_no (hi := v_W_join_3 (hw N) (lw N) ep ng false (hw K) (lw K) ep2 ng2 false) (lo := v_W_join_4 (hw N) (lw N) ep ng false (hw K) (lw K) ep2 ng2 false) (ep := v_W_join_5 (hw N) (lw N) ep ng false (hw K) (lw K) ep2 ng2 false) (ng := ng) (gn := false) (sh := -(v_W_join_9 (hw N) (lw N) ep ng false (hw K) (lw K) ep2 ng2 false)) (by omega)
          obtain ⟨l1, l2, l3, l4⟩ := sink_no (hi := v_W_join_6 (hw N) (lw N) ep ng false (hw K) (lw K) ep2 ng2 false) (lo := v_W_join_7 (hw N) (lw N) ep ng false (hw K) (lw K) ep2 ng2 false) (ep := v_W_join_8 (hw N) (lw N) ep ng false (hw K) (lw K) ep2 ng2 false) (ng := ng2) (gn := false) (sh := v_W_join_9 (hw N) (lw N) ep ng false (hw K) (lw K) ep2 ng2 false) (by omega)
          refine ⟨N * 2 ^ s, K * 2 ^ t, false, false, e - s, k1.trans v3, k2.trans v4, (congrArg Int32.toInt k3).trans v5, k4, l1.trans v6, l2.trans v7, (congrArg Int32.toInt l3).trans (v8.trans q.symm), l4, s7, t7, Wv_ex, by rw [q]; exact Wv_ex, by omega, by omega, Or.inl ⟨rfl, rfl, s6, t6⟩⟩
        · obtain ⟨g, hg⟩ : ∃ g : Nat, (g : Int) = (e - s) - (f - t) := ⟨((e - s) - (f - t)).toNat, by omega⟩
          have en : v_W_join_9 (hw N) (lw N) ep ng false (hw K) (lw K) ep2 ng2 false = nI g := i_nI (by rw [v9]; omega) (by omega)
          obtain ⟨k1, k2, k3, k4⟩ := sink_ok (N := K * 2 ^ t) (s := g) (ep := v_W_join_8 (hw N) (lw N) ep ng false (hw K) (lw K) ep2 ng2 false) (ng := ng2) (gn := false) (by omega) (by omega) (by omega) v8 (by omega) (by omega)
          obtain ⟨l1, l2, l3, l4⟩ := sink_no (hi := v_W_join_3 (hw N) (lw N) ep ng false (hw K) (lw K) ep2 ng2 false) (lo := v_W_join_4 (hw N) (lw N) ep ng false (hw K) (lw K) ep2 ng2 false) (ep := v_W_join_5 (hw N) (lw N) ep ng false (hw K) (lw K) ep2 ng2 false) (ng := ng) (gn := false) (sh := -(v_W_join_9 (hw N) (lw N) ep ng false (hw K) (lw K) ep2 ng2 false)) (by omega)
          obtain ⟨c1, c2, c3, c4, c5⟩ := jn_core (N := N * 2 ^ s) (K := K * 2 ^ t) (g := g) (e := e - s) (f := f - t) (ng := ng) (ng2 := ng2) s6 s7 t6 t7 hK20 (by omega) (by omega) (by omega)
          refine ⟨N * 2 ^ s, K * 2 ^ t / 2 ^ g, false, decide (K * 2 ^ t % 2 ^ g ≠ 0), e - s, l1.trans v3, l2.trans v4, (congrArg Int32.toInt l3).trans v5, l4, ?_, ?_, ?_, ?_, s7, by omega, Wv_ex, Wv_sink (by omega) (by omega), by omega, by omega, Or.inr (Or.inl ⟨rfl, s6, c1, c3, c5⟩)⟩
          · rw [← k1, ← en, ← v6, ← v7]; rfl
          · rw [← k2, ← en, ← v6, ← v7]; rfl
          · have : (f - t : Int) + g = e - s := by omega
            rw [← this, ← k3, ← en, ← v6, ← v7]; rfl
          · rw [← Bool.false_or (decide _), ← k4, ← en, ← v6, ← v7]; rfl
      generalize N * 2 ^ s * WW (e - s) = P at *
      generalize K * 2 ^ t * WW (f - t) = Q at *
      by_cases sg : ng = ng2
      · -- the same sign: a sum
        obtain ⟨y1, y2, y3⟩ := raise_ok (N := A) (K := B) (ep := v_W_join_16 (hw N) (lw N) ep ng false (hw K) (lw K) ep2 ng2 false) (ep2 := v_W_join_12 (hw N) (lw N) ep ng false (hw K) (lw K) ep2 ng2 false) (ng := ng) (ng2 := ng2) (gn := la) (gn2 := lb) hA hB
        refine ⟨A + B, g, la || lb, (if_pos sg).trans ?_, (if_pos sg).trans ?_, ?_, (if_pos sg).trans ?_, (if_pos sg).trans ?_, by omega, ?_, ?_, hg1, hg2⟩
        · rw [← y1, ← x14, ← x15, ← x10, ← x11, ← x13, ← x17]; rfl
        · rw [← y2, ← x14, ← x15, ← x10, ← x11, ← x13, ← x17]; rfl
        · have : v_W_join_35 (hw N) (lw N) ep ng false (hw K) (lw K) ep2 ng2 false = v_W_join_16 (hw N) (lw N) ep ng false (hw K) (lw K) ep2 ng2 false := if_pos sg
          rw [this]; exact x16
        · unfold smS; rw [if_pos sg]
        · rw [← y3, ← x14, ← x15, ← x10, ← x11, ← x13, ← x17]; rfl
        · unfold smM
          rw [if_pos sg]
          rcases hcmp with ⟨z1, z2, -⟩ | ⟨z1, -⟩ | ⟨z1, -⟩
          · subst z1 z2
            rw [hla.2.2.1 rfl]
            exact Wv_add hlb
          · subst z1
            rw [hla.2.2.1 rfl, Bool.false_or]
            exact Wv_add hlb
          · subst z1
            rw [hlb.2.2.1 rfl, Bool.or_false, Nat.add_comm A, Nat.add_comm P]
            exact Wv_add hla
        · intro _; omega
      · have bl : v_W_join_18 (hw N) (lw N) ep ng false (hw K) (lw K) ep2 ng2 false = decide (A < B) := by
          rw [← below_ok (N := A) (K := B) (ep := v_W_join_16 (hw N) (lw N) ep ng false (hw K) (lw K) ep2 ng2 false) (ep2 := v_W_join_12 (hw N) (lw N) ep ng false (hw K) (lw K) ep2 ng2 false) (ng := ng) (ng2 := ng2) (gn := la) (gn2 := lb) (by omega) (by omega), ← x14, ← x15, ← x10, ← x11, ← x13, ← x17]; rfl
        by_cases q : A < B
        · have cb := bl.trans (decide_eq_true q)
          have hlb0 : lb = false := by
            rcases hcmp with ⟨z1, z2, -⟩ | ⟨z1, z2, z3, -⟩ | ⟨z1, -⟩
            · exact z2
            · omega
            · exact z1
          have hle : A + (if la = true then 1 else 0) ≤ B := by
            rcases hcmp with ⟨z1, z2, -⟩ | ⟨z1, z2, z3, -⟩ | ⟨z1, z2, z3, z4, -⟩
            · rw [z1, if_neg (by decide)]; omega
            · omega
            · exact z4
          obtain ⟨y1, y2, y3⟩ := lower_ok (N := B) (K := A) (ep := v_W_join_12 (hw N) (lw N) ep ng false (hw K) (lw K) ep2 ng2 false) (ep2 := v_W_join_16 (hw N) (lw N) ep ng false (hw K) (lw K) ep2 ng2 false) (ng := ng2) (ng2 := ng) (gn := lb) (gn2 := la) (by omega) hle
          obtain ⟨w1, w2⟩ := Wv_sub hla hle
          have hP : P < Q := by
            rw [hlb.2.2.1 hlb0] at *
            refine Nat.lt_of_le_of_ne w1 (fun z => ?_)
            have := hla.2.1
            have h8 : (A + 1) * WW g ≤ B * WW g := Nat.mul_le_mul_right _ q
            omega
          refine ⟨B - A - (if la = true then 1 else 0), g, la, ((if_neg sg).trans (if_pos cb)).trans ?_, ((if_neg sg).trans (if_pos cb)).trans ?_, ?_, ((if_neg sg).trans (if_pos cb)).trans ?_, ((if_neg sg).trans (if_pos cb)).trans ?_, by omega, ?_, ?_, hg1, hg2⟩
          · rw [← y1, ← x14, ← x15, ← x10, ← x11, ← x13, ← x17]; rfl
          · rw [← y2, ← x14, ← x15, ← x10, ← x11, ← x13, ← x17]; rfl
          · have : v_W_join_35 (hw N) (lw N) ep ng false (hw K) (lw K) ep2 ng2 false = v_W_join_12 (hw N) (lw N) ep ng false (hw K) (lw K) ep2 ng2 false := (if_neg sg).trans (if_pos cb)
            rw [this]; exact x12
          · show ng2 = _
            unfold smS; rw [if_neg sg, if_neg (by omega)]
          · have : la = (la || lb) := by rw [hlb0, Bool.or_false]
            rw [this, ← y3, ← x14, ← x15, ← x10, ← x11, ← x13, ← x17]; rfl
          · unfold smM
            rw [if_neg sg, if_neg (show ¬ Q ≤ P by omega), hlb.2.2.1 hlb0]
            exact w2
          · intro hl
            rcases hcmp with ⟨z1, z2, -⟩ | ⟨z1, -⟩ | ⟨z1, z2, z3, z4, z5⟩
            · rw [z1] at hl; exact absurd hl (by decide)
            · rw [z1] at hl; exact absurd hl (by decide)
            · have := z5 hl
              rw [if_pos hl]; omega
        · have cb : ¬ v_W_join_18 (hw N) (lw N) ep ng false (hw K) (lw K) ep2 ng2 false = true := by rw [bl, decide_eq_false q]; decide
          have hla0 : la = false := by
            rcases hcmp with ⟨z1, z2, -⟩ | ⟨z1, z2, z3, -⟩ | ⟨z1, z2, z3, -⟩
            · exact z1
            · exact z1
            · omega
          have hle : B + (if lb = true then 1 else 0) ≤ A := by
            rcases hcmp with ⟨z1, z2, -⟩ | ⟨z1, z2, z3, z4, -⟩ | ⟨z1, z2, z3, z4, -⟩
            · rw [z2, if_neg (by decide)]; omega
            · exact z4
            · omega
          obtain ⟨y1, y2, y3⟩ := lower_ok (N := A) (K := B) (ep := v_W_join_16 (hw N) (lw N) ep ng false (hw K) (lw K) ep2 ng2 false) (ep2 := v_W_join_12 (hw N) (lw N) ep ng false (hw K) (lw K) ep2 ng2 false) (ng := ng) (ng2 := ng2) (gn := la) (gn2 := lb) (by omega) hle
          obtain ⟨w1, w2⟩ := Wv_sub hlb hle
          have hP := hla.2.2.1 hla0
          refine ⟨A - B - (if lb = true then 1 else 0), g, lb, ((if_neg sg).trans (if_neg cb)).trans ?_, ((if_neg sg).trans (if_neg cb)).trans ?_, ?_, ((if_neg sg).trans (if_neg cb)).trans ?_, ((if_neg sg).trans (if_neg cb)).trans ?_, by omega, ?_, ?_, hg1, hg2⟩
          · rw [← y1, ← x14, ← x15, ← x10, ← x11, ← x13, ← x17]; rfl
          · rw [← y2, ← x14, ← x15, ← x10, ← x11, ← x13, ← x17]; rfl
          · have : v_W_join_35 (hw N) (lw N) ep ng false (hw K) (lw K) ep2 ng2 false = v_W_join_16 (hw N) (lw N) ep ng false (hw K) (lw K) ep2 ng2 false := (if_neg sg).trans (if_neg cb)
            rw [this]; exact x16
          · unfold smS; rw [if_neg sg, if_pos (by omega)]
          · have : lb = (lb || la) := by rw [hla0, Bool.or_false]
            rw [this, ← y3, ← x14, ← x15, ← x10, ← x11, ← x13, ← x17]; rfl
          · unfold smM
            rw [if_neg sg, if_pos (show Q ≤ P by omega), hP]
            exact w2
          · intro hl
            rcases hcmp with ⟨z1, z2, -⟩ | ⟨z1, z2, z3, z4, z5⟩ | ⟨z1, -⟩
            · rw [z2] at hl; exact absurd hl (by decide)
            · have := z5 hl
              rw [if_pos hl]; omega
            · rw [z1] at hl; exact absurd hl (by decide)

