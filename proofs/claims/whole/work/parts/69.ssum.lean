theorem Wv_hi {R t : Nat} {g E : Int} {lo : Bool} {V : Nat} (h : Wv R g lo V) (hg : -100000 ≤ g) (hE : E = g + t) : Wv (R / 2 ^ t) E (lo || decide (R % 2 ^ t ≠ 0)) V := by
  obtain ⟨h1, h2, h3, h4⟩ := h
  obtain ⟨k1, k2, k3, k4⟩ := Wv_sink (K := R) (g := t) hg hE
  have hw := WW_eq t hg hE
  have hd := Nat.div_add_mod R (2 ^ t)
  have hm : R % 2 ^ t < 2 ^ t := Nat.mod_lt _ (Nat.pow_pos (by decide))
  have e1 : (R / 2 ^ t + 1) * WW E = 2 ^ t * (R / 2 ^ t + 1) * WW g := by rw [hw, Nat.mul_comm (WW g), ← Nat.mul_assoc, Nat.mul_comm _ (2 ^ t)]
  have e2 : 2 ^ t * (R / 2 ^ t + 1) = 2 ^ t * (R / 2 ^ t) + 2 ^ t := Nat.mul_succ _ _
  have h5 : (R + 1) * WW g ≤ (R / 2 ^ t + 1) * WW E := by rw [e1]; exact Nat.mul_le_mul_right _ (by omega)
  refine ⟨by omega, by omega, fun q => ?_, fun q => ?_⟩
  · rw [Bool.or_eq_false_iff] at q
    rw [h3 q.1]; exact k3 q.2
  · rw [Bool.or_eq_true] at q
    rcases q with q | q
    · have := h4 q; omega
    · have := k4 q; omega
theorem Wv_sc {R t : Nat} {g g2 : Int} {lo : Bool} {V : Nat} (h : Wv R g lo (V * 2 ^ t)) (hg : -100000 ≤ g2) (hE : g = g2 + t) : Wv R g2 lo V := by
  obtain ⟨h1, h2, h3, h4⟩ := h
  have hw := WW_eq t hg hE
  have hp : 0 < 2 ^ t := Nat.pow_pos (by decide)
  have e1 : ∀ z : Nat, z * WW g = z * WW g2 * 2 ^ t := fun z => by rw [hw, Nat.mul_assoc]
  rw [e1] at h1 h2 h3 h4
  exact ⟨Nat.le_of_mul_le_mul_right h1 hp, Nat.lt_of_mul_lt_mul_right h2, fun q => Nat.eq_of_mul_eq_mul_right hp (h3 q), fun q => Nat.lt_of_mul_lt_mul_right (h4 q)⟩
theorem smM_sc {A B t : Nat} {n m : Bool} : smM (A * 2 ^ t) (B * 2 ^ t) n m = smM A B n m * 2 ^ t := by
  have hp : 0 < 2 ^ t := Nat.pow_pos (by decide)
  have c : B * 2 ^ t ≤ A * 2 ^ t ↔ B ≤ A := ⟨fun h => Nat.le_of_mul_le_mul_right h hp, fun h => Nat.mul_le_mul_right _ h⟩
  unfold smM
  by_cases q : n = m
  · rw [if_pos q, if_pos q, Nat.add_mul]
  · rw [if_neg q, if_neg q]
    by_cases w : B ≤ A
    · rw [if_pos (c.mpr w), if_pos w, Nat.sub_mul]
    · rw [if_neg (fun z => w (c.mp z)), if_neg w, Nat.sub_mul]
theorem smS_sc {A B t : Nat} {n m : Bool} : smS (A * 2 ^ t) (B * 2 ^ t) n m = smS A B n m := by
  have hp : 0 < 2 ^ t := Nat.pow_pos (by decide)
  have c : B * 2 ^ t ≤ A * 2 ^ t ↔ B ≤ A := ⟨fun h => Nat.le_of_mul_le_mul_right h hp, fun h => Nat.mul_le_mul_right _ h⟩
  unfold smS
  by_cases q : n = m
  · rw [if_pos q, if_pos q]
  · rw [if_neg q, if_neg q]
    by_cases w : B ≤ A
    · rw [if_pos (c.mpr w), if_pos w]
    · rw [if_neg (fun z => w (c.mp z)), if_neg w]
theorem one_s : sgf (4607182418800017408 : Int64) = 2 ^ 52 := by rw [sgf_def, mg_def]; decide
theorem one_e : exf (4607182418800017408 : Int64) = -52 := by rw [exf_def, mg_def]; decide
section SS
variable (hi lo : Int64) (ep : Int32) (ng gn : Bool) (hi2 lo2 : Int64) (ep2 : Int32) (ng2 gn2 : Bool) (x y z : Int64)
theorem ssum_ok {sc how : Int32} {c : Int} (hc : sc.toInt = c) (hc1 : -1 ≤ c) (hc2 : c ≤ 0) :
    ∃ M, M ≤ IM ∧ pF_scaledSum hi lo ep ng gn hi2 lo2 ep2 ng2 gn2 x y z sc how = sgM M (smS (sgf x * sgf y * WW (exf x + exf y + c)) (sgf z * WW (exf z + c)) (decide (x < 0) != decide (y < 0)) (decide (z < 0))) ∧
      RD how (smS (sgf x * sgf y * WW (exf x + exf y + c)) (sgf z * WW (exf z + c)) (decide (x < 0) != decide (y < 0)) (decide (z < 0))) M (smM (sgf x * sgf y * WW (exf x + exf y + c)) (sgf z * WW (exf z + c)) (decide (x < 0) != decide (y < 0)) (decide (z < 0))) 1 := by
  have gx1 := exf_ge x
  have gx2 := exf_le x
  have gy1 := exf_ge y
  have gy2 := exf_le y
  have gz1 := exf_ge z
  have gz2 := exf_le z
  have hN : sgf x * sgf y < 2 ^ 106 := Nat.lt_of_lt_of_le (Nat.mul_lt_mul'' (sgf_lt x) (sgf_lt y)) (by decide)
  have hK : sgf z * 2 ^ 52 < 2 ^ 106 := by have := sgf_lt z; omega
  -- the two products
  have a1 : v_F_scaledSum_1 hi lo ep ng gn hi2 lo2 ep2 ng2 gn2 x y z sc how = hw (sgf x * sgf y) := (sp_ok hi lo ep ng gn x y).1
  have a2 : v_F_scaledSum_2 hi lo ep ng gn hi2 lo2 ep2 ng2 gn2 x y z sc how = lw (sgf x * sgf y) := (sp_ok hi lo ep ng gn x y).2
  have a3 : (v_F_scaledSum_3 hi lo ep ng gn hi2 lo2 ep2 ng2 gn2 x y z sc how).toInt = exf x + exf y := iA (exp_ok x) (exp_ok y) (by omega) (by omega)
  have a4 : v_F_scaledSum_4 hi lo ep ng gn hi2 lo2 ep2 ng2 gn2 x y z sc how = (decide (x < 0) != decide (y < 0)) := xor_ng x y
  have a5 : v_F_scaledSum_5 hi lo ep ng gn hi2 lo2 ep2 ng2 gn2 x y z sc how = false := rfl
  have a6 : v_F_scaledSum_6 hi lo ep ng gn hi2 lo2 ep2 ng2 gn2 x y z sc how = hw (sgf z * 2 ^ 52) := by
    have := (sp_ok hi2 lo2 ep2 ng2 gn2 z (4607182418800017408 : Int64)).1
    rw [one_s] at this; exact this
  have a7 : v_F_scaledSum_7 hi lo ep ng gn hi2 lo2 ep2 ng2 gn2 x y z sc how = lw (sgf z * 2 ^ 52) := by
    have := (sp_ok hi2 lo2 ep2 ng2 gn2 z (4607182418800017408 : Int64)).2
    rw [one_s] at this; exact this
  have a8 : (v_F_scaledSum_8 hi lo ep ng gn hi2 lo2 ep2 ng2 gn2 x y z sc how).toInt = exf z + -52 := by
    have := iA (exp_ok z) (exp_ok (4607182418800017408 : Int64)) (by rw [one_e]; omega) (by rw [one_e]; omega)
    rw [one_e] at this; exact this
  have a9 : v_F_scaledSum_9 hi lo ep ng gn hi2 lo2 ep2 ng2 gn2 x y z sc how = decide (z < 0) := by
    refine (xor_ng z (4607182418800017408 : Int64)).trans ?_
    have : decide ((4607182418800017408 : Int64) < 0) = false := by decide
    rw [this]
    cases decide (z < 0) <;> rfl
  have a10 : v_F_scaledSum_10 hi lo ep ng gn hi2 lo2 ep2 ng2 gn2 x y z sc how = false := rfl
  generalize hn1 : (decide (x < 0) != decide (y < 0)) = n1 at *
  generalize hn2 : decide (z < 0) = n2 at *
  obtain ⟨R, g, l, b0, b1, b2, b3, b4, hR, hv, hl, hg1, hg2⟩ := join_ok (N := sgf x * sgf y) (K := sgf z * 2 ^ 52) (ng := n1) (ng2 := n2) hN hK a3 a8 (by omega) (by omega) (by omega) (by omega)
  have d0 : v_F_scaledSum_11 hi lo ep ng gn hi2 lo2 ep2 ng2 gn2 x y z sc how = pW_join_0 (hw (sgf x * sgf y)) (lw (sgf x * sgf y)) (v_F_scaledSum_3 hi lo ep ng gn hi2 lo2 ep2 ng2 gn2 x y z sc how) n1 false (hw (sgf z * 2 ^ 52)) (lw (sgf z * 2 ^ 52)) (v_F_scaledSum_8 hi lo ep ng gn hi2 lo2 ep2 ng2 gn2 x y z sc how) n2 false := by rw [← a1, ← a2, ← a6, ← a7, ← a4, ← a9]; rfl
  have d1 : v_F_scaledSum_12 hi lo ep ng gn hi2 lo2 ep2 ng2 gn2 x y z sc how = pW_join_1 (hw (sgf x * sgf y)) (lw (sgf x * sgf y)) (v_F_scaledSum_3 hi lo ep ng gn hi2 lo2 ep2 ng2 gn2 x y z sc how) n1 false (hw (sgf z * 2 ^ 52)) (lw (sgf z * 2 ^ 52)) (v_F_scaledSum_8 hi lo ep ng gn hi2 lo2 ep2 ng2 gn2 x y z sc how) n2 false := by rw [← a1, ← a2, ← a6, ← a7, ← a4, ← a9]; rfl
  have d2 : v_F_scaledSum_13 hi lo ep ng gn hi2 lo2 ep2 ng2 gn2 x y z sc how = pW_join_2 (hw (sgf x * sgf y)) (lw (sgf x * sgf y)) (v_F_scaledSum_3 hi lo ep ng gn hi2 lo2 ep2 ng2 gn2 x y z sc how) n1 false (hw (sgf z * 2 ^ 52)) (lw (sgf z * 2 ^ 52)) (v_F_scaledSum_8 hi lo ep ng gn hi2 lo2 ep2 ng2 gn2 x y z sc how) n2 false := by rw [← a1, ← a2, ← a6, ← a7, ← a4, ← a9]; rfl
  have d3 : v_F_scaledSum_14 hi lo ep ng gn hi2 lo2 ep2 ng2 gn2 x y z sc how = pW_join_3 (hw (sgf x * sgf y)) (lw (sgf x * sgf y)) (v_F_scaledSum_3 hi lo ep ng gn hi2 lo2 ep2 ng2 gn2 x y z sc how) n1 false (hw (sgf z * 2 ^ 52)) (lw (sgf z * 2 ^ 52)) (v_F_scaledSum_8 hi lo ep ng gn hi2 lo2 ep2 ng2 gn2 x y z sc how) n2 false := by rw [← a1, ← a2, ← a6, ← a7, ← a4, ← a9]; rfl
  have d4 : v_F_scaledSum_15 hi lo ep ng gn hi2 lo2 ep2 ng2 gn2 x y z sc how = pW_join_4 (hw (sgf x * sgf y)) (lw (sgf x * sgf y)) (v_F_scaledSum_3 hi lo ep ng gn hi2 lo2 ep2 ng2 gn2 x y z sc how) n1 false (hw (sgf z * 2 ^ 52)) (lw (sgf z * 2 ^ 52)) (v_F_scaledSum_8 hi lo ep ng gn hi2 lo2 ep2 ng2 gn2 x y z sc how) n2 false := by rw [← a1, ← a2, ← a6, ← a7, ← a4, ← a9]; rfl
  have b0' : v_F_scaledSum_11 hi lo ep ng gn hi2 lo2 ep2 ng2 gn2 x y z sc how = hw R := d0.trans b0
  have b1' : v_F_scaledSum_12 hi lo ep ng gn hi2 lo2 ep2 ng2 gn2 x y z sc how = lw R := d1.trans b1
  have b2' : (v_F_scaledSum_13 hi lo ep ng gn hi2 lo2 ep2 ng2 gn2 x y z sc how).toInt = g := (congrArg Int32.toInt d2).trans b2
  have b4' : v_F_scaledSum_15 hi lo ep ng gn hi2 lo2 ep2 ng2 gn2 x y z sc how = l := d4.trans b4
  have eB : sgf z * 2 ^ 52 * WW (exf z + -52) = sgf z * WW (exf z) := by
    rw [WW_eq (e := exf z + -52) (f := exf z) 52 (by omega) (by omega), Nat.mul_comm (WW _), Nat.mul_assoc]
  rw [eB] at hv b3
  have b3' : v_F_scaledSum_14 hi lo ep ng gn hi2 lo2 ep2 ng2 gn2 x y z sc how = smS (sgf x * sgf y * WW (exf x + exf y)) (sgf z * WW (exf z)) n1 n2 := d3.trans b3
  -- the scale
  obtain ⟨t, ht⟩ : ∃ t : Nat, (t : Int) = -c := ⟨(-c).toNat, by omega⟩
  have eA2 : sgf x * sgf y * WW (exf x + exf y) = sgf x * sgf y * WW (exf x + exf y + c) * 2 ^ t := by
    rw [WW_eq (e := exf x + exf y + c) (f := exf x + exf y) t (by omega) (by omega), ← Nat.mul_assoc]
  have eB2 : sgf z * WW (exf z) = sgf z * WW (exf z + c) * 2 ^ t := by
    rw [WW_eq (e := exf z + c) (f := exf z) t (by omega) (by omega), ← Nat.mul_assoc]
  rw [eA2, eB2, smM_sc] at hv
  rw [eA2, eB2, smS_sc] at b3'
  clear eA2 eB2 eB b3 d3 a1 a2 a3 a4 a5 a6 a7 a8 a9 a10 b0 b1 b2 b4 d0 d1 d2 d4 hN hK gx1 gx2 gy1 gy2 gz1 gz2
  have hv2 := Wv_sc hv (g2 := g + c) (by clear hv; omega) (by clear hv; omega)
  clear hv
  obtain ⟨V, hV⟩ : ∃ V, V = smM (sgf x * sgf y * WW (exf x + exf y + c)) (sgf z * WW (exf z + c)) n1 n2 := ⟨_, rfl⟩
  obtain ⟨S, hS⟩ : ∃ S, S = smS (sgf x * sgf y * WW (exf x + exf y + c)) (sgf z * WW (exf z + c)) n1 n2 := ⟨_, rfl⟩
  rw [← hV] at hv2 ⊢
  rw [← hS] at b3' ⊢
  -- lifted once more, if nothing is lost
  obtain ⟨Q, q, l2, c23, c24, c25, hQ, hvQ, hl2, hq1, hq2, c26⟩ : ∃ (Q : Nat) (q : Int) (l2 : Bool), v_F_scaledSum_23 hi lo ep ng gn hi2 lo2 ep2 ng2 gn2 x y z sc how = hw Q ∧ v_F_scaledSum_24 hi lo ep ng gn hi2 lo2 ep2 ng2 gn2 x y z sc how = lw Q ∧ (v_F_scaledSum_25 hi lo ep ng gn hi2 lo2 ep2 ng2 gn2 x y z sc how).toInt = q ∧
      Q < 2 ^ 127 ∧ Wv Q (q + c) l2 V ∧ ((l2 || decide (Q % 2 ^ 64 ≠ 0)) = true → 2 ^ 124 ≤ Q) ∧ -7000 ≤ q ∧ q ≤ 6000 ∧ v_F_scaledSum_26 hi lo ep ng gn hi2 lo2 ep2 ng2 gn2 x y z sc how = (l2 || decide (Q % 2 ^ 64 ≠ 0)) := by
    have e26 : v_F_scaledSum_26 hi lo ep ng gn hi2 lo2 ep2 ng2 gn2 x y z sc how = if l = true then true else (if v_F_scaledSum_24 hi lo ep ng gn hi2 lo2 ep2 ng2 gn2 x y z sc how = (0 : Int64) then false else true) := by rw [← b4']; rfl
    cases l with
    | true =>
      refine ⟨R, g, true, (if_pos b4').trans b0', (if_pos b4').trans b1', ?_, hR, hv2, fun _ => hl rfl, by omega, by omega, ?_⟩
      · have : v_F_scaledSum_25 hi lo ep ng gn hi2 lo2 ep2 ng2 gn2 x y z sc how = v_F_scaledSum_13 hi lo ep ng gn hi2 lo2 ep2 ng2 gn2 x y z sc how := if_pos b4'
        rw [this, b2']
      · rw [e26]; rfl
    | false =>
      have nb : ¬ v_F_scaledSum_15 hi lo ep ng gn hi2 lo2 ep2 ng2 gn2 x y z sc how = true := by rw [b4']; decide
      obtain ⟨s, s1, s2, s3, s4, s5, s6, s7, s8⟩ := lift_ok (N := R) (ep := v_F_scaledSum_13 hi lo ep ng gn hi2 lo2 ep2 ng2 gn2 x y z sc how) (ng := v_F_scaledSum_14 hi lo ep ng gn hi2 lo2 ep2 ng2 gn2 x y z sc how) (gn := v_F_scaledSum_15 hi lo ep ng gn hi2 lo2 ep2 ng2 gn2 x y z sc how) hR b2' (by omega) (by omega)
      rw [← b0', ← b1'] at s2 s3 s4
      have c24 : v_F_scaledSum_24 hi lo ep ng gn hi2 lo2 ep2 ng2 gn2 x y z sc how = lw (R * 2 ^ s) := (if_neg nb).trans s3
      refine ⟨R * 2 ^ s, g - s, false, (if_neg nb).trans s2, c24, ?_, s5, ?_, ?_, by omega, by omega, ?_⟩
      · have : v_F_scaledSum_25 hi lo ep ng gn hi2 lo2 ep2 ng2 gn2 x y z sc how = v_F_scaledSum_22 hi lo ep ng gn hi2 lo2 ep2 ng2 gn2 x y z sc how := if_neg nb
        rw [this]; exact s4
      · have e1 : V = R * 2 ^ s * WW (g - s + c) := by
          rw [hv2.2.2.1 rfl, WW_eq (e := g - s + c) (f := g + c) s (by omega) (by omega), Nat.mul_comm (WW _), Nat.mul_assoc]
        rw [e1]; exact Wv_ex
      · intro w
        rw [Bool.false_or] at w
        have := of_decide_eq_true w
        have hR0 : R ≠ 0 := fun r0 => this (by rw [r0, Nat.zero_mul])
        have := s6 hR0
        omega
      · rw [e26, c24, if_neg (by decide), Bool.false_or]
        by_cases w : R * 2 ^ s % 2 ^ 64 = 0
        · rw [if_pos (lw0.mpr w), decide_eq_false (fun u => u w)]
        · rw [if_neg (fun u => w (lw0.mp u)), decide_eq_true (show R * 2 ^ s % 2 ^ 64 ≠ 0 from w)]
  have e0 : pF_scaledSum hi lo ep ng gn hi2 lo2 ep2 ng2 gn2 x y z sc how = pF_rounded (lN (Q / 2 ^ 64)) ((v_F_scaledSum_25 hi lo ep ng gn hi2 lo2 ep2 ng2 gn2 x y z sc how + (64 : Int32)) + sc) (l2 || decide (Q % 2 ^ 64 ≠ 0)) S how := by
    rw [← c26, ← b3']
    have : lN (Q / 2 ^ 64) = v_F_scaledSum_23 hi lo ep ng gn hi2 lo2 ep2 ng2 gn2 x y z sc how := c23.symm
    rw [this]; rfl
  rw [e0]
  obtain ⟨k1, k2, k3, k4⟩ := Wv_hi (t := 64) (E := q + 64 + c) hvQ (by omega) (by omega)
  refine rounded_ok (E := q + 64 + c) ?_ (by omega) (by omega) (by omega) (by decide) (by rw [Nat.mul_one]; exact k1) (by rw [Nat.mul_one]; exact k2) (fun w => by rw [Nat.mul_one]; exact k3 w) (fun w => by rw [Nat.mul_one]; exact k4 w) (fun w => ?_)
  · exact iA (iA c25 (show (64 : Int32).toInt = 64 from rfl) (by omega) (by omega)) hc (by omega) (by omega)
  · have := hl2 w; omega
end SS

