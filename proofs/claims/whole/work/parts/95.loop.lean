theorem lw_i8 {i L : Nat} (hL : L ≤ 4096) (hi : i ≤ L) (h : ¬ Int32.ofNat L - (8 : Int32) < nI i) : i + 8 ≤ L := by
  have e : (Int32.ofNat L - (8 : Int32)).toInt = (L : Int) - 8 := iS (nI_toInt (n := L) (by omega)) (show (8 : Int32).toInt = 8 from rfl) (by omega) (by omega)
  rw [i_lt e (nI_toInt (n := i) (by omega))] at h
  omega
set_option maxHeartbeats 8000000 in
set_option maxRecDepth 100000 in
theorem law_loop {p : Program} {l : Launch} {e : Env} {s : State} {m : MethodId} {below : List Frame} {meth : Method} {c : Code} {dC : Nat → ClassId} {dI : Nat → Nat → Nat} {b L : Nat} {xs : Nat → Int32} (hL : L ≤ 4096) (C0 : lw_At p s m meth c b L xs) {h0 h1 h2 h3 h3d h4 h4d g0 r1 r1d r2 r2d r3 r3p r3pd r3q r3qd r4 r4p r4pd r4q r4qd r5 r5p r5pd r5q r5qd r6 r6p r6pd r6q r6qd r7 r7p r7pd r7q r7qd r8 r8p r8pd r8q r8qd r9 r9p r9pd r9q r9qd : Nat} {bh3 bh4 br1 br2 br3p br3q br4p br4q br5p br5q br6p br6q br7p br7q br8p br8q br9p br9q : ClassId} (eqR : EqRoot) (eqP : EqPower) (eqH : EqHalf) (eqW : EqWhole) : ∀ (n i : Nat), i ≤ L → L < i + 8 * n → lwK p l e s m below meth c dC dI b (fun q : Nat => s.heap.size ≤ q) h0 h1 h2 h3 h3d h4 h4d g0 r1 r1d r2 r2d r3 r3p r3pd r3q r3qd r4 r4p r4pd r4q r4qd r5 r5p r5pd r5q r5qd r6 r6p r6pd r6q r6qd r7 r7p r7pd r7q r7qd r8 r8p r8pd r8q r8qd r9 r9p r9pd r9q r9qd bh3 bh4 br1 br2 br3p br3q br4p br4q br5p br5q br6p br6q br7p br7q br8p br8q br9p br9q i 18 := by
  have hA : ∀ q : Nat, s.heap.size ≤ q → (fun q : Nat => s.heap.size ≤ q) q := fun _ h => h
  have hbA : ¬ (fun q : Nat => s.heap.size ≤ q) b := Nat.not_le.mpr C0.2.2.2.2.2.2.2.1
  intro n
  induction n with
  | zero => intro i h1 h2; exact absurd h2 (by omega)
  | succ n ih =>
    intro i hi hn F K E G V H locs hK hP hD hS ls hl
    obtain ⟨hx, hb, hr, hml, hown, hts, hX, hbl, hlocks, hgv⟩ := id C0
    refine lv_iload_n hx hb dL_law_18 rfl (lv_at hl 3 rfl) ?_
    refine lv_aload_n hx hb dL_law_19 rfl (lv_at hl 0 rfl) ?_
    refine va_slen hx hb hX hbl hbA hS dL_law_20 ?_
    refine lv_bipush (v := 8) hx hb dL_law_21 (by decide) ?_
    refine lv_isub hx hb dL_law_23 ?_
    refine lv_icmp_gt (tgt := 1035) hx hb dL_law_24 (by decide) (fun c1 => ?_) (fun c1 => ?_)
    · refine lv_iconst (v := 1) hx hb dL_law_1035 (by decide) ?_
      refine va_forget (fun q hq => hS.2.2 q hq) ?_
      exact lw_ret hx hb hr hlocks dL_law_1036
    · have hi8 : i + 8 ≤ L := lw_i8 hL hi c1
      have K9 : lwK p l e s m below meth c dC dI b (fun q : Nat => s.heap.size ≤ q) h0 h1 h2 h3 h3d h4 h4d g0 r1 r1d r2 r2d r3 r3p r3pd r3q r3qd r4 r4p r4pd r4q r4qd r5 r5p r5pd r5q r5qd r6 r6p r6pd r6q r6qd r7 r7p r7pd r7q r7qd r8 r8p r8pd r8q r8qd r9 r9p r9pd r9q r9qd bh3 bh4 br1 br2 br3p br3q br4p br4q br5p br5q br6p br6q br7p br7q br8p br8q br9p br9q i 1029 := by
        intro F K E G V H locs hK hP hD hS ls hl
        refine lv_iinc (v := nI (i + 8)) (lv' := [(3, .int (nI (i + 8))), (0, .ref b), (1, .ref h0), (2, .ref g0)]) hx hb dL_law_1029 hl (k := 3) rfl (by rw [show (Int32.ofInt 8) = nI 8 by decide, nI_add]) (by decide) rfl (fun ls hl => ?_)
        refine lv_goto (tgt := 18) hx hb dL_law_1032 (by decide) ?_
        exact ih (i + 8) (by omega) (by omega) F K E G V H locs hK hP hD hS ls (lv_sub hl [1, 2, 3, 0] rfl)
      refine lv_aload_n hx hb dL_law_27 rfl (lv_at hl 0 rfl) ?_
      refine lv_iload_n hx hb dL_law_28 rfl (lv_at hl 3 rfl) ?_
      refine va_sld hx hb hX hbl hbA hS (i := nI i) (vp_in_nI (n := i) (by omega) (by omega)) dL_law_29 ?_
      refine lv_bipush (v := 15) hx hb dL_law_30 (by decide) ?_
      refine lv_iand hx hb dL_law_32 ?_
      obtain ⟨j, hj, ej⟩ := pk_andE (xs (nI i).toNatClampNeg) (m := (15 : Int32)) 4 (by decide)
      rw [ej]
      by_cases q : j < 9
      · rcases (show j = 0 ∨ j = 1 ∨ j = 2 ∨ j = 3 ∨ j = 4 ∨ j = 5 ∨ j = 6 ∨ j = 7 ∨ j = 8 by omega) with rfl | rfl | rfl | rfl | rfl | rfl | rfl | rfl | rfl
        · refine lv_tableIn (off := 51) (tgt := 84) hx hb dL_law_33 (by decide) (by decide) (by decide) (by decide) ?_
          exact law_c0 hL C0 hA hbA i hi8 K9 F K E G V H locs hK hP hD hS ls hl
        · refine lv_tableIn (off := 171) (tgt := 204) hx hb dL_law_33 (by decide) (by decide) (by decide) (by decide) ?_
          exact law_c1 hL C0 hA hbA i hi8 K9 F K E G V H locs hK hP hD hS ls hl
        · refine lv_tableIn (off := 291) (tgt := 324) hx hb dL_law_33 (by decide) (by decide) (by decide) (by decide) ?_
          exact law_c2 hL C0 hA hbA i hi8 K9 F K E G V H locs hK hP hD hS ls hl
        · refine lv_tableIn (off := 411) (tgt := 444) hx hb dL_law_33 (by decide) (by decide) (by decide) (by decide) ?_
          exact law_c3 hL C0 hA hbA i hi8 eqR K9 F K E G V H locs hK hP hD hS ls hl
        · refine lv_tableIn (off := 491) (tgt := 524) hx hb dL_law_33 (by decide) (by decide) (by decide) (by decide) ?_
          exact law_c4 hL C0 hA hbA i hi8 K9 F K E G V H locs hK hP hD hS ls hl
        · refine lv_tableIn (off := 655) (tgt := 688) hx hb dL_law_33 (by decide) (by decide) (by decide) (by decide) ?_
          exact law_c5 hL C0 hA hbA i hi8 eqP K9 F K E G V H locs hK hP hD hS ls hl
        · refine lv_tableIn (off := 745) (tgt := 778) hx hb dL_law_33 (by decide) (by decide) (by decide) (by decide) ?_
          exact law_c6 hL C0 hA hbA i hi8 eqH K9 F K E G V H locs hK hP hD hS ls hl
        · refine lv_tableIn (off := 839) (tgt := 872) hx hb dL_law_33 (by decide) (by decide) (by decide) (by decide) ?_
          exact law_c7 hL C0 hA hbA i hi8 eqW K9 F K E G V H locs hK hP hD hS ls hl
        · refine lv_tableIn (off := 903) (tgt := 936) hx hb dL_law_33 (by decide) (by decide) (by decide) (by decide) ?_
          exact law_c8 hL C0 hA hbA i hi8 K9 F K E G V H locs hK hP hD hS ls hl
      · refine lv_tableOut (tgt := 1029) hx hb dL_law_33 (Or.inr (by rw [nI_toInt (n := j) (by omega)]; omega)) (by decide) ?_
        exact K9 F K E G V H locs hK hP hD hS ls hl
