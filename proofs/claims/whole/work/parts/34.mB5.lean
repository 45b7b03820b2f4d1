theorem prod_out {a b : Nat → Int32} {ka kb X : Nat} (hX : ¬ nI X ≤ 0) (ha : ∀ t, t < ka → dg (a t)) (hb : ∀ t, t < kb → dg (b t)) : ∀ (n i : Nat) (g : Nat → Int32), i + n = ka → (∀ t, t < i + kb → dg (g t)) → bv g (i + kb) = bv a i * bv b kb →
    (∀ t, t < ka + kb → dg (qB_product_56 X ka kb a b n i g t)) ∧ bv (qB_product_56 X ka kb a b n i g) (ka + kb) = bv a ka * bv b kb := by
  intro n
  induction n with
  | zero =>
    intro i g hi hg hv
    have : i = ka := hi
    subst this
    exact ⟨hg, hv⟩
  | succ n ih =>
    intro i g hi hg hv
    have e : qB_product_56 X ka kb a b (n + 1) i g = qB_product_56 X ka kb a b n (i + 1) (upd (qB_product_77 i a b kb 0 (0 : Int64) g).2 (i + kb) ((qB_product_77 i a b kb 0 (0 : Int64) g).1).toInt32) := if_neg hX
    rw [e]
    obtain ⟨C', a1, a2, a3, a4, a5⟩ := prod_in (i := i) (a := a) (b := b) (ha i (by omega)) kb 0 0 g (by omega) (fun t _ q => hb t (by omega)) (fun t p q => hg t (by omega))
    have e0 : (0 : Int64) = lN 0 := rfl
    rw [e0, a2]
    generalize (qB_product_77 i a b kb 0 (lN 0) g).2 = g1 at a3 a4 a5
    have ed : dn (lN C').toInt32 = C' := dn_l2i (by omega)
    have hdg : dg (lN C').toInt32 := by
      show dn (lN C').toInt32 < 65536
      rw [ed]; omega
    have hg1 : ∀ t, t < i + kb → dg (g1 t) := by
      intro t ht
      by_cases q : t < i
      · rw [a3 t (by omega)]; exact hg t ht
      · exact a4 t (by omega) (by omega)
    refine ih (i + 1) (upd g1 (i + kb) (lN C').toInt32) (by omega) (fun t ht => ?_) ?_
    · by_cases et : t = i + kb
      · rw [et, upd_s]; exact hdg
      · rw [pk_un et]; exact hg1 t (by omega)
    · have e1 : i + 1 + kb = (i + kb) + 1 := by omega
      rw [e1]
      show bv (upd g1 (i + kb) _) (i + kb) + dn (upd g1 (i + kb) _ (i + kb)) * 65536 ^ (i + kb) = (bv a i + dn (a i) * 65536 ^ i) * bv b kb
      rw [bv_upd, upd_s, ed]
      have b1 := bv_bw g1 kb i
      have b2 := bv_bw g kb i
      have b3 : bv g1 i = bv g i := bv_congr fun t ht => a3 t (by omega)
      rw [Nat.add_zero, bw_0] at a5
      rw [b1, b3, Nat.pow_add, Nat.add_mul]
      have b4 : bw g1 i kb * 65536 ^ i + C' * (65536 ^ i * 65536 ^ kb) = (bw g i kb + dn (a i) * bv b kb) * 65536 ^ i := by
        have : C' * (65536 ^ i * 65536 ^ kb) = C' * 65536 ^ kb * 65536 ^ i := by rw [Nat.mul_comm (65536 ^ i), Nat.mul_assoc]
        rw [this, ← Nat.add_mul]
        congr 1
      rw [Nat.add_mul] at b4
      have b5 : dn (a i) * bv b kb * 65536 ^ i = dn (a i) * 65536 ^ i * bv b kb := by rw [Nat.mul_assoc, Nat.mul_comm (bv b kb), Nat.mul_assoc]
      rw [b5] at b4
      rw [← hv, b2]
      omega
theorem Bg_product (f : Nat → Int32) (k : Nat) {a b : Nat → Int32} {ka kb va vb : Nat} (h2 : Bg a ka va) (h3 : Bg b kb vb) (hk : ka + kb < 2147483648) : Bg (pB_product_0 f k a ka b kb) (pB_product_1 f k a ka b kb) (va * vb) := by
  have ea : nI ka = 0 ↔ ka = 0 := nI_eq (a := ka) (b := 0) (by omega) (by decide)
  have eb : nI kb = 0 ↔ kb = 0 := nI_eq (a := kb) (b := 0) (by omega) (by decide)
  have nil : ∀ {X : Nat}, X = 0 → va * vb = 0 → v_B_product_1 f k a ka b kb = X → Bg (pB_product_0 f k a ka b kb) (pB_product_1 f k a ka b kb) (va * vb) := by
    intro X hX hv e
    subst hX
    have e1 : pB_product_1 f k a ka b kb = 0 := by
      show pB_trim_0 (v_B_product_3 f k a ka b kb) (v_B_product_1 f k a ka b kb) = 0
      rw [e]; rfl
    rw [e1, hv]
    exact ⟨fun i hi => absurd hi (by omega), fun j hj => absurd hj (by omega), rfl⟩
  by_cases qa : ka = 0
  · exact nil rfl (by rw [h2.zero.mp qa, Nat.zero_mul]) (if_pos (ea.mpr qa))
  · by_cases qb : kb = 0
    · exact nil rfl (by rw [h3.zero.mp qb, Nat.mul_zero]) ((if_neg (fun z => qa (ea.mp z))).trans (if_pos (eb.mpr qb)))
    · have eX : v_B_product_1 f k a ka b kb = ka + kb := (if_neg (fun z => qa (ea.mp z))).trans (if_neg (fun z => qb (eb.mp z)))
      have hX : ¬ nI (ka + kb) ≤ 0 := fun z => by
        have := (nI_leI (a := ka + kb) (b := 0) hk (by decide)).mp z
        omega
      have hz : ∀ t, t < kb → v_B_product_2 f k a ka b kb t = 0 := by
        intro t ht
        show qB_product_33 (v_B_product_1 f k a ka b kb) 0 f t = 0
        rw [zero2_ok, eX, if_pos (by omega)]
      have hbz : bv (v_B_product_2 f k a ka b kb) kb = 0 := by
        have : bv (v_B_product_2 f k a ka b kb) kb = bv (fun _ => 0) kb := bv_congr hz
        rw [this]
        have : ∀ m, bv (fun _ => (0 : Int32)) m = 0 := by
          intro m
          induction m with
          | zero => rfl
          | succ m ih => show bv _ m + dn 0 * _ = 0; rw [ih, dn_0, Nat.zero_mul]
        exact this kb
      obtain ⟨p, q⟩ := prod_out (X := ka + kb) hX h2.1 h3.1 ka 0 (v_B_product_2 f k a ka b kb) (by omega) (fun t ht => by rw [hz t (by omega)]; exact dg_0) (by rw [Nat.zero_add, hbz]; show 0 = 0 * _; omega)
      have e3 : v_B_product_3 f k a ka b kb = qB_product_56 (ka + kb) ka kb a b ka 0 (v_B_product_2 f k a ka b kb) := by
        show qB_product_56 (v_B_product_1 f k a ka b kb) ka kb a b ka 0 (v_B_product_2 f k a ka b kb) = _
        rw [eX]
      have e4 : pB_product_1 f k a ka b kb = pB_trim_0 (v_B_product_3 f k a ka b kb) (ka + kb) := by
        show pB_trim_0 (v_B_product_3 f k a ka b kb) (v_B_product_1 f k a ka b kb) = _
        rw [eX]
      have e5 : pB_product_0 f k a ka b kb = v_B_product_3 f k a ka b kb := rfl
      rw [e4, e5, e3]
      rw [h2.2.2, h3.2.2] at q
      rw [← q]
      exact Bg_trim p
theorem p2_77 (i : Nat) (a : Nat → Int32) : ∀ (n j : Nat) (c : Int64) (g : Nat → Int32), qB_product2_77 i a n j c g = qB_product_77 i a a n j c g := by
  intro n
  induction n with
  | zero => intros; rfl
  | succ n ih =>
    intro j c g
    exact ih (j + 1) _ _
theorem p2_33 : ∀ (n j : Nat) (g : Nat → Int32), qB_product2_33 n j g = qB_product_33 n j g := by
  intro n
  induction n with
  | zero => intros; rfl
  | succ n ih => intro j g; exact ih (j + 1) _
theorem p2_56 (X ka : Nat) (a : Nat → Int32) : ∀ (n i : Nat) (g : Nat → Int32), qB_product2_56 X ka a n i g = qB_product_56 X ka ka a a n i g := by
  intro n
  induction n with
  | zero => intros; rfl
  | succ n ih =>
    intro i g
    show (if nI X ≤ 0 then g else qB_product2_56 X ka a n (i + 1) (upd (qB_product2_77 i a ka 0 (0 : Int64) g).2 (i + ka) ((qB_product2_77 i a ka 0 (0 : Int64) g).1).toInt32)) = (if nI X ≤ 0 then g else qB_product_56 X ka ka a a n (i + 1) (upd (qB_product_77 i a a ka 0 (0 : Int64) g).2 (i + ka) ((qB_product_77 i a a ka 0 (0 : Int64) g).1).toInt32))
    rw [p2_77, ih]
theorem p2_0 (f : Nat → Int32) (k : Nat) (a : Nat → Int32) (ka : Nat) : pB_product2_0 f k a ka = pB_product_0 f k a ka a ka := by
  show qB_product2_56 (v_B_product2_1 f k a ka) ka a ka 0 (qB_product2_33 (v_B_product2_1 f k a ka) 0 f) = qB_product_56 (v_B_product_1 f k a ka a ka) ka ka a a ka 0 (qB_product_33 (v_B_product_1 f k a ka a ka) 0 f)
  rw [p2_56, p2_33]
  rfl
theorem p2_1 (f : Nat → Int32) (k : Nat) (a : Nat → Int32) (ka : Nat) : pB_product2_1 f k a ka = pB_product_1 f k a ka a ka := by
  show pB_trim_0 (pB_product2_0 f k a ka) (v_B_product2_1 f k a ka) = pB_trim_0 (pB_product_0 f k a ka a ka) (v_B_product_1 f k a ka a ka)
  rw [p2_0]
  rfl
theorem Bg_product2 (f : Nat → Int32) (k : Nat) {a : Nat → Int32} {ka va : Nat} (h2 : Bg a ka va) (hk : ka + ka < 2147483648) : Bg (pB_product2_0 f k a ka) (pB_product2_1 f k a ka) (va * va) := by
  rw [p2_0, p2_1]
  exact Bg_product f k h2 h2 hk

