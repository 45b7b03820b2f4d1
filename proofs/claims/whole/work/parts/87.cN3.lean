def v_N_top_1 (f : Nat → Int32) (k : Nat) (bo : Nat) (b : Nat) : Int32 := pN_length f k
def v_N_top_3 (bo : Nat) (k : Nat) (f : Nat → Int32) (n1 : Nat) (y1_0 : Int64) : Int32 := pN_bitAt f k (bo + n1)
def v_N_top_4 (bo : Nat) (k : Nat) (f : Nat → Int32) (n1 : Nat) (y1_0 : Int64) : Int64 := (jlshl y1_0 (1 : Int32)) ||| (v_N_top_3 bo k f n1 y1_0).toInt64
def qN_top_14 (bo : Nat) (k : Nat) (f : Nat → Int32) : Nat → Int64 → Int64
  | 0, y1_0 => y1_0
  | n1 + 1, y1_0 => qN_top_14 bo k f n1 (v_N_top_4 bo k f n1 y1_0)
def v_N_top_2 (f : Nat → Int32) (k : Nat) (bo : Nat) (b : Nat) : Int64 := qN_top_14 bo k f b (0 : Int64)
def pN_top (f : Nat → Int32) (k : Nat) (bo : Nat) (b : Nat) : Int64 := (v_N_top_2 f k bo b)
/-- N_top -/
abbrev atN_top (dC : Nat → ClassId) (dI : Nat → Nat → Nat) (h0 h0d : Nat) (bh0 : ClassId) (f : Nat → Int32) (k : Nat) (bo : Nat) (b : Nat) (A : Nat → Prop) (t : State) : Prop := va_P (dC, dI) vwCl [(h0, .inr (1, [.ref h0d, .int (nI k)])), (h0d, .inl (bh0, 72, .inl f))] t.heap ∧ va_K (dC, dI) vwCl [(bh0, .int)] t ∧ va_D A [(h0, .inr (1, [.ref h0d, .int (nI k)])), (h0d, .inl (bh0, 72, .inl f))]
abbrev WN_top (p : Program) (l : Launch) (e : Env) (s : State) (m : MethodId) (below : List Frame) (meth : Method) (c : Code) (dC : Nat → ClassId) (dI : Nat → Nat → Nat) (h0 h0d : Nat) (bh0 : ClassId) (f : Nat → Int32) (k : Nat) (bo : Nat) (b : Nat) (A : Nat → Prop) (H : Heap) (locs : List Loc) (g : JFrame) : Prop := W p l e (headSpec wN_top ({ frames := 4, cells := 0, slots := 0, locals := 84 })).room s m ([.ref h0, .int (nI b)] : List Value).toArray below meth c H locs 0 0 (MQ below (va_Ql (fun (r : Int64) (_ : Unit) => r = pN_top f k bo b) (fun _ => atN_top dC dI h0 h0d bh0 f k bo b A) A) ([.ref h0, .int (nI b)] : List Value).toArray s 0 0 A) g
set_option maxHeartbeats 4000000 in
set_option maxRecDepth 100000 in
theorem kN_top (l : Launch) (dC : Nat → ClassId) (dI : Nat → Nat → Nat) (h0 h0d : Nat) (bh0 : ClassId) (sz : Nat) (f : Nat → Int32) (k : Nat) (bo : Nat) (b : Nat) (hk : k ≤ 72) (htl : pN_length f k = nI (bo + b)) (hB : bo + b ≤ 2160) : Met l yN_top wN_top ({ frames := 4, cells := 0, slots := 0, locals := 84 }) (va_Pc [.ref h0, .int (nI b)] (fun U => U.heap.size = sz ∧ va_P (dC, dI) vwCl [(h0, .inr (1, [.ref h0d, .int (nI k)])), (h0d, .inl (bh0, 72, .inl f))] U.heap ∧ va_K (dC, dI) vwCl [(bh0, .int)] U ∧ va_D (fun _ => True) [(h0, .inr (1, [.ref h0d, .int (nI k)])), (h0d, .inl (bh0, 72, .inl f))] ∧ NW U)) (va_Ql (fun (r : Int64) (_ : Unit) => r = pN_top f k bo b) (fun _ => atN_top dC dI h0 h0d bh0 f k bo b (va_A [(h0, .inr (1, [.ref h0d, .int (nI k)])), (h0d, .inl (bh0, 72, .inl f))] sz)) (va_A [(h0, .inr (1, [.ref h0d, .int (nI k)])), (h0d, .inl (bh0, 72, .inl f))] sz)) 0 0 (va_A [(h0, .inr (1, [.ref h0d, .int (nI k)])), (h0d, .inl (bh0, 72, .inl f))] sz) := by
  refine Met.ofW (cc := cN_top) (maxL := 6) (ret := (some .long)) (by decide) rfl ?_
  intro p e s m args below meth c s₁ B hml hv
  obtain ⟨rfl, hsz, hP, hK, hD0, hN⟩ := hv
  have hx := B.exec
  have hb := B.bytes
  have hr := B.returns
  have hts := atoms_spec (ws := wN_top) B.pre
  have hown : s.vm.findClass RN = some m.cls := findClass_of_methodNamed B.named
  have hlocks := B.notSynchronized
  subst hsz
  have hD := hD0.self (sz := s.heap.size)
  generalize hAe : va_A [(h0, .inr (1, [.ref h0d, .int (nI k)])), (h0d, .inl (bh0, 72, .inl f))] s.heap.size = A at hD ⊢
  have hA : ∀ q : Nat, s.heap.size ≤ q → A q := fun q h => by rw [← hAe]; exact Or.inr h
  have hS : va_S A s.heap s.heap [] := va_S.rf
  have hP : va_P (dC, dI) vwCl [(h0, .inr (1, [.ref h0d, .int (nI k)])), (h0d, .inl (bh0, 72, .inl f))] s.heap := hP
  have hl := lv_entry ([.ref h0, .int (nI b)]) (n := 6) (Nat.le_of_ble_eq_true rfl)
  rw [lg_entry_eq]
  generalize (lg_sl ([.ref h0, .int (nI b)]) ++ List.replicate (6 - (lg_sl ([.ref h0, .int (nI b)])).length) Slot.unset).toArray = ls at hl ⊢
  have hl : lv_has ls 6 [(0, .ref h0), (1, .int (nI b))] := hl
  refine lv_lconst (v := 0) hx hb dN_top_0 (by decide) ?_
  refine lv_lstore_n (lv' := [(2, .long (0 : Int64)), (0, .ref h0), (1, .int (nI b))]) hx hb dN_top_1 rfl hl (by decide) rfl (fun ls hl => ?_)
  refine lv_aload_n hx hb dN_top_2 rfl (lv_at hl 1 rfl) ?_
  have hPc := hP.sub (ws' := [(h0, .inr (1, [.ref h0d, .int (nI k)])), (h0d, .inl (bh0, 72, .inl f))]) [0, 1] rfl
  have hDc := hD.sub (ws' := [(h0, .inr (1, [.ref h0d, .int (nI k)])), (h0d, .inl (bh0, 72, .inl f))]) [0, 1] (by decide) rfl
  have hKc := hK.sub (tys' := [(bh0, .int)]) [0] rfl
  have hFc := va_free (wc := [(h0, .inr (1, [.ref h0d, .int (nI k)])), (h0d, .inl (bh0, 72, .inl f))]) hD hS hA [0, 1] rfl
  refine va_calli (va_runV (As := []) (rest := []) ⟨hx, hb, hml, hown, hts⟩ (kN_length l dC dI h0 h0d bh0 s.heap.size f k hk) (cwV 0 hts (g_call (List.forall_mem_cons.mpr ⟨m2_43, List.forall_mem_cons.mpr ⟨m2_15, List.forall_mem_cons.mpr ⟨m2_16, List.forall_mem_cons.mpr ⟨m1_3, fun _ h => absurd h List.not_mem_nil⟩⟩⟩⟩) m2_17) rfl rfl rfl (by decide +kernel) ⟨Nat.le_of_ble_eq_true rfl, Nat.le_of_ble_eq_true rfl⟩) ⟨fun a U g mk q => by obtain ⟨q0, q1, qP, qK, qD, qN⟩ := q; exact ⟨q0, q1, qP, va_K.moved (u := U) (U := U.calling g mk a) (Vm.Alike.refl U.vm) qK, qD, NW.same (u := U) rfl qN⟩, va_recv hKc hPc (ci := 1) (q0 := 0) rfl rfl, fun U hU hW => ⟨rfl, by rw [hU], by rw [hU]; exact hPc, va_K.moved hW.alike hKc, hDc.weaken (fun _ _ _ _ => trivial), NW.warm hW hN⟩⟩ rfl rfl hl.1 rfl (lv_room (Nat.le_of_ble_eq_true rfl)) dN_top_3 ⟨Nat.le_of_ble_eq_true rfl, Nat.le_of_ble_eq_true rfl⟩) hS (fun q _ h => hFc q h) hFc (fun w9 u9 t H1 locs ht hvm hw hB hz1 hk1 hS => ?_)
  have e9 : w9 = (v_N_top_1 f k bo b) := hw
  rw [e9]
  obtain ⟨hP1, hK1, hD1⟩ := hB
  rw [ht] at hP1
  have hK1 := va_K.moved hvm.symm hK1
  have hP1 : va_P (dC, dI) vwCl [(h0, .inr (1, [.ref h0d, .int (nI k)])), (h0d, .inl (bh0, 72, .inl f))] H1 := hP1
  have hD1 : va_D _ [(h0, .inr (1, [.ref h0d, .int (nI k)])), (h0d, .inl (bh0, 72, .inl f))] := hD1
  obtain ⟨hP, hD⟩ := va_join (wr := []) (w1 := [(h0, .inr (1, [.ref h0d, .int (nI k)])), (h0d, .inl (bh0, 72, .inl f))]) hP hD [0, 1] [] rfl rfl (by decide) (by decide) hk1 hFc hP1 hD1
  have hK := (hK.sub (tys' := []) [] rfl).app hK1
  generalize H1 = H at hP hS ⊢
  have hP : va_P (dC, dI) vwCl [(h0, .inr (1, [.ref h0d, .int (nI k)])), (h0d, .inl (bh0, 72, .inl f))] H := hP
  have hD : va_D A [(h0, .inr (1, [.ref h0d, .int (nI k)])), (h0d, .inl (bh0, 72, .inl f))] := hD
  have hK : va_K (dC, dI) vwCl [(bh0, .int)] s := hK
  refine W.eq (g2 := F0 m 6 ls [.int (nI (bo + b))]) (congrArg (fun z => F0 m 6 ls [.int z]) (htl)) ?_
  refine lv_istore (lv' := [(4, .int (nI (bo + b))), (2, .long (0 : Int64)), (0, .ref h0), (1, .int (nI b))]) hx hb dN_top_6 hl (by decide) rfl (fun ls hl => ?_)
  refine lv_iload hx hb dN_top_8 (lv_at hl 0 rfl) ?_
  refine lv_iconst (v := 1) hx hb dN_top_10 (by decide) ?_
  refine lv_isub hx hb dN_top_11 ?_
  refine W.eq (g2 := F0 m 12 ls [.int (ni1 (bo + b))]) (congrArg (fun z => F0 m 12 ls [.int z]) ((rfl : nI (bo + b) - 1 = ni1 (bo + b)))) ?_
  refine lv_istore (lv' := [(5, .int (ni1 (bo + b))), (4, .int (nI (bo + b))), (2, .long (0 : Int64)), (0, .ref h0), (1, .int (nI b))]) hx hb dN_top_12 hl (by decide) rfl (fun ls hl => ?_)
  have K_1 : ∀ (w_0 : Int64), w_0 = qN_top_14 bo k f b (0 : Int64) → ∀ (H : Heap) (locs : List Loc), va_K (dC, dI) vwCl [(bh0, .int)] s → va_P (dC, dI) vwCl [(h0, .inr (1, [.ref h0d, .int (nI k)])), (h0d, .inl (bh0, 72, .inl f))] H → va_D A [(h0, .inr (1, [.ref h0d, .int (nI k)])), (h0d, .inl (bh0, 72, .inl f))] → va_S A s.heap H locs → ∀ (ls : Array Slot), lv_has ls 6 [(2, .long w_0)] → WN_top p l e s m below meth c dC dI h0 h0d bh0 f k bo b A H locs (F0 m 41 ls []) := by
    intro w_0 hz
    have e_0 : w_0 = (v_N_top_2 f k bo b) := hz
    rw [e_0]
    intro H locs hK hP hD hS ls hl
    refine lv_lload_n hx hb dN_top_41 rfl (lv_at hl 0 rfl) ?_
    have e9 : (v_N_top_2 f k bo b) = pN_top f k bo b := (rfl).symm
    have hP9 := hP.sub (ws' := [(h0, .inr (1, [.ref h0d, .int (nI k)])), (h0d, .inl (bh0, 72, .inl f))]) [0, 1] rfl
    have hD9 := hD.sub (ws' := [(h0, .inr (1, [.ref h0d, .int (nI k)])), (h0d, .inl (bh0, 72, .inl f))]) [0, 1] (by decide) rfl
    have hK9 := hK.sub (tys' := [(bh0, .int)]) [0] rfl
    have h9 := And.intro hP9 hD9
    exact W.lret (v := (v_N_top_2 f k bo b)) hx hb hr (fun t ht hW => ⟨⟨(v_N_top_2 f k bo b), (), rfl, e9, by rw [ht]; exact h9.1, va_K.moved hW.alike hK9, h9.2⟩, hS.F ht⟩) hS.2.2 dN_top_42
  have L_1 : ∀ (n1 : Nat) (y1_0 : Int64), n1 ≤ b → qN_top_14 bo k f n1 y1_0 = qN_top_14 bo k f b (0 : Int64) → ∀ (H : Heap) (locs : List Loc), va_K (dC, dI) vwCl [(bh0, .int)] s → va_P (dC, dI) vwCl [(h0, .inr (1, [.ref h0d, .int (nI k)])), (h0d, .inl (bh0, 72, .inl f))] H → va_D A [(h0, .inr (1, [.ref h0d, .int (nI k)])), (h0d, .inl (bh0, 72, .inl f))] → va_S A s.heap H locs → ∀ (ls : Array Slot), lv_has ls 6 [(0, .ref h0), (1, .int (nI b)), (2, .long y1_0), (4, .int (nI (bo + b))), (5, .int (ni1 (bo + n1)))] → WN_top p l e s m below meth c dC dI h0 h0d bh0 f k bo b A H locs (F0 m 14 ls []) := by
    intro n1
    induction n1 with
    | zero =>
      intro y1_0 hj hq H locs hK hP hD hS ls hl
      have hl : lv_has ls 6 [(0, .ref h0), (1, .int (nI b)), (2, .long y1_0), (4, .int (nI (bo + b))), (5, .int (ni1 bo))] := hl
      refine lv_iload hx hb dN_top_14 (lv_at hl 4 rfl) ?_
      refine lv_iload hx hb dN_top_16 (lv_at hl 3 rfl) ?_
      refine lv_iload_n hx hb dN_top_18 rfl (lv_at hl 1 rfl) ?_
      refine lv_isub hx hb dN_top_19 ?_
      refine W.eq (g2 := F0 m 20 ls [.int (nI bo), .int (ni1 bo)]) (congrArg (fun z => F0 m 20 ls [.int z, .int (ni1 bo)]) ((nI_asub bo b))) ?_
      refine lv_icmp_lt (tgt := 41) hx hb dN_top_20 (by decide) (fun c_1 => ?_) (fun c_1 => ?_)
      rotate_left
      · exact absurd (ni1_lt (by omega)) c_1
      exact K_1 y1_0 (by exact hq) _ _ (hK.sub [0] rfl) (hP.sub [0, 1] rfl) (hD.sub [0, 1] (by decide) rfl) hS ls (lv_sub hl [2] rfl)
    | succ n1 ih =>
      intro y1_0 hj hq H locs hK hP hD hS ls hl
      have hl : lv_has ls 6 [(0, .ref h0), (1, .int (nI b)), (2, .long y1_0), (4, .int (nI (bo + b))), (5, .int (nI (bo + n1)))] := by rw [← ni1_s (bo + n1)]; exact hl
      refine lv_iload hx hb dN_top_14 (lv_at hl 4 rfl) ?_
      refine lv_iload hx hb dN_top_16 (lv_at hl 3 rfl) ?_
      refine lv_iload_n hx hb dN_top_18 rfl (lv_at hl 1 rfl) ?_
      refine lv_isub hx hb dN_top_19 ?_
      refine W.eq (g2 := F0 m 20 ls [.int (nI bo), .int (nI (bo + n1))]) (congrArg (fun z => F0 m 20 ls [.int z, .int (nI (bo + n1))]) ((nI_asub bo b))) ?_
      refine lv_icmp_lt (tgt := 41) hx hb dN_top_20 (by decide) (fun c_2 => ?_) (fun c_2 => ?_)
      · exact absurd ((nI_ltI (by omega) (by omega)).mp c_2) (by omega)
      refine lv_lload_n hx hb dN_top_23 rfl (lv_at hl 2 rfl) ?_
      refine lv_iconst (v := 1) hx hb dN_top_24 (by decide) ?_
      refine lv_lshl (v := jlshl y1_0 (1 : Int32)) hx hb dN_top_25 rfl ?_
      refine lv_aload_n hx hb dN_top_26 rfl (lv_at hl 0 rfl) ?_
      refine lv_iload hx hb dN_top_27 (lv_at hl 4 rfl) ?_
      have hPc := hP.sub (ws' := [(h0, .inr (1, [.ref h0d, .int (nI k)])), (h0d, .inl (bh0, 72, .inl f))]) [0, 1] rfl
      have hDc := hD.sub (ws' := [(h0, .inr (1, [.ref h0d, .int (nI k)])), (h0d, .inl (bh0, 72, .inl f))]) [0, 1] (by decide) rfl
      have hKc := hK.sub (tys' := [(bh0, .int)]) [0] rfl
      have hFc := va_free (wc := [(h0, .inr (1, [.ref h0d, .int (nI k)])), (h0d, .inl (bh0, 72, .inl f))]) hD hS hA [0, 1] rfl
      refine va_calli (va_runV (As := [.int (nI (bo + n1))]) (rest := [.long (jlshl y1_0 (1 : Int32))]) ⟨hx, hb, hml, hown, hts⟩ (kN_bitAt l dC dI h0 h0d bh0 H.size f k (bo + n1) (by omega)) (cwV 1 hts (g_call (List.forall_mem_cons.mpr ⟨m2_44, List.forall_mem_cons.mpr ⟨m2_45, List.forall_mem_cons.mpr ⟨m2_46, List.forall_mem_cons.mpr ⟨m1_3, fun _ h => absurd h List.not_mem_nil⟩⟩⟩⟩) m2_47) rfl rfl rfl (by decide +kernel) ⟨Nat.le_of_ble_eq_true rfl, Nat.le_of_ble_eq_true rfl⟩) ⟨fun a U g mk q => by obtain ⟨q0, q1, qP, qK, qD, qN⟩ := q; exact ⟨q0, q1, qP, va_K.moved (u := U) (U := U.calling g mk a) (Vm.Alike.refl U.vm) qK, qD, NW.same (u := U) rfl qN⟩, va_recv hKc hPc (ci := 1) (q0 := 0) rfl rfl, fun U hU hW => ⟨rfl, by rw [hU], by rw [hU]; exact hPc, va_K.moved hW.alike hKc, hDc.weaken (fun _ _ _ _ => trivial), NW.warm hW hN⟩⟩ rfl rfl hl.1 rfl (lv_room (Nat.le_of_ble_eq_true rfl)) dN_top_29 ⟨Nat.le_of_ble_eq_true rfl, Nat.le_of_ble_eq_true rfl⟩) hS (fun q _ h => hFc q h) hFc (fun w9 u9 t H1 locs ht hvm hw hB hz1 hk1 hS => ?_)
      have e9 : w9 = (v_N_top_3 bo k f n1 y1_0) := hw
      rw [e9]
      obtain ⟨hP1, hK1, hD1⟩ := hB
      rw [ht] at hP1
      have hK1 := va_K.moved hvm.symm hK1
      have hP1 : va_P (dC, dI) vwCl [(h0, .inr (1, [.ref h0d, .int (nI k)])), (h0d, .inl (bh0, 72, .inl f))] H1 := hP1
      have hD1 : va_D _ [(h0, .inr (1, [.ref h0d, .int (nI k)])), (h0d, .inl (bh0, 72, .inl f))] := hD1
      obtain ⟨hP, hD⟩ := va_join (wr := []) (w1 := [(h0, .inr (1, [.ref h0d, .int (nI k)])), (h0d, .inl (bh0, 72, .inl f))]) hP hD [0, 1] [] rfl rfl (by decide) (by decide) hk1 hFc hP1 hD1
      have hK := (hK.sub (tys' := []) [] rfl).app hK1
      generalize H1 = H at hP hS ⊢
      have hP : va_P (dC, dI) vwCl [(h0, .inr (1, [.ref h0d, .int (nI k)])), (h0d, .inl (bh0, 72, .inl f))] H := hP
      have hD : va_D A [(h0, .inr (1, [.ref h0d, .int (nI k)])), (h0d, .inl (bh0, 72, .inl f))] := hD
      have hK : va_K (dC, dI) vwCl [(bh0, .int)] s := hK
      refine lv_i2l (v := (v_N_top_3 bo k f n1 y1_0).toInt64) hx hb dN_top_32 rfl ?_
      refine lv_lor hx hb dN_top_33 ?_
      refine lv_topl (fun w9 e9 => ?_)
      have e9 : w9 = (v_N_top_4 bo k f n1 y1_0) := e9
      rw [e9]
      refine lv_lstore_n (lv' := [(2, .long (v_N_top_4 bo k f n1 y1_0)), (0, .ref h0), (1, .int (nI b)), (4, .int (nI (bo + b))), (5, .int (nI (bo + n1)))]) hx hb dN_top_34 rfl hl (by decide) rfl (fun ls hl => ?_)
      refine lv_iinc (v := (ni1 (bo + n1))) (lv' := [(5, .int (ni1 (bo + n1))), (2, .long (v_N_top_4 bo k f n1 y1_0)), (0, .ref h0), (1, .int (nI b)), (4, .int (nI (bo + b)))]) hx hb dN_top_35 hl (k := 4) rfl (ni1_m _) (by decide) rfl (fun ls hl => ?_)
      refine lv_goto (tgt := 14) hx hb dN_top_38 (by decide) ?_
      exact ih (v_N_top_4 bo k f n1 y1_0) (by omega) (by exact hq) _ _ (hK.sub [0] rfl) (hP.sub [0, 1] rfl) (hD.sub [0, 1] (by decide) rfl) hS ls (lv_sub hl [2, 3, 1, 4, 0] rfl)
  exact L_1 b (0 : Int64) (by omega) rfl _ _ (hK.sub [0] rfl) (hP.sub [0, 1] rfl) (hD.sub [0, 1] (by decide) rfl) hS ls (lv_sub hl [3, 4, 2, 1, 0] rfl)
def v_F_reciprocal_1 (f3 : Nat → Int32) (k3 : Nat) (f4 : Nat → Int32) (k4 : Nat) (ln : Nat) : Nat → Int32 := pN_setBit_0 f4 k4 (ln - 1)
def v_F_reciprocal_2 (f3 : Nat → Int32) (k3 : Nat) (f4 : Nat → Int32) (k4 : Nat) (ln : Nat) : Nat := pN_setBit_1 f4 k4 (ln - 1)
def v_F_reciprocal_6 (k3 : Nat) (f3 : Nat → Int32) (j1 : Nat) (y1_0 : Int64) (y1_1 : Nat → Int32) (y1_2 : Nat) : Nat → Int32 := pN_twice_0 y1_1 y1_2
def v_F_reciprocal_7 (k3 : Nat) (f3 : Nat → Int32) (j1 : Nat) (y1_0 : Int64) (y1_1 : Nat → Int32) (y1_2 : Nat) : Nat := pN_twice_1 y1_1 y1_2
def v_F_reciprocal_8 (k3 : Nat) (f3 : Nat → Int32) (j1 : Nat) (y1_0 : Int64) (y1_1 : Nat → Int32) (y1_2 : Nat) : Int64 := jlshl y1_0 (1 : Int32)
def v_F_reciprocal_9 (k3 : Nat) (f3 : Nat → Int32) (j1 : Nat) (y1_0 : Int64) (y1_1 : Nat → Int32) (y1_2 : Nat) : Bool := pN_isBelow (v_F_reciprocal_6 k3 f3 j1 y1_0 y1_1 y1_2) (v_F_reciprocal_7 k3 f3 j1 y1_0 y1_1 y1_2) f3 k3
def v_F_reciprocal_10 (k3 : Nat) (f3 : Nat → Int32) (j1 : Nat) (y1_0 : Int64) (y1_1 : Nat → Int32) (y1_2 : Nat) : Nat → Int32 := pN_take_0 (v_F_reciprocal_6 k3 f3 j1 y1_0 y1_1 y1_2) (v_F_reciprocal_7 k3 f3 j1 y1_0 y1_1 y1_2) f3 k3
def v_F_reciprocal_11 (k3 : Nat) (f3 : Nat → Int32) (j1 : Nat) (y1_0 : Int64) (y1_1 : Nat → Int32) (y1_2 : Nat) : Nat := pN_take_1 (v_F_reciprocal_6 k3 f3 j1 y1_0 y1_1 y1_2) (v_F_reciprocal_7 k3 f3 j1 y1_0 y1_1 y1_2) f3 k3
def v_F_reciprocal_12 (k3 : Nat) (f3 : Nat → Int32) (j1 : Nat) (y1_0 : Int64) (y1_1 : Nat → Int32) (y1_2 : Nat) : Int64 := (v_F_reciprocal_8 k3 f3 j1 y1_0 y1_1 y1_2) ||| (1 : Int64)
def v_F_reciprocal_13 (k3 : Nat) (f3 : Nat → Int32) (j1 : Nat) (y1_0 : Int64) (y1_1 : Nat → Int32) (y1_2 : Nat) : Int64 := (if (v_F_reciprocal_9 k3 f3 j1 y1_0 y1_1 y1_2) = true then (v_F_reciprocal_8 k3 f3 j1 y1_0 y1_1 y1_2) else (v_F_reciprocal_12 k3 f3 j1 y1_0 y1_1 y1_2))
def v_F_reciprocal_14 (k3 : Nat) (f3 : Nat → Int32) (j1 : Nat) (y1_0 : Int64) (y1_1 : Nat → Int32) (y1_2 : Nat) : Nat := (if (v_F_reciprocal_9 k3 f3 j1 y1_0 y1_1 y1_2) = true then (v_F_reciprocal_7 k3 f3 j1 y1_0 y1_1 y1_2) else (v_F_reciprocal_11 k3 f3 j1 y1_0 y1_1 y1_2))
def v_F_reciprocal_15 (k3 : Nat) (f3 : Nat → Int32) (j1 : Nat) (y1_0 : Int64) (y1_1 : Nat → Int32) (y1_2 : Nat) : Nat → Int32 := (if (v_F_reciprocal_9 k3 f3 j1 y1_0 y1_1 y1_2) = true then (v_F_reciprocal_6 k3 f3 j1 y1_0 y1_1 y1_2) else (v_F_reciprocal_10 k3 f3 j1 y1_0 y1_1 y1_2))
def qF_reciprocal_15 (k3 : Nat) (f3 : Nat → Int32) : Nat → Nat → Int64 → (Nat → Int32) → Nat → Int64 × (Nat → Int32) × Nat
  | 0, j1, y1_0, y1_1, y1_2 => (y1_0, y1_1, y1_2)
  | n1 + 1, j1, y1_0, y1_1, y1_2 => qF_reciprocal_15 k3 f3 n1 (j1 + 1) (v_F_reciprocal_13 k3 f3 j1 y1_0 y1_1 y1_2) (v_F_reciprocal_15 k3 f3 j1 y1_0 y1_1 y1_2) (v_F_reciprocal_14 k3 f3 j1 y1_0 y1_1 y1_2)
def v_F_reciprocal_3 (f3 : Nat → Int32) (k3 : Nat) (f4 : Nat → Int32) (k4 : Nat) (ln : Nat) : Int64 := (qF_reciprocal_15 k3 f3 55 0 (0 : Int64) (v_F_reciprocal_1 f3 k3 f4 k4 ln) (v_F_reciprocal_2 f3 k3 f4 k4 ln)).1
def v_F_reciprocal_4 (f3 : Nat → Int32) (k3 : Nat) (f4 : Nat → Int32) (k4 : Nat) (ln : Nat) : Nat → Int32 := (qF_reciprocal_15 k3 f3 55 0 (0 : Int64) (v_F_reciprocal_1 f3 k3 f4 k4 ln) (v_F_reciprocal_2 f3 k3 f4 k4 ln)).2.1
def v_F_reciprocal_5 (f3 : Nat → Int32) (k3 : Nat) (f4 : Nat → Int32) (k4 : Nat) (ln : Nat) : Nat := (qF_reciprocal_15 k3 f3 55 0 (0 : Int64) (v_F_reciprocal_1 f3 k3 f4 k4 ln) (v_F_reciprocal_2 f3 k3 f4 k4 ln)).2.2
def pF_reciprocal (f3 : Nat → Int32) (k3 : Nat) (f4 : Nat → Int32) (k4 : Nat) (ln : Nat) : Int64 := (v_F_reciprocal_3 f3 k3 f4 k4 ln)
def pF_reciprocal_0 (f3 : Nat → Int32) (k3 : Nat) (f4 : Nat → Int32) (k4 : Nat) (ln : Nat) : Nat → Int32 := (v_F_reciprocal_4 f3 k3 f4 k4 ln)
def pF_reciprocal_1 (f3 : Nat → Int32) (k3 : Nat) (f4 : Nat → Int32) (k4 : Nat) (ln : Nat) : Nat := (v_F_reciprocal_5 f3 k3 f4 k4 ln)
/-- F_reciprocal -/
abbrev atF_reciprocal (dC : Nat → ClassId) (dI : Nat → Nat → Nat) (h0 h1 h2 h3 h4 h3d h4d : Nat) (bh3 bh4 : ClassId) (f3 : Nat → Int32) (k3 : Nat) (f4 : Nat → Int32) (k4 : Nat) (ln : Nat) (A : Nat → Prop) (t : State) : Prop := va_P (dC, dI) vwCl [(h0, .inr (2, [.ref h1, .ref h2, .ref h3, .ref h4])), (h3, .inr (1, [.ref h3d, .int (nI k3)])), (h3d, .inl (bh3, 72, .inl f3)), (h4, .inr (1, [.ref h4d, .int (nI (pF_reciprocal_1 f3 k3 f4 k4 ln))])), (h4d, .inl (bh4, 72, .inl (pF_reciprocal_0 f3 k3 f4 k4 ln)))] t.heap ∧ va_K (dC, dI) vwCl [(bh3, .int), (bh4, .int)] t ∧ va_D A [(h0, .inr (2, [.ref h1, .ref h2, .ref h3, .ref h4])), (h3, .inr (1, [.ref h3d, .int (nI k3)])), (h3d, .inl (bh3, 72, .inl f3)), (h4, .inr (1, [.ref h4d, .int (nI (pF_reciprocal_1 f3 k3 f4 k4 ln))])), (h4d, .inl (bh4, 72, .inl (pF_reciprocal_0 f3 k3 f4 k4 ln)))]
theorem trF_reciprocal {dC : Nat → ClassId} {dI : Nat → Nat → Nat} {h0 h1 h2 h3 h4 h3d h4d : Nat} {bh3 bh4 : ClassId} {f3 : Nat → Int32} {k3 : Nat} {A : Nat → Prop} {H : Heap} {a0 b0 : Nat → Int32} {a1 b1 : Nat} (e0 : a0 = b0) (e1 : a1 = b1) (h : va_P (dC, dI) vwCl [(h0, .inr (2, [.ref h1, .ref h2, .ref h3, .ref h4])), (h3, .inr (1, [.ref h3d, .int (nI k3)])), (h3d, .inl (bh3, 72, .inl f3)), (h4, .inr (1, [.ref h4d, .int (nI a1)])), (h4d, .inl (bh4, 72, .inl a0))] H ∧ va_D A [(h0, .inr (2, [.ref h1, .ref h2, .ref h3, .ref h4])), (h3, .inr (1, [.ref h3d, .int (nI k3)])), (h3d, .inl (bh3, 72, .inl f3)), (h4, .inr (1, [.ref h4d, .int (nI a1)])), (h4d, .inl (bh4, 72, .inl a0))]) : va_P (dC, dI) vwCl [(h0, .inr (2, [.ref h1, .ref h2, .ref h3, .ref h4])), (h3, .inr (1, [.ref h3d, .int (nI k3)])), (h3d, .inl (bh3, 72, .inl f3)), (h4, .inr (1, [.ref h4d, .int (nI b1)])), (h4d, .inl (bh4, 72, .inl b0))] H ∧ va_D A [(h0, .inr (2, [.ref h1, .ref h2, .ref h3, .ref h4])), (h3, .inr (1, [.ref h3d, .int (nI k3)])), (h3d, .inl (bh3, 72, .inl f3)), (h4, .inr (1, [.ref h4d, .int (nI b1)])), (h4d, .inl (bh4, 72, .inl b0))] := by
  subst e0
  subst e1
  exact h
abbrev WF_reciprocal (p : Program) (l : Launch) (e : Env) (s : State) (m : MethodId) (below : List Frame) (meth : Method) (c : Code) (dC : Nat → ClassId) (dI : Nat → Nat → Nat) (h0 h1 h2 h3 h4 h3d h4d : Nat) (bh3 bh4 : ClassId) (f3 : Nat → Int32) (k3 : Nat) (f4 : Nat → Int32) (k4 : Nat) (ln : Nat) (A : Nat → Prop) (H : Heap) (locs : List Loc) (g : JFrame) : Prop := W p l e (headSpec wF_reciprocal ({ frames := 2, cells := 0, slots := 0, locals := 44 })).room s m ([.ref h0, .int (nI ln)] : List Value).toArray below meth c H locs 0 0 (MQ below (va_Ql (fun (r : Int64) (_ : Unit) => r = pF_reciprocal f3 k3 f4 k4 ln) (fun _ => atF_reciprocal dC dI h0 h1 h2 h3 h4 h3d h4d bh3 bh4 f3 k3 f4 k4 ln A) A) ([.ref h0, .int (nI ln)] : List Value).toArray s 0 0 A) g
set_option maxHeartbeats 4000000 in
set_option maxRecDepth 100000 in
theorem kF_reciprocal (l : Launch) (dC : Nat → ClassId) (dI : Nat → Nat → Nat) (h0 h1 h2 h3 h4 h3d h4d : Nat) (bh3 bh4 : ClassId) (sz : Nat) (f3 : Nat → Int32) (k3 : Nat) (f4 : Nat → Int32) (k4 : Nat) (ln : Nat) (hk3 : k3 ≤ 72) (hln : 1 ≤ ln) (hln2 : ln ≤ 2160) : Met l yF_reciprocal wF_reciprocal ({ frames := 2, cells := 0, slots := 0, locals := 44 }) (va_Pc [.ref h0, .int (nI ln)] (fun U => U.heap.size = sz ∧ va_P (dC, dI) vwCl [(h0, .inr (2, [.ref h1, .ref h2, .ref h3, .ref h4])), (h3, .inr (1, [.ref h3d, .int (nI k3)])), (h3d, .inl (bh3, 72, .inl f3)), (h4, .inr (1, [.ref h4d, .int (nI k4)])), (h4d, .inl (bh4, 72, .inl f4))] U.heap ∧ va_K (dC, dI) vwCl [(bh3, .int), (bh4, .int)] U ∧ va_D (fun _ => True) [(h0, .inr (2, [.ref h1, .ref h2, .ref h3, .ref h4])), (h3, .inr (1, [.ref h3d, .int (nI k3)])), (h3d, .inl (bh3, 72, .inl f3)), (h4, .inr (1, [.ref h4d, .int (nI k4)])), (h4d, .inl (bh4, 72, .inl f4))] ∧ NW U)) (va_Ql (fun (r : Int64) (_ : Unit) => r = pF_reciprocal f3 k3 f4 k4 ln) (fun _ => atF_reciprocal dC dI h0 h1 h2 h3 h4 h3d h4d bh3 bh4 f3 k3 f4 k4 ln (va_A [(h0, .inr (2, [.ref h1, .ref h2, .ref h3, .ref h4])), (h3, .inr (1, [.ref h3d, .int (nI k3)])), (h3d, .inl (bh3, 72, .inl f3)), (h4, .inr (1, [.ref h4d, .int (nI k4)])), (h4d, .inl (bh4, 72, .inl f4))] sz)) (va_A [(h0, .inr (2, [.ref h1, .ref h2, .ref h3, .ref h4])), (h3, .inr (1, [.ref h3d, .int (nI k3)])), (h3d, .inl (bh3, 72, .inl f3)), (h4, .inr (1, [.ref h4d, .int (nI k4)])), (h4d, .inl (bh4, 72, .inl f4))] sz)) 0 0 (va_A [(h0, .inr (2, [.ref h1, .ref h2, .ref h3, .ref h4])), (h3, .inr (1, [.ref h3d, .int (nI k3)])), (h3d, .inl (bh3, 72, .inl f3)), (h4, .inr (1, [.ref h4d, .int (nI k4)])), (h4d, .inl (bh4, 72, .inl f4))] sz) := by
  refine Met.ofW (cc := cF_reciprocal) (maxL := 5) (ret := (some .long)) (by decide) rfl ?_
  intro p e s m args below meth c s₁ B hml hv
  obtain ⟨rfl, hsz, hP, hK, hD0, hN⟩ := hv
  have hx := B.exec
  have hb := B.bytes
  have hr := B.returns
  have hts := atoms_spec (ws := wF_reciprocal) B.pre
  have hown : s.vm.findClass RF = some m.cls := findClass_of_methodNamed B.named
  have hlocks := B.notSynchronized
  subst hsz
  have hD := hD0.self (sz := s.heap.size)
  generalize hAe : va_A [(h0, .inr (2, [.ref h1, .ref h2, .ref h3, .ref h4])), (h3, .inr (1, [.ref h3d, .int (nI k3)])), (h3d, .inl (bh3, 72, .inl f3)), (h4, .inr (1, [.ref h4d, .int (nI k4)])), (h4d, .inl (bh4, 72, .inl f4))] s.heap.size = A at hD ⊢
  have hA : ∀ q : Nat, s.heap.size ≤ q → A q := fun q h => by rw [← hAe]; exact Or.inr h
  have hS : va_S A s.heap s.heap [] := va_S.rf
  have hP : va_P (dC, dI) vwCl [(h0, .inr (2, [.ref h1, .ref h2, .ref h3, .ref h4])), (h3, .inr (1, [.ref h3d, .int (nI k3)])), (h3d, .inl (bh3, 72, .inl f3)), (h4, .inr (1, [.ref h4d, .int (nI k4)])), (h4d, .inl (bh4, 72, .inl f4))] s.heap := hP
  have hl := lv_entry ([.ref h0, .int (nI ln)]) (n := 5) (Nat.le_of_ble_eq_true rfl)
  rw [lg_entry_eq]
  generalize (lg_sl ([.ref h0, .int (nI ln)]) ++ List.replicate (5 - (lg_sl ([.ref h0, .int (nI ln)])).length) Slot.unset).toArray = ls at hl ⊢
  have hl : lv_has ls 5 [(0, .ref h0), (1, .int (nI ln))] := hl
  refine lv_aload_n hx hb dF_reciprocal_0 rfl (lv_at hl 0 rfl) ?_
  refine va_get (D := (dC, dI)) (ci := 2) (v := .ref h4) (C := RF) (T := TF) (N := 4) hx hb hts (inC iF) hown hK hP 0 rfl rfl 3 (by decide) (hts _ (List.mem_cons_of_mem _ m1_62)) (fun _ h9 => h9) rfl dF_reciprocal_1 ?_
  refine lv_iload_n hx hb dF_reciprocal_4 rfl (lv_at hl 1 rfl) ?_
  refine lv_iconst (v := 1) hx hb dF_reciprocal_5 (by decide) ?_
  refine lv_isub hx hb dF_reciprocal_6 ?_
  refine W.eq (g2 := F0 m 7 ls [.int (ni1 ln), .ref h4]) (congrArg (fun z => F0 m 7 ls [.int z, .ref h4]) ((rfl : nI ln - 1 = ni1 ln))) ?_
  refine W.eq (g2 := F0 m 7 ls [.int (nI (ln - 1)), .ref h4]) (congrArg (fun z => F0 m 7 ls [.int z, .ref h4]) ((ni1_p hln))) ?_
  have hPc := hP.sub (ws' := [(h4, .inr (1, [.ref h4d, .int (nI k4)])), (h4d, .inl (bh4, 72, .inl f4))]) [3, 4] rfl
  have hDc := hD.sub (ws' := [(h4, .inr (1, [.ref h4d, .int (nI k4)])), (h4d, .inl (bh4, 72, .inl f4))]) [3, 4] (by decide) rfl
  have hKc := hK.sub (tys' := [(bh4, .int)]) [1] rfl
  have hFc := va_free (wc := [(h4, .inr (1, [.ref h4d, .int (nI k4)])), (h4d, .inl (bh4, 72, .inl f4))]) hD hS hA [3, 4] rfl
  refine va_callv (va_runV (As := [.int (nI (ln - 1))]) (rest := []) ⟨hx, hb, hml, hown, hts⟩ (kN_setBit l dC dI h4 h4d bh4 s.heap.size f4 k4 (ln - 1) (by omega)) (cwV 1 hts (g_call (List.forall_mem_cons.mpr ⟨m2_23, List.forall_mem_cons.mpr ⟨m1_235, List.forall_mem_cons.mpr ⟨m1_236, List.forall_mem_cons.mpr ⟨m1_3, fun _ h => absurd h List.not_mem_nil⟩⟩⟩⟩) m1_237) rfl rfl rfl (by decide +kernel) ⟨Nat.le_of_ble_eq_true rfl, Nat.le_of_ble_eq_true rfl⟩) ⟨fun a U g mk q => by obtain ⟨q0, q1, qP, qK, qD, qN⟩ := q; exact ⟨q0, q1, qP, va_K.moved (u := U) (U := U.calling g mk a) (Vm.Alike.refl U.vm) qK, qD, NW.same (u := U) rfl qN⟩, va_recv hKc hPc (ci := 1) (q0 := 0) rfl rfl, fun U hU hW => ⟨rfl, by rw [hU], by rw [hU]; exact hPc, va_K.moved hW.alike hKc, hDc.weaken (fun _ _ _ _ => trivial), NW.warm hW hN⟩⟩ rfl rfl hl.1 rfl (lv_room (Nat.le_of_ble_eq_true rfl)) dF_reciprocal_7 ⟨Nat.le_of_ble_eq_true rfl, Nat.le_of_ble_eq_true rfl⟩) hS (fun q _ h => hFc q h) hFc (fun u9 t H1 locs ht hvm hw hB hz1 hk1 hS => ?_)
  obtain ⟨hP1, hK1, hD1⟩ := hB
  rw [ht] at hP1
  have hK1 := va_K.moved hvm.symm hK1
  have hP1 : va_P (dC, dI) vwCl [(h4, .inr (1, [.ref h4d, .int (nI (v_F_reciprocal_2 f3 k3 f4 k4 ln))])), (h4d, .inl (bh4, 72, .inl (v_F_reciprocal_1 f3 k3 f4 k4 ln)))] H1 := hP1
  have hD1 : va_D _ [(h4, .inr (1, [.ref h4d, .int (nI (v_F_reciprocal_2 f3 k3 f4 k4 ln))])), (h4d, .inl (bh4, 72, .inl (v_F_reciprocal_1 f3 k3 f4 k4 ln)))] := hD1
  obtain ⟨hP, hD⟩ := va_join (wr := [(h0, .inr (2, [.ref h1, .ref h2, .ref h3, .ref h4])), (h3, .inr (1, [.ref h3d, .int (nI k3)])), (h3d, .inl (bh3, 72, .inl f3))]) (w1 := [(h4, .inr (1, [.ref h4d, .int (nI (v_F_reciprocal_2 f3 k3 f4 k4 ln))])), (h4d, .inl (bh4, 72, .inl (v_F_reciprocal_1 f3 k3 f4 k4 ln)))]) hP hD [3, 4] [0, 1, 2] rfl rfl (by decide) (by decide) hk1 hFc hP1 hD1
  have hK := (hK.sub (tys' := [(bh3, .int)]) [0] rfl).app hK1
  generalize H1 = H at hP hS ⊢
  have hP : va_P (dC, dI) vwCl [(h0, .inr (2, [.ref h1, .ref h2, .ref h3, .ref h4])), (h3, .inr (1, [.ref h3d, .int (nI k3)])), (h3d, .inl (bh3, 72, .inl f3)), (h4, .inr (1, [.ref h4d, .int (nI (v_F_reciprocal_2 f3 k3 f4 k4 ln))])), (h4d, .inl (bh4, 72, .inl (v_F_reciprocal_1 f3 k3 f4 k4 ln)))] H := hP
  have hD : va_D A [(h0, .inr (2, [.ref h1, .ref h2, .ref h3, .ref h4])), (h3, .inr (1, [.ref h3d, .int (nI k3)])), (h3d, .inl (bh3, 72, .inl f3)), (h4, .inr (1, [.ref h4d, .int (nI (v_F_reciprocal_2 f3 k3 f4 k4 ln))])), (h4d, .inl (bh4, 72, .inl (v_F_reciprocal_1 f3 k3 f4 k4 ln)))] := hD
  have hK : va_K (dC, dI) vwCl [(bh3, .int), (bh4, .int)] s := hK
  refine lv_lconst (v := 0) hx hb dF_reciprocal_10 (by decide) ?_
  refine lv_lstore_n (lv' := [(2, .long (0 : Int64)), (0, .ref h0), (1, .int (nI ln))]) hx hb dF_reciprocal_11 rfl hl (by decide) rfl (fun ls hl => ?_)
  refine lv_iconst (v := 0) hx hb dF_reciprocal_12 (by decide) ?_
  refine lv_istore (lv' := [(4, .int (0 : Int32)), (2, .long (0 : Int64)), (0, .ref h0), (1, .int (nI ln))]) hx hb dF_reciprocal_13 hl (by decide) rfl (fun ls hl => ?_)
  have K_1 : ∀ (w_0 : Int64) (w_1 : Nat → Int32) (w_2 : Nat), (w_0, w_1, w_2) = qF_reciprocal_15 k3 f3 55 0 (0 : Int64) (v_F_reciprocal_1 f3 k3 f4 k4 ln) (v_F_reciprocal_2 f3 k3 f4 k4 ln) → ∀ (H : Heap) (locs : List Loc), va_K (dC, dI) vwCl [(bh3, .int), (bh4, .int)] s → va_P (dC, dI) vwCl [(h0, .inr (2, [.ref h1, .ref h2, .ref h3, .ref h4])), (h3, .inr (1, [.ref h3d, .int (nI k3)])), (h3d, .inl (bh3, 72, .inl f3)), (h4, .inr (1, [.ref h4d, .int (nI w_2)])), (h4d, .inl (bh4, 72, .inl w_1))] H → va_D A [(h0, .inr (2, [.ref h1, .ref h2, .ref h3, .ref h4])), (h3, .inr (1, [.ref h3d, .int (nI k3)])), (h3d, .inl (bh3, 72, .inl f3)), (h4, .inr (1, [.ref h4d, .int (nI w_2)])), (h4d, .inl (bh4, 72, .inl w_1))] → va_S A s.heap H locs → ∀ (ls : Array Slot), lv_has ls 5 [(2, .long w_0)] → WF_reciprocal p l e s m below meth c dC dI h0 h1 h2 h3 h4 h3d h4d bh3 bh4 f3 k3 f4 k4 ln A H locs (F0 m 68 ls []) := by
    intro w_0 w_1 w_2 hz
    have e_0 : w_0 = (v_F_reciprocal_3 f3 k3 f4 k4 ln) := (congrArg (fun q => q.1) hz)
    have e_1 : w_1 = (v_F_reciprocal_4 f3 k3 f4 k4 ln) := (congrArg (fun q => q.2.1) hz)
    have e_2 : w_2 = (v_F_reciprocal_5 f3 k3 f4 k4 ln) := (congrArg (fun q => q.2.2) hz)
    rw [e_0, e_1, e_2]
    intro H locs hK hP hD hS ls hl
    refine lv_lload_n hx hb dF_reciprocal_68 rfl (lv_at hl 0 rfl) ?_
    have e9 : (v_F_reciprocal_3 f3 k3 f4 k4 ln) = pF_reciprocal f3 k3 f4 k4 ln := (rfl).symm
    have e9_0 : (v_F_reciprocal_4 f3 k3 f4 k4 ln) = pF_reciprocal_0 f3 k3 f4 k4 ln := (rfl).symm
    have e9_1 : (v_F_reciprocal_5 f3 k3 f4 k4 ln) = pF_reciprocal_1 f3 k3 f4 k4 ln := (rfl).symm
    have hP9 := hP.sub (ws' := [(h0, .inr (2, [.ref h1, .ref h2, .ref h3, .ref h4])), (h3, .inr (1, [.ref h3d, .int (nI k3)])), (h3d, .inl (bh3, 72, .inl f3)), (h4, .inr (1, [.ref h4d, .int (nI (v_F_reciprocal_5 f3 k3 f4 k4 ln))])), (h4d, .inl (bh4, 72, .inl (v_F_reciprocal_4 f3 k3 f4 k4 ln)))]) [0, 1, 2, 3, 4] rfl
    have hD9 := hD.sub (ws' := [(h0, .inr (2, [.ref h1, .ref h2, .ref h3, .ref h4])), (h3, .inr (1, [.ref h3d, .int (nI k3)])), (h3d, .inl (bh3, 72, .inl f3)), (h4, .inr (1, [.ref h4d, .int (nI (v_F_reciprocal_5 f3 k3 f4 k4 ln))])), (h4d, .inl (bh4, 72, .inl (v_F_reciprocal_4 f3 k3 f4 k4 ln)))]) [0, 1, 2, 3, 4] (by decide) rfl
    have hK9 := hK.sub (tys' := [(bh3, .int), (bh4, .int)]) [0, 1] rfl
    have h9 := trF_reciprocal e9_0 e9_1 ⟨hP9, hD9⟩
    exact W.lret (v := (v_F_reciprocal_3 f3 k3 f4 k4 ln)) hx hb hr (fun t ht hW => ⟨⟨(v_F_reciprocal_3 f3 k3 f4 k4 ln), (), rfl, e9, by rw [ht]; exact h9.1, va_K.moved hW.alike hK9, h9.2⟩, hS.F ht⟩) hS.2.2 dF_reciprocal_69
  have L_1 : ∀ (n1 j1 : Nat) (y1_0 : Int64) (y1_1 : Nat → Int32) (y1_2 : Nat), j1 + n1 = 55 → y1_2 ≤ 72 → qF_reciprocal_15 k3 f3 n1 j1 y1_0 y1_1 y1_2 = qF_reciprocal_15 k3 f3 55 0 (0 : Int64) (v_F_reciprocal_1 f3 k3 f4 k4 ln) (v_F_reciprocal_2 f3 k3 f4 k4 ln) → ∀ (H : Heap) (locs : List Loc), va_K (dC, dI) vwCl [(bh3, .int), (bh4, .int)] s → va_P (dC, dI) vwCl [(h0, .inr (2, [.ref h1, .ref h2, .ref h3, .ref h4])), (h3, .inr (1, [.ref h3d, .int (nI k3)])), (h3d, .inl (bh3, 72, .inl f3)), (h4, .inr (1, [.ref h4d, .int (nI y1_2)])), (h4d, .inl (bh4, 72, .inl y1_1))] H → va_D A [(h0, .inr (2, [.ref h1, .ref h2, .ref h3, .ref h4])), (h3, .inr (1, [.ref h3d, .int (nI k3)])), (h3d, .inl (bh3, 72, .inl f3)), (h4, .inr (1, [.ref h4d, .int (nI y1_2)])), (h4d, .inl (bh4, 72, .inl y1_1))] → va_S A s.heap H locs → ∀ (ls : Array Slot), lv_has ls 5 [(0, .ref h0), (2, .long y1_0), (4, .int (nI j1))] → WF_reciprocal p l e s m below meth c dC dI h0 h1 h2 h3 h4 h3d h4d bh3 bh4 f3 k3 f4 k4 ln A H locs (F0 m 15 ls []) := by
    intro n1
    induction n1 with
    | zero =>
      intro j1 y1_0 y1_1 y1_2 hj hc hq H locs hK hP hD hS ls hl
      refine lv_iload hx hb dF_reciprocal_15 (lv_at hl 2 rfl) ?_
      refine lv_bipush (v := 55) hx hb dF_reciprocal_17 (by decide) ?_
      refine lv_icmp_ge (tgt := 68) hx hb dF_reciprocal_19 (by decide) (fun c_1 => ?_) (fun c_1 => ?_)
      rotate_left
      · exact absurd ((nI_leI (a := 55) (b := j1) (by omega) (by omega)).mpr (by omega)) c_1
      exact K_1 y1_0 y1_1 y1_2 (by exact hq) _ _ (hK.sub [0, 1] rfl) (hP.sub [0, 1, 2, 3, 4] rfl) (hD.sub [0, 1, 2, 3, 4] (by decide) rfl) hS ls (lv_sub hl [1] rfl)
    | succ n1 ih =>
      intro j1 y1_0 y1_1 y1_2 hj hc hq H locs hK hP hD hS ls hl
      refine lv_iload hx hb dF_reciprocal_15 (lv_at hl 2 rfl) ?_
      refine lv_bipush (v := 55) hx hb dF_reciprocal_17 (by decide) ?_
      refine lv_icmp_ge (tgt := 68) hx hb dF_reciprocal_19 (by decide) (fun c_2 => ?_) (fun c_2 => ?_)
      · exact absurd ((nI_leI (a := 55) (b := j1) (by omega) (by omega)).mp c_2) (by omega)
      refine lv_aload_n hx hb dF_reciprocal_22 rfl (lv_at hl 0 rfl) ?_
      refine va_get (D := (dC, dI)) (ci := 2) (v := .ref h4) (C := RF) (T := TF) (N := 4) hx hb hts (inC iF) hown hK hP 0 rfl rfl 3 (by decide) (hts _ (List.mem_cons_of_mem _ m1_62)) (fun _ h9 => h9) rfl dF_reciprocal_23 ?_
      have hPc := hP.sub (ws' := [(h4, .inr (1, [.ref h4d, .int (nI y1_2)])), (h4d, .inl (bh4, 72, .inl y1_1))]) [3, 4] rfl
      have hDc := hD.sub (ws' := [(h4, .inr (1, [.ref h4d, .int (nI y1_2)])), (h4d, .inl (bh4, 72, .inl y1_1))]) [3, 4] (by decide) rfl
      have hKc := hK.sub (tys' := [(bh4, .int)]) [1] rfl
      have hFc := va_free (wc := [(h4, .inr (1, [.ref h4d, .int (nI y1_2)])), (h4d, .inl (bh4, 72, .inl y1_1))]) hD hS hA [3, 4] rfl
      refine va_callv (va_runV (As := []) (rest := []) ⟨hx, hb, hml, hown, hts⟩ (kN_twice l dC dI h4 h4d bh4 H.size y1_1 y1_2 hc) (cwV 0 hts (g_call (List.forall_mem_cons.mpr ⟨m2_24, List.forall_mem_cons.mpr ⟨m2_25, List.forall_mem_cons.mpr ⟨m2_26, List.forall_mem_cons.mpr ⟨m1_3, fun _ h => absurd h List.not_mem_nil⟩⟩⟩⟩) m2_27) rfl rfl rfl (by decide +kernel) ⟨Nat.le_of_ble_eq_true rfl, Nat.le_of_ble_eq_true rfl⟩) ⟨fun a U g mk q => by obtain ⟨q0, q1, qP, qK, qD, qN⟩ := q; exact ⟨q0, q1, qP, va_K.moved (u := U) (U := U.calling g mk a) (Vm.Alike.refl U.vm) qK, qD, NW.same (u := U) rfl qN⟩, va_recv hKc hPc (ci := 1) (q0 := 0) rfl rfl, fun U hU hW => ⟨rfl, by rw [hU], by rw [hU]; exact hPc, va_K.moved hW.alike hKc, hDc.weaken (fun _ _ _ _ => trivial), NW.warm hW hN⟩⟩ rfl rfl hl.1 rfl (lv_room (Nat.le_of_ble_eq_true rfl)) dF_reciprocal_26 ⟨Nat.le_of_ble_eq_true rfl, Nat.le_of_ble_eq_true rfl⟩) hS (fun q _ h => hFc q h) hFc (fun u9 t H1 locs ht hvm hw hB hz1 hk1 hS => ?_)
      obtain ⟨hP1, hK1, hD1⟩ := hB
      rw [ht] at hP1
      have hK1 := va_K.moved hvm.symm hK1
      have hP1 : va_P (dC, dI) vwCl [(h4, .inr (1, [.ref h4d, .int (nI (v_F_reciprocal_7 k3 f3 j1 y1_0 y1_1 y1_2))])), (h4d, .inl (bh4, 72, .inl (v_F_reciprocal_6 k3 f3 j1 y1_0 y1_1 y1_2)))] H1 := hP1
      have hD1 : va_D _ [(h4, .inr (1, [.ref h4d, .int (nI (v_F_reciprocal_7 k3 f3 j1 y1_0 y1_1 y1_2))])), (h4d, .inl (bh4, 72, .inl (v_F_reciprocal_6 k3 f3 j1 y1_0 y1_1 y1_2)))] := hD1
      obtain ⟨hP, hD⟩ := va_join (wr := [(h0, .inr (2, [.ref h1, .ref h2, .ref h3, .ref h4])), (h3, .inr (1, [.ref h3d, .int (nI k3)])), (h3d, .inl (bh3, 72, .inl f3))]) (w1 := [(h4, .inr (1, [.ref h4d, .int (nI (v_F_reciprocal_7 k3 f3 j1 y1_0 y1_1 y1_2))])), (h4d, .inl (bh4, 72, .inl (v_F_reciprocal_6 k3 f3 j1 y1_0 y1_1 y1_2)))]) hP hD [3, 4] [0, 1, 2] rfl rfl (by decide) (by decide) hk1 hFc hP1 hD1
      have hK := (hK.sub (tys' := [(bh3, .int)]) [0] rfl).app hK1
      generalize H1 = H at hP hS ⊢
      have hP : va_P (dC, dI) vwCl [(h0, .inr (2, [.ref h1, .ref h2, .ref h3, .ref h4])), (h3, .inr (1, [.ref h3d, .int (nI k3)])), (h3d, .inl (bh3, 72, .inl f3)), (h4, .inr (1, [.ref h4d, .int (nI (v_F_reciprocal_7 k3 f3 j1 y1_0 y1_1 y1_2))])), (h4d, .inl (bh4, 72, .inl (v_F_reciprocal_6 k3 f3 j1 y1_0 y1_1 y1_2)))] H := hP
      have hD : va_D A [(h0, .inr (2, [.ref h1, .ref h2, .ref h3, .ref h4])), (h3, .inr (1, [.ref h3d, .int (nI k3)])), (h3d, .inl (bh3, 72, .inl f3)), (h4, .inr (1, [.ref h4d, .int (nI (v_F_reciprocal_7 k3 f3 j1 y1_0 y1_1 y1_2))])), (h4d, .inl (bh4, 72, .inl (v_F_reciprocal_6 k3 f3 j1 y1_0 y1_1 y1_2)))] := hD
      have hK : va_K (dC, dI) vwCl [(bh3, .int), (bh4, .int)] s := hK
      refine lv_lload_n hx hb dF_reciprocal_29 rfl (lv_at hl 1 rfl) ?_
      refine lv_iconst (v := 1) hx hb dF_reciprocal_30 (by decide) ?_
      refine lv_lshl (v := jlshl y1_0 (1 : Int32)) hx hb dF_reciprocal_31 rfl ?_
      refine lv_topl (fun w9 e9 => ?_)
      have e9 : w9 = (v_F_reciprocal_8 k3 f3 j1 y1_0 y1_1 y1_2) := e9
      rw [e9]
      refine lv_lstore_n (lv' := [(2, .long (v_F_reciprocal_8 k3 f3 j1 y1_0 y1_1 y1_2)), (0, .ref h0), (4, .int (nI j1))]) hx hb dF_reciprocal_32 rfl hl (by decide) rfl (fun ls hl => ?_)
      refine lv_aload_n hx hb dF_reciprocal_33 rfl (lv_at hl 1 rfl) ?_
      refine va_get (D := (dC, dI)) (ci := 2) (v := .ref h4) (C := RF) (T := TF) (N := 4) hx hb hts (inC iF) hown hK hP 0 rfl rfl 3 (by decide) (hts _ (List.mem_cons_of_mem _ m1_62)) (fun _ h9 => h9) rfl dF_reciprocal_34 ?_
      refine lv_aload_n hx hb dF_reciprocal_37 rfl (lv_at hl 1 rfl) ?_
      refine va_get (D := (dC, dI)) (ci := 2) (v := .ref h3) (C := RF) (T := TF) (N := 4) hx hb hts (inC iF) hown hK hP 0 rfl rfl 2 (by decide) (hts _ (List.mem_cons_of_mem _ m1_61)) (fun _ h9 => h9) rfl dF_reciprocal_38 ?_
      have hPc := hP.sub (ws' := [(h4, .inr (1, [.ref h4d, .int (nI (v_F_reciprocal_7 k3 f3 j1 y1_0 y1_1 y1_2))])), (h4d, .inl (bh4, 72, .inl (v_F_reciprocal_6 k3 f3 j1 y1_0 y1_1 y1_2))), (h3, .inr (1, [.ref h3d, .int (nI k3)])), (h3d, .inl (bh3, 72, .inl f3))]) [3, 4, 1, 2] rfl
      have hDc := hD.sub (ws' := [(h4, .inr (1, [.ref h4d, .int (nI (v_F_reciprocal_7 k3 f3 j1 y1_0 y1_1 y1_2))])), (h4d, .inl (bh4, 72, .inl (v_F_reciprocal_6 k3 f3 j1 y1_0 y1_1 y1_2))), (h3, .inr (1, [.ref h3d, .int (nI k3)])), (h3d, .inl (bh3, 72, .inl f3))]) [3, 4, 1, 2] (by decide) rfl
      have hKc := hK.sub (tys' := [(bh4, .int), (bh3, .int)]) [1, 0] rfl
      have hFc := va_free (wc := [(h4, .inr (1, [.ref h4d, .int (nI (v_F_reciprocal_7 k3 f3 j1 y1_0 y1_1 y1_2))])), (h4d, .inl (bh4, 72, .inl (v_F_reciprocal_6 k3 f3 j1 y1_0 y1_1 y1_2))), (h3, .inr (1, [.ref h3d, .int (nI k3)])), (h3d, .inl (bh3, 72, .inl f3))]) hD hS hA [3, 4, 1, 2] rfl
      refine va_calli (va_runV (As := [.ref h3]) (rest := []) ⟨hx, hb, hml, hown, hts⟩ (kN_isBelow l dC dI h4 h4d h3 h3d bh4 bh3 H.size (v_F_reciprocal_6 k3 f3 j1 y1_0 y1_1 y1_2) (v_F_reciprocal_7 k3 f3 j1 y1_0 y1_1 y1_2) f3 k3 (twice_le hc) hk3) (cwV 1 hts (g_call (List.forall_mem_cons.mpr ⟨m2_29, List.forall_mem_cons.mpr ⟨m2_30, List.forall_mem_cons.mpr ⟨m2_31, List.forall_mem_cons.mpr ⟨m1_3, fun _ h => absurd h List.not_mem_nil⟩⟩⟩⟩) m2_32) rfl rfl rfl (by decide +kernel) ⟨Nat.le_of_ble_eq_true rfl, Nat.le_of_ble_eq_true rfl⟩) ⟨fun a U g mk q => by obtain ⟨q0, q1, qP, qK, qD, qN⟩ := q; exact ⟨q0, q1, qP, va_K.moved (u := U) (U := U.calling g mk a) (Vm.Alike.refl U.vm) qK, qD, NW.same (u := U) rfl qN⟩, va_recv hKc hPc (ci := 1) (q0 := 0) rfl rfl, fun U hU hW => ⟨rfl, by rw [hU], by rw [hU]; exact hPc, va_K.moved hW.alike hKc, hDc.weaken (fun _ _ _ _ => trivial), NW.warm hW hN⟩⟩ rfl rfl hl.1 rfl (lv_room (Nat.le_of_ble_eq_true rfl)) dF_reciprocal_41 ⟨Nat.le_of_ble_eq_true rfl, Nat.le_of_ble_eq_true rfl⟩) hS (fun q _ h => hFc q h) hFc (fun w9 u9 t H1 locs ht hvm hw hB hz1 hk1 hS => ?_)
      have e9 : w9 = bI (v_F_reciprocal_9 k3 f3 j1 y1_0 y1_1 y1_2) := hw
      rw [e9]
      obtain ⟨hP1, hK1, hD1⟩ := hB
      rw [ht] at hP1
      have hK1 := va_K.moved hvm.symm hK1
      have hP1 : va_P (dC, dI) vwCl [(h4, .inr (1, [.ref h4d, .int (nI (v_F_reciprocal_7 k3 f3 j1 y1_0 y1_1 y1_2))])), (h4d, .inl (bh4, 72, .inl (v_F_reciprocal_6 k3 f3 j1 y1_0 y1_1 y1_2))), (h3, .inr (1, [.ref h3d, .int (nI k3)])), (h3d, .inl (bh3, 72, .inl f3))] H1 := hP1
      have hD1 : va_D _ [(h4, .inr (1, [.ref h4d, .int (nI (v_F_reciprocal_7 k3 f3 j1 y1_0 y1_1 y1_2))])), (h4d, .inl (bh4, 72, .inl (v_F_reciprocal_6 k3 f3 j1 y1_0 y1_1 y1_2))), (h3, .inr (1, [.ref h3d, .int (nI k3)])), (h3d, .inl (bh3, 72, .inl f3))] := hD1
      obtain ⟨hP, hD⟩ := va_join (wr := [(h0, .inr (2, [.ref h1, .ref h2, .ref h3, .ref h4]))]) (w1 := [(h4, .inr (1, [.ref h4d, .int (nI (v_F_reciprocal_7 k3 f3 j1 y1_0 y1_1 y1_2))])), (h4d, .inl (bh4, 72, .inl (v_F_reciprocal_6 k3 f3 j1 y1_0 y1_1 y1_2))), (h3, .inr (1, [.ref h3d, .int (nI k3)])), (h3d, .inl (bh3, 72, .inl f3))]) hP hD [3, 4, 1, 2] [0] rfl rfl (by decide) (by decide) hk1 hFc hP1 hD1
      have hK := (hK.sub (tys' := []) [] rfl).app hK1
      generalize H1 = H at hP hS ⊢
      have hP : va_P (dC, dI) vwCl [(h0, .inr (2, [.ref h1, .ref h2, .ref h3, .ref h4])), (h4, .inr (1, [.ref h4d, .int (nI (v_F_reciprocal_7 k3 f3 j1 y1_0 y1_1 y1_2))])), (h4d, .inl (bh4, 72, .inl (v_F_reciprocal_6 k3 f3 j1 y1_0 y1_1 y1_2))), (h3, .inr (1, [.ref h3d, .int (nI k3)])), (h3d, .inl (bh3, 72, .inl f3))] H := hP
      have hD : va_D A [(h0, .inr (2, [.ref h1, .ref h2, .ref h3, .ref h4])), (h4, .inr (1, [.ref h4d, .int (nI (v_F_reciprocal_7 k3 f3 j1 y1_0 y1_1 y1_2))])), (h4d, .inl (bh4, 72, .inl (v_F_reciprocal_6 k3 f3 j1 y1_0 y1_1 y1_2))), (h3, .inr (1, [.ref h3d, .int (nI k3)])), (h3d, .inl (bh3, 72, .inl f3))] := hD
      have hK : va_K (dC, dI) vwCl [(bh4, .int), (bh3, .int)] s := hK
      have J_1 : ∀ (w_0 : Int64), w_0 = (v_F_reciprocal_13 k3 f3 j1 y1_0 y1_1 y1_2) → ∀ (w_1 : Nat), w_1 = (v_F_reciprocal_14 k3 f3 j1 y1_0 y1_1 y1_2) → ∀ (w_2 : Nat → Int32), w_2 = (v_F_reciprocal_15 k3 f3 j1 y1_0 y1_1 y1_2) → ∀ (H : Heap) (locs : List Loc), va_K (dC, dI) vwCl [(bh4, .int), (bh3, .int)] s → va_P (dC, dI) vwCl [(h0, .inr (2, [.ref h1, .ref h2, .ref h3, .ref h4])), (h4, .inr (1, [.ref h4d, .int (nI w_1)])), (h4d, .inl (bh4, 72, .inl w_2)), (h3, .inr (1, [.ref h3d, .int (nI k3)])), (h3d, .inl (bh3, 72, .inl f3))] H → va_D A [(h0, .inr (2, [.ref h1, .ref h2, .ref h3, .ref h4])), (h4, .inr (1, [.ref h4d, .int (nI w_1)])), (h4d, .inl (bh4, 72, .inl w_2)), (h3, .inr (1, [.ref h3d, .int (nI k3)])), (h3d, .inl (bh3, 72, .inl f3))] → va_S A s.heap H locs → ∀ (ls : Array Slot), lv_has ls 5 [(0, .ref h0), (2, .long w_0), (4, .int (nI j1))] → WF_reciprocal p l e s m below meth c dC dI h0 h1 h2 h3 h4 h3d h4d bh3 bh4 f3 k3 f4 k4 ln A H locs (F0 m 62 ls []) := by
        intro w_0 e_0
        rw [e_0]
        intro w_1 e_1
        rw [e_1]
        intro w_2 e_2
        rw [e_2]
        intro H locs hK hP hD hS ls hl
        refine lv_iinc (v := (nI (j1 + 1))) (lv' := [(4, .int (nI (j1 + 1))), (0, .ref h0), (2, .long (v_F_reciprocal_13 k3 f3 j1 y1_0 y1_1 y1_2))]) hx hb dF_reciprocal_62 hl (k := 2) rfl (nI_1 _) (by decide) rfl (fun ls hl => ?_)
        refine lv_goto (tgt := 15) hx hb dF_reciprocal_65 (by decide) ?_
        exact ih (j1 + 1) (v_F_reciprocal_13 k3 f3 j1 y1_0 y1_1 y1_2) (v_F_reciprocal_15 k3 f3 j1 y1_0 y1_1 y1_2) (v_F_reciprocal_14 k3 f3 j1 y1_0 y1_1 y1_2) (by omega) (rc_le hc) (by exact hq) _ _ (hK.sub [1, 0] rfl) (hP.sub [0, 3, 4, 1, 2] rfl) (hD.sub [0, 3, 4, 1, 2] (by decide) rfl) hS ls (lv_sub hl [1, 2, 0] rfl)
      refine kb_ne (tgt := 62) hx hb dF_reciprocal_44 (by decide) (fun c_3 => ?_) (fun c_3 => ?_)
      · exact J_1 (v_F_reciprocal_8 k3 f3 j1 y1_0 y1_1 y1_2) ((if_pos c_3)).symm (v_F_reciprocal_7 k3 f3 j1 y1_0 y1_1 y1_2) ((if_pos c_3)).symm (v_F_reciprocal_6 k3 f3 j1 y1_0 y1_1 y1_2) ((if_pos c_3)).symm _ _ (hK.sub [0, 1] rfl) (hP.sub [0, 1, 2, 3, 4] rfl) (hD.sub [0, 1, 2, 3, 4] (by decide) rfl) hS ls (lv_sub hl [1, 0, 2] rfl)
      · refine lv_aload_n hx hb dF_reciprocal_47 rfl (lv_at hl 1 rfl) ?_
        refine va_get (D := (dC, dI)) (ci := 2) (v := .ref h4) (C := RF) (T := TF) (N := 4) hx hb hts (inC iF) hown hK hP 0 rfl rfl 3 (by decide) (hts _ (List.mem_cons_of_mem _ m1_62)) (fun _ h9 => h9) rfl dF_reciprocal_48 ?_
        refine lv_aload_n hx hb dF_reciprocal_51 rfl (lv_at hl 1 rfl) ?_
        refine va_get (D := (dC, dI)) (ci := 2) (v := .ref h3) (C := RF) (T := TF) (N := 4) hx hb hts (inC iF) hown hK hP 0 rfl rfl 2 (by decide) (hts _ (List.mem_cons_of_mem _ m1_61)) (fun _ h9 => h9) rfl dF_reciprocal_52 ?_
        have hPc := hP.sub (ws' := [(h4, .inr (1, [.ref h4d, .int (nI (v_F_reciprocal_7 k3 f3 j1 y1_0 y1_1 y1_2))])), (h4d, .inl (bh4, 72, .inl (v_F_reciprocal_6 k3 f3 j1 y1_0 y1_1 y1_2))), (h3, .inr (1, [.ref h3d, .int (nI k3)])), (h3d, .inl (bh3, 72, .inl f3))]) [1, 2, 3, 4] rfl
        have hDc := hD.sub (ws' := [(h4, .inr (1, [.ref h4d, .int (nI (v_F_reciprocal_7 k3 f3 j1 y1_0 y1_1 y1_2))])), (h4d, .inl (bh4, 72, .inl (v_F_reciprocal_6 k3 f3 j1 y1_0 y1_1 y1_2))), (h3, .inr (1, [.ref h3d, .int (nI k3)])), (h3d, .inl (bh3, 72, .inl f3))]) [1, 2, 3, 4] (by decide) rfl
        have hKc := hK.sub (tys' := [(bh4, .int), (bh3, .int)]) [0, 1] rfl
        have hFc := va_free (wc := [(h4, .inr (1, [.ref h4d, .int (nI (v_F_reciprocal_7 k3 f3 j1 y1_0 y1_1 y1_2))])), (h4d, .inl (bh4, 72, .inl (v_F_reciprocal_6 k3 f3 j1 y1_0 y1_1 y1_2))), (h3, .inr (1, [.ref h3d, .int (nI k3)])), (h3d, .inl (bh3, 72, .inl f3))]) hD hS hA [1, 2, 3, 4] rfl
        refine va_callv (va_runV (As := [.ref h3]) (rest := []) ⟨hx, hb, hml, hown, hts⟩ (kN_take l dC dI h4 h4d h3 h3d bh4 bh3 H.size (v_F_reciprocal_6 k3 f3 j1 y1_0 y1_1 y1_2) (v_F_reciprocal_7 k3 f3 j1 y1_0 y1_1 y1_2) f3 k3 (twice_le hc) hk3) (cwV 1 hts (g_call (List.forall_mem_cons.mpr ⟨m2_34, List.forall_mem_cons.mpr ⟨m2_35, List.forall_mem_cons.mpr ⟨m2_36, List.forall_mem_cons.mpr ⟨m1_3, fun _ h => absurd h List.not_mem_nil⟩⟩⟩⟩) m2_37) rfl rfl rfl (by decide +kernel) ⟨Nat.le_of_ble_eq_true rfl, Nat.le_of_ble_eq_true rfl⟩) ⟨fun a U g mk q => by obtain ⟨q0, q1, qP, qK, qD, qN⟩ := q; exact ⟨q0, q1, qP, va_K.moved (u := U) (U := U.calling g mk a) (Vm.Alike.refl U.vm) qK, qD, NW.same (u := U) rfl qN⟩, va_recv hKc hPc (ci := 1) (q0 := 0) rfl rfl, fun U hU hW => ⟨rfl, by rw [hU], by rw [hU]; exact hPc, va_K.moved hW.alike hKc, hDc.weaken (fun _ _ _ _ => trivial), NW.warm hW hN⟩⟩ rfl rfl hl.1 rfl (lv_room (Nat.le_of_ble_eq_true rfl)) dF_reciprocal_55 ⟨Nat.le_of_ble_eq_true rfl, Nat.le_of_ble_eq_true rfl⟩) hS (fun q _ h => hFc q h) hFc (fun u9 t H1 locs ht hvm hw hB hz1 hk1 hS => ?_)
        obtain ⟨hP1, hK1, hD1⟩ := hB
        rw [ht] at hP1
        have hK1 := va_K.moved hvm.symm hK1
        have hP1 : va_P (dC, dI) vwCl [(h4, .inr (1, [.ref h4d, .int (nI (v_F_reciprocal_11 k3 f3 j1 y1_0 y1_1 y1_2))])), (h4d, .inl (bh4, 72, .inl (v_F_reciprocal_10 k3 f3 j1 y1_0 y1_1 y1_2))), (h3, .inr (1, [.ref h3d, .int (nI k3)])), (h3d, .inl (bh3, 72, .inl f3))] H1 := hP1
        have hD1 : va_D _ [(h4, .inr (1, [.ref h4d, .int (nI (v_F_reciprocal_11 k3 f3 j1 y1_0 y1_1 y1_2))])), (h4d, .inl (bh4, 72, .inl (v_F_reciprocal_10 k3 f3 j1 y1_0 y1_1 y1_2))), (h3, .inr (1, [.ref h3d, .int (nI k3)])), (h3d, .inl (bh3, 72, .inl f3))] := hD1
        obtain ⟨hP, hD⟩ := va_join (wr := [(h0, .inr (2, [.ref h1, .ref h2, .ref h3, .ref h4]))]) (w1 := [(h4, .inr (1, [.ref h4d, .int (nI (v_F_reciprocal_11 k3 f3 j1 y1_0 y1_1 y1_2))])), (h4d, .inl (bh4, 72, .inl (v_F_reciprocal_10 k3 f3 j1 y1_0 y1_1 y1_2))), (h3, .inr (1, [.ref h3d, .int (nI k3)])), (h3d, .inl (bh3, 72, .inl f3))]) hP hD [1, 2, 3, 4] [0] rfl rfl (by decide) (by decide) hk1 hFc hP1 hD1
        have hK := (hK.sub (tys' := []) [] rfl).app hK1
        generalize H1 = H at hP hS ⊢
        have hP : va_P (dC, dI) vwCl [(h0, .inr (2, [.ref h1, .ref h2, .ref h3, .ref h4])), (h4, .inr (1, [.ref h4d, .int (nI (v_F_reciprocal_11 k3 f3 j1 y1_0 y1_1 y1_2))])), (h4d, .inl (bh4, 72, .inl (v_F_reciprocal_10 k3 f3 j1 y1_0 y1_1 y1_2))), (h3, .inr (1, [.ref h3d, .int (nI k3)])), (h3d, .inl (bh3, 72, .inl f3))] H := hP
        have hD : va_D A [(h0, .inr (2, [.ref h1, .ref h2, .ref h3, .ref h4])), (h4, .inr (1, [.ref h4d, .int (nI (v_F_reciprocal_11 k3 f3 j1 y1_0 y1_1 y1_2))])), (h4d, .inl (bh4, 72, .inl (v_F_reciprocal_10 k3 f3 j1 y1_0 y1_1 y1_2))), (h3, .inr (1, [.ref h3d, .int (nI k3)])), (h3d, .inl (bh3, 72, .inl f3))] := hD
        have hK : va_K (dC, dI) vwCl [(bh4, .int), (bh3, .int)] s := hK
        refine lv_lload_n hx hb dF_reciprocal_58 rfl (lv_at hl 0 rfl) ?_
        refine lv_lconst (v := 1) hx hb dF_reciprocal_59 (by decide) ?_
        refine lv_lor hx hb dF_reciprocal_60 ?_
        refine lv_topl (fun w9 e9 => ?_)
        have e9 : w9 = (v_F_reciprocal_12 k3 f3 j1 y1_0 y1_1 y1_2) := e9
        rw [e9]
        refine lv_lstore_n (lv' := [(2, .long (v_F_reciprocal_12 k3 f3 j1 y1_0 y1_1 y1_2)), (0, .ref h0), (4, .int (nI j1))]) hx hb dF_reciprocal_61 rfl hl (by decide) rfl (fun ls hl => ?_)
        exact J_1 (v_F_reciprocal_12 k3 f3 j1 y1_0 y1_1 y1_2) ((if_neg c_3)).symm (v_F_reciprocal_11 k3 f3 j1 y1_0 y1_1 y1_2) ((if_neg c_3)).symm (v_F_reciprocal_10 k3 f3 j1 y1_0 y1_1 y1_2) ((if_neg c_3)).symm _ _ (hK.sub [0, 1] rfl) (hP.sub [0, 1, 2, 3, 4] rfl) (hD.sub [0, 1, 2, 3, 4] (by decide) rfl) hS ls (lv_sub hl [1, 0, 2] rfl)
  exact L_1 55 0 (0 : Int64) (v_F_reciprocal_1 f3 k3 f4 k4 ln) (v_F_reciprocal_2 f3 k3 f4 k4 ln) (by omega) (by show (ln - 1) / 30 + 1 ≤ 72; omega) rfl _ _ (hK.sub [0, 1] rfl) (hP.sub [0, 1, 2, 3, 4] rfl) (hD.sub [0, 1, 2, 3, 4] (by decide) rfl) hS ls (lv_sub hl [2, 1, 0] rfl)
