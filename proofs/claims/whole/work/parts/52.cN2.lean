def v_N_setPower_1 (f : Nat → Int32) (k : Nat) (b : Int64) (tm : Nat) : Nat → Int32 := pN_setBit_0 f k 0
def v_N_setPower_2 (f : Nat → Int32) (k : Nat) (b : Int64) (tm : Nat) : Nat := pN_setBit_1 f k 0
def v_N_setPower_5 (b : Int64) (j1 : Nat) (y1_0 : Nat → Int32) (y1_1 : Nat) : Nat → Int32 := pN_scale_0 y1_0 y1_1 b
def v_N_setPower_6 (b : Int64) (j1 : Nat) (y1_0 : Nat → Int32) (y1_1 : Nat) : Nat := pN_scale_1 y1_0 y1_1 b
def qN_setPower_8 (b : Int64) : Nat → Nat → (Nat → Int32) → Nat → (Nat → Int32) × Nat
  | 0, j1, y1_0, y1_1 => (y1_0, y1_1)
  | n1 + 1, j1, y1_0, y1_1 => qN_setPower_8 b n1 (j1 + 1) (v_N_setPower_5 b j1 y1_0 y1_1) (v_N_setPower_6 b j1 y1_0 y1_1)
def v_N_setPower_3 (f : Nat → Int32) (k : Nat) (b : Int64) (tm : Nat) : Nat → Int32 := (qN_setPower_8 b tm 0 (v_N_setPower_1 f k b tm) (v_N_setPower_2 f k b tm)).1
def v_N_setPower_4 (f : Nat → Int32) (k : Nat) (b : Int64) (tm : Nat) : Nat := (qN_setPower_8 b tm 0 (v_N_setPower_1 f k b tm) (v_N_setPower_2 f k b tm)).2
def pN_setPower_0 (f : Nat → Int32) (k : Nat) (b : Int64) (tm : Nat) : Nat → Int32 := (v_N_setPower_3 f k b tm)
def pN_setPower_1 (f : Nat → Int32) (k : Nat) (b : Int64) (tm : Nat) : Nat := (v_N_setPower_4 f k b tm)
/-- N_setPower -/
abbrev atN_setPower (dC : Nat → ClassId) (dI : Nat → Nat → Nat) (h0 h0d : Nat) (bh0 : ClassId) (f : Nat → Int32) (k : Nat) (b : Int64) (tm : Nat) (A : Nat → Prop) (t : State) : Prop := va_P (dC, dI) vwCl [(h0, .inr (1, [.ref h0d, .int (nI (pN_setPower_1 f k b tm))])), (h0d, .inl (bh0, 72, .inl (pN_setPower_0 f k b tm)))] t.heap ∧ va_K (dC, dI) vwCl [(bh0, .int)] t ∧ va_D A [(h0, .inr (1, [.ref h0d, .int (nI (pN_setPower_1 f k b tm))])), (h0d, .inl (bh0, 72, .inl (pN_setPower_0 f k b tm)))]
theorem trN_setPower {dC : Nat → ClassId} {dI : Nat → Nat → Nat} {h0 h0d : Nat} {bh0 : ClassId} {A : Nat → Prop} {H : Heap} {a0 b0 : Nat → Int32} {a1 b1 : Nat} (e0 : a0 = b0) (e1 : a1 = b1) (h : va_P (dC, dI) vwCl [(h0, .inr (1, [.ref h0d, .int (nI a1)])), (h0d, .inl (bh0, 72, .inl a0))] H ∧ va_D A [(h0, .inr (1, [.ref h0d, .int (nI a1)])), (h0d, .inl (bh0, 72, .inl a0))]) : va_P (dC, dI) vwCl [(h0, .inr (1, [.ref h0d, .int (nI b1)])), (h0d, .inl (bh0, 72, .inl b0))] H ∧ va_D A [(h0, .inr (1, [.ref h0d, .int (nI b1)])), (h0d, .inl (bh0, 72, .inl b0))] := by
  subst e0
  subst e1
  exact h
abbrev WN_setPower (p : Program) (l : Launch) (e : Env) (s : State) (m : MethodId) (below : List Frame) (meth : Method) (c : Code) (dC : Nat → ClassId) (dI : Nat → Nat → Nat) (h0 h0d : Nat) (bh0 : ClassId) (f : Nat → Int32) (k : Nat) (b : Int64) (tm : Nat) (A : Nat → Prop) (H : Heap) (locs : List Loc) (g : JFrame) : Prop := W p l e (headSpec wN_setPower ({ frames := 2, cells := 0, slots := 0, locals := 56 })).room s m ([.ref h0, .long b, .int (nI tm)] : List Value).toArray below meth c H locs 0 0 (MQ below (va_Qv (fun (_ : Unit) => True) (fun _ => atN_setPower dC dI h0 h0d bh0 f k b tm A) A) ([.ref h0, .long b, .int (nI tm)] : List Value).toArray s 0 0 A) g
set_option maxHeartbeats 4000000 in
set_option maxRecDepth 100000 in
theorem kN_setPower (l : Launch) (dC : Nat → ClassId) (dI : Nat → Nat → Nat) (h0 h0d : Nat) (bh0 : ClassId) (sz : Nat) (f : Nat → Int32) (k : Nat) (b : Int64) (tm : Nat) (htm : tm ≤ 40) : Met l yN_setPower wN_setPower ({ frames := 2, cells := 0, slots := 0, locals := 56 }) (va_Pc [.ref h0, .long b, .int (nI tm)] (fun U => U.heap.size = sz ∧ va_P (dC, dI) vwCl [(h0, .inr (1, [.ref h0d, .int (nI k)])), (h0d, .inl (bh0, 72, .inl f))] U.heap ∧ va_K (dC, dI) vwCl [(bh0, .int)] U ∧ va_D (fun _ => True) [(h0, .inr (1, [.ref h0d, .int (nI k)])), (h0d, .inl (bh0, 72, .inl f))] ∧ NW U)) (va_Qv (fun (_ : Unit) => True) (fun _ => atN_setPower dC dI h0 h0d bh0 f k b tm (va_A [(h0, .inr (1, [.ref h0d, .int (nI k)])), (h0d, .inl (bh0, 72, .inl f))] sz)) (va_A [(h0, .inr (1, [.ref h0d, .int (nI k)])), (h0d, .inl (bh0, 72, .inl f))] sz)) 0 0 (va_A [(h0, .inr (1, [.ref h0d, .int (nI k)])), (h0d, .inl (bh0, 72, .inl f))] sz) := by
  refine Met.ofW (cc := cN_setPower) (maxL := 5) (ret := none) (by decide) rfl ?_
  intro p e s m args below meth c s₁ B hml hv
  obtain ⟨rfl, hsz, hP, hK, hD0, hN⟩ := hv
  have hx := B.exec
  have hb := B.bytes
  have hr := B.returns
  have hts := atoms_spec (ws := wN_setPower) B.pre
  have hown : s.vm.findClass RN = some m.cls := findClass_of_methodNamed B.named
  have hlocks := B.notSynchronized
  subst hsz
  have hD := hD0.self (sz := s.heap.size)
  generalize hAe : va_A [(h0, .inr (1, [.ref h0d, .int (nI k)])), (h0d, .inl (bh0, 72, .inl f))] s.heap.size = A at hD ⊢
  have hA : ∀ q : Nat, s.heap.size ≤ q → A q := fun q h => by rw [← hAe]; exact Or.inr h
  have hS : va_S A s.heap s.heap [] := va_S.rf
  have hP : va_P (dC, dI) vwCl [(h0, .inr (1, [.ref h0d, .int (nI k)])), (h0d, .inl (bh0, 72, .inl f))] s.heap := hP
  have hl := lv_entry ([.ref h0, .long b, .int (nI tm)]) (n := 5) (Nat.le_of_ble_eq_true rfl)
  rw [lg_entry_eq]
  generalize (lg_sl ([.ref h0, .long b, .int (nI tm)]) ++ List.replicate (5 - (lg_sl ([.ref h0, .long b, .int (nI tm)])).length) Slot.unset).toArray = ls at hl ⊢
  have hl : lv_has ls 5 [(0, .ref h0), (1, .long b), (3, .int (nI tm))] := hl
  refine lv_aload_n hx hb dN_setPower_0 rfl (lv_at hl 0 rfl) ?_
  refine lv_iconst (v := 0) hx hb dN_setPower_1 (by decide) ?_
  have hPc := hP.sub (ws' := [(h0, .inr (1, [.ref h0d, .int (nI k)])), (h0d, .inl (bh0, 72, .inl f))]) [0, 1] rfl
  have hDc := hD.sub (ws' := [(h0, .inr (1, [.ref h0d, .int (nI k)])), (h0d, .inl (bh0, 72, .inl f))]) [0, 1] (by decide) rfl
  have hKc := hK.sub (tys' := [(bh0, .int)]) [0] rfl
  have hFc := va_free (wc := [(h0, .inr (1, [.ref h0d, .int (nI k)])), (h0d, .inl (bh0, 72, .inl f))]) hD hS hA [0, 1] rfl
  refine va_callv (va_runV (As := [.int (0 : Int32)]) (rest := []) ⟨hx, hb, hml, hown, hts⟩ (kN_setBit l dC dI h0 h0d bh0 s.heap.size f k 0 (by omega)) (cwV 1 hts (g_call (List.forall_mem_cons.mpr ⟨m1_234, List.forall_mem_cons.mpr ⟨m1_235, List.forall_mem_cons.mpr ⟨m1_236, List.forall_mem_cons.mpr ⟨m1_3, fun _ h => absurd h List.not_mem_nil⟩⟩⟩⟩) m1_237) rfl rfl rfl (by decide +kernel) ⟨Nat.le_of_ble_eq_true rfl, Nat.le_of_ble_eq_true rfl⟩) ⟨fun a U g mk q => by obtain ⟨q0, q1, qP, qK, qD, qN⟩ := q; exact ⟨q0, q1, qP, va_K.moved (u := U) (U := U.calling g mk a) (Vm.Alike.refl U.vm) qK, qD, NW.same (u := U) rfl qN⟩, va_recv hKc hPc (ci := 1) (q0 := 0) rfl rfl, fun U hU hW => ⟨rfl, by rw [hU], by rw [hU]; exact hPc, va_K.moved hW.alike hKc, hDc.weaken (fun _ _ _ _ => trivial), NW.warm hW hN⟩⟩ rfl rfl hl.1 rfl (lv_room (Nat.le_of_ble_eq_true rfl)) dN_setPower_2 ⟨Nat.le_of_ble_eq_true rfl, Nat.le_of_ble_eq_true rfl⟩) hS (fun q _ h => hFc q h) hFc (fun u9 t H1 locs ht hvm hw hB hz1 hk1 hS => ?_)
  obtain ⟨hP1, hK1, hD1⟩ := hB
  rw [ht] at hP1
  have hK1 := va_K.moved hvm.symm hK1
  have hP1 : va_P (dC, dI) vwCl [(h0, .inr (1, [.ref h0d, .int (nI (v_N_setPower_2 f k b tm))])), (h0d, .inl (bh0, 72, .inl (v_N_setPower_1 f k b tm)))] H1 := hP1
  have hD1 : va_D _ [(h0, .inr (1, [.ref h0d, .int (nI (v_N_setPower_2 f k b tm))])), (h0d, .inl (bh0, 72, .inl (v_N_setPower_1 f k b tm)))] := hD1
  obtain ⟨hP, hD⟩ := va_join (wr := []) (w1 := [(h0, .inr (1, [.ref h0d, .int (nI (v_N_setPower_2 f k b tm))])), (h0d, .inl (bh0, 72, .inl (v_N_setPower_1 f k b tm)))]) hP hD [0, 1] [] rfl rfl (by decide) (by decide) hk1 hFc hP1 hD1
  have hK := (hK.sub (tys' := []) [] rfl).app hK1
  generalize H1 = H at hP hS ⊢
  have hP : va_P (dC, dI) vwCl [(h0, .inr (1, [.ref h0d, .int (nI (v_N_setPower_2 f k b tm))])), (h0d, .inl (bh0, 72, .inl (v_N_setPower_1 f k b tm)))] H := hP
  have hD : va_D A [(h0, .inr (1, [.ref h0d, .int (nI (v_N_setPower_2 f k b tm))])), (h0d, .inl (bh0, 72, .inl (v_N_setPower_1 f k b tm)))] := hD
  have hK : va_K (dC, dI) vwCl [(bh0, .int)] s := hK
  refine lv_iconst (v := 0) hx hb dN_setPower_5 (by decide) ?_
  refine lv_istore (lv' := [(4, .int (0 : Int32)), (0, .ref h0), (1, .long b), (3, .int (nI tm))]) hx hb dN_setPower_6 hl (by decide) rfl (fun ls hl => ?_)
  have K_1 : ∀ (w_0 : Nat → Int32) (w_1 : Nat), (w_0, w_1) = qN_setPower_8 b tm 0 (v_N_setPower_1 f k b tm) (v_N_setPower_2 f k b tm) → ∀ (H : Heap) (locs : List Loc), va_K (dC, dI) vwCl [(bh0, .int)] s → va_P (dC, dI) vwCl [(h0, .inr (1, [.ref h0d, .int (nI w_1)])), (h0d, .inl (bh0, 72, .inl w_0))] H → va_D A [(h0, .inr (1, [.ref h0d, .int (nI w_1)])), (h0d, .inl (bh0, 72, .inl w_0))] → va_S A s.heap H locs → ∀ (ls : Array Slot), lv_has ls 5 [] → WN_setPower p l e s m below meth c dC dI h0 h0d bh0 f k b tm A H locs (F0 m 25 ls []) := by
    intro w_0 w_1 hz
    have e_0 : w_0 = (v_N_setPower_3 f k b tm) := (congrArg (fun q => q.1) hz)
    have e_1 : w_1 = (v_N_setPower_4 f k b tm) := (congrArg (fun q => q.2) hz)
    rw [e_0, e_1]
    intro H locs hK hP hD hS ls hl
    have e9_0 : (v_N_setPower_3 f k b tm) = pN_setPower_0 f k b tm := (rfl).symm
    have e9_1 : (v_N_setPower_4 f k b tm) = pN_setPower_1 f k b tm := (rfl).symm
    have hP9 := hP.sub (ws' := [(h0, .inr (1, [.ref h0d, .int (nI (v_N_setPower_4 f k b tm))])), (h0d, .inl (bh0, 72, .inl (v_N_setPower_3 f k b tm)))]) [0, 1] rfl
    have hD9 := hD.sub (ws' := [(h0, .inr (1, [.ref h0d, .int (nI (v_N_setPower_4 f k b tm))])), (h0d, .inl (bh0, 72, .inl (v_N_setPower_3 f k b tm)))]) [0, 1] (by decide) rfl
    have hK9 := hK.sub (tys' := [(bh0, .int)]) [0] rfl
    have h9 := trN_setPower e9_0 e9_1 ⟨hP9, hD9⟩
    exact W.vret hx hb hr (fun t ht hW => ⟨⟨(), rfl, trivial, by rw [ht]; exact h9.1, va_K.moved hW.alike hK9, h9.2⟩, hS.F ht⟩) hS.2.2 dN_setPower_25
  have L_1 : ∀ (n1 j1 : Nat) (y1_0 : Nat → Int32) (y1_1 : Nat), j1 + n1 = tm → y1_1 ≤ 72 → qN_setPower_8 b n1 j1 y1_0 y1_1 = qN_setPower_8 b tm 0 (v_N_setPower_1 f k b tm) (v_N_setPower_2 f k b tm) → ∀ (H : Heap) (locs : List Loc), va_K (dC, dI) vwCl [(bh0, .int)] s → va_P (dC, dI) vwCl [(h0, .inr (1, [.ref h0d, .int (nI y1_1)])), (h0d, .inl (bh0, 72, .inl y1_0))] H → va_D A [(h0, .inr (1, [.ref h0d, .int (nI y1_1)])), (h0d, .inl (bh0, 72, .inl y1_0))] → va_S A s.heap H locs → ∀ (ls : Array Slot), lv_has ls 5 [(0, .ref h0), (1, .long b), (3, .int (nI tm)), (4, .int (nI j1))] → WN_setPower p l e s m below meth c dC dI h0 h0d bh0 f k b tm A H locs (F0 m 8 ls []) := by
    intro n1
    induction n1 with
    | zero =>
      intro j1 y1_0 y1_1 hj hc hq H locs hK hP hD hS ls hl
      refine lv_iload hx hb dN_setPower_8 (lv_at hl 3 rfl) ?_
      refine lv_iload_n hx hb dN_setPower_10 rfl (lv_at hl 2 rfl) ?_
      refine lv_icmp_ge (tgt := 25) hx hb dN_setPower_11 (by decide) (fun c_1 => ?_) (fun c_1 => ?_)
      rotate_left
      · exact absurd ((nI_leI (a := tm) (b := j1) (by omega) (by omega)).mpr (by omega)) c_1
      exact K_1 y1_0 y1_1 (by exact hq) _ _ (hK.sub [0] rfl) (hP.sub [0, 1] rfl) (hD.sub [0, 1] (by decide) rfl) hS ls (lv_sub hl [] rfl)
    | succ n1 ih =>
      intro j1 y1_0 y1_1 hj hc hq H locs hK hP hD hS ls hl
      refine lv_iload hx hb dN_setPower_8 (lv_at hl 3 rfl) ?_
      refine lv_iload_n hx hb dN_setPower_10 rfl (lv_at hl 2 rfl) ?_
      refine lv_icmp_ge (tgt := 25) hx hb dN_setPower_11 (by decide) (fun c_2 => ?_) (fun c_2 => ?_)
      · exact absurd ((nI_leI (a := tm) (b := j1) (by omega) (by omega)).mp c_2) (by omega)
      refine lv_aload_n hx hb dN_setPower_14 rfl (lv_at hl 0 rfl) ?_
      refine lv_lload_n hx hb dN_setPower_15 rfl (lv_at hl 1 rfl) ?_
      have hPc := hP.sub (ws' := [(h0, .inr (1, [.ref h0d, .int (nI y1_1)])), (h0d, .inl (bh0, 72, .inl y1_0))]) [0, 1] rfl
      have hDc := hD.sub (ws' := [(h0, .inr (1, [.ref h0d, .int (nI y1_1)])), (h0d, .inl (bh0, 72, .inl y1_0))]) [0, 1] (by decide) rfl
      have hKc := hK.sub (tys' := [(bh0, .int)]) [0] rfl
      have hFc := va_free (wc := [(h0, .inr (1, [.ref h0d, .int (nI y1_1)])), (h0d, .inl (bh0, 72, .inl y1_0))]) hD hS hA [0, 1] rfl
      refine va_callv (va_runV (As := [.long b]) (rest := []) ⟨hx, hb, hml, hown, hts⟩ (kN_scale l dC dI h0 h0d bh0 H.size y1_0 y1_1 b hc) (cwV 1 hts (g_call (List.forall_mem_cons.mpr ⟨m2_2, List.forall_mem_cons.mpr ⟨m2_3, List.forall_mem_cons.mpr ⟨m2_4, List.forall_mem_cons.mpr ⟨m1_3, fun _ h => absurd h List.not_mem_nil⟩⟩⟩⟩) m2_5) rfl rfl rfl (by decide +kernel) ⟨Nat.le_of_ble_eq_true rfl, Nat.le_of_ble_eq_true rfl⟩) ⟨fun a U g mk q => by obtain ⟨q0, q1, qP, qK, qD, qN⟩ := q; exact ⟨q0, q1, qP, va_K.moved (u := U) (U := U.calling g mk a) (Vm.Alike.refl U.vm) qK, qD, NW.same (u := U) rfl qN⟩, va_recv hKc hPc (ci := 1) (q0 := 0) rfl rfl, fun U hU hW => ⟨rfl, by rw [hU], by rw [hU]; exact hPc, va_K.moved hW.alike hKc, hDc.weaken (fun _ _ _ _ => trivial), NW.warm hW hN⟩⟩ rfl rfl hl.1 rfl (lv_room (Nat.le_of_ble_eq_true rfl)) dN_setPower_16 ⟨Nat.le_of_ble_eq_true rfl, Nat.le_of_ble_eq_true rfl⟩) hS (fun q _ h => hFc q h) hFc (fun u9 t H1 locs ht hvm hw hB hz1 hk1 hS => ?_)
      obtain ⟨hP1, hK1, hD1⟩ := hB
      rw [ht] at hP1
      have hK1 := va_K.moved hvm.symm hK1
      have hP1 : va_P (dC, dI) vwCl [(h0, .inr (1, [.ref h0d, .int (nI (v_N_setPower_6 b j1 y1_0 y1_1))])), (h0d, .inl (bh0, 72, .inl (v_N_setPower_5 b j1 y1_0 y1_1)))] H1 := hP1
      have hD1 : va_D _ [(h0, .inr (1, [.ref h0d, .int (nI (v_N_setPower_6 b j1 y1_0 y1_1))])), (h0d, .inl (bh0, 72, .inl (v_N_setPower_5 b j1 y1_0 y1_1)))] := hD1
      obtain ⟨hP, hD⟩ := va_join (wr := []) (w1 := [(h0, .inr (1, [.ref h0d, .int (nI (v_N_setPower_6 b j1 y1_0 y1_1))])), (h0d, .inl (bh0, 72, .inl (v_N_setPower_5 b j1 y1_0 y1_1)))]) hP hD [0, 1] [] rfl rfl (by decide) (by decide) hk1 hFc hP1 hD1
      have hK := (hK.sub (tys' := []) [] rfl).app hK1
      generalize H1 = H at hP hS ⊢
      have hP : va_P (dC, dI) vwCl [(h0, .inr (1, [.ref h0d, .int (nI (v_N_setPower_6 b j1 y1_0 y1_1))])), (h0d, .inl (bh0, 72, .inl (v_N_setPower_5 b j1 y1_0 y1_1)))] H := hP
      have hD : va_D A [(h0, .inr (1, [.ref h0d, .int (nI (v_N_setPower_6 b j1 y1_0 y1_1))])), (h0d, .inl (bh0, 72, .inl (v_N_setPower_5 b j1 y1_0 y1_1)))] := hD
      have hK : va_K (dC, dI) vwCl [(bh0, .int)] s := hK
      refine lv_iinc (v := (nI (j1 + 1))) (lv' := [(4, .int (nI (j1 + 1))), (0, .ref h0), (1, .long b), (3, .int (nI tm))]) hx hb dN_setPower_19 hl (k := 3) rfl (nI_1 _) (by decide) rfl (fun ls hl => ?_)
      refine lv_goto (tgt := 8) hx hb dN_setPower_22 (by decide) ?_
      exact ih (j1 + 1) (v_N_setPower_5 b j1 y1_0 y1_1) (v_N_setPower_6 b j1 y1_0 y1_1) (by omega) (nscale_le _ _ _) (by exact hq) _ _ (hK.sub [0] rfl) (hP.sub [0, 1] rfl) (hD.sub [0, 1] (by decide) rfl) hS ls (lv_sub hl [1, 2, 3, 0] rfl)
  exact L_1 tm 0 (v_N_setPower_1 f k b tm) (v_N_setPower_2 f k b tm) (by omega) (by show 0 / 30 + 1 ≤ 72; omega) rfl _ _ (hK.sub [0] rfl) (hP.sub [0, 1] rfl) (hD.sub [0, 1] (by decide) rfl) hS ls (lv_sub hl [1, 2, 3, 0] rfl)
