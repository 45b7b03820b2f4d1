def v_N_clear_2 (j1 : Nat) (y1_0 : Nat → Int32) : Nat → Int32 := upd y1_0 j1 (0 : Int32)
def qN_clear_2 : Nat → Nat → (Nat → Int32) → (Nat → Int32)
  | 0, j1, y1_0 => y1_0
  | n1 + 1, j1, y1_0 => qN_clear_2 n1 (j1 + 1) (v_N_clear_2 j1 y1_0)
def v_N_clear_1 (f : Nat → Int32) (k : Nat) : Nat → Int32 := qN_clear_2 72 0 f
def pN_clear_0 (f : Nat → Int32) (k : Nat) : Nat → Int32 := (v_N_clear_1 f k)
def pN_clear_1 (f : Nat → Int32) (k : Nat) : Nat := 0
/-- N_clear -/
abbrev atN_clear (dC : Nat → ClassId) (dI : Nat → Nat → Nat) (h0 h0d : Nat) (bh0 : ClassId) (f : Nat → Int32) (k : Nat) (A : Nat → Prop) (t : State) : Prop := va_P (dC, dI) vwCl [(h0, .inr (1, [.ref h0d, .int (nI (pN_clear_1 f k))])), (h0d, .inl (bh0, 72, .inl (pN_clear_0 f k)))] t.heap ∧ va_K (dC, dI) vwCl [(bh0, .int)] t ∧ va_D A [(h0, .inr (1, [.ref h0d, .int (nI (pN_clear_1 f k))])), (h0d, .inl (bh0, 72, .inl (pN_clear_0 f k)))]
theorem trN_clear {dC : Nat → ClassId} {dI : Nat → Nat → Nat} {h0 h0d : Nat} {bh0 : ClassId} {A : Nat → Prop} {H : Heap} {a0 b0 : Nat → Int32} {a1 b1 : Nat} (e0 : a0 = b0) (e1 : a1 = b1) (h : va_P (dC, dI) vwCl [(h0, .inr (1, [.ref h0d, .int (nI a1)])), (h0d, .inl (bh0, 72, .inl a0))] H ∧ va_D A [(h0, .inr (1, [.ref h0d, .int (nI a1)])), (h0d, .inl (bh0, 72, .inl a0))]) : va_P (dC, dI) vwCl [(h0, .inr (1, [.ref h0d, .int (nI b1)])), (h0d, .inl (bh0, 72, .inl b0))] H ∧ va_D A [(h0, .inr (1, [.ref h0d, .int (nI b1)])), (h0d, .inl (bh0, 72, .inl b0))] := by
  subst e0
  subst e1
  exact h
abbrev WN_clear (p : Program) (l : Launch) (e : Env) (s : State) (m : MethodId) (below : List Frame) (meth : Method) (c : Code) (dC : Nat → ClassId) (dI : Nat → Nat → Nat) (h0 h0d : Nat) (bh0 : ClassId) (f : Nat → Int32) (k : Nat) (A : Nat → Prop) (H : Heap) (locs : List Loc) (g : JFrame) : Prop := W p l e (headSpec wN_clear ({ frames := 0, cells := 0, slots := 0, locals := 0 })).room s m ([.ref h0] : List Value).toArray below meth c H locs 0 0 (MQ below (va_Qv (fun (_ : Unit) => True) (fun _ => atN_clear dC dI h0 h0d bh0 f k A) A) ([.ref h0] : List Value).toArray s 0 0 A) g
set_option maxHeartbeats 4000000 in
set_option maxRecDepth 100000 in
theorem kN_clear (l : Launch) (dC : Nat → ClassId) (dI : Nat → Nat → Nat) (h0 h0d : Nat) (bh0 : ClassId) (sz : Nat) (f : Nat → Int32) (k : Nat) : Met l yN_clear wN_clear ({ frames := 0, cells := 0, slots := 0, locals := 0 }) (va_Pc [.ref h0] (fun U => U.heap.size = sz ∧ va_P (dC, dI) vwCl [(h0, .inr (1, [.ref h0d, .int (nI k)])), (h0d, .inl (bh0, 72, .inl f))] U.heap ∧ va_K (dC, dI) vwCl [(bh0, .int)] U ∧ va_D (fun _ => True) [(h0, .inr (1, [.ref h0d, .int (nI k)])), (h0d, .inl (bh0, 72, .inl f))] ∧ NW U)) (va_Qv (fun (_ : Unit) => True) (fun _ => atN_clear dC dI h0 h0d bh0 f k (va_A [(h0, .inr (1, [.ref h0d, .int (nI k)])), (h0d, .inl (bh0, 72, .inl f))] sz)) (va_A [(h0, .inr (1, [.ref h0d, .int (nI k)])), (h0d, .inl (bh0, 72, .inl f))] sz)) 0 0 (va_A [(h0, .inr (1, [.ref h0d, .int (nI k)])), (h0d, .inl (bh0, 72, .inl f))] sz) := by
  refine Met.ofW (cc := cN_clear) (maxL := 2) (ret := none) (by decide) rfl ?_
  intro p e s m args below meth c s₁ B hml hv
  obtain ⟨rfl, hsz, hP, hK, hD0, hN⟩ := hv
  have hx := B.exec
  have hb := B.bytes
  have hr := B.returns
  have hts := atoms_spec (ws := wN_clear) B.pre
  have hown : s.vm.findClass RN = some m.cls := findClass_of_methodNamed B.named
  have hlocks := B.notSynchronized
  subst hsz
  have hD := hD0.self (sz := s.heap.size)
  generalize hAe : va_A [(h0, .inr (1, [.ref h0d, .int (nI k)])), (h0d, .inl (bh0, 72, .inl f))] s.heap.size = A at hD ⊢
  have hA : ∀ q : Nat, s.heap.size ≤ q → A q := fun q h => by rw [← hAe]; exact Or.inr h
  have hS : va_S A s.heap s.heap [] := va_S.rf
  have hP : va_P (dC, dI) vwCl [(h0, .inr (1, [.ref h0d, .int (nI k)])), (h0d, .inl (bh0, 72, .inl f))] s.heap := hP
  have hl := lv_entry ([.ref h0]) (n := 2) (Nat.le_of_ble_eq_true rfl)
  rw [lg_entry_eq]
  generalize (lg_sl ([.ref h0]) ++ List.replicate (2 - (lg_sl ([.ref h0])).length) Slot.unset).toArray = ls at hl ⊢
  have hl : lv_has ls 2 [(0, .ref h0)] := hl
  refine lv_iconst (v := 0) hx hb dN_clear_0 (by decide) ?_
  refine lv_istore_n (lv' := [(1, .int (0 : Int32)), (0, .ref h0)]) hx hb dN_clear_1 rfl hl (by decide) rfl (fun ls hl => ?_)
  have K_1 : ∀ (w_0 : Nat → Int32), w_0 = qN_clear_2 72 0 f → ∀ (H : Heap) (locs : List Loc), va_K (dC, dI) vwCl [(bh0, .int)] s → va_P (dC, dI) vwCl [(h0, .inr (1, [.ref h0d, .int (nI k)])), (h0d, .inl (bh0, 72, .inl w_0))] H → va_D A [(h0, .inr (1, [.ref h0d, .int (nI k)])), (h0d, .inl (bh0, 72, .inl w_0))] → va_S A s.heap H locs → ∀ (ls : Array Slot), lv_has ls 2 [(0, .ref h0)] → WN_clear p l e s m below meth c dC dI h0 h0d bh0 f k A H locs (F0 m 21 ls []) := by
    intro w_0 hz
    have e_0 : w_0 = (v_N_clear_1 f k) := hz
    rw [e_0]
    intro H locs hK hP hD hS ls hl
    refine lv_aload_n hx hb dN_clear_21 rfl (lv_at hl 0 rfl) ?_
    refine lv_iconst (v := 0) hx hb dN_clear_22 (by decide) ?_
    refine va_put (D := (dC, dI)) (ci := 1) (v := .int (0 : Int32)) (ty := .int) (C := RN) (T := TN) (N := 2) hx hb hts (inC iN) tyN tyN_ok nmN hown hK hP hD hS 0 rfl rfl 1 (by decide) (hts _ (List.mem_cons_of_mem _ m1_52)) (fun _ h9 => h9) rfl (by decide +kernel) rfl rfl (Nat.le_of_ble_eq_true rfl) dN_clear_23 (fun H locs hP hD hS => ?_)
    have hP : va_P (dC, dI) vwCl [(h0, .inr (1, [.ref h0d, .int (0 : Int32)])), (h0d, .inl (bh0, 72, .inl (v_N_clear_1 f k)))] H := hP
    have hD : va_D A [(h0, .inr (1, [.ref h0d, .int (0 : Int32)])), (h0d, .inl (bh0, 72, .inl (v_N_clear_1 f k)))] := hD
    have e9_0 : (v_N_clear_1 f k) = pN_clear_0 f k := (rfl).symm
    have e9_1 : 0 = pN_clear_1 f k := (rfl).symm
    have hP9 := hP.sub (ws' := [(h0, .inr (1, [.ref h0d, .int (0 : Int32)])), (h0d, .inl (bh0, 72, .inl (v_N_clear_1 f k)))]) [0, 1] rfl
    have hD9 := hD.sub (ws' := [(h0, .inr (1, [.ref h0d, .int (0 : Int32)])), (h0d, .inl (bh0, 72, .inl (v_N_clear_1 f k)))]) [0, 1] (by decide) rfl
    have hK9 := hK.sub (tys' := [(bh0, .int)]) [0] rfl
    have h9 := trN_clear e9_0 e9_1 ⟨hP9, hD9⟩
    exact W.vret hx hb hr (fun t ht hW => ⟨⟨(), rfl, trivial, by rw [ht]; exact h9.1, va_K.moved hW.alike hK9, h9.2⟩, hS.F ht⟩) hS.2.2 dN_clear_26
  have L_1 : ∀ (n1 j1 : Nat) (y1_0 : Nat → Int32), j1 + n1 = 72 → qN_clear_2 n1 j1 y1_0 = qN_clear_2 72 0 f → ∀ (H : Heap) (locs : List Loc), va_K (dC, dI) vwCl [(bh0, .int)] s → va_P (dC, dI) vwCl [(h0, .inr (1, [.ref h0d, .int (nI k)])), (h0d, .inl (bh0, 72, .inl y1_0))] H → va_D A [(h0, .inr (1, [.ref h0d, .int (nI k)])), (h0d, .inl (bh0, 72, .inl y1_0))] → va_S A s.heap H locs → ∀ (ls : Array Slot), lv_has ls 2 [(0, .ref h0), (1, .int (nI j1))] → WN_clear p l e s m below meth c dC dI h0 h0d bh0 f k A H locs (F0 m 2 ls []) := by
    intro n1
    induction n1 with
    | zero =>
      intro j1 y1_0 hj hq H locs hK hP hD hS ls hl
      refine lv_iload_n hx hb dN_clear_2 rfl (lv_at hl 1 rfl) ?_
      refine lv_bipush (v := 72) hx hb dN_clear_3 (by decide) ?_
      refine lv_icmp_ge (tgt := 21) hx hb dN_clear_5 (by decide) (fun c_1 => ?_) (fun c_1 => ?_)
      rotate_left
      · exact absurd ((nI_leI (a := 72) (b := j1) (by omega) (by omega)).mpr (by omega)) c_1
      exact K_1 y1_0 (by exact hq) _ _ (hK.sub [0] rfl) (hP.sub [0, 1] rfl) (hD.sub [0, 1] (by decide) rfl) hS ls (lv_sub hl [0] rfl)
    | succ n1 ih =>
      intro j1 y1_0 hj hq H locs hK hP hD hS ls hl
      refine lv_iload_n hx hb dN_clear_2 rfl (lv_at hl 1 rfl) ?_
      refine lv_bipush (v := 72) hx hb dN_clear_3 (by decide) ?_
      refine lv_icmp_ge (tgt := 21) hx hb dN_clear_5 (by decide) (fun c_2 => ?_) (fun c_2 => ?_)
      · exact absurd ((nI_leI (a := 72) (b := j1) (by omega) (by omega)).mp c_2) (by omega)
      refine lv_aload_n hx hb dN_clear_8 rfl (lv_at hl 0 rfl) ?_
      refine va_get (D := (dC, dI)) (ci := 1) (v := .ref h0d) (C := RN) (T := TN) (N := 2) hx hb hts (inC iN) hown hK hP 0 rfl rfl 0 (by decide) (hts _ (List.mem_cons_of_mem _ m1_51)) (fun _ h9 => h9) rfl dN_clear_9 ?_
      refine lv_iload_n hx hb dN_clear_12 rfl (lv_at hl 1 rfl) ?_
      refine lv_iconst (v := 0) hx hb dN_clear_13 (by decide) ?_
      refine va_iast hx hb hK hP hD hS 1 0 rfl rfl (i := (nI j1)) (x := (0 : Int32)) (vp_in_nI (n := j1) (by omega) (by omega)) dN_clear_14 (fun H locs hP hD hS => ?_)
      have hP : va_P (dC, dI) vwCl [(h0, .inr (1, [.ref h0d, .int (nI k)])), (h0d, .inl (bh0, 72, .inl (upd y1_0 (nI j1).toNatClampNeg (0 : Int32))))] H := hP
      have hD : va_D A [(h0, .inr (1, [.ref h0d, .int (nI k)])), (h0d, .inl (bh0, 72, .inl (upd y1_0 (nI j1).toNatClampNeg (0 : Int32))))] := hD
      have e9 : upd y1_0 (nI j1).toNatClampNeg (0 : Int32) = (v_N_clear_2 j1 y1_0) := congrArg (fun z => upd y1_0 z (0 : Int32)) (nI_clamp (n := j1) (by omega))
      rw [e9] at hP hD
      have hP : va_P (dC, dI) vwCl [(h0, .inr (1, [.ref h0d, .int (nI k)])), (h0d, .inl (bh0, 72, .inl (v_N_clear_2 j1 y1_0)))] H := hP
      have hD : va_D A [(h0, .inr (1, [.ref h0d, .int (nI k)])), (h0d, .inl (bh0, 72, .inl (v_N_clear_2 j1 y1_0)))] := hD
      refine lv_iinc (v := (nI (j1 + 1))) (lv' := [(1, .int (nI (j1 + 1))), (0, .ref h0)]) hx hb dN_clear_15 hl (k := 1) rfl (nI_1 _) (by decide) rfl (fun ls hl => ?_)
      refine lv_goto (tgt := 2) hx hb dN_clear_18 (by decide) ?_
      exact ih (j1 + 1) (v_N_clear_2 j1 y1_0) (by omega) (by exact hq) _ _ (hK.sub [0] rfl) (hP.sub [0, 1] rfl) (hD.sub [0, 1] (by decide) rfl) hS ls (lv_sub hl [1, 0] rfl)
  exact L_1 72 0 f (by omega) rfl _ _ (hK.sub [0] rfl) (hP.sub [0, 1] rfl) (hD.sub [0, 1] (by decide) rfl) hS ls (lv_sub hl [1, 0] rfl)
def v_N_setBit_1 (f : Nat → Int32) (k : Nat) (pb : Nat) : Nat → Int32 := pN_clear_0 f k
def v_N_setBit_2 (f : Nat → Int32) (k : Nat) (pb : Nat) : Nat := pN_clear_1 f k
def v_N_setBit_3 (f : Nat → Int32) (k : Nat) (pb : Nat) : Int32 := (1 : Int32) <<< ((nI (pb % 30)) &&& 31)
def v_N_setBit_4 (f : Nat → Int32) (k : Nat) (pb : Nat) : Nat → Int32 := upd (v_N_setBit_1 f k pb) (pb / 30) (v_N_setBit_3 f k pb)
def pN_setBit_0 (f : Nat → Int32) (k : Nat) (pb : Nat) : Nat → Int32 := (v_N_setBit_4 f k pb)
def pN_setBit_1 (f : Nat → Int32) (k : Nat) (pb : Nat) : Nat := (pb / 30) + 1
/-- N_setBit -/
abbrev atN_setBit (dC : Nat → ClassId) (dI : Nat → Nat → Nat) (h0 h0d : Nat) (bh0 : ClassId) (f : Nat → Int32) (k : Nat) (pb : Nat) (A : Nat → Prop) (t : State) : Prop := va_P (dC, dI) vwCl [(h0, .inr (1, [.ref h0d, .int (nI (pN_setBit_1 f k pb))])), (h0d, .inl (bh0, 72, .inl (pN_setBit_0 f k pb)))] t.heap ∧ va_K (dC, dI) vwCl [(bh0, .int)] t ∧ va_D A [(h0, .inr (1, [.ref h0d, .int (nI (pN_setBit_1 f k pb))])), (h0d, .inl (bh0, 72, .inl (pN_setBit_0 f k pb)))]
theorem trN_setBit {dC : Nat → ClassId} {dI : Nat → Nat → Nat} {h0 h0d : Nat} {bh0 : ClassId} {A : Nat → Prop} {H : Heap} {a0 b0 : Nat → Int32} {a1 b1 : Nat} (e0 : a0 = b0) (e1 : a1 = b1) (h : va_P (dC, dI) vwCl [(h0, .inr (1, [.ref h0d, .int (nI a1)])), (h0d, .inl (bh0, 72, .inl a0))] H ∧ va_D A [(h0, .inr (1, [.ref h0d, .int (nI a1)])), (h0d, .inl (bh0, 72, .inl a0))]) : va_P (dC, dI) vwCl [(h0, .inr (1, [.ref h0d, .int (nI b1)])), (h0d, .inl (bh0, 72, .inl b0))] H ∧ va_D A [(h0, .inr (1, [.ref h0d, .int (nI b1)])), (h0d, .inl (bh0, 72, .inl b0))] := by
  subst e0
  subst e1
  exact h
abbrev WN_setBit (p : Program) (l : Launch) (e : Env) (s : State) (m : MethodId) (below : List Frame) (meth : Method) (c : Code) (dC : Nat → ClassId) (dI : Nat → Nat → Nat) (h0 h0d : Nat) (bh0 : ClassId) (f : Nat → Int32) (k : Nat) (pb : Nat) (A : Nat → Prop) (H : Heap) (locs : List Loc) (g : JFrame) : Prop := W p l e (headSpec wN_setBit ({ frames := 1, cells := 0, slots := 0, locals := 21 })).room s m ([.ref h0, .int (nI pb)] : List Value).toArray below meth c H locs 0 0 (MQ below (va_Qv (fun (_ : Unit) => True) (fun _ => atN_setBit dC dI h0 h0d bh0 f k pb A) A) ([.ref h0, .int (nI pb)] : List Value).toArray s 0 0 A) g
set_option maxHeartbeats 4000000 in
set_option maxRecDepth 100000 in
theorem kN_setBit (l : Launch) (dC : Nat → ClassId) (dI : Nat → Nat → Nat) (h0 h0d : Nat) (bh0 : ClassId) (sz : Nat) (f : Nat → Int32) (k : Nat) (pb : Nat) (hpb : pb < 2160) : Met l yN_setBit wN_setBit ({ frames := 1, cells := 0, slots := 0, locals := 21 }) (va_Pc [.ref h0, .int (nI pb)] (fun U => U.heap.size = sz ∧ va_P (dC, dI) vwCl [(h0, .inr (1, [.ref h0d, .int (nI k)])), (h0d, .inl (bh0, 72, .inl f))] U.heap ∧ va_K (dC, dI) vwCl [(bh0, .int)] U ∧ va_D (fun _ => True) [(h0, .inr (1, [.ref h0d, .int (nI k)])), (h0d, .inl (bh0, 72, .inl f))] ∧ NW U)) (va_Qv (fun (_ : Unit) => True) (fun _ => atN_setBit dC dI h0 h0d bh0 f k pb (va_A [(h0, .inr (1, [.ref h0d, .int (nI k)])), (h0d, .inl (bh0, 72, .inl f))] sz)) (va_A [(h0, .inr (1, [.ref h0d, .int (nI k)])), (h0d, .inl (bh0, 72, .inl f))] sz)) 0 0 (va_A [(h0, .inr (1, [.ref h0d, .int (nI k)])), (h0d, .inl (bh0, 72, .inl f))] sz) := by
  refine Met.ofW (cc := cN_setBit) (maxL := 3) (ret := none) (by decide) rfl ?_
  intro p e s m args below meth c s₁ B hml hv
  obtain ⟨rfl, hsz, hP, hK, hD0, hN⟩ := hv
  have hx := B.exec
  have hb := B.bytes
  have hr := B.returns
  have hts := atoms_spec (ws := wN_setBit) B.pre
  have hown : s.vm.findClass RN = some m.cls := findClass_of_methodNamed B.named
  have hlocks := B.notSynchronized
  subst hsz
  have hD := hD0.self (sz := s.heap.size)
  generalize hAe : va_A [(h0, .inr (1, [.ref h0d, .int (nI k)])), (h0d, .inl (bh0, 72, .inl f))] s.heap.size = A at hD ⊢
  have hA : ∀ q : Nat, s.heap.size ≤ q → A q := fun q h => by rw [← hAe]; exact Or.inr h
  have hS : va_S A s.heap s.heap [] := va_S.rf
  have hP : va_P (dC, dI) vwCl [(h0, .inr (1, [.ref h0d, .int (nI k)])), (h0d, .inl (bh0, 72, .inl f))] s.heap := hP
  have hl := lv_entry ([.ref h0, .int (nI pb)]) (n := 3) (Nat.le_of_ble_eq_true rfl)
  rw [lg_entry_eq]
  generalize (lg_sl ([.ref h0, .int (nI pb)]) ++ List.replicate (3 - (lg_sl ([.ref h0, .int (nI pb)])).length) Slot.unset).toArray = ls at hl ⊢
  have hl : lv_has ls 3 [(0, .ref h0), (1, .int (nI pb))] := hl
  refine lv_aload_n hx hb dN_setBit_0 rfl (lv_at hl 0 rfl) ?_
  have hPc := hP.sub (ws' := [(h0, .inr (1, [.ref h0d, .int (nI k)])), (h0d, .inl (bh0, 72, .inl f))]) [0, 1] rfl
  have hDc := hD.sub (ws' := [(h0, .inr (1, [.ref h0d, .int (nI k)])), (h0d, .inl (bh0, 72, .inl f))]) [0, 1] (by decide) rfl
  have hKc := hK.sub (tys' := [(bh0, .int)]) [0] rfl
  have hFc := va_free (wc := [(h0, .inr (1, [.ref h0d, .int (nI k)])), (h0d, .inl (bh0, 72, .inl f))]) hD hS hA [0, 1] rfl
  refine va_callv (va_runV (As := []) (rest := []) ⟨hx, hb, hml, hown, hts⟩ (kN_clear l dC dI h0 h0d bh0 s.heap.size f k) (cwV 0 hts (g_call (List.forall_mem_cons.mpr ⟨m1_238, List.forall_mem_cons.mpr ⟨m1_239, List.forall_mem_cons.mpr ⟨m2_0, List.forall_mem_cons.mpr ⟨m1_3, fun _ h => absurd h List.not_mem_nil⟩⟩⟩⟩) m2_1) rfl rfl rfl (by decide +kernel) ⟨Nat.le_of_ble_eq_true rfl, Nat.le_of_ble_eq_true rfl⟩) ⟨fun a U g mk q => by obtain ⟨q0, q1, qP, qK, qD, qN⟩ := q; exact ⟨q0, q1, qP, va_K.moved (u := U) (U := U.calling g mk a) (Vm.Alike.refl U.vm) qK, qD, NW.same (u := U) rfl qN⟩, va_recv hKc hPc (ci := 1) (q0 := 0) rfl rfl, fun U hU hW => ⟨rfl, by rw [hU], by rw [hU]; exact hPc, va_K.moved hW.alike hKc, hDc.weaken (fun _ _ _ _ => trivial), NW.warm hW hN⟩⟩ rfl rfl hl.1 rfl (lv_room (Nat.le_of_ble_eq_true rfl)) dN_setBit_1 ⟨Nat.le_of_ble_eq_true rfl, Nat.le_of_ble_eq_true rfl⟩) hS (fun q _ h => hFc q h) hFc (fun u9 t H1 locs ht hvm hw hB hz1 hk1 hS => ?_)
  obtain ⟨hP1, hK1, hD1⟩ := hB
  rw [ht] at hP1
  have hK1 := va_K.moved hvm.symm hK1
  have hP1 : va_P (dC, dI) vwCl [(h0, .inr (1, [.ref h0d, .int (nI (v_N_setBit_2 f k pb))])), (h0d, .inl (bh0, 72, .inl (v_N_setBit_1 f k pb)))] H1 := hP1
  have hD1 : va_D _ [(h0, .inr (1, [.ref h0d, .int (nI (v_N_setBit_2 f k pb))])), (h0d, .inl (bh0, 72, .inl (v_N_setBit_1 f k pb)))] := hD1
  obtain ⟨hP, hD⟩ := va_join (wr := []) (w1 := [(h0, .inr (1, [.ref h0d, .int (nI (v_N_setBit_2 f k pb))])), (h0d, .inl (bh0, 72, .inl (v_N_setBit_1 f k pb)))]) hP hD [0, 1] [] rfl rfl (by decide) (by decide) hk1 hFc hP1 hD1
  have hK := (hK.sub (tys' := []) [] rfl).app hK1
  generalize H1 = H at hP hS ⊢
  have hP : va_P (dC, dI) vwCl [(h0, .inr (1, [.ref h0d, .int (nI (v_N_setBit_2 f k pb))])), (h0d, .inl (bh0, 72, .inl (v_N_setBit_1 f k pb)))] H := hP
  have hD : va_D A [(h0, .inr (1, [.ref h0d, .int (nI (v_N_setBit_2 f k pb))])), (h0d, .inl (bh0, 72, .inl (v_N_setBit_1 f k pb)))] := hD
  have hK : va_K (dC, dI) vwCl [(bh0, .int)] s := hK
  refine lv_iload_n hx hb dN_setBit_4 rfl (lv_at hl 1 rfl) ?_
  refine lv_bipush (v := 30) hx hb dN_setBit_5 (by decide) ?_
  refine lv_idiv hx hb dN_setBit_7 (by decide) ?_
  refine W.eq (g2 := F0 m 8 ls [.int (nI (pb / 30))]) (congrArg (fun z => F0 m 8 ls [.int z]) (pk_div (a := pb) (d := 30) (by omega) (by omega) (by omega))) ?_
  refine lv_istore_n (lv' := [(2, .int (nI (pb / 30))), (0, .ref h0), (1, .int (nI pb))]) hx hb dN_setBit_8 rfl hl (by decide) rfl (fun ls hl => ?_)
  refine lv_iload_n hx hb dN_setBit_9 rfl (lv_at hl 2 rfl) ?_
  refine lv_if_lt (tgt := 38) hx hb dN_setBit_10 (by decide) (fun c_1 => ?_) (fun c_1 => ?_)
  · exact absurd ((nI_ltI (a := pb) (b := 0) (by omega) (by omega)).mp c_1) (by omega)
  refine lv_iload_n hx hb dN_setBit_13 rfl (lv_at hl 0 rfl) ?_
  refine lv_bipush (v := 72) hx hb dN_setBit_14 (by decide) ?_
  refine lv_icmp_ge (tgt := 38) hx hb dN_setBit_16 (by decide) (fun c_2 => ?_) (fun c_2 => ?_)
  · exact absurd ((nI_leI (a := 72) (b := pb / 30) (by omega) (by omega)).mp c_2) (by omega)
  refine lv_aload_n hx hb dN_setBit_19 rfl (lv_at hl 1 rfl) ?_
  refine va_get (D := (dC, dI)) (ci := 1) (v := .ref h0d) (C := RN) (T := TN) (N := 2) hx hb hts (inC iN) hown hK hP 0 rfl rfl 0 (by decide) (hts _ (List.mem_cons_of_mem _ m1_51)) (fun _ h9 => h9) rfl dN_setBit_20 ?_
  refine lv_iload_n hx hb dN_setBit_23 rfl (lv_at hl 0 rfl) ?_
  refine lv_iconst (v := 1) hx hb dN_setBit_24 (by decide) ?_
  refine lv_iload_n hx hb dN_setBit_25 rfl (lv_at hl 2 rfl) ?_
  refine lv_bipush (v := 30) hx hb dN_setBit_26 (by decide) ?_
  refine lv_irem hx hb dN_setBit_28 (by decide) ?_
  refine W.eq (g2 := F0 m 29 ls [.int (nI (pb % 30)), .int (1 : Int32), .int (nI (pb / 30)), .ref h0d]) (congrArg (fun z => F0 m 29 ls [.int z, .int (1 : Int32), .int (nI (pb / 30)), .ref h0d]) (pk_rem (a := pb) (d := 30) (by omega) (by omega) (by omega))) ?_
  refine lv_ishl hx hb dN_setBit_29 ?_
  refine lv_topi (fun w9 e9 => ?_)
  have e9 : w9 = (v_N_setBit_3 f k pb) := e9
  rw [e9]
  refine va_iast hx hb hK hP hD hS 1 0 rfl rfl (i := (nI (pb / 30))) (x := (v_N_setBit_3 f k pb)) (vp_in_nI (n := pb / 30) (by omega) (by omega)) dN_setBit_30 (fun H locs hP hD hS => ?_)
  have hP : va_P (dC, dI) vwCl [(h0, .inr (1, [.ref h0d, .int (nI (v_N_setBit_2 f k pb))])), (h0d, .inl (bh0, 72, .inl (upd (v_N_setBit_1 f k pb) (nI (pb / 30)).toNatClampNeg (v_N_setBit_3 f k pb))))] H := hP
  have hD : va_D A [(h0, .inr (1, [.ref h0d, .int (nI (v_N_setBit_2 f k pb))])), (h0d, .inl (bh0, 72, .inl (upd (v_N_setBit_1 f k pb) (nI (pb / 30)).toNatClampNeg (v_N_setBit_3 f k pb))))] := hD
  have e9 : upd (v_N_setBit_1 f k pb) (nI (pb / 30)).toNatClampNeg (v_N_setBit_3 f k pb) = (v_N_setBit_4 f k pb) := congrArg (fun z => upd (v_N_setBit_1 f k pb) z (v_N_setBit_3 f k pb)) (nI_clamp (n := pb / 30) (by omega))
  rw [e9] at hP hD
  have hP : va_P (dC, dI) vwCl [(h0, .inr (1, [.ref h0d, .int (nI (v_N_setBit_2 f k pb))])), (h0d, .inl (bh0, 72, .inl (v_N_setBit_4 f k pb)))] H := hP
  have hD : va_D A [(h0, .inr (1, [.ref h0d, .int (nI (v_N_setBit_2 f k pb))])), (h0d, .inl (bh0, 72, .inl (v_N_setBit_4 f k pb)))] := hD
  refine lv_aload_n hx hb dN_setBit_31 rfl (lv_at hl 1 rfl) ?_
  refine lv_iload_n hx hb dN_setBit_32 rfl (lv_at hl 0 rfl) ?_
  refine lv_iconst (v := 1) hx hb dN_setBit_33 (by decide) ?_
  refine lv_iadd hx hb dN_setBit_34 ?_
  refine W.eq (g2 := F0 m 35 ls [.int (nI ((pb / 30) + 1)), .ref h0]) (congrArg (fun z => F0 m 35 ls [.int z, .ref h0]) (nI_add (pb / 30) 1)) ?_
  refine va_put (D := (dC, dI)) (ci := 1) (v := .int (nI ((pb / 30) + 1))) (ty := .int) (C := RN) (T := TN) (N := 2) hx hb hts (inC iN) tyN tyN_ok nmN hown hK hP hD hS 0 rfl rfl 1 (by decide) (hts _ (List.mem_cons_of_mem _ m1_52)) (fun _ h9 => h9) rfl (by decide +kernel) rfl rfl (Nat.le_of_ble_eq_true rfl) dN_setBit_35 (fun H locs hP hD hS => ?_)
  have hP : va_P (dC, dI) vwCl [(h0, .inr (1, [.ref h0d, .int (nI ((pb / 30) + 1))])), (h0d, .inl (bh0, 72, .inl (v_N_setBit_4 f k pb)))] H := hP
  have hD : va_D A [(h0, .inr (1, [.ref h0d, .int (nI ((pb / 30) + 1))])), (h0d, .inl (bh0, 72, .inl (v_N_setBit_4 f k pb)))] := hD
  have e9_0 : (v_N_setBit_4 f k pb) = pN_setBit_0 f k pb := (rfl).symm
  have e9_1 : (pb / 30) + 1 = pN_setBit_1 f k pb := (rfl).symm
  have hP9 := hP.sub (ws' := [(h0, .inr (1, [.ref h0d, .int (nI ((pb / 30) + 1))])), (h0d, .inl (bh0, 72, .inl (v_N_setBit_4 f k pb)))]) [0, 1] rfl
  have hD9 := hD.sub (ws' := [(h0, .inr (1, [.ref h0d, .int (nI ((pb / 30) + 1))])), (h0d, .inl (bh0, 72, .inl (v_N_setBit_4 f k pb)))]) [0, 1] (by decide) rfl
  have hK9 := hK.sub (tys' := [(bh0, .int)]) [0] rfl
  have h9 := trN_setBit e9_0 e9_1 ⟨hP9, hD9⟩
  exact W.vret hx hb hr (fun t ht hW => ⟨⟨(), rfl, trivial, by rw [ht]; exact h9.1, va_K.moved hW.alike hK9, h9.2⟩, hS.F ht⟩) hS.2.2 dN_setBit_38
def v_N_trim_2 (f : Nat → Int32) (n1 : Nat) : Int32 := f n1
def qN_trim_0 (f : Nat → Int32) : Nat → Nat
  | 0 => 0
  | n1 + 1 => (if (v_N_trim_2 f n1) = 0 then qN_trim_0 f n1 else n1 + 1)
def v_N_trim_1 (f : Nat → Int32) (k : Nat) : Nat := qN_trim_0 f k
def pN_trim_0 (f : Nat → Int32) (k : Nat) : Nat := (v_N_trim_1 f k)
/-- N_trim -/
abbrev atN_trim (dC : Nat → ClassId) (dI : Nat → Nat → Nat) (h0 h0d : Nat) (bh0 : ClassId) (f : Nat → Int32) (k : Nat) (A : Nat → Prop) (t : State) : Prop := va_P (dC, dI) vwCl [(h0, .inr (1, [.ref h0d, .int (nI (pN_trim_0 f k))])), (h0d, .inl (bh0, 72, .inl f))] t.heap ∧ va_K (dC, dI) vwCl [(bh0, .int)] t ∧ va_D A [(h0, .inr (1, [.ref h0d, .int (nI (pN_trim_0 f k))])), (h0d, .inl (bh0, 72, .inl f))]
theorem trN_trim {dC : Nat → ClassId} {dI : Nat → Nat → Nat} {h0 h0d : Nat} {bh0 : ClassId} {f : Nat → Int32} {A : Nat → Prop} {H : Heap} {a0 b0 : Nat} (e0 : a0 = b0) (h : va_P (dC, dI) vwCl [(h0, .inr (1, [.ref h0d, .int (nI a0)])), (h0d, .inl (bh0, 72, .inl f))] H ∧ va_D A [(h0, .inr (1, [.ref h0d, .int (nI a0)])), (h0d, .inl (bh0, 72, .inl f))]) : va_P (dC, dI) vwCl [(h0, .inr (1, [.ref h0d, .int (nI b0)])), (h0d, .inl (bh0, 72, .inl f))] H ∧ va_D A [(h0, .inr (1, [.ref h0d, .int (nI b0)])), (h0d, .inl (bh0, 72, .inl f))] := by
  subst e0
  exact h
abbrev WN_trim (p : Program) (l : Launch) (e : Env) (s : State) (m : MethodId) (below : List Frame) (meth : Method) (c : Code) (dC : Nat → ClassId) (dI : Nat → Nat → Nat) (h0 h0d : Nat) (bh0 : ClassId) (f : Nat → Int32) (k : Nat) (A : Nat → Prop) (H : Heap) (locs : List Loc) (g : JFrame) : Prop := W p l e (headSpec wN_trim ({ frames := 0, cells := 0, slots := 0, locals := 0 })).room s m ([.ref h0] : List Value).toArray below meth c H locs 0 0 (MQ below (va_Qv (fun (_ : Unit) => True) (fun _ => atN_trim dC dI h0 h0d bh0 f k A) A) ([.ref h0] : List Value).toArray s 0 0 A) g
set_option maxHeartbeats 4000000 in
set_option maxRecDepth 100000 in
theorem kN_trim (l : Launch) (dC : Nat → ClassId) (dI : Nat → Nat → Nat) (h0 h0d : Nat) (bh0 : ClassId) (sz : Nat) (f : Nat → Int32) (k : Nat) (hk : k ≤ 72) : Met l yN_trim wN_trim ({ frames := 0, cells := 0, slots := 0, locals := 0 }) (va_Pc [.ref h0] (fun U => U.heap.size = sz ∧ va_P (dC, dI) vwCl [(h0, .inr (1, [.ref h0d, .int (nI k)])), (h0d, .inl (bh0, 72, .inl f))] U.heap ∧ va_K (dC, dI) vwCl [(bh0, .int)] U ∧ va_D (fun _ => True) [(h0, .inr (1, [.ref h0d, .int (nI k)])), (h0d, .inl (bh0, 72, .inl f))] ∧ NW U)) (va_Qv (fun (_ : Unit) => True) (fun _ => atN_trim dC dI h0 h0d bh0 f k (va_A [(h0, .inr (1, [.ref h0d, .int (nI k)])), (h0d, .inl (bh0, 72, .inl f))] sz)) (va_A [(h0, .inr (1, [.ref h0d, .int (nI k)])), (h0d, .inl (bh0, 72, .inl f))] sz)) 0 0 (va_A [(h0, .inr (1, [.ref h0d, .int (nI k)])), (h0d, .inl (bh0, 72, .inl f))] sz) := by
  refine Met.ofW (cc := cN_trim) (maxL := 1) (ret := none) (by decide) rfl ?_
  intro p e s m args below meth c s₁ B hml hv
  obtain ⟨rfl, hsz, hP, hK, hD0, hN⟩ := hv
  have hx := B.exec
  have hb := B.bytes
  have hr := B.returns
  have hts := atoms_spec (ws := wN_trim) B.pre
  have hown : s.vm.findClass RN = some m.cls := findClass_of_methodNamed B.named
  have hlocks := B.notSynchronized
  subst hsz
  have hD := hD0.self (sz := s.heap.size)
  generalize hAe : va_A [(h0, .inr (1, [.ref h0d, .int (nI k)])), (h0d, .inl (bh0, 72, .inl f))] s.heap.size = A at hD ⊢
  have hA : ∀ q : Nat, s.heap.size ≤ q → A q := fun q h => by rw [← hAe]; exact Or.inr h
  have hS : va_S A s.heap s.heap [] := va_S.rf
  have hP : va_P (dC, dI) vwCl [(h0, .inr (1, [.ref h0d, .int (nI k)])), (h0d, .inl (bh0, 72, .inl f))] s.heap := hP
  have hl := lv_entry ([.ref h0]) (n := 1) (Nat.le_of_ble_eq_true rfl)
  rw [lg_entry_eq]
  generalize (lg_sl ([.ref h0]) ++ List.replicate (1 - (lg_sl ([.ref h0])).length) Slot.unset).toArray = ls at hl ⊢
  have hl : lv_has ls 1 [(0, .ref h0)] := hl
  have K_1 : ∀ (w_0 : Nat), w_0 = qN_trim_0 f k → ∀ (H : Heap) (locs : List Loc), va_K (dC, dI) vwCl [(bh0, .int)] s → va_P (dC, dI) vwCl [(h0, .inr (1, [.ref h0d, .int (nI w_0)])), (h0d, .inl (bh0, 72, .inl f))] H → va_D A [(h0, .inr (1, [.ref h0d, .int (nI w_0)])), (h0d, .inl (bh0, 72, .inl f))] → va_S A s.heap H locs → ∀ (ls : Array Slot), lv_has ls 1 [] → WN_trim p l e s m below meth c dC dI h0 h0d bh0 f k A H locs (F0 m 34 ls []) := by
    intro w_0 hz
    have e_0 : w_0 = (v_N_trim_1 f k) := hz
    rw [e_0]
    intro H locs hK hP hD hS ls hl
    have e9_0 : (v_N_trim_1 f k) = pN_trim_0 f k := (rfl).symm
    have hP9 := hP.sub (ws' := [(h0, .inr (1, [.ref h0d, .int (nI (v_N_trim_1 f k))])), (h0d, .inl (bh0, 72, .inl f))]) [0, 1] rfl
    have hD9 := hD.sub (ws' := [(h0, .inr (1, [.ref h0d, .int (nI (v_N_trim_1 f k))])), (h0d, .inl (bh0, 72, .inl f))]) [0, 1] (by decide) rfl
    have hK9 := hK.sub (tys' := [(bh0, .int)]) [0] rfl
    have h9 := trN_trim e9_0 ⟨hP9, hD9⟩
    exact W.vret hx hb hr (fun t ht hW => ⟨⟨(), rfl, trivial, by rw [ht]; exact h9.1, va_K.moved hW.alike hK9, h9.2⟩, hS.F ht⟩) hS.2.2 dN_trim_34
  have L_1 : ∀ (n1 : Nat), n1 ≤ 72 → qN_trim_0 f n1 = qN_trim_0 f k → ∀ (H : Heap) (locs : List Loc), va_K (dC, dI) vwCl [(bh0, .int)] s → va_P (dC, dI) vwCl [(h0, .inr (1, [.ref h0d, .int (nI n1)])), (h0d, .inl (bh0, 72, .inl f))] H → va_D A [(h0, .inr (1, [.ref h0d, .int (nI n1)])), (h0d, .inl (bh0, 72, .inl f))] → va_S A s.heap H locs → ∀ (ls : Array Slot), lv_has ls 1 [(0, .ref h0)] → WN_trim p l e s m below meth c dC dI h0 h0d bh0 f k A H locs (F0 m 0 ls []) := by
    intro n1
    induction n1 with
    | zero =>
      intro  hj hq H locs hK hP hD hS ls hl
      refine lv_aload_n hx hb dN_trim_0 rfl (lv_at hl 0 rfl) ?_
      refine va_get (D := (dC, dI)) (ci := 1) (v := .int (nI 0)) (C := RN) (T := TN) (N := 2) hx hb hts (inC iN) hown hK hP 0 rfl rfl 1 (by decide) (hts _ (List.mem_cons_of_mem _ m1_52)) (fun _ h9 => h9) rfl dN_trim_1 ?_
      refine lv_if_le (tgt := 34) hx hb dN_trim_4 (by decide) (fun c_1 => ?_) (fun c_1 => ?_)
      rotate_left
      · exact absurd ((nI_leI (a := 0) (b := 0) (by omega) (by omega)).mpr (by omega)) c_1
      exact K_1 0 (by exact hq) _ _ (hK.sub [0] rfl) (hP.sub [0, 1] rfl) (hD.sub [0, 1] (by decide) rfl) hS ls (lv_sub hl [] rfl)
    | succ n1 ih =>
      intro  hj hq H locs hK hP hD hS ls hl
      refine lv_aload_n hx hb dN_trim_0 rfl (lv_at hl 0 rfl) ?_
      refine va_get (D := (dC, dI)) (ci := 1) (v := .int (nI (n1 + 1))) (C := RN) (T := TN) (N := 2) hx hb hts (inC iN) hown hK hP 0 rfl rfl 1 (by decide) (hts _ (List.mem_cons_of_mem _ m1_52)) (fun _ h9 => h9) rfl dN_trim_1 ?_
      refine lv_if_le (tgt := 34) hx hb dN_trim_4 (by decide) (fun c_2 => ?_) (fun c_2 => ?_)
      · exact absurd ((nI_leI (a := n1 + 1) (b := 0) (by omega) (by omega)).mp c_2) (by omega)
      refine lv_aload_n hx hb dN_trim_7 rfl (lv_at hl 0 rfl) ?_
      refine va_get (D := (dC, dI)) (ci := 1) (v := .ref h0d) (C := RN) (T := TN) (N := 2) hx hb hts (inC iN) hown hK hP 0 rfl rfl 0 (by decide) (hts _ (List.mem_cons_of_mem _ m1_51)) (fun _ h9 => h9) rfl dN_trim_8 ?_
      refine lv_aload_n hx hb dN_trim_11 rfl (lv_at hl 0 rfl) ?_
      refine va_get (D := (dC, dI)) (ci := 1) (v := .int (nI (n1 + 1))) (C := RN) (T := TN) (N := 2) hx hb hts (inC iN) hown hK hP 0 rfl rfl 1 (by decide) (hts _ (List.mem_cons_of_mem _ m1_52)) (fun _ h9 => h9) rfl dN_trim_12 ?_
      refine lv_iconst (v := 1) hx hb dN_trim_15 (by decide) ?_
      refine lv_isub hx hb dN_trim_16 ?_
      refine W.eq (g2 := F0 m 17 ls [.int (nI n1), .ref h0d]) (congrArg (fun z => F0 m 17 ls [.int z, .ref h0d]) (nI_pred n1)) ?_
      refine va_iald hx hb hK hP 1 0 rfl rfl (i := (nI n1)) (vp_in_nI (n := n1) (by omega) (by omega)) dN_trim_17 ?_
      refine lv_topi (fun w9 e9 => ?_)
      have e9 : w9 = (v_N_trim_2 f n1) := e9.trans (congrArg f (nI_clamp (n := n1) (by omega)))
      rw [e9]
      refine lv_if_ne (tgt := 34) hx hb dN_trim_18 (by decide) (fun c_3 => ?_) (fun c_3 => ?_)
      · exact K_1 (n1 + 1) (by exact (Eq.trans ((if_neg c_3)).symm hq)) _ _ (hK.sub [0] rfl) (hP.sub [0, 1] rfl) (hD.sub [0, 1] (by decide) rfl) hS ls (lv_sub hl [] rfl)
      · refine lv_aload_n hx hb dN_trim_21 rfl (lv_at hl 0 rfl) ?_
        refine lv_dup hx hb dN_trim_22 rfl ?_
        refine va_get (D := (dC, dI)) (ci := 1) (v := .int (nI (n1 + 1))) (C := RN) (T := TN) (N := 2) hx hb hts (inC iN) hown hK hP 0 rfl rfl 1 (by decide) (hts _ (List.mem_cons_of_mem _ m1_52)) (fun _ h9 => h9) rfl dN_trim_23 ?_
        refine lv_iconst (v := 1) hx hb dN_trim_26 (by decide) ?_
        refine lv_isub hx hb dN_trim_27 ?_
        refine W.eq (g2 := F0 m 28 ls [.int (nI n1), .ref h0]) (congrArg (fun z => F0 m 28 ls [.int z, .ref h0]) (nI_pred n1)) ?_
        refine va_put (D := (dC, dI)) (ci := 1) (v := .int (nI n1)) (ty := .int) (C := RN) (T := TN) (N := 2) hx hb hts (inC iN) tyN tyN_ok nmN hown hK hP hD hS 0 rfl rfl 1 (by decide) (hts _ (List.mem_cons_of_mem _ m1_52)) (fun _ h9 => h9) rfl (by decide +kernel) rfl rfl (Nat.le_of_ble_eq_true rfl) dN_trim_28 (fun H locs hP hD hS => ?_)
        have hP : va_P (dC, dI) vwCl [(h0, .inr (1, [.ref h0d, .int (nI n1)])), (h0d, .inl (bh0, 72, .inl f))] H := hP
        have hD : va_D A [(h0, .inr (1, [.ref h0d, .int (nI n1)])), (h0d, .inl (bh0, 72, .inl f))] := hD
        refine lv_goto (tgt := 0) hx hb dN_trim_31 (by decide) ?_
        exact ih  (by omega) (by exact (Eq.trans ((if_pos c_3)).symm hq)) _ _ (hK.sub [0] rfl) (hP.sub [0, 1] rfl) (hD.sub [0, 1] (by decide) rfl) hS ls (lv_sub hl [0] rfl)
  exact L_1 k  (by omega) rfl _ _ (hK.sub [0] rfl) (hP.sub [0, 1] rfl) (hD.sub [0, 1] (by decide) rfl) hS ls (lv_sub hl [0] rfl)
def v_N_scale_1 (f : Nat → Int32) (k : Nat) (b : Int64) : Int64 := b &&& (1073741823 : Int64)
def v_N_scale_2 (f : Nat → Int32) (k : Nat) (b : Int64) : Int64 := jlush b (30 : Int32)
def v_N_scale_7 (x_1 : Int64) (x_2 : Int64) (j1 : Nat) (y1_0 : Int64) (y1_1 : Int64) (y1_2 : Nat → Int32) : Int32 := y1_2 j1
def v_N_scale_8 (x_1 : Int64) (x_2 : Int64) (j1 : Nat) (y1_0 : Int64) (y1_1 : Int64) (y1_2 : Nat → Int32) : Int64 := (((v_N_scale_7 x_1 x_2 j1 y1_0 y1_1 y1_2).toInt64 * x_1) + (y1_0 * x_2)) + y1_1
def v_N_scale_9 (x_1 : Int64) (x_2 : Int64) (j1 : Nat) (y1_0 : Int64) (y1_1 : Int64) (y1_2 : Nat → Int32) : Int32 := ((v_N_scale_8 x_1 x_2 j1 y1_0 y1_1 y1_2) &&& (1073741823 : Int64)).toInt32
def v_N_scale_10 (x_1 : Int64) (x_2 : Int64) (j1 : Nat) (y1_0 : Int64) (y1_1 : Int64) (y1_2 : Nat → Int32) : Nat → Int32 := upd y1_2 j1 (v_N_scale_9 x_1 x_2 j1 y1_0 y1_1 y1_2)
def v_N_scale_11 (x_1 : Int64) (x_2 : Int64) (j1 : Nat) (y1_0 : Int64) (y1_1 : Int64) (y1_2 : Nat → Int32) : Int64 := jlush (v_N_scale_8 x_1 x_2 j1 y1_0 y1_1 y1_2) (30 : Int32)
def qN_scale_34 (x_1 : Int64) (x_2 : Int64) : Nat → Nat → Int64 → Int64 → (Nat → Int32) → Int64 × Int64 × (Nat → Int32)
  | 0, j1, y1_0, y1_1, y1_2 => (y1_0, y1_1, y1_2)
  | n1 + 1, j1, y1_0, y1_1, y1_2 => qN_scale_34 x_1 x_2 n1 (j1 + 1) (v_N_scale_7 x_1 x_2 j1 y1_0 y1_1 y1_2).toInt64 (v_N_scale_11 x_1 x_2 j1 y1_0 y1_1 y1_2) (v_N_scale_10 x_1 x_2 j1 y1_0 y1_1 y1_2)
def v_N_scale_3 (f : Nat → Int32) (k : Nat) (b : Int64) : Int64 := (qN_scale_34 (v_N_scale_1 f k b) (v_N_scale_2 f k b) (min (k + 2) 72) 0 (0 : Int64) (0 : Int64) f).1
def v_N_scale_4 (f : Nat → Int32) (k : Nat) (b : Int64) : Int64 := (qN_scale_34 (v_N_scale_1 f k b) (v_N_scale_2 f k b) (min (k + 2) 72) 0 (0 : Int64) (0 : Int64) f).2.1
def v_N_scale_5 (f : Nat → Int32) (k : Nat) (b : Int64) : Nat → Int32 := (qN_scale_34 (v_N_scale_1 f k b) (v_N_scale_2 f k b) (min (k + 2) 72) 0 (0 : Int64) (0 : Int64) f).2.2
def v_N_scale_6 (f : Nat → Int32) (k : Nat) (b : Int64) : Nat := pN_trim_0 (v_N_scale_5 f k b) (min (k + 2) 72)
def pN_scale_0 (f : Nat → Int32) (k : Nat) (b : Int64) : Nat → Int32 := (v_N_scale_5 f k b)
def pN_scale_1 (f : Nat → Int32) (k : Nat) (b : Int64) : Nat := (v_N_scale_6 f k b)
/-- N_scale -/
abbrev atN_scale (dC : Nat → ClassId) (dI : Nat → Nat → Nat) (h0 h0d : Nat) (bh0 : ClassId) (f : Nat → Int32) (k : Nat) (b : Int64) (A : Nat → Prop) (t : State) : Prop := va_P (dC, dI) vwCl [(h0, .inr (1, [.ref h0d, .int (nI (pN_scale_1 f k b))])), (h0d, .inl (bh0, 72, .inl (pN_scale_0 f k b)))] t.heap ∧ va_K (dC, dI) vwCl [(bh0, .int)] t ∧ va_D A [(h0, .inr (1, [.ref h0d, .int (nI (pN_scale_1 f k b))])), (h0d, .inl (bh0, 72, .inl (pN_scale_0 f k b)))]
theorem trN_scale {dC : Nat → ClassId} {dI : Nat → Nat → Nat} {h0 h0d : Nat} {bh0 : ClassId} {A : Nat → Prop} {H : Heap} {a0 b0 : Nat → Int32} {a1 b1 : Nat} (e0 : a0 = b0) (e1 : a1 = b1) (h : va_P (dC, dI) vwCl [(h0, .inr (1, [.ref h0d, .int (nI a1)])), (h0d, .inl (bh0, 72, .inl a0))] H ∧ va_D A [(h0, .inr (1, [.ref h0d, .int (nI a1)])), (h0d, .inl (bh0, 72, .inl a0))]) : va_P (dC, dI) vwCl [(h0, .inr (1, [.ref h0d, .int (nI b1)])), (h0d, .inl (bh0, 72, .inl b0))] H ∧ va_D A [(h0, .inr (1, [.ref h0d, .int (nI b1)])), (h0d, .inl (bh0, 72, .inl b0))] := by
  subst e0
  subst e1
  exact h
abbrev WN_scale (p : Program) (l : Launch) (e : Env) (s : State) (m : MethodId) (below : List Frame) (meth : Method) (c : Code) (dC : Nat → ClassId) (dI : Nat → Nat → Nat) (h0 h0d : Nat) (bh0 : ClassId) (f : Nat → Int32) (k : Nat) (b : Int64) (A : Nat → Prop) (H : Heap) (locs : List Loc) (g : JFrame) : Prop := W p l e (headSpec wN_scale ({ frames := 1, cells := 0, slots := 0, locals := 20 })).room s m ([.ref h0, .long b] : List Value).toArray below meth c H locs 0 0 (MQ below (va_Qv (fun (_ : Unit) => True) (fun _ => atN_scale dC dI h0 h0d bh0 f k b A) A) ([.ref h0, .long b] : List Value).toArray s 0 0 A) g
set_option maxHeartbeats 4000000 in
set_option maxRecDepth 100000 in
theorem kN_scale (l : Launch) (dC : Nat → ClassId) (dI : Nat → Nat → Nat) (h0 h0d : Nat) (bh0 : ClassId) (sz : Nat) (f : Nat → Int32) (k : Nat) (b : Int64) (hk : k ≤ 72) : Met l yN_scale wN_scale ({ frames := 1, cells := 0, slots := 0, locals := 20 }) (va_Pc [.ref h0, .long b] (fun U => U.heap.size = sz ∧ va_P (dC, dI) vwCl [(h0, .inr (1, [.ref h0d, .int (nI k)])), (h0d, .inl (bh0, 72, .inl f))] U.heap ∧ va_K (dC, dI) vwCl [(bh0, .int)] U ∧ va_D (fun _ => True) [(h0, .inr (1, [.ref h0d, .int (nI k)])), (h0d, .inl (bh0, 72, .inl f))] ∧ NW U)) (va_Qv (fun (_ : Unit) => True) (fun _ => atN_scale dC dI h0 h0d bh0 f k b (va_A [(h0, .inr (1, [.ref h0d, .int (nI k)])), (h0d, .inl (bh0, 72, .inl f))] sz)) (va_A [(h0, .inr (1, [.ref h0d, .int (nI k)])), (h0d, .inl (bh0, 72, .inl f))] sz)) 0 0 (va_A [(h0, .inr (1, [.ref h0d, .int (nI k)])), (h0d, .inl (bh0, 72, .inl f))] sz) := by
  refine Met.ofW (cc := cN_scale) (maxL := 17) (ret := none) (by decide) rfl ?_
  intro p e s m args below meth c s₁ B hml hv
  obtain ⟨rfl, hsz, hP, hK, hD0, hN⟩ := hv
  have hx := B.exec
  have hb := B.bytes
  have hr := B.returns
  have hts := atoms_spec (ws := wN_scale) B.pre
  have hown : s.vm.findClass RN = some m.cls := findClass_of_methodNamed B.named
  have hlocks := B.notSynchronized
  subst hsz
  have hD := hD0.self (sz := s.heap.size)
  generalize hAe : va_A [(h0, .inr (1, [.ref h0d, .int (nI k)])), (h0d, .inl (bh0, 72, .inl f))] s.heap.size = A at hD ⊢
  have hA : ∀ q : Nat, s.heap.size ≤ q → A q := fun q h => by rw [← hAe]; exact Or.inr h
  have hS : va_S A s.heap s.heap [] := va_S.rf
  have hP : va_P (dC, dI) vwCl [(h0, .inr (1, [.ref h0d, .int (nI k)])), (h0d, .inl (bh0, 72, .inl f))] s.heap := hP
  have hl := lv_entry ([.ref h0, .long b]) (n := 17) (Nat.le_of_ble_eq_true rfl)
  rw [lg_entry_eq]
  generalize (lg_sl ([.ref h0, .long b]) ++ List.replicate (17 - (lg_sl ([.ref h0, .long b])).length) Slot.unset).toArray = ls at hl ⊢
  have hl : lv_has ls 17 [(0, .ref h0), (1, .long b)] := hl
  refine lv_lload_n hx hb dN_scale_0 rfl (lv_at hl 1 rfl) ?_
  refine lv_ldc2 (v := 1073741823) hx hb hown (hts _ (List.mem_cons_of_mem _ m2_6)) dN_scale_1 ?_
  refine lv_land hx hb dN_scale_4 ?_
  refine lv_topl (fun w9 e9 => ?_)
  have e9 : w9 = (v_N_scale_1 f k b) := e9
  rw [e9]
  refine lv_lstore_n (lv' := [(3, .long (v_N_scale_1 f k b)), (0, .ref h0), (1, .long b)]) hx hb dN_scale_5 rfl hl (by decide) rfl (fun ls hl => ?_)
  refine lv_lload_n hx hb dN_scale_6 rfl (lv_at hl 2 rfl) ?_
  refine lv_bipush (v := 30) hx hb dN_scale_7 (by decide) ?_
  refine lv_lushr (v := jlush b (30 : Int32)) hx hb dN_scale_9 rfl ?_
  refine lv_topl (fun w9 e9 => ?_)
  have e9 : w9 = (v_N_scale_2 f k b) := e9
  rw [e9]
  refine lv_lstore (lv' := [(5, .long (v_N_scale_2 f k b)), (3, .long (v_N_scale_1 f k b)), (0, .ref h0), (1, .long b)]) hx hb dN_scale_10 hl (by decide) rfl (fun ls hl => ?_)
  refine lv_aload_n hx hb dN_scale_12 rfl (lv_at hl 2 rfl) ?_
  refine va_get (D := (dC, dI)) (ci := 1) (v := .int (nI k)) (C := RN) (T := TN) (N := 2) hx hb hts (inC iN) hown hK hP 0 rfl rfl 1 (by decide) (hts _ (List.mem_cons_of_mem _ m1_52)) (fun _ h9 => h9) rfl dN_scale_13 ?_
  refine lv_iconst (v := 2) hx hb dN_scale_16 (by decide) ?_
  refine lv_iadd hx hb dN_scale_17 ?_
  refine W.eq (g2 := F0 m 18 ls [.int (nI (k + 2))]) (congrArg (fun z => F0 m 18 ls [.int z]) (nI_add k 2)) ?_
  refine lv_bipush (v := 72) hx hb dN_scale_18 (by decide) ?_
  refine va_mmin hx hb (hml.trans hl.1.symm) hown (hts _ (List.mem_cons_of_mem _ m2_7)) (hts _ (List.mem_cons_of_mem _ m2_8)) (hts _ (List.mem_cons_of_mem _ m1_9)) (hts _ (List.mem_cons_of_mem _ m2_9)) (Nat.le_of_ble_eq_true rfl) (Nat.le_of_ble_eq_true rfl) (Nat.le_of_ble_eq_true rfl) (Nat.le_of_ble_eq_true rfl) dN_scale_20 ?_
  refine W.eq (g2 := F0 m 23 ls [.int (nI (min (k + 2) 72))]) (congrArg (fun z => F0 m 23 ls [.int z]) (nI_minE (a := k + 2) (b := 72) (by omega) (by omega))) ?_
  refine lv_istore (lv' := [(7, .int (nI (min (k + 2) 72))), (5, .long (v_N_scale_2 f k b)), (3, .long (v_N_scale_1 f k b)), (0, .ref h0), (1, .long b)]) hx hb dN_scale_23 hl (by decide) rfl (fun ls hl => ?_)
  refine lv_lconst (v := 0) hx hb dN_scale_25 (by decide) ?_
  refine lv_lstore (lv' := [(8, .long (0 : Int64)), (7, .int (nI (min (k + 2) 72))), (5, .long (v_N_scale_2 f k b)), (3, .long (v_N_scale_1 f k b)), (0, .ref h0), (1, .long b)]) hx hb dN_scale_26 hl (by decide) rfl (fun ls hl => ?_)
  refine lv_lconst (v := 0) hx hb dN_scale_28 (by decide) ?_
  refine lv_lstore (lv' := [(10, .long (0 : Int64)), (8, .long (0 : Int64)), (7, .int (nI (min (k + 2) 72))), (5, .long (v_N_scale_2 f k b)), (3, .long (v_N_scale_1 f k b)), (0, .ref h0), (1, .long b)]) hx hb dN_scale_29 hl (by decide) rfl (fun ls hl => ?_)
  refine lv_iconst (v := 0) hx hb dN_scale_31 (by decide) ?_
  refine lv_istore (lv' := [(12, .int (0 : Int32)), (10, .long (0 : Int64)), (8, .long (0 : Int64)), (7, .int (nI (min (k + 2) 72))), (5, .long (v_N_scale_2 f k b)), (3, .long (v_N_scale_1 f k b)), (0, .ref h0), (1, .long b)]) hx hb dN_scale_32 hl (by decide) rfl (fun ls hl => ?_)
  have K_1 : ∀ (w_0 : Int64) (w_1 : Int64) (w_2 : Nat → Int32), (w_0, w_1, w_2) = qN_scale_34 (v_N_scale_1 f k b) (v_N_scale_2 f k b) (min (k + 2) 72) 0 (0 : Int64) (0 : Int64) f → ∀ (H : Heap) (locs : List Loc), va_K (dC, dI) vwCl [(bh0, .int)] s → va_P (dC, dI) vwCl [(h0, .inr (1, [.ref h0d, .int (nI k)])), (h0d, .inl (bh0, 72, .inl w_2))] H → va_D A [(h0, .inr (1, [.ref h0d, .int (nI k)])), (h0d, .inl (bh0, 72, .inl w_2))] → va_S A s.heap H locs → ∀ (ls : Array Slot), lv_has ls 17 [(0, .ref h0), (7, .int (nI (min (k + 2) 72)))] → WN_scale p l e s m below meth c dC dI h0 h0d bh0 f k b A H locs (F0 m 97 ls []) := by
    intro w_0 w_1 w_2 hz
    have e_0 : w_0 = (v_N_scale_3 f k b) := (congrArg (fun q => q.1) hz)
    have e_1 : w_1 = (v_N_scale_4 f k b) := (congrArg (fun q => q.2.1) hz)
    have e_2 : w_2 = (v_N_scale_5 f k b) := (congrArg (fun q => q.2.2) hz)
    rw [e_2]
    intro H locs hK hP hD hS ls hl
    refine lv_aload_n hx hb dN_scale_97 rfl (lv_at hl 0 rfl) ?_
    refine lv_iload hx hb dN_scale_98 (lv_at hl 1 rfl) ?_
    refine va_put (D := (dC, dI)) (ci := 1) (v := .int (nI (min (k + 2) 72))) (ty := .int) (C := RN) (T := TN) (N := 2) hx hb hts (inC iN) tyN tyN_ok nmN hown hK hP hD hS 0 rfl rfl 1 (by decide) (hts _ (List.mem_cons_of_mem _ m1_52)) (fun _ h9 => h9) rfl (by decide +kernel) rfl rfl (Nat.le_of_ble_eq_true rfl) dN_scale_100 (fun H locs hP hD hS => ?_)
    have hP : va_P (dC, dI) vwCl [(h0, .inr (1, [.ref h0d, .int (nI (min (k + 2) 72))])), (h0d, .inl (bh0, 72, .inl (v_N_scale_5 f k b)))] H := hP
    have hD : va_D A [(h0, .inr (1, [.ref h0d, .int (nI (min (k + 2) 72))])), (h0d, .inl (bh0, 72, .inl (v_N_scale_5 f k b)))] := hD
    refine lv_aload_n hx hb dN_scale_103 rfl (lv_at hl 0 rfl) ?_
    have hPc := hP.sub (ws' := [(h0, .inr (1, [.ref h0d, .int (nI (min (k + 2) 72))])), (h0d, .inl (bh0, 72, .inl (v_N_scale_5 f k b)))]) [0, 1] rfl
    have hDc := hD.sub (ws' := [(h0, .inr (1, [.ref h0d, .int (nI (min (k + 2) 72))])), (h0d, .inl (bh0, 72, .inl (v_N_scale_5 f k b)))]) [0, 1] (by decide) rfl
    have hKc := hK.sub (tys' := [(bh0, .int)]) [0] rfl
    have hFc := va_free (wc := [(h0, .inr (1, [.ref h0d, .int (nI (min (k + 2) 72))])), (h0d, .inl (bh0, 72, .inl (v_N_scale_5 f k b)))]) hD hS hA [0, 1] rfl
    refine va_callv (va_runV (As := []) (rest := []) ⟨hx, hb, hml, hown, hts⟩ (kN_trim l dC dI h0 h0d bh0 H.size (v_N_scale_5 f k b) (min (k + 2) 72) (by omega)) (cwV 0 hts (g_call (List.forall_mem_cons.mpr ⟨m2_10, List.forall_mem_cons.mpr ⟨m2_11, List.forall_mem_cons.mpr ⟨m2_12, List.forall_mem_cons.mpr ⟨m1_3, fun _ h => absurd h List.not_mem_nil⟩⟩⟩⟩) m2_13) rfl rfl rfl (by decide +kernel) ⟨Nat.le_of_ble_eq_true rfl, Nat.le_of_ble_eq_true rfl⟩) ⟨fun a U g mk q => by obtain ⟨q0, q1, qP, qK, qD, qN⟩ := q; exact ⟨q0, q1, qP, va_K.moved (u := U) (U := U.calling g mk a) (Vm.Alike.refl U.vm) qK, qD, NW.same (u := U) rfl qN⟩, va_recv hKc hPc (ci := 1) (q0 := 0) rfl rfl, fun U hU hW => ⟨rfl, by rw [hU], by rw [hU]; exact hPc, va_K.moved hW.alike hKc, hDc.weaken (fun _ _ _ _ => trivial), NW.warm hW hN⟩⟩ rfl rfl hl.1 rfl (lv_room (Nat.le_of_ble_eq_true rfl)) dN_scale_104 ⟨Nat.le_of_ble_eq_true rfl, Nat.le_of_ble_eq_true rfl⟩) hS (fun q _ h => hFc q h) hFc (fun u9 t H1 locs ht hvm hw hB hz1 hk1 hS => ?_)
    obtain ⟨hP1, hK1, hD1⟩ := hB
    rw [ht] at hP1
    have hK1 := va_K.moved hvm.symm hK1
    have hP1 : va_P (dC, dI) vwCl [(h0, .inr (1, [.ref h0d, .int (nI (v_N_scale_6 f k b))])), (h0d, .inl (bh0, 72, .inl (v_N_scale_5 f k b)))] H1 := hP1
    have hD1 : va_D _ [(h0, .inr (1, [.ref h0d, .int (nI (v_N_scale_6 f k b))])), (h0d, .inl (bh0, 72, .inl (v_N_scale_5 f k b)))] := hD1
    obtain ⟨hP, hD⟩ := va_join (wr := []) (w1 := [(h0, .inr (1, [.ref h0d, .int (nI (v_N_scale_6 f k b))])), (h0d, .inl (bh0, 72, .inl (v_N_scale_5 f k b)))]) hP hD [0, 1] [] rfl rfl (by decide) (by decide) hk1 hFc hP1 hD1
    have hK := (hK.sub (tys' := []) [] rfl).app hK1
    generalize H1 = H at hP hS ⊢
    have hP : va_P (dC, dI) vwCl [(h0, .inr (1, [.ref h0d, .int (nI (v_N_scale_6 f k b))])), (h0d, .inl (bh0, 72, .inl (v_N_scale_5 f k b)))] H := hP
    have hD : va_D A [(h0, .inr (1, [.ref h0d, .int (nI (v_N_scale_6 f k b))])), (h0d, .inl (bh0, 72, .inl (v_N_scale_5 f k b)))] := hD
    have hK : va_K (dC, dI) vwCl [(bh0, .int)] s := hK
    have e9_0 : (v_N_scale_5 f k b) = pN_scale_0 f k b := (rfl).symm
    have e9_1 : (v_N_scale_6 f k b) = pN_scale_1 f k b := (rfl).symm
    have hP9 := hP.sub (ws' := [(h0, .inr (1, [.ref h0d, .int (nI (v_N_scale_6 f k b))])), (h0d, .inl (bh0, 72, .inl (v_N_scale_5 f k b)))]) [0, 1] rfl
    have hD9 := hD.sub (ws' := [(h0, .inr (1, [.ref h0d, .int (nI (v_N_scale_6 f k b))])), (h0d, .inl (bh0, 72, .inl (v_N_scale_5 f k b)))]) [0, 1] (by decide) rfl
    have hK9 := hK.sub (tys' := [(bh0, .int)]) [0] rfl
    have h9 := trN_scale e9_0 e9_1 ⟨hP9, hD9⟩
    exact W.vret hx hb hr (fun t ht hW => ⟨⟨(), rfl, trivial, by rw [ht]; exact h9.1, va_K.moved hW.alike hK9, h9.2⟩, hS.F ht⟩) hS.2.2 dN_scale_107
  have L_1 : ∀ (n1 j1 : Nat) (y1_0 : Int64) (y1_1 : Int64) (y1_2 : Nat → Int32), j1 + n1 = min (k + 2) 72 → qN_scale_34 (v_N_scale_1 f k b) (v_N_scale_2 f k b) n1 j1 y1_0 y1_1 y1_2 = qN_scale_34 (v_N_scale_1 f k b) (v_N_scale_2 f k b) (min (k + 2) 72) 0 (0 : Int64) (0 : Int64) f → ∀ (H : Heap) (locs : List Loc), va_K (dC, dI) vwCl [(bh0, .int)] s → va_P (dC, dI) vwCl [(h0, .inr (1, [.ref h0d, .int (nI k)])), (h0d, .inl (bh0, 72, .inl y1_2))] H → va_D A [(h0, .inr (1, [.ref h0d, .int (nI k)])), (h0d, .inl (bh0, 72, .inl y1_2))] → va_S A s.heap H locs → ∀ (ls : Array Slot), lv_has ls 17 [(0, .ref h0), (3, .long (v_N_scale_1 f k b)), (5, .long (v_N_scale_2 f k b)), (7, .int (nI (min (k + 2) 72))), (8, .long y1_0), (10, .long y1_1), (12, .int (nI j1))] → WN_scale p l e s m below meth c dC dI h0 h0d bh0 f k b A H locs (F0 m 34 ls []) := by
    intro n1
    induction n1 with
    | zero =>
      intro j1 y1_0 y1_1 y1_2 hj hq H locs hK hP hD hS ls hl
      refine lv_iload hx hb dN_scale_34 (lv_at hl 6 rfl) ?_
      refine lv_iload hx hb dN_scale_36 (lv_at hl 3 rfl) ?_
      refine lv_icmp_ge (tgt := 97) hx hb dN_scale_38 (by decide) (fun c_1 => ?_) (fun c_1 => ?_)
      rotate_left
      · exact absurd ((nI_leI (a := min (k + 2) 72) (b := j1) (by omega) (by omega)).mpr (by omega)) c_1
      exact K_1 y1_0 y1_1 y1_2 (by exact hq) _ _ (hK.sub [0] rfl) (hP.sub [0, 1] rfl) (hD.sub [0, 1] (by decide) rfl) hS ls (lv_sub hl [0, 3] rfl)
    | succ n1 ih =>
      intro j1 y1_0 y1_1 y1_2 hj hq H locs hK hP hD hS ls hl
      refine lv_iload hx hb dN_scale_34 (lv_at hl 6 rfl) ?_
      refine lv_iload hx hb dN_scale_36 (lv_at hl 3 rfl) ?_
      refine lv_icmp_ge (tgt := 97) hx hb dN_scale_38 (by decide) (fun c_2 => ?_) (fun c_2 => ?_)
      · exact absurd ((nI_leI (a := min (k + 2) 72) (b := j1) (by omega) (by omega)).mp c_2) (by omega)
      refine lv_aload_n hx hb dN_scale_41 rfl (lv_at hl 0 rfl) ?_
      refine va_get (D := (dC, dI)) (ci := 1) (v := .ref h0d) (C := RN) (T := TN) (N := 2) hx hb hts (inC iN) hown hK hP 0 rfl rfl 0 (by decide) (hts _ (List.mem_cons_of_mem _ m1_51)) (fun _ h9 => h9) rfl dN_scale_42 ?_
      refine lv_iload hx hb dN_scale_45 (lv_at hl 6 rfl) ?_
      refine va_iald hx hb hK hP 1 0 rfl rfl (i := (nI j1)) (vp_in_nI (n := j1) (by omega) (by omega)) dN_scale_47 ?_
      refine lv_topi (fun w9 e9 => ?_)
      have e9 : w9 = (v_N_scale_7 (v_N_scale_1 f k b) (v_N_scale_2 f k b) j1 y1_0 y1_1 y1_2) := e9.trans (congrArg y1_2 (nI_clamp (n := j1) (by omega)))
      rw [e9]
      refine lv_i2l (v := (v_N_scale_7 (v_N_scale_1 f k b) (v_N_scale_2 f k b) j1 y1_0 y1_1 y1_2).toInt64) hx hb dN_scale_48 rfl ?_
      refine lv_lstore (lv' := [(13, .long (v_N_scale_7 (v_N_scale_1 f k b) (v_N_scale_2 f k b) j1 y1_0 y1_1 y1_2).toInt64), (0, .ref h0), (3, .long (v_N_scale_1 f k b)), (5, .long (v_N_scale_2 f k b)), (7, .int (nI (min (k + 2) 72))), (8, .long y1_0), (10, .long y1_1), (12, .int (nI j1))]) hx hb dN_scale_49 hl (by decide) rfl (fun ls hl => ?_)
      refine lv_lload hx hb dN_scale_51 (lv_at hl 0 rfl) ?_
      refine lv_lload_n hx hb dN_scale_53 rfl (lv_at hl 2 rfl) ?_
      refine lv_lmul hx hb dN_scale_54 ?_
      refine lv_lload hx hb dN_scale_55 (lv_at hl 5 rfl) ?_
      refine lv_lload hx hb dN_scale_57 (lv_at hl 3 rfl) ?_
      refine lv_lmul hx hb dN_scale_59 ?_
      refine lv_ladd hx hb dN_scale_60 ?_
      refine lv_lload hx hb dN_scale_61 (lv_at hl 6 rfl) ?_
      refine lv_ladd hx hb dN_scale_63 ?_
      refine lv_topl (fun w9 e9 => ?_)
      have e9 : w9 = (v_N_scale_8 (v_N_scale_1 f k b) (v_N_scale_2 f k b) j1 y1_0 y1_1 y1_2) := e9
      rw [e9]
      refine lv_lstore (lv' := [(15, .long (v_N_scale_8 (v_N_scale_1 f k b) (v_N_scale_2 f k b) j1 y1_0 y1_1 y1_2)), (13, .long (v_N_scale_7 (v_N_scale_1 f k b) (v_N_scale_2 f k b) j1 y1_0 y1_1 y1_2).toInt64), (0, .ref h0), (3, .long (v_N_scale_1 f k b)), (5, .long (v_N_scale_2 f k b)), (7, .int (nI (min (k + 2) 72))), (8, .long y1_0), (10, .long y1_1), (12, .int (nI j1))]) hx hb dN_scale_64 hl (by decide) rfl (fun ls hl => ?_)
      refine lv_aload_n hx hb dN_scale_66 rfl (lv_at hl 2 rfl) ?_
      refine va_get (D := (dC, dI)) (ci := 1) (v := .ref h0d) (C := RN) (T := TN) (N := 2) hx hb hts (inC iN) hown hK hP 0 rfl rfl 0 (by decide) (hts _ (List.mem_cons_of_mem _ m1_51)) (fun _ h9 => h9) rfl dN_scale_67 ?_
      refine lv_iload hx hb dN_scale_70 (lv_at hl 8 rfl) ?_
      refine lv_lload hx hb dN_scale_72 (lv_at hl 0 rfl) ?_
      refine lv_ldc2 (v := 1073741823) hx hb hown (hts _ (List.mem_cons_of_mem _ m2_6)) dN_scale_74 ?_
      refine lv_land hx hb dN_scale_77 ?_
      refine lv_l2i (v := ((v_N_scale_8 (v_N_scale_1 f k b) (v_N_scale_2 f k b) j1 y1_0 y1_1 y1_2) &&& (1073741823 : Int64)).toInt32) hx hb dN_scale_78 rfl ?_
      refine lv_topi (fun w9 e9 => ?_)
      have e9 : w9 = (v_N_scale_9 (v_N_scale_1 f k b) (v_N_scale_2 f k b) j1 y1_0 y1_1 y1_2) := e9
      rw [e9]
      refine va_iast hx hb hK hP hD hS 1 0 rfl rfl (i := (nI j1)) (x := (v_N_scale_9 (v_N_scale_1 f k b) (v_N_scale_2 f k b) j1 y1_0 y1_1 y1_2)) (vp_in_nI (n := j1) (by omega) (by omega)) dN_scale_79 (fun H locs hP hD hS => ?_)
      have hP : va_P (dC, dI) vwCl [(h0, .inr (1, [.ref h0d, .int (nI k)])), (h0d, .inl (bh0, 72, .inl (upd y1_2 (nI j1).toNatClampNeg (v_N_scale_9 (v_N_scale_1 f k b) (v_N_scale_2 f k b) j1 y1_0 y1_1 y1_2))))] H := hP
      have hD : va_D A [(h0, .inr (1, [.ref h0d, .int (nI k)])), (h0d, .inl (bh0, 72, .inl (upd y1_2 (nI j1).toNatClampNeg (v_N_scale_9 (v_N_scale_1 f k b) (v_N_scale_2 f k b) j1 y1_0 y1_1 y1_2))))] := hD
      have e9 : upd y1_2 (nI j1).toNatClampNeg (v_N_scale_9 (v_N_scale_1 f k b) (v_N_scale_2 f k b) j1 y1_0 y1_1 y1_2) = (v_N_scale_10 (v_N_scale_1 f k b) (v_N_scale_2 f k b) j1 y1_0 y1_1 y1_2) := congrArg (fun z => upd y1_2 z (v_N_scale_9 (v_N_scale_1 f k b) (v_N_scale_2 f k b) j1 y1_0 y1_1 y1_2)) (nI_clamp (n := j1) (by omega))
      rw [e9] at hP hD
      have hP : va_P (dC, dI) vwCl [(h0, .inr (1, [.ref h0d, .int (nI k)])), (h0d, .inl (bh0, 72, .inl (v_N_scale_10 (v_N_scale_1 f k b) (v_N_scale_2 f k b) j1 y1_0 y1_1 y1_2)))] H := hP
      have hD : va_D A [(h0, .inr (1, [.ref h0d, .int (nI k)])), (h0d, .inl (bh0, 72, .inl (v_N_scale_10 (v_N_scale_1 f k b) (v_N_scale_2 f k b) j1 y1_0 y1_1 y1_2)))] := hD
      refine lv_lload hx hb dN_scale_80 (lv_at hl 0 rfl) ?_
      refine lv_bipush (v := 30) hx hb dN_scale_82 (by decide) ?_
      refine lv_lushr (v := jlush (v_N_scale_8 (v_N_scale_1 f k b) (v_N_scale_2 f k b) j1 y1_0 y1_1 y1_2) (30 : Int32)) hx hb dN_scale_84 rfl ?_
      refine lv_topl (fun w9 e9 => ?_)
      have e9 : w9 = (v_N_scale_11 (v_N_scale_1 f k b) (v_N_scale_2 f k b) j1 y1_0 y1_1 y1_2) := e9
      rw [e9]
      refine lv_lstore (lv' := [(10, .long (v_N_scale_11 (v_N_scale_1 f k b) (v_N_scale_2 f k b) j1 y1_0 y1_1 y1_2)), (15, .long (v_N_scale_8 (v_N_scale_1 f k b) (v_N_scale_2 f k b) j1 y1_0 y1_1 y1_2)), (13, .long (v_N_scale_7 (v_N_scale_1 f k b) (v_N_scale_2 f k b) j1 y1_0 y1_1 y1_2).toInt64), (0, .ref h0), (3, .long (v_N_scale_1 f k b)), (5, .long (v_N_scale_2 f k b)), (7, .int (nI (min (k + 2) 72))), (8, .long y1_0), (12, .int (nI j1))]) hx hb dN_scale_85 hl (by decide) rfl (fun ls hl => ?_)
      refine lv_lload hx hb dN_scale_87 (lv_at hl 2 rfl) ?_
      refine lv_lstore (lv' := [(8, .long (v_N_scale_7 (v_N_scale_1 f k b) (v_N_scale_2 f k b) j1 y1_0 y1_1 y1_2).toInt64), (10, .long (v_N_scale_11 (v_N_scale_1 f k b) (v_N_scale_2 f k b) j1 y1_0 y1_1 y1_2)), (15, .long (v_N_scale_8 (v_N_scale_1 f k b) (v_N_scale_2 f k b) j1 y1_0 y1_1 y1_2)), (13, .long (v_N_scale_7 (v_N_scale_1 f k b) (v_N_scale_2 f k b) j1 y1_0 y1_1 y1_2).toInt64), (0, .ref h0), (3, .long (v_N_scale_1 f k b)), (5, .long (v_N_scale_2 f k b)), (7, .int (nI (min (k + 2) 72))), (12, .int (nI j1))]) hx hb dN_scale_89 hl (by decide) rfl (fun ls hl => ?_)
      refine lv_iinc (v := (nI (j1 + 1))) (lv' := [(12, .int (nI (j1 + 1))), (8, .long (v_N_scale_7 (v_N_scale_1 f k b) (v_N_scale_2 f k b) j1 y1_0 y1_1 y1_2).toInt64), (10, .long (v_N_scale_11 (v_N_scale_1 f k b) (v_N_scale_2 f k b) j1 y1_0 y1_1 y1_2)), (15, .long (v_N_scale_8 (v_N_scale_1 f k b) (v_N_scale_2 f k b) j1 y1_0 y1_1 y1_2)), (13, .long (v_N_scale_7 (v_N_scale_1 f k b) (v_N_scale_2 f k b) j1 y1_0 y1_1 y1_2).toInt64), (0, .ref h0), (3, .long (v_N_scale_1 f k b)), (5, .long (v_N_scale_2 f k b)), (7, .int (nI (min (k + 2) 72)))]) hx hb dN_scale_91 hl (k := 8) rfl (nI_1 _) (by decide) rfl (fun ls hl => ?_)
      refine lv_goto (tgt := 34) hx hb dN_scale_94 (by decide) ?_
      exact ih (j1 + 1) (v_N_scale_7 (v_N_scale_1 f k b) (v_N_scale_2 f k b) j1 y1_0 y1_1 y1_2).toInt64 (v_N_scale_11 (v_N_scale_1 f k b) (v_N_scale_2 f k b) j1 y1_0 y1_1 y1_2) (v_N_scale_10 (v_N_scale_1 f k b) (v_N_scale_2 f k b) j1 y1_0 y1_1 y1_2) (by omega) (by exact hq) _ _ (hK.sub [0] rfl) (hP.sub [0, 1] rfl) (hD.sub [0, 1] (by decide) rfl) hS ls (lv_sub hl [5, 6, 7, 8, 1, 2, 0] rfl)
  exact L_1 (min (k + 2) 72) 0 (0 : Int64) (0 : Int64) f (by omega) rfl _ _ (hK.sub [0] rfl) (hP.sub [0, 1] rfl) (hD.sub [0, 1] (by decide) rfl) hS ls (lv_sub hl [6, 5, 4, 3, 2, 1, 0] rfl)
def v_N_length_1 (f : Nat → Int32) (k : Nat) : Int32 := f (k - 1)
def v_N_length_2 (f : Nat → Int32) (k : Nat) : Int32 := (if (nI k) = 0 then (0 : Int32) else (nI ((k - 1) * 30)) + (pF_lengthOf (v_N_length_1 f k).toInt64))
def pN_length (f : Nat → Int32) (k : Nat) : Int32 := (v_N_length_2 f k)
/-- N_length -/
abbrev atN_length (dC : Nat → ClassId) (dI : Nat → Nat → Nat) (h0 h0d : Nat) (bh0 : ClassId) (f : Nat → Int32) (k : Nat) (A : Nat → Prop) (t : State) : Prop := va_P (dC, dI) vwCl [(h0, .inr (1, [.ref h0d, .int (nI k)])), (h0d, .inl (bh0, 72, .inl f))] t.heap ∧ va_K (dC, dI) vwCl [(bh0, .int)] t ∧ va_D A [(h0, .inr (1, [.ref h0d, .int (nI k)])), (h0d, .inl (bh0, 72, .inl f))]
abbrev WN_length (p : Program) (l : Launch) (e : Env) (s : State) (m : MethodId) (below : List Frame) (meth : Method) (c : Code) (dC : Nat → ClassId) (dI : Nat → Nat → Nat) (h0 h0d : Nat) (bh0 : ClassId) (f : Nat → Int32) (k : Nat) (A : Nat → Prop) (H : Heap) (locs : List Loc) (g : JFrame) : Prop := W p l e (headSpec wN_length ({ frames := 3, cells := 0, slots := 0, locals := 64 })).room s m ([.ref h0] : List Value).toArray below meth c H locs 0 0 (MQ below (va_Qi (fun (r : Int32) (_ : Unit) => r = pN_length f k) (fun _ => atN_length dC dI h0 h0d bh0 f k A) A) ([.ref h0] : List Value).toArray s 0 0 A) g
set_option maxHeartbeats 4000000 in
set_option maxRecDepth 100000 in
theorem kN_length (l : Launch) (dC : Nat → ClassId) (dI : Nat → Nat → Nat) (h0 h0d : Nat) (bh0 : ClassId) (sz : Nat) (f : Nat → Int32) (k : Nat) (hk : k ≤ 72) : Met l yN_length wN_length ({ frames := 3, cells := 0, slots := 0, locals := 64 }) (va_Pc [.ref h0] (fun U => U.heap.size = sz ∧ va_P (dC, dI) vwCl [(h0, .inr (1, [.ref h0d, .int (nI k)])), (h0d, .inl (bh0, 72, .inl f))] U.heap ∧ va_K (dC, dI) vwCl [(bh0, .int)] U ∧ va_D (fun _ => True) [(h0, .inr (1, [.ref h0d, .int (nI k)])), (h0d, .inl (bh0, 72, .inl f))] ∧ NW U)) (va_Qi (fun (r : Int32) (_ : Unit) => r = pN_length f k) (fun _ => atN_length dC dI h0 h0d bh0 f k (va_A [(h0, .inr (1, [.ref h0d, .int (nI k)])), (h0d, .inl (bh0, 72, .inl f))] sz)) (va_A [(h0, .inr (1, [.ref h0d, .int (nI k)])), (h0d, .inl (bh0, 72, .inl f))] sz)) 0 0 (va_A [(h0, .inr (1, [.ref h0d, .int (nI k)])), (h0d, .inl (bh0, 72, .inl f))] sz) := by
  refine Met.ofW (cc := cN_length) (maxL := 1) (ret := (some .int)) (by decide) rfl ?_
  intro p e s m args below meth c s₁ B hml hv
  obtain ⟨rfl, hsz, hP, hK, hD0, hN⟩ := hv
  have hx := B.exec
  have hb := B.bytes
  have hr := B.returns
  have hts := atoms_spec (ws := wN_length) B.pre
  have hown : s.vm.findClass RN = some m.cls := findClass_of_methodNamed B.named
  have hlocks := B.notSynchronized
  subst hsz
  have hD := hD0.self (sz := s.heap.size)
  generalize hAe : va_A [(h0, .inr (1, [.ref h0d, .int (nI k)])), (h0d, .inl (bh0, 72, .inl f))] s.heap.size = A at hD ⊢
  have hA : ∀ q : Nat, s.heap.size ≤ q → A q := fun q h => by rw [← hAe]; exact Or.inr h
  have hS : va_S A s.heap s.heap [] := va_S.rf
  have hP : va_P (dC, dI) vwCl [(h0, .inr (1, [.ref h0d, .int (nI k)])), (h0d, .inl (bh0, 72, .inl f))] s.heap := hP
  have hl := lv_entry ([.ref h0]) (n := 1) (Nat.le_of_ble_eq_true rfl)
  rw [lg_entry_eq]
  generalize (lg_sl ([.ref h0]) ++ List.replicate (1 - (lg_sl ([.ref h0])).length) Slot.unset).toArray = ls at hl ⊢
  have hl : lv_has ls 1 [(0, .ref h0)] := hl
  refine lv_aload_n hx hb dN_length_0 rfl (lv_at hl 0 rfl) ?_
  refine va_get (D := (dC, dI)) (ci := 1) (v := .int (nI k)) (C := RN) (T := TN) (N := 2) hx hb hts (inC iN) hown hK hP 0 rfl rfl 1 (by decide) (hts _ (List.mem_cons_of_mem _ m1_52)) (fun _ h9 => h9) rfl dN_length_1 ?_
  have J_1 : ∀ (w_0 : Int32), w_0 = (v_N_length_2 f k) → ∀ (H : Heap) (locs : List Loc), va_K (dC, dI) vwCl [(bh0, .int)] s → va_P (dC, dI) vwCl [(h0, .inr (1, [.ref h0d, .int (nI k)])), (h0d, .inl (bh0, 72, .inl f))] H → va_D A [(h0, .inr (1, [.ref h0d, .int (nI k)])), (h0d, .inl (bh0, 72, .inl f))] → va_S A s.heap H locs → ∀ (ls : Array Slot), lv_has ls 1 [] → WN_length p l e s m below meth c dC dI h0 h0d bh0 f k A H locs (F0 m 36 ls [.int w_0]) := by
    intro w_0 e_0
    rw [e_0]
    intro H locs hK hP hD hS ls hl
    have e9 : (v_N_length_2 f k) = pN_length f k := (rfl).symm
    have hP9 := hP.sub (ws' := [(h0, .inr (1, [.ref h0d, .int (nI k)])), (h0d, .inl (bh0, 72, .inl f))]) [0, 1] rfl
    have hD9 := hD.sub (ws' := [(h0, .inr (1, [.ref h0d, .int (nI k)])), (h0d, .inl (bh0, 72, .inl f))]) [0, 1] (by decide) rfl
    have hK9 := hK.sub (tys' := [(bh0, .int)]) [0] rfl
    have h9 := And.intro hP9 hD9
    exact W.iret (v := (v_N_length_2 f k)) hx hb hr (fun t ht hW => ⟨⟨(v_N_length_2 f k), (), rfl, e9, by rw [ht]; exact h9.1, va_K.moved hW.alike hK9, h9.2⟩, hS.F ht⟩) hS.2.2 dN_length_36
  refine lv_if_ne (tgt := 11) hx hb dN_length_4 (by decide) (fun c_1 => ?_) (fun c_1 => ?_)
  · have hk1 : 1 ≤ k := nI_pos1 c_1
    refine lv_aload_n hx hb dN_length_11 rfl (lv_at hl 0 rfl) ?_
    refine va_get (D := (dC, dI)) (ci := 1) (v := .int (nI k)) (C := RN) (T := TN) (N := 2) hx hb hts (inC iN) hown hK hP 0 rfl rfl 1 (by decide) (hts _ (List.mem_cons_of_mem _ m1_52)) (fun _ h9 => h9) rfl dN_length_12 ?_
    refine lv_iconst (v := 1) hx hb dN_length_15 (by decide) ?_
    refine lv_isub hx hb dN_length_16 ?_
    refine W.eq (g2 := F0 m 17 ls [.int (nI (k - 1))]) (congrArg (fun z => F0 m 17 ls [.int z]) (pk_sub (a := k) (b := 1) (by omega))) ?_
    refine lv_bipush (v := 30) hx hb dN_length_17 (by decide) ?_
    refine lv_imul hx hb dN_length_19 ?_
    refine W.eq (g2 := F0 m 20 ls [.int (nI ((k - 1) * 30))]) (congrArg (fun z => F0 m 20 ls [.int z]) (pk_mul (k - 1) 30)) ?_
    refine lv_aload_n hx hb dN_length_20 rfl (lv_at hl 0 rfl) ?_
    refine va_get (D := (dC, dI)) (ci := 1) (v := .ref h0d) (C := RN) (T := TN) (N := 2) hx hb hts (inC iN) hown hK hP 0 rfl rfl 0 (by decide) (hts _ (List.mem_cons_of_mem _ m1_51)) (fun _ h9 => h9) rfl dN_length_21 ?_
    refine lv_aload_n hx hb dN_length_24 rfl (lv_at hl 0 rfl) ?_
    refine va_get (D := (dC, dI)) (ci := 1) (v := .int (nI k)) (C := RN) (T := TN) (N := 2) hx hb hts (inC iN) hown hK hP 0 rfl rfl 1 (by decide) (hts _ (List.mem_cons_of_mem _ m1_52)) (fun _ h9 => h9) rfl dN_length_25 ?_
    refine lv_iconst (v := 1) hx hb dN_length_28 (by decide) ?_
    refine lv_isub hx hb dN_length_29 ?_
    refine W.eq (g2 := F0 m 30 ls [.int (nI (k - 1)), .ref h0d, .int (nI ((k - 1) * 30))]) (congrArg (fun z => F0 m 30 ls [.int z, .ref h0d, .int (nI ((k - 1) * 30))]) (pk_sub (a := k) (b := 1) (by omega))) ?_
    refine va_iald hx hb hK hP 1 0 rfl rfl (i := (nI (k - 1))) (vp_in_nI (n := k - 1) (by omega) (by omega)) dN_length_30 ?_
    refine lv_topi (fun w9 e9 => ?_)
    have e9 : w9 = (v_N_length_1 f k) := e9.trans (congrArg f (nI_clamp (n := k - 1) (by omega)))
    rw [e9]
    refine lv_i2l (v := (v_N_length_1 f k).toInt64) hx hb dN_length_31 rfl ?_
    refine k_callN (va_runSN (As := [.long (v_N_length_1 f k).toInt64]) (rest := [.int (nI ((k - 1) * 30))]) ⟨hx, hb, hml, hown, hts⟩ (kF_lengthOf l (v_N_length_1 f k).toInt64) ⟨va_cnB 1 hts (g_call (ex := []) (fun _ h => absurd h List.not_mem_nil) m1_142) rfl rfl rfl (hN _ (List.mem_of_getElem? (i := 5) rfl)) (hts _ (List.mem_cons_of_mem _ m1_1)) (by decide +kernel) ⟨Nat.le_of_ble_eq_true rfl, Nat.le_of_ble_eq_true rfl⟩, (hts _ (List.mem_cons_of_mem _ m1_141)), trivial⟩ preEq rfl rfl hl.1 rfl (lv_room (Nat.le_of_ble_eq_true rfl)) dN_length_32 ⟨Nat.le_of_ble_eq_true rfl, Nat.le_of_ble_eq_true rfl⟩) ?_
    refine lv_iadd hx hb dN_length_35 ?_
    exact J_1 ((nI ((k - 1) * 30)) + (pF_lengthOf (v_N_length_1 f k).toInt64)) ((if_neg c_1)).symm _ _ (hK.sub [0] rfl) (hP.sub [0, 1] rfl) (hD.sub [0, 1] (by decide) rfl) hS ls (lv_sub hl [] rfl)
  · refine lv_iconst (v := 0) hx hb dN_length_7 (by decide) ?_
    refine lv_goto (tgt := 36) hx hb dN_length_8 (by decide) ?_
    exact J_1 (0 : Int32) ((if_pos c_1)).symm _ _ (hK.sub [0] rfl) (hP.sub [0, 1] rfl) (hD.sub [0, 1] (by decide) rfl) hS ls (lv_sub hl [] rfl)
def v_N_bitAt_1 (f : Nat → Int32) (k : Nat) (pb : Nat) : Int32 := f (pb / 30)
def pN_bitAt (f : Nat → Int32) (k : Nat) (pb : Nat) : Int32 := (jiush (v_N_bitAt_1 f k pb) (nI (pb % 30))) &&& (1 : Int32)
/-- N_bitAt -/
abbrev atN_bitAt (dC : Nat → ClassId) (dI : Nat → Nat → Nat) (h0 h0d : Nat) (bh0 : ClassId) (f : Nat → Int32) (k : Nat) (pb : Nat) (A : Nat → Prop) (t : State) : Prop := va_P (dC, dI) vwCl [(h0, .inr (1, [.ref h0d, .int (nI k)])), (h0d, .inl (bh0, 72, .inl f))] t.heap ∧ va_K (dC, dI) vwCl [(bh0, .int)] t ∧ va_D A [(h0, .inr (1, [.ref h0d, .int (nI k)])), (h0d, .inl (bh0, 72, .inl f))]
abbrev WN_bitAt (p : Program) (l : Launch) (e : Env) (s : State) (m : MethodId) (below : List Frame) (meth : Method) (c : Code) (dC : Nat → ClassId) (dI : Nat → Nat → Nat) (h0 h0d : Nat) (bh0 : ClassId) (f : Nat → Int32) (k : Nat) (pb : Nat) (A : Nat → Prop) (H : Heap) (locs : List Loc) (g : JFrame) : Prop := W p l e (headSpec wN_bitAt ({ frames := 0, cells := 0, slots := 0, locals := 0 })).room s m ([.ref h0, .int (nI pb)] : List Value).toArray below meth c H locs 0 0 (MQ below (va_Qi (fun (r : Int32) (_ : Unit) => r = pN_bitAt f k pb) (fun _ => atN_bitAt dC dI h0 h0d bh0 f k pb A) A) ([.ref h0, .int (nI pb)] : List Value).toArray s 0 0 A) g
set_option maxHeartbeats 4000000 in
set_option maxRecDepth 100000 in
theorem kN_bitAt (l : Launch) (dC : Nat → ClassId) (dI : Nat → Nat → Nat) (h0 h0d : Nat) (bh0 : ClassId) (sz : Nat) (f : Nat → Int32) (k : Nat) (pb : Nat) (hpb : pb < 2160) : Met l yN_bitAt wN_bitAt ({ frames := 0, cells := 0, slots := 0, locals := 0 }) (va_Pc [.ref h0, .int (nI pb)] (fun U => U.heap.size = sz ∧ va_P (dC, dI) vwCl [(h0, .inr (1, [.ref h0d, .int (nI k)])), (h0d, .inl (bh0, 72, .inl f))] U.heap ∧ va_K (dC, dI) vwCl [(bh0, .int)] U ∧ va_D (fun _ => True) [(h0, .inr (1, [.ref h0d, .int (nI k)])), (h0d, .inl (bh0, 72, .inl f))] ∧ NW U)) (va_Qi (fun (r : Int32) (_ : Unit) => r = pN_bitAt f k pb) (fun _ => atN_bitAt dC dI h0 h0d bh0 f k pb (va_A [(h0, .inr (1, [.ref h0d, .int (nI k)])), (h0d, .inl (bh0, 72, .inl f))] sz)) (va_A [(h0, .inr (1, [.ref h0d, .int (nI k)])), (h0d, .inl (bh0, 72, .inl f))] sz)) 0 0 (va_A [(h0, .inr (1, [.ref h0d, .int (nI k)])), (h0d, .inl (bh0, 72, .inl f))] sz) := by
  refine Met.ofW (cc := cN_bitAt) (maxL := 3) (ret := (some .int)) (by decide) rfl ?_
  intro p e s m args below meth c s₁ B hml hv
  obtain ⟨rfl, hsz, hP, hK, hD0, hN⟩ := hv
  have hx := B.exec
  have hb := B.bytes
  have hr := B.returns
  have hts := atoms_spec (ws := wN_bitAt) B.pre
  have hown : s.vm.findClass RN = some m.cls := findClass_of_methodNamed B.named
  have hlocks := B.notSynchronized
  subst hsz
  have hD := hD0.self (sz := s.heap.size)
  generalize hAe : va_A [(h0, .inr (1, [.ref h0d, .int (nI k)])), (h0d, .inl (bh0, 72, .inl f))] s.heap.size = A at hD ⊢
  have hA : ∀ q : Nat, s.heap.size ≤ q → A q := fun q h => by rw [← hAe]; exact Or.inr h
  have hS : va_S A s.heap s.heap [] := va_S.rf
  have hP : va_P (dC, dI) vwCl [(h0, .inr (1, [.ref h0d, .int (nI k)])), (h0d, .inl (bh0, 72, .inl f))] s.heap := hP
  have hl := lv_entry ([.ref h0, .int (nI pb)]) (n := 3) (Nat.le_of_ble_eq_true rfl)
  rw [lg_entry_eq]
  generalize (lg_sl ([.ref h0, .int (nI pb)]) ++ List.replicate (3 - (lg_sl ([.ref h0, .int (nI pb)])).length) Slot.unset).toArray = ls at hl ⊢
  have hl : lv_has ls 3 [(0, .ref h0), (1, .int (nI pb))] := hl
  refine lv_iload_n hx hb dN_bitAt_0 rfl (lv_at hl 1 rfl) ?_
  refine lv_bipush (v := 30) hx hb dN_bitAt_1 (by decide) ?_
  refine lv_idiv hx hb dN_bitAt_3 (by decide) ?_
  refine W.eq (g2 := F0 m 4 ls [.int (nI (pb / 30))]) (congrArg (fun z => F0 m 4 ls [.int z]) (pk_div (a := pb) (d := 30) (by omega) (by omega) (by omega))) ?_
  refine lv_istore_n (lv' := [(2, .int (nI (pb / 30))), (0, .ref h0), (1, .int (nI pb))]) hx hb dN_bitAt_4 rfl hl (by decide) rfl (fun ls hl => ?_)
  refine lv_iload_n hx hb dN_bitAt_5 rfl (lv_at hl 2 rfl) ?_
  refine lv_if_lt (tgt := 15) hx hb dN_bitAt_6 (by decide) (fun c_1 => ?_) (fun c_1 => ?_)
  · exact absurd ((nI_ltI (a := pb) (b := 0) (by omega) (by omega)).mp c_1) (by omega)
  refine lv_iload_n hx hb dN_bitAt_9 rfl (lv_at hl 0 rfl) ?_
  refine lv_bipush (v := 72) hx hb dN_bitAt_10 (by decide) ?_
  refine lv_icmp_lt (tgt := 19) hx hb dN_bitAt_12 (by decide) (fun c_2 => ?_) (fun c_2 => ?_)
  rotate_left
  · exact absurd ((nI_ltI (a := pb / 30) (b := 72) (by omega) (by omega)).mpr (by omega)) c_2
  refine lv_aload_n hx hb dN_bitAt_19 rfl (lv_at hl 1 rfl) ?_
  refine va_get (D := (dC, dI)) (ci := 1) (v := .ref h0d) (C := RN) (T := TN) (N := 2) hx hb hts (inC iN) hown hK hP 0 rfl rfl 0 (by decide) (hts _ (List.mem_cons_of_mem _ m1_51)) (fun _ h9 => h9) rfl dN_bitAt_20 ?_
  refine lv_iload_n hx hb dN_bitAt_23 rfl (lv_at hl 0 rfl) ?_
  refine va_iald hx hb hK hP 1 0 rfl rfl (i := (nI (pb / 30))) (vp_in_nI (n := pb / 30) (by omega) (by omega)) dN_bitAt_24 ?_
  refine lv_topi (fun w9 e9 => ?_)
  have e9 : w9 = (v_N_bitAt_1 f k pb) := e9.trans (congrArg f (nI_clamp (n := pb / 30) (by omega)))
  rw [e9]
  refine lv_iload_n hx hb dN_bitAt_25 rfl (lv_at hl 2 rfl) ?_
  refine lv_bipush (v := 30) hx hb dN_bitAt_26 (by decide) ?_
  refine lv_irem hx hb dN_bitAt_28 (by decide) ?_
  refine W.eq (g2 := F0 m 29 ls [.int (nI (pb % 30)), .int (v_N_bitAt_1 f k pb)]) (congrArg (fun z => F0 m 29 ls [.int z, .int (v_N_bitAt_1 f k pb)]) (pk_rem (a := pb) (d := 30) (by omega) (by omega) (by omega))) ?_
  refine lv_iushr (v := jiush (v_N_bitAt_1 f k pb) (nI (pb % 30))) hx hb dN_bitAt_29 rfl ?_
  refine lv_iconst (v := 1) hx hb dN_bitAt_30 (by decide) ?_
  refine lv_iand hx hb dN_bitAt_31 ?_
  have e9 : (jiush (v_N_bitAt_1 f k pb) (nI (pb % 30))) &&& (1 : Int32) = pN_bitAt f k pb := (rfl).symm
  have hP9 := hP.sub (ws' := [(h0, .inr (1, [.ref h0d, .int (nI k)])), (h0d, .inl (bh0, 72, .inl f))]) [0, 1] rfl
  have hD9 := hD.sub (ws' := [(h0, .inr (1, [.ref h0d, .int (nI k)])), (h0d, .inl (bh0, 72, .inl f))]) [0, 1] (by decide) rfl
  have hK9 := hK.sub (tys' := [(bh0, .int)]) [0] rfl
  have h9 := And.intro hP9 hD9
  exact W.iret (v := (jiush (v_N_bitAt_1 f k pb) (nI (pb % 30))) &&& (1 : Int32)) hx hb hr (fun t ht hW => ⟨⟨(jiush (v_N_bitAt_1 f k pb) (nI (pb % 30))) &&& (1 : Int32), (), rfl, e9, by rw [ht]; exact h9.1, va_K.moved hW.alike hK9, h9.2⟩, hS.F ht⟩) hS.2.2 dN_bitAt_32
def v_N_twice_6 (j1 : Nat) (y1_0 : Int32) (y1_1 : Nat → Int32) : Int32 := y1_1 j1
def v_N_twice_7 (j1 : Nat) (y1_0 : Int32) (y1_1 : Nat → Int32) : Int32 := ((v_N_twice_6 j1 y1_0 y1_1) <<< ((1 : Int32) &&& 31)) ||| y1_0
def v_N_twice_8 (j1 : Nat) (y1_0 : Int32) (y1_1 : Nat → Int32) : Int32 := (v_N_twice_7 j1 y1_0 y1_1) &&& (1073741823 : Int32)
def v_N_twice_9 (j1 : Nat) (y1_0 : Int32) (y1_1 : Nat → Int32) : Nat → Int32 := upd y1_1 j1 (v_N_twice_8 j1 y1_0 y1_1)
def v_N_twice_10 (j1 : Nat) (y1_0 : Int32) (y1_1 : Nat → Int32) : Int32 := jiush (v_N_twice_7 j1 y1_0 y1_1) (30 : Int32)
def qN_twice_4 : Nat → Nat → Int32 → (Nat → Int32) → Int32 × (Nat → Int32)
  | 0, j1, y1_0, y1_1 => (y1_0, y1_1)
  | n1 + 1, j1, y1_0, y1_1 => qN_twice_4 n1 (j1 + 1) (v_N_twice_10 j1 y1_0 y1_1) (v_N_twice_9 j1 y1_0 y1_1)
def v_N_twice_1 (f : Nat → Int32) (k : Nat) : Int32 := (qN_twice_4 k 0 (0 : Int32) f).1
def v_N_twice_2 (f : Nat → Int32) (k : Nat) : Nat → Int32 := (qN_twice_4 k 0 (0 : Int32) f).2
def v_N_twice_3 (f : Nat → Int32) (k : Nat) : Nat → Int32 := upd (v_N_twice_2 f k) k (v_N_twice_1 f k)
def v_N_twice_4 (f : Nat → Int32) (k : Nat) : Nat := (if (v_N_twice_1 f k) = 0 then k else (if (72 : Int32) ≤ (nI k) then k else k + 1))
def v_N_twice_5 (f : Nat → Int32) (k : Nat) : Nat → Int32 := (if (v_N_twice_1 f k) = 0 then (v_N_twice_2 f k) else (if (72 : Int32) ≤ (nI k) then (v_N_twice_2 f k) else (v_N_twice_3 f k)))
def pN_twice_0 (f : Nat → Int32) (k : Nat) : Nat → Int32 := (v_N_twice_5 f k)
def pN_twice_1 (f : Nat → Int32) (k : Nat) : Nat := (v_N_twice_4 f k)
/-- N_twice -/
abbrev atN_twice (dC : Nat → ClassId) (dI : Nat → Nat → Nat) (h0 h0d : Nat) (bh0 : ClassId) (f : Nat → Int32) (k : Nat) (A : Nat → Prop) (t : State) : Prop := va_P (dC, dI) vwCl [(h0, .inr (1, [.ref h0d, .int (nI (pN_twice_1 f k))])), (h0d, .inl (bh0, 72, .inl (pN_twice_0 f k)))] t.heap ∧ va_K (dC, dI) vwCl [(bh0, .int)] t ∧ va_D A [(h0, .inr (1, [.ref h0d, .int (nI (pN_twice_1 f k))])), (h0d, .inl (bh0, 72, .inl (pN_twice_0 f k)))]
theorem trN_twice {dC : Nat → ClassId} {dI : Nat → Nat → Nat} {h0 h0d : Nat} {bh0 : ClassId} {A : Nat → Prop} {H : Heap} {a0 b0 : Nat → Int32} {a1 b1 : Nat} (e0 : a0 = b0) (e1 : a1 = b1) (h : va_P (dC, dI) vwCl [(h0, .inr (1, [.ref h0d, .int (nI a1)])), (h0d, .inl (bh0, 72, .inl a0))] H ∧ va_D A [(h0, .inr (1, [.ref h0d, .int (nI a1)])), (h0d, .inl (bh0, 72, .inl a0))]) : va_P (dC, dI) vwCl [(h0, .inr (1, [.ref h0d, .int (nI b1)])), (h0d, .inl (bh0, 72, .inl b0))] H ∧ va_D A [(h0, .inr (1, [.ref h0d, .int (nI b1)])), (h0d, .inl (bh0, 72, .inl b0))] := by
  subst e0
  subst e1
  exact h
abbrev WN_twice (p : Program) (l : Launch) (e : Env) (s : State) (m : MethodId) (below : List Frame) (meth : Method) (c : Code) (dC : Nat → ClassId) (dI : Nat → Nat → Nat) (h0 h0d : Nat) (bh0 : ClassId) (f : Nat → Int32) (k : Nat) (A : Nat → Prop) (H : Heap) (locs : List Loc) (g : JFrame) : Prop := W p l e (headSpec wN_twice ({ frames := 0, cells := 0, slots := 0, locals := 0 })).room s m ([.ref h0] : List Value).toArray below meth c H locs 0 0 (MQ below (va_Qv (fun (_ : Unit) => True) (fun _ => atN_twice dC dI h0 h0d bh0 f k A) A) ([.ref h0] : List Value).toArray s 0 0 A) g
set_option maxHeartbeats 4000000 in
set_option maxRecDepth 100000 in
theorem kN_twice (l : Launch) (dC : Nat → ClassId) (dI : Nat → Nat → Nat) (h0 h0d : Nat) (bh0 : ClassId) (sz : Nat) (f : Nat → Int32) (k : Nat) (hk : k ≤ 72) : Met l yN_twice wN_twice ({ frames := 0, cells := 0, slots := 0, locals := 0 }) (va_Pc [.ref h0] (fun U => U.heap.size = sz ∧ va_P (dC, dI) vwCl [(h0, .inr (1, [.ref h0d, .int (nI k)])), (h0d, .inl (bh0, 72, .inl f))] U.heap ∧ va_K (dC, dI) vwCl [(bh0, .int)] U ∧ va_D (fun _ => True) [(h0, .inr (1, [.ref h0d, .int (nI k)])), (h0d, .inl (bh0, 72, .inl f))] ∧ NW U)) (va_Qv (fun (_ : Unit) => True) (fun _ => atN_twice dC dI h0 h0d bh0 f k (va_A [(h0, .inr (1, [.ref h0d, .int (nI k)])), (h0d, .inl (bh0, 72, .inl f))] sz)) (va_A [(h0, .inr (1, [.ref h0d, .int (nI k)])), (h0d, .inl (bh0, 72, .inl f))] sz)) 0 0 (va_A [(h0, .inr (1, [.ref h0d, .int (nI k)])), (h0d, .inl (bh0, 72, .inl f))] sz) := by
  refine Met.ofW (cc := cN_twice) (maxL := 4) (ret := none) (by decide) rfl ?_
  intro p e s m args below meth c s₁ B hml hv
  obtain ⟨rfl, hsz, hP, hK, hD0, hN⟩ := hv
  have hx := B.exec
  have hb := B.bytes
  have hr := B.returns
  have hts := atoms_spec (ws := wN_twice) B.pre
  have hown : s.vm.findClass RN = some m.cls := findClass_of_methodNamed B.named
  have hlocks := B.notSynchronized
  subst hsz
  have hD := hD0.self (sz := s.heap.size)
  generalize hAe : va_A [(h0, .inr (1, [.ref h0d, .int (nI k)])), (h0d, .inl (bh0, 72, .inl f))] s.heap.size = A at hD ⊢
  have hA : ∀ q : Nat, s.heap.size ≤ q → A q := fun q h => by rw [← hAe]; exact Or.inr h
  have hS : va_S A s.heap s.heap [] := va_S.rf
  have hP : va_P (dC, dI) vwCl [(h0, .inr (1, [.ref h0d, .int (nI k)])), (h0d, .inl (bh0, 72, .inl f))] s.heap := hP
  have hl := lv_entry ([.ref h0]) (n := 4) (Nat.le_of_ble_eq_true rfl)
  rw [lg_entry_eq]
  generalize (lg_sl ([.ref h0]) ++ List.replicate (4 - (lg_sl ([.ref h0])).length) Slot.unset).toArray = ls at hl ⊢
  have hl : lv_has ls 4 [(0, .ref h0)] := hl
  refine lv_iconst (v := 0) hx hb dN_twice_0 (by decide) ?_
  refine lv_istore_n (lv' := [(1, .int (0 : Int32)), (0, .ref h0)]) hx hb dN_twice_1 rfl hl (by decide) rfl (fun ls hl => ?_)
  refine lv_iconst (v := 0) hx hb dN_twice_2 (by decide) ?_
  refine lv_istore_n (lv' := [(2, .int (0 : Int32)), (1, .int (0 : Int32)), (0, .ref h0)]) hx hb dN_twice_3 rfl hl (by decide) rfl (fun ls hl => ?_)
  have K_1 : ∀ (w_0 : Int32) (w_1 : Nat → Int32), (w_0, w_1) = qN_twice_4 k 0 (0 : Int32) f → ∀ (H : Heap) (locs : List Loc), va_K (dC, dI) vwCl [(bh0, .int)] s → va_P (dC, dI) vwCl [(h0, .inr (1, [.ref h0d, .int (nI k)])), (h0d, .inl (bh0, 72, .inl w_1))] H → va_D A [(h0, .inr (1, [.ref h0d, .int (nI k)])), (h0d, .inl (bh0, 72, .inl w_1))] → va_S A s.heap H locs → ∀ (ls : Array Slot), lv_has ls 4 [(0, .ref h0), (1, .int w_0)] → WN_twice p l e s m below meth c dC dI h0 h0d bh0 f k A H locs (F0 m 44 ls []) := by
    intro w_0 w_1 hz
    have e_0 : w_0 = (v_N_twice_1 f k) := (congrArg (fun q => q.1) hz)
    have e_1 : w_1 = (v_N_twice_2 f k) := (congrArg (fun q => q.2) hz)
    rw [e_0, e_1]
    intro H locs hK hP hD hS ls hl
    refine lv_iload_n hx hb dN_twice_44 rfl (lv_at hl 1 rfl) ?_
    have J_1 : ∀ (w_0 : Nat), w_0 = (v_N_twice_4 f k) → ∀ (w_1 : Nat → Int32), w_1 = (v_N_twice_5 f k) → ∀ (H : Heap) (locs : List Loc), va_K (dC, dI) vwCl [(bh0, .int)] s → va_P (dC, dI) vwCl [(h0, .inr (1, [.ref h0d, .int (nI w_0)])), (h0d, .inl (bh0, 72, .inl w_1))] H → va_D A [(h0, .inr (1, [.ref h0d, .int (nI w_0)])), (h0d, .inl (bh0, 72, .inl w_1))] → va_S A s.heap H locs → ∀ (ls : Array Slot), lv_has ls 4 [] → WN_twice p l e s m below meth c dC dI h0 h0d bh0 f k A H locs (F0 m 77 ls []) := by
      intro w_0 e_0
      rw [e_0]
      intro w_1 e_1
      rw [e_1]
      intro H locs hK hP hD hS ls hl
      have e9_0 : (v_N_twice_5 f k) = pN_twice_0 f k := (rfl).symm
      have e9_1 : (v_N_twice_4 f k) = pN_twice_1 f k := (rfl).symm
      have hP9 := hP.sub (ws' := [(h0, .inr (1, [.ref h0d, .int (nI (v_N_twice_4 f k))])), (h0d, .inl (bh0, 72, .inl (v_N_twice_5 f k)))]) [0, 1] rfl
      have hD9 := hD.sub (ws' := [(h0, .inr (1, [.ref h0d, .int (nI (v_N_twice_4 f k))])), (h0d, .inl (bh0, 72, .inl (v_N_twice_5 f k)))]) [0, 1] (by decide) rfl
      have hK9 := hK.sub (tys' := [(bh0, .int)]) [0] rfl
      have h9 := trN_twice e9_0 e9_1 ⟨hP9, hD9⟩
      exact W.vret hx hb hr (fun t ht hW => ⟨⟨(), rfl, trivial, by rw [ht]; exact h9.1, va_K.moved hW.alike hK9, h9.2⟩, hS.F ht⟩) hS.2.2 dN_twice_77
    refine lv_if_eq (tgt := 77) hx hb dN_twice_45 (by decide) (fun c_1 => ?_) (fun c_1 => ?_)
    · exact J_1 k ((if_pos c_1)).symm (v_N_twice_2 f k) ((if_pos c_1)).symm _ _ (hK.sub [0] rfl) (hP.sub [0, 1] rfl) (hD.sub [0, 1] (by decide) rfl) hS ls (lv_sub hl [] rfl)
    · refine lv_aload_n hx hb dN_twice_48 rfl (lv_at hl 0 rfl) ?_
      refine va_get (D := (dC, dI)) (ci := 1) (v := .int (nI k)) (C := RN) (T := TN) (N := 2) hx hb hts (inC iN) hown hK hP 0 rfl rfl 1 (by decide) (hts _ (List.mem_cons_of_mem _ m1_52)) (fun _ h9 => h9) rfl dN_twice_49 ?_
      refine lv_bipush (v := 72) hx hb dN_twice_52 (by decide) ?_
      refine lv_icmp_ge (tgt := 77) hx hb dN_twice_54 (by decide) (fun c_2 => ?_) (fun c_2 => ?_)
      · exact J_1 k (((if_neg c_1).trans (if_pos c_2))).symm (v_N_twice_2 f k) (((if_neg c_1).trans (if_pos c_2))).symm _ _ (hK.sub [0] rfl) (hP.sub [0, 1] rfl) (hD.sub [0, 1] (by decide) rfl) hS ls (lv_sub hl [] rfl)
      · have hk7 : k < 72 := Nat.lt_of_not_le (fun q => c_2 ((nI_leI (a := 72) (b := k) (by omega) (by omega)).mpr q))
        refine lv_aload_n hx hb dN_twice_57 rfl (lv_at hl 0 rfl) ?_
        refine va_get (D := (dC, dI)) (ci := 1) (v := .ref h0d) (C := RN) (T := TN) (N := 2) hx hb hts (inC iN) hown hK hP 0 rfl rfl 0 (by decide) (hts _ (List.mem_cons_of_mem _ m1_51)) (fun _ h9 => h9) rfl dN_twice_58 ?_
        refine lv_aload_n hx hb dN_twice_61 rfl (lv_at hl 0 rfl) ?_
        refine va_get (D := (dC, dI)) (ci := 1) (v := .int (nI k)) (C := RN) (T := TN) (N := 2) hx hb hts (inC iN) hown hK hP 0 rfl rfl 1 (by decide) (hts _ (List.mem_cons_of_mem _ m1_52)) (fun _ h9 => h9) rfl dN_twice_62 ?_
        refine lv_iload_n hx hb dN_twice_65 rfl (lv_at hl 1 rfl) ?_
        refine va_iast hx hb hK hP hD hS 1 0 rfl rfl (i := (nI k)) (x := (v_N_twice_1 f k)) (vp_in_nI (n := k) (by omega) (by omega)) dN_twice_66 (fun H locs hP hD hS => ?_)
        have hP : va_P (dC, dI) vwCl [(h0, .inr (1, [.ref h0d, .int (nI k)])), (h0d, .inl (bh0, 72, .inl (upd (v_N_twice_2 f k) (nI k).toNatClampNeg (v_N_twice_1 f k))))] H := hP
        have hD : va_D A [(h0, .inr (1, [.ref h0d, .int (nI k)])), (h0d, .inl (bh0, 72, .inl (upd (v_N_twice_2 f k) (nI k).toNatClampNeg (v_N_twice_1 f k))))] := hD
        have e9 : upd (v_N_twice_2 f k) (nI k).toNatClampNeg (v_N_twice_1 f k) = (v_N_twice_3 f k) := congrArg (fun z => upd (v_N_twice_2 f k) z (v_N_twice_1 f k)) (nI_clamp (n := k) (by omega))
        rw [e9] at hP hD
        have hP : va_P (dC, dI) vwCl [(h0, .inr (1, [.ref h0d, .int (nI k)])), (h0d, .inl (bh0, 72, .inl (v_N_twice_3 f k)))] H := hP
        have hD : va_D A [(h0, .inr (1, [.ref h0d, .int (nI k)])), (h0d, .inl (bh0, 72, .inl (v_N_twice_3 f k)))] := hD
        refine lv_aload_n hx hb dN_twice_67 rfl (lv_at hl 0 rfl) ?_
        refine lv_dup hx hb dN_twice_68 rfl ?_
        refine va_get (D := (dC, dI)) (ci := 1) (v := .int (nI k)) (C := RN) (T := TN) (N := 2) hx hb hts (inC iN) hown hK hP 0 rfl rfl 1 (by decide) (hts _ (List.mem_cons_of_mem _ m1_52)) (fun _ h9 => h9) rfl dN_twice_69 ?_
        refine lv_iconst (v := 1) hx hb dN_twice_72 (by decide) ?_
        refine lv_iadd hx hb dN_twice_73 ?_
        refine W.eq (g2 := F0 m 74 ls [.int (nI (k + 1)), .ref h0]) (congrArg (fun z => F0 m 74 ls [.int z, .ref h0]) (nI_add k 1)) ?_
        refine va_put (D := (dC, dI)) (ci := 1) (v := .int (nI (k + 1))) (ty := .int) (C := RN) (T := TN) (N := 2) hx hb hts (inC iN) tyN tyN_ok nmN hown hK hP hD hS 0 rfl rfl 1 (by decide) (hts _ (List.mem_cons_of_mem _ m1_52)) (fun _ h9 => h9) rfl (by decide +kernel) rfl rfl (Nat.le_of_ble_eq_true rfl) dN_twice_74 (fun H locs hP hD hS => ?_)
        have hP : va_P (dC, dI) vwCl [(h0, .inr (1, [.ref h0d, .int (nI (k + 1))])), (h0d, .inl (bh0, 72, .inl (v_N_twice_3 f k)))] H := hP
        have hD : va_D A [(h0, .inr (1, [.ref h0d, .int (nI (k + 1))])), (h0d, .inl (bh0, 72, .inl (v_N_twice_3 f k)))] := hD
        exact J_1 (k + 1) (((if_neg c_1).trans (if_neg c_2))).symm (v_N_twice_3 f k) (((if_neg c_1).trans (if_neg c_2))).symm _ _ (hK.sub [0] rfl) (hP.sub [0, 1] rfl) (hD.sub [0, 1] (by decide) rfl) hS ls (lv_sub hl [] rfl)
  have L_1 : ∀ (n1 j1 : Nat) (y1_0 : Int32) (y1_1 : Nat → Int32), j1 + n1 = k → qN_twice_4 n1 j1 y1_0 y1_1 = qN_twice_4 k 0 (0 : Int32) f → ∀ (H : Heap) (locs : List Loc), va_K (dC, dI) vwCl [(bh0, .int)] s → va_P (dC, dI) vwCl [(h0, .inr (1, [.ref h0d, .int (nI k)])), (h0d, .inl (bh0, 72, .inl y1_1))] H → va_D A [(h0, .inr (1, [.ref h0d, .int (nI k)])), (h0d, .inl (bh0, 72, .inl y1_1))] → va_S A s.heap H locs → ∀ (ls : Array Slot), lv_has ls 4 [(0, .ref h0), (1, .int y1_0), (2, .int (nI j1))] → WN_twice p l e s m below meth c dC dI h0 h0d bh0 f k A H locs (F0 m 4 ls []) := by
    intro n1
    induction n1 with
    | zero =>
      intro j1 y1_0 y1_1 hj hq H locs hK hP hD hS ls hl
      refine lv_iload_n hx hb dN_twice_4 rfl (lv_at hl 2 rfl) ?_
      refine lv_aload_n hx hb dN_twice_5 rfl (lv_at hl 0 rfl) ?_
      refine va_get (D := (dC, dI)) (ci := 1) (v := .int (nI k)) (C := RN) (T := TN) (N := 2) hx hb hts (inC iN) hown hK hP 0 rfl rfl 1 (by decide) (hts _ (List.mem_cons_of_mem _ m1_52)) (fun _ h9 => h9) rfl dN_twice_6 ?_
      refine lv_icmp_ge (tgt := 44) hx hb dN_twice_9 (by decide) (fun c_3 => ?_) (fun c_3 => ?_)
      rotate_left
      · exact absurd ((nI_leI (a := k) (b := j1) (by omega) (by omega)).mpr (by omega)) c_3
      exact K_1 y1_0 y1_1 (by exact hq) _ _ (hK.sub [0] rfl) (hP.sub [0, 1] rfl) (hD.sub [0, 1] (by decide) rfl) hS ls (lv_sub hl [0, 1] rfl)
    | succ n1 ih =>
      intro j1 y1_0 y1_1 hj hq H locs hK hP hD hS ls hl
      refine lv_iload_n hx hb dN_twice_4 rfl (lv_at hl 2 rfl) ?_
      refine lv_aload_n hx hb dN_twice_5 rfl (lv_at hl 0 rfl) ?_
      refine va_get (D := (dC, dI)) (ci := 1) (v := .int (nI k)) (C := RN) (T := TN) (N := 2) hx hb hts (inC iN) hown hK hP 0 rfl rfl 1 (by decide) (hts _ (List.mem_cons_of_mem _ m1_52)) (fun _ h9 => h9) rfl dN_twice_6 ?_
      refine lv_icmp_ge (tgt := 44) hx hb dN_twice_9 (by decide) (fun c_4 => ?_) (fun c_4 => ?_)
      · exact absurd ((nI_leI (a := k) (b := j1) (by omega) (by omega)).mp c_4) (by omega)
      refine lv_aload_n hx hb dN_twice_12 rfl (lv_at hl 0 rfl) ?_
      refine va_get (D := (dC, dI)) (ci := 1) (v := .ref h0d) (C := RN) (T := TN) (N := 2) hx hb hts (inC iN) hown hK hP 0 rfl rfl 0 (by decide) (hts _ (List.mem_cons_of_mem _ m1_51)) (fun _ h9 => h9) rfl dN_twice_13 ?_
      refine lv_iload_n hx hb dN_twice_16 rfl (lv_at hl 2 rfl) ?_
      refine va_iald hx hb hK hP 1 0 rfl rfl (i := (nI j1)) (vp_in_nI (n := j1) (by omega) (by omega)) dN_twice_17 ?_
      refine lv_topi (fun w9 e9 => ?_)
      have e9 : w9 = (v_N_twice_6 j1 y1_0 y1_1) := e9.trans (congrArg y1_1 (nI_clamp (n := j1) (by omega)))
      rw [e9]
      refine lv_iconst (v := 1) hx hb dN_twice_18 (by decide) ?_
      refine lv_ishl hx hb dN_twice_19 ?_
      refine lv_iload_n hx hb dN_twice_20 rfl (lv_at hl 1 rfl) ?_
      refine lv_ior hx hb dN_twice_21 ?_
      refine lv_topi (fun w9 e9 => ?_)
      have e9 : w9 = (v_N_twice_7 j1 y1_0 y1_1) := e9
      rw [e9]
      refine lv_istore_n (lv' := [(3, .int (v_N_twice_7 j1 y1_0 y1_1)), (0, .ref h0), (1, .int y1_0), (2, .int (nI j1))]) hx hb dN_twice_22 rfl hl (by decide) rfl (fun ls hl => ?_)
      refine lv_aload_n hx hb dN_twice_23 rfl (lv_at hl 1 rfl) ?_
      refine va_get (D := (dC, dI)) (ci := 1) (v := .ref h0d) (C := RN) (T := TN) (N := 2) hx hb hts (inC iN) hown hK hP 0 rfl rfl 0 (by decide) (hts _ (List.mem_cons_of_mem _ m1_51)) (fun _ h9 => h9) rfl dN_twice_24 ?_
      refine lv_iload_n hx hb dN_twice_27 rfl (lv_at hl 3 rfl) ?_
      refine lv_iload_n hx hb dN_twice_28 rfl (lv_at hl 0 rfl) ?_
      refine lv_ldc (v := 1073741823) hx hb hown (hts _ (List.mem_cons_of_mem _ m2_28)) dN_twice_29 ?_
      refine lv_iand hx hb dN_twice_31 ?_
      refine lv_topi (fun w9 e9 => ?_)
      have e9 : w9 = (v_N_twice_8 j1 y1_0 y1_1) := e9
      rw [e9]
      refine va_iast hx hb hK hP hD hS 1 0 rfl rfl (i := (nI j1)) (x := (v_N_twice_8 j1 y1_0 y1_1)) (vp_in_nI (n := j1) (by omega) (by omega)) dN_twice_32 (fun H locs hP hD hS => ?_)
      have hP : va_P (dC, dI) vwCl [(h0, .inr (1, [.ref h0d, .int (nI k)])), (h0d, .inl (bh0, 72, .inl (upd y1_1 (nI j1).toNatClampNeg (v_N_twice_8 j1 y1_0 y1_1))))] H := hP
      have hD : va_D A [(h0, .inr (1, [.ref h0d, .int (nI k)])), (h0d, .inl (bh0, 72, .inl (upd y1_1 (nI j1).toNatClampNeg (v_N_twice_8 j1 y1_0 y1_1))))] := hD
      have e9 : upd y1_1 (nI j1).toNatClampNeg (v_N_twice_8 j1 y1_0 y1_1) = (v_N_twice_9 j1 y1_0 y1_1) := congrArg (fun z => upd y1_1 z (v_N_twice_8 j1 y1_0 y1_1)) (nI_clamp (n := j1) (by omega))
      rw [e9] at hP hD
      have hP : va_P (dC, dI) vwCl [(h0, .inr (1, [.ref h0d, .int (nI k)])), (h0d, .inl (bh0, 72, .inl (v_N_twice_9 j1 y1_0 y1_1)))] H := hP
      have hD : va_D A [(h0, .inr (1, [.ref h0d, .int (nI k)])), (h0d, .inl (bh0, 72, .inl (v_N_twice_9 j1 y1_0 y1_1)))] := hD
      refine lv_iload_n hx hb dN_twice_33 rfl (lv_at hl 0 rfl) ?_
      refine lv_bipush (v := 30) hx hb dN_twice_34 (by decide) ?_
      refine lv_iushr (v := jiush (v_N_twice_7 j1 y1_0 y1_1) (30 : Int32)) hx hb dN_twice_36 rfl ?_
      refine lv_topi (fun w9 e9 => ?_)
      have e9 : w9 = (v_N_twice_10 j1 y1_0 y1_1) := e9
      rw [e9]
      refine lv_istore_n (lv' := [(1, .int (v_N_twice_10 j1 y1_0 y1_1)), (3, .int (v_N_twice_7 j1 y1_0 y1_1)), (0, .ref h0), (2, .int (nI j1))]) hx hb dN_twice_37 rfl hl (by decide) rfl (fun ls hl => ?_)
      refine lv_iinc (v := (nI (j1 + 1))) (lv' := [(2, .int (nI (j1 + 1))), (1, .int (v_N_twice_10 j1 y1_0 y1_1)), (3, .int (v_N_twice_7 j1 y1_0 y1_1)), (0, .ref h0)]) hx hb dN_twice_38 hl (k := 3) rfl (nI_1 _) (by decide) rfl (fun ls hl => ?_)
      refine lv_goto (tgt := 4) hx hb dN_twice_41 (by decide) ?_
      exact ih (j1 + 1) (v_N_twice_10 j1 y1_0 y1_1) (v_N_twice_9 j1 y1_0 y1_1) (by omega) (by exact hq) _ _ (hK.sub [0] rfl) (hP.sub [0, 1] rfl) (hD.sub [0, 1] (by decide) rfl) hS ls (lv_sub hl [3, 1, 0] rfl)
  exact L_1 k 0 (0 : Int32) f (by omega) rfl _ _ (hK.sub [0] rfl) (hP.sub [0, 1] rfl) (hD.sub [0, 1] (by decide) rfl) hS ls (lv_sub hl [2, 1, 0] rfl)
def v_N_isBelow_1 (f : Nat → Int32) (f2 : Nat → Int32) (n1 : Nat) : Int32 := f n1
def v_N_isBelow_2 (f : Nat → Int32) (f2 : Nat → Int32) (n1 : Nat) : Int32 := f2 n1
def v_N_isBelow_3 (f : Nat → Int32) (f2 : Nat → Int32) (n1 : Nat) : Int32 := f n1
def v_N_isBelow_4 (f : Nat → Int32) (f2 : Nat → Int32) (n1 : Nat) : Int32 := f2 n1
def v_N_isBelow_5 (f : Nat → Int32) (f2 : Nat → Int32) (n1 : Nat) : Bool := (if (v_N_isBelow_4 f f2 n1) ≤ (v_N_isBelow_3 f f2 n1) then false else true)
def qN_isBelow_14 (f : Nat → Int32) (f2 : Nat → Int32) : Nat → Bool
  | 0 => false
  | n1 + 1 => (if (v_N_isBelow_1 f f2 n1) = (v_N_isBelow_2 f f2 n1) then qN_isBelow_14 f f2 n1 else (v_N_isBelow_5 f f2 n1))
def pN_isBelow (f : Nat → Int32) (k : Nat) (f2 : Nat → Int32) (k2 : Nat) : Bool := qN_isBelow_14 f f2 (max k k2)
/-- N_isBelow -/
abbrev atN_isBelow (dC : Nat → ClassId) (dI : Nat → Nat → Nat) (h0 h0d h1 h1d : Nat) (bh0 bh1 : ClassId) (f : Nat → Int32) (k : Nat) (f2 : Nat → Int32) (k2 : Nat) (A : Nat → Prop) (t : State) : Prop := va_P (dC, dI) vwCl [(h0, .inr (1, [.ref h0d, .int (nI k)])), (h0d, .inl (bh0, 72, .inl f)), (h1, .inr (1, [.ref h1d, .int (nI k2)])), (h1d, .inl (bh1, 72, .inl f2))] t.heap ∧ va_K (dC, dI) vwCl [(bh0, .int), (bh1, .int)] t ∧ va_D A [(h0, .inr (1, [.ref h0d, .int (nI k)])), (h0d, .inl (bh0, 72, .inl f)), (h1, .inr (1, [.ref h1d, .int (nI k2)])), (h1d, .inl (bh1, 72, .inl f2))]
abbrev WN_isBelow (p : Program) (l : Launch) (e : Env) (s : State) (m : MethodId) (below : List Frame) (meth : Method) (c : Code) (dC : Nat → ClassId) (dI : Nat → Nat → Nat) (h0 h0d h1 h1d : Nat) (bh0 bh1 : ClassId) (f : Nat → Int32) (k : Nat) (f2 : Nat → Int32) (k2 : Nat) (A : Nat → Prop) (H : Heap) (locs : List Loc) (g : JFrame) : Prop := W p l e (headSpec wN_isBelow ({ frames := 1, cells := 0, slots := 0, locals := 13 })).room s m ([.ref h0, .ref h1] : List Value).toArray below meth c H locs 0 0 (MQ below (va_Qi (fun (r : Int32) (_ : Unit) => r = bI (pN_isBelow f k f2 k2)) (fun _ => atN_isBelow dC dI h0 h0d h1 h1d bh0 bh1 f k f2 k2 A) A) ([.ref h0, .ref h1] : List Value).toArray s 0 0 A) g
set_option maxHeartbeats 4000000 in
set_option maxRecDepth 100000 in
theorem kN_isBelow (l : Launch) (dC : Nat → ClassId) (dI : Nat → Nat → Nat) (h0 h0d h1 h1d : Nat) (bh0 bh1 : ClassId) (sz : Nat) (f : Nat → Int32) (k : Nat) (f2 : Nat → Int32) (k2 : Nat) (hk : k ≤ 72) (hk2 : k2 ≤ 72) : Met l yN_isBelow wN_isBelow ({ frames := 1, cells := 0, slots := 0, locals := 13 }) (va_Pc [.ref h0, .ref h1] (fun U => U.heap.size = sz ∧ va_P (dC, dI) vwCl [(h0, .inr (1, [.ref h0d, .int (nI k)])), (h0d, .inl (bh0, 72, .inl f)), (h1, .inr (1, [.ref h1d, .int (nI k2)])), (h1d, .inl (bh1, 72, .inl f2))] U.heap ∧ va_K (dC, dI) vwCl [(bh0, .int), (bh1, .int)] U ∧ va_D (fun _ => True) [(h0, .inr (1, [.ref h0d, .int (nI k)])), (h0d, .inl (bh0, 72, .inl f)), (h1, .inr (1, [.ref h1d, .int (nI k2)])), (h1d, .inl (bh1, 72, .inl f2))] ∧ NW U)) (va_Qi (fun (r : Int32) (_ : Unit) => r = bI (pN_isBelow f k f2 k2)) (fun _ => atN_isBelow dC dI h0 h0d h1 h1d bh0 bh1 f k f2 k2 (va_A [(h0, .inr (1, [.ref h0d, .int (nI k)])), (h0d, .inl (bh0, 72, .inl f)), (h1, .inr (1, [.ref h1d, .int (nI k2)])), (h1d, .inl (bh1, 72, .inl f2))] sz)) (va_A [(h0, .inr (1, [.ref h0d, .int (nI k)])), (h0d, .inl (bh0, 72, .inl f)), (h1, .inr (1, [.ref h1d, .int (nI k2)])), (h1d, .inl (bh1, 72, .inl f2))] sz)) 0 0 (va_A [(h0, .inr (1, [.ref h0d, .int (nI k)])), (h0d, .inl (bh0, 72, .inl f)), (h1, .inr (1, [.ref h1d, .int (nI k2)])), (h1d, .inl (bh1, 72, .inl f2))] sz) := by
  refine Met.ofW (cc := cN_isBelow) (maxL := 3) (ret := (some .boolean)) (by decide) rfl ?_
  intro p e s m args below meth c s₁ B hml hv
  obtain ⟨rfl, hsz, hP, hK, hD0, hN⟩ := hv
  have hx := B.exec
  have hb := B.bytes
  have hr := B.returns
  have hts := atoms_spec (ws := wN_isBelow) B.pre
  have hown : s.vm.findClass RN = some m.cls := findClass_of_methodNamed B.named
  have hlocks := B.notSynchronized
  subst hsz
  have hD := hD0.self (sz := s.heap.size)
  generalize hAe : va_A [(h0, .inr (1, [.ref h0d, .int (nI k)])), (h0d, .inl (bh0, 72, .inl f)), (h1, .inr (1, [.ref h1d, .int (nI k2)])), (h1d, .inl (bh1, 72, .inl f2))] s.heap.size = A at hD ⊢
  have hA : ∀ q : Nat, s.heap.size ≤ q → A q := fun q h => by rw [← hAe]; exact Or.inr h
  have hS : va_S A s.heap s.heap [] := va_S.rf
  have hP : va_P (dC, dI) vwCl [(h0, .inr (1, [.ref h0d, .int (nI k)])), (h0d, .inl (bh0, 72, .inl f)), (h1, .inr (1, [.ref h1d, .int (nI k2)])), (h1d, .inl (bh1, 72, .inl f2))] s.heap := hP
  have hl := lv_entry ([.ref h0, .ref h1]) (n := 3) (Nat.le_of_ble_eq_true rfl)
  rw [lg_entry_eq]
  generalize (lg_sl ([.ref h0, .ref h1]) ++ List.replicate (3 - (lg_sl ([.ref h0, .ref h1])).length) Slot.unset).toArray = ls at hl ⊢
  have hl : lv_has ls 3 [(0, .ref h0), (1, .ref h1)] := hl
  refine lv_aload_n hx hb dN_isBelow_0 rfl (lv_at hl 0 rfl) ?_
  refine va_get (D := (dC, dI)) (ci := 1) (v := .int (nI k)) (C := RN) (T := TN) (N := 2) hx hb hts (inC iN) hown hK hP 0 rfl rfl 1 (by decide) (hts _ (List.mem_cons_of_mem _ m1_52)) (fun _ h9 => h9) rfl dN_isBelow_1 ?_
  refine lv_aload_n hx hb dN_isBelow_4 rfl (lv_at hl 1 rfl) ?_
  refine va_get (D := (dC, dI)) (ci := 1) (v := .int (nI k2)) (C := RN) (T := TN) (N := 2) hx hb hts (inC iN) hown hK hP 2 rfl rfl 1 (by decide) (hts _ (List.mem_cons_of_mem _ m1_52)) (fun _ h9 => h9) rfl dN_isBelow_5 ?_
  refine va_mmax hx hb (hml.trans hl.1.symm) hown (hts _ (List.mem_cons_of_mem _ m2_33)) (hts _ (List.mem_cons_of_mem _ m1_176)) (hts _ (List.mem_cons_of_mem _ m1_9)) (hts _ (List.mem_cons_of_mem _ m1_177)) (Nat.le_of_ble_eq_true rfl) (Nat.le_of_ble_eq_true rfl) (Nat.le_of_ble_eq_true rfl) (Nat.le_of_ble_eq_true rfl) dN_isBelow_8 ?_
  refine W.eq (g2 := F0 m 11 ls [.int (nI (max k k2))]) (congrArg (fun z => F0 m 11 ls [.int z]) (nI_maxE (a := k) (b := k2) (by omega) (by omega))) ?_
  refine lv_iconst (v := 1) hx hb dN_isBelow_11 (by decide) ?_
  refine lv_isub hx hb dN_isBelow_12 ?_
  refine W.eq (g2 := F0 m 13 ls [.int (ni1 (max k k2))]) (congrArg (fun z => F0 m 13 ls [.int z]) ((rfl : nI (max k k2) - 1 = ni1 (max k k2)))) ?_
  refine lv_istore_n (lv' := [(2, .int (ni1 (max k k2))), (0, .ref h0), (1, .ref h1)]) hx hb dN_isBelow_13 rfl hl (by decide) rfl (fun ls hl => ?_)
  have L_1 : ∀ (n1 : Nat), n1 ≤ 72 → qN_isBelow_14 f f2 n1 = pN_isBelow f k f2 k2 → ∀ (H : Heap) (locs : List Loc), va_K (dC, dI) vwCl [(bh0, .int), (bh1, .int)] s → va_P (dC, dI) vwCl [(h0, .inr (1, [.ref h0d, .int (nI k)])), (h0d, .inl (bh0, 72, .inl f)), (h1, .inr (1, [.ref h1d, .int (nI k2)])), (h1d, .inl (bh1, 72, .inl f2))] H → va_D A [(h0, .inr (1, [.ref h0d, .int (nI k)])), (h0d, .inl (bh0, 72, .inl f)), (h1, .inr (1, [.ref h1d, .int (nI k2)])), (h1d, .inl (bh1, 72, .inl f2))] → va_S A s.heap H locs → ∀ (ls : Array Slot), lv_has ls 3 [(0, .ref h0), (1, .ref h1), (2, .int (ni1 n1))] → WN_isBelow p l e s m below meth c dC dI h0 h0d h1 h1d bh0 bh1 f k f2 k2 A H locs (F0 m 14 ls []) := by
    intro n1
    induction n1 with
    | zero =>
      intro  hj hq H locs hK hP hD hS ls hl
      have hl : lv_has ls 3 [(0, .ref h0), (1, .ref h1), (2, .int (-1 : Int32))] := by rw [← ni1_0]; exact hl
      refine lv_iload_n hx hb dN_isBelow_14 rfl (lv_at hl 2 rfl) ?_
      refine lv_if_lt (tgt := 60) hx hb dN_isBelow_15 (by decide) (fun c_1 => ?_) (fun c_1 => ?_)
      rotate_left
      · exact absurd (by decide) c_1
      refine lv_iconst (v := 0) hx hb dN_isBelow_60 (by decide) ?_
      have e9 : false = pN_isBelow f k f2 k2 := Eq.trans (rfl).symm hq
      have hP9 := hP.sub (ws' := [(h0, .inr (1, [.ref h0d, .int (nI k)])), (h0d, .inl (bh0, 72, .inl f)), (h1, .inr (1, [.ref h1d, .int (nI k2)])), (h1d, .inl (bh1, 72, .inl f2))]) [0, 1, 2, 3] rfl
      have hD9 := hD.sub (ws' := [(h0, .inr (1, [.ref h0d, .int (nI k)])), (h0d, .inl (bh0, 72, .inl f)), (h1, .inr (1, [.ref h1d, .int (nI k2)])), (h1d, .inl (bh1, 72, .inl f2))]) [0, 1, 2, 3] (by decide) rfl
      have hK9 := hK.sub (tys' := [(bh0, .int), (bh1, .int)]) [0, 1] rfl
      have h9 := And.intro hP9 hD9
      exact W.zret (v := bI false) hx hb hr (nb_z _) (fun t ht hW => ⟨⟨bI false, (), rfl, congrArg bI e9, by rw [ht]; exact h9.1, va_K.moved hW.alike hK9, h9.2⟩, hS.F ht⟩) hS.2.2 dN_isBelow_61
    | succ n1 ih =>
      intro  hj hq H locs hK hP hD hS ls hl
      have hl : lv_has ls 3 [(0, .ref h0), (1, .ref h1), (2, .int (nI n1))] := by rw [← ni1_s n1]; exact hl
      refine lv_iload_n hx hb dN_isBelow_14 rfl (lv_at hl 2 rfl) ?_
      refine lv_if_lt (tgt := 60) hx hb dN_isBelow_15 (by decide) (fun c_2 => ?_) (fun c_2 => ?_)
      · exact absurd ((nI_ltI (a := n1) (b := 0) (by omega) (by omega)).mp c_2) (by omega)
      refine lv_aload_n hx hb dN_isBelow_18 rfl (lv_at hl 0 rfl) ?_
      refine va_get (D := (dC, dI)) (ci := 1) (v := .ref h0d) (C := RN) (T := TN) (N := 2) hx hb hts (inC iN) hown hK hP 0 rfl rfl 0 (by decide) (hts _ (List.mem_cons_of_mem _ m1_51)) (fun _ h9 => h9) rfl dN_isBelow_19 ?_
      refine lv_iload_n hx hb dN_isBelow_22 rfl (lv_at hl 2 rfl) ?_
      refine va_iald hx hb hK hP 1 0 rfl rfl (i := (nI n1)) (vp_in_nI (n := n1) (by omega) (by omega)) dN_isBelow_23 ?_
      refine lv_topi (fun w9 e9 => ?_)
      have e9 : w9 = (v_N_isBelow_1 f f2 n1) := e9.trans (congrArg f (nI_clamp (n := n1) (by omega)))
      rw [e9]
      refine lv_aload_n hx hb dN_isBelow_24 rfl (lv_at hl 1 rfl) ?_
      refine va_get (D := (dC, dI)) (ci := 1) (v := .ref h1d) (C := RN) (T := TN) (N := 2) hx hb hts (inC iN) hown hK hP 2 rfl rfl 0 (by decide) (hts _ (List.mem_cons_of_mem _ m1_51)) (fun _ h9 => h9) rfl dN_isBelow_25 ?_
      refine lv_iload_n hx hb dN_isBelow_28 rfl (lv_at hl 2 rfl) ?_
      refine va_iald hx hb hK hP 3 1 rfl rfl (i := (nI n1)) (vp_in_nI (n := n1) (by omega) (by omega)) dN_isBelow_29 ?_
      refine lv_topi (fun w9 e9 => ?_)
      have e9 : w9 = (v_N_isBelow_2 f f2 n1) := e9.trans (congrArg f2 (nI_clamp (n := n1) (by omega)))
      rw [e9]
      refine lv_icmp_eq (tgt := 54) hx hb dN_isBelow_30 (by decide) (fun c_3 => ?_) (fun c_3 => ?_)
      · refine lv_iinc (v := (ni1 n1)) (lv' := [(2, .int (ni1 n1)), (0, .ref h0), (1, .ref h1)]) hx hb dN_isBelow_54 hl (k := 2) rfl (ni1_m _) (by decide) rfl (fun ls hl => ?_)
        refine lv_goto (tgt := 14) hx hb dN_isBelow_57 (by decide) ?_
        exact ih  (by omega) (by exact (Eq.trans ((if_pos c_3)).symm hq)) _ _ (hK.sub [0, 1] rfl) (hP.sub [0, 1, 2, 3] rfl) (hD.sub [0, 1, 2, 3] (by decide) rfl) hS ls (lv_sub hl [1, 2, 0] rfl)
      · refine lv_aload_n hx hb dN_isBelow_33 rfl (lv_at hl 0 rfl) ?_
        refine va_get (D := (dC, dI)) (ci := 1) (v := .ref h0d) (C := RN) (T := TN) (N := 2) hx hb hts (inC iN) hown hK hP 0 rfl rfl 0 (by decide) (hts _ (List.mem_cons_of_mem _ m1_51)) (fun _ h9 => h9) rfl dN_isBelow_34 ?_
        refine lv_iload_n hx hb dN_isBelow_37 rfl (lv_at hl 2 rfl) ?_
        refine va_iald hx hb hK hP 1 0 rfl rfl (i := (nI n1)) (vp_in_nI (n := n1) (by omega) (by omega)) dN_isBelow_38 ?_
        refine lv_topi (fun w9 e9 => ?_)
        have e9 : w9 = (v_N_isBelow_3 f f2 n1) := e9.trans (congrArg f (nI_clamp (n := n1) (by omega)))
        rw [e9]
        refine lv_aload_n hx hb dN_isBelow_39 rfl (lv_at hl 1 rfl) ?_
        refine va_get (D := (dC, dI)) (ci := 1) (v := .ref h1d) (C := RN) (T := TN) (N := 2) hx hb hts (inC iN) hown hK hP 2 rfl rfl 0 (by decide) (hts _ (List.mem_cons_of_mem _ m1_51)) (fun _ h9 => h9) rfl dN_isBelow_40 ?_
        refine lv_iload_n hx hb dN_isBelow_43 rfl (lv_at hl 2 rfl) ?_
        refine va_iald hx hb hK hP 3 1 rfl rfl (i := (nI n1)) (vp_in_nI (n := n1) (by omega) (by omega)) dN_isBelow_44 ?_
        refine lv_topi (fun w9 e9 => ?_)
        have e9 : w9 = (v_N_isBelow_4 f f2 n1) := e9.trans (congrArg f2 (nI_clamp (n := n1) (by omega)))
        rw [e9]
        have J_1 : ∀ (w_0 : Bool), w_0 = (v_N_isBelow_5 f f2 n1) → ∀ (H : Heap) (locs : List Loc), va_K (dC, dI) vwCl [(bh0, .int), (bh1, .int)] s → va_P (dC, dI) vwCl [(h0, .inr (1, [.ref h0d, .int (nI k)])), (h0d, .inl (bh0, 72, .inl f)), (h1, .inr (1, [.ref h1d, .int (nI k2)])), (h1d, .inl (bh1, 72, .inl f2))] H → va_D A [(h0, .inr (1, [.ref h0d, .int (nI k)])), (h0d, .inl (bh0, 72, .inl f)), (h1, .inr (1, [.ref h1d, .int (nI k2)])), (h1d, .inl (bh1, 72, .inl f2))] → va_S A s.heap H locs → ∀ (ls : Array Slot), lv_has ls 3 [] → WN_isBelow p l e s m below meth c dC dI h0 h0d h1 h1d bh0 bh1 f k f2 k2 A H locs (F0 m 53 ls [.int (bI w_0)]) := by
          intro w_0 e_0
          rw [e_0]
          intro H locs hK hP hD hS ls hl
          have e9 : (v_N_isBelow_5 f f2 n1) = pN_isBelow f k f2 k2 := Eq.trans ((if_neg c_3)).symm hq
          have hP9 := hP.sub (ws' := [(h0, .inr (1, [.ref h0d, .int (nI k)])), (h0d, .inl (bh0, 72, .inl f)), (h1, .inr (1, [.ref h1d, .int (nI k2)])), (h1d, .inl (bh1, 72, .inl f2))]) [0, 1, 2, 3] rfl
          have hD9 := hD.sub (ws' := [(h0, .inr (1, [.ref h0d, .int (nI k)])), (h0d, .inl (bh0, 72, .inl f)), (h1, .inr (1, [.ref h1d, .int (nI k2)])), (h1d, .inl (bh1, 72, .inl f2))]) [0, 1, 2, 3] (by decide) rfl
          have hK9 := hK.sub (tys' := [(bh0, .int), (bh1, .int)]) [0, 1] rfl
          have h9 := And.intro hP9 hD9
          exact W.zret (v := bI (v_N_isBelow_5 f f2 n1)) hx hb hr (nb_z _) (fun t ht hW => ⟨⟨bI (v_N_isBelow_5 f f2 n1), (), rfl, congrArg bI e9, by rw [ht]; exact h9.1, va_K.moved hW.alike hK9, h9.2⟩, hS.F ht⟩) hS.2.2 dN_isBelow_53
        refine lv_icmp_ge (tgt := 52) hx hb dN_isBelow_45 (by decide) (fun c_4 => ?_) (fun c_4 => ?_)
        · refine lv_iconst (v := 0) hx hb dN_isBelow_52 (by decide) ?_
          exact J_1 false ((if_pos c_4)).symm _ _ (hK.sub [0, 1] rfl) (hP.sub [0, 1, 2, 3] rfl) (hD.sub [0, 1, 2, 3] (by decide) rfl) hS ls (lv_sub hl [] rfl)
        · refine lv_iconst (v := 1) hx hb dN_isBelow_48 (by decide) ?_
          refine lv_goto (tgt := 53) hx hb dN_isBelow_49 (by decide) ?_
          exact J_1 true ((if_neg c_4)).symm _ _ (hK.sub [0, 1] rfl) (hP.sub [0, 1, 2, 3] rfl) (hD.sub [0, 1, 2, 3] (by decide) rfl) hS ls (lv_sub hl [] rfl)
  exact L_1 (max k k2)  (by omega) (rfl).symm _ _ (hK.sub [0, 1] rfl) (hP.sub [0, 1, 2, 3] rfl) (hD.sub [0, 1, 2, 3] (by decide) rfl) hS ls (lv_sub hl [1, 2, 0] rfl)
def v_N_take_4 (f2 : Nat → Int32) (j1 : Nat) (y1_0 : Bool) (y1_1 : Nat → Int32) : Int32 := y1_1 j1
def v_N_take_5 (f2 : Nat → Int32) (j1 : Nat) (y1_0 : Bool) (y1_1 : Nat → Int32) : Int32 := f2 j1
def v_N_take_6 (f2 : Nat → Int32) (j1 : Nat) (y1_0 : Bool) (y1_1 : Nat → Int32) : Int32 := ((v_N_take_4 f2 j1 y1_0 y1_1) - (v_N_take_5 f2 j1 y1_0 y1_1)) - (bI y1_0)
def v_N_take_7 (f2 : Nat → Int32) (j1 : Nat) (y1_0 : Bool) (y1_1 : Nat → Int32) : Bool := (if 0 ≤ (v_N_take_6 f2 j1 y1_0 y1_1) then false else true)
def v_N_take_8 (f2 : Nat → Int32) (j1 : Nat) (y1_0 : Bool) (y1_1 : Nat → Int32) : Int32 := (v_N_take_6 f2 j1 y1_0 y1_1) &&& (1073741823 : Int32)
def v_N_take_9 (f2 : Nat → Int32) (j1 : Nat) (y1_0 : Bool) (y1_1 : Nat → Int32) : Nat → Int32 := upd y1_1 j1 (v_N_take_8 f2 j1 y1_0 y1_1)
def qN_take_4 (f2 : Nat → Int32) : Nat → Nat → Bool → (Nat → Int32) → Bool × (Nat → Int32)
  | 0, j1, y1_0, y1_1 => (y1_0, y1_1)
  | n1 + 1, j1, y1_0, y1_1 => qN_take_4 f2 n1 (j1 + 1) (v_N_take_7 f2 j1 y1_0 y1_1) (v_N_take_9 f2 j1 y1_0 y1_1)
def v_N_take_1 (f : Nat → Int32) (k : Nat) (f2 : Nat → Int32) (k2 : Nat) : Bool := (qN_take_4 f2 k 0 false f).1
def v_N_take_2 (f : Nat → Int32) (k : Nat) (f2 : Nat → Int32) (k2 : Nat) : Nat → Int32 := (qN_take_4 f2 k 0 false f).2
def v_N_take_3 (f : Nat → Int32) (k : Nat) (f2 : Nat → Int32) (k2 : Nat) : Nat := pN_trim_0 (v_N_take_2 f k f2 k2) k
def pN_take_0 (f : Nat → Int32) (k : Nat) (f2 : Nat → Int32) (k2 : Nat) : Nat → Int32 := (v_N_take_2 f k f2 k2)
def pN_take_1 (f : Nat → Int32) (k : Nat) (f2 : Nat → Int32) (k2 : Nat) : Nat := (v_N_take_3 f k f2 k2)
/-- N_take -/
abbrev atN_take (dC : Nat → ClassId) (dI : Nat → Nat → Nat) (h0 h0d h1 h1d : Nat) (bh0 bh1 : ClassId) (f : Nat → Int32) (k : Nat) (f2 : Nat → Int32) (k2 : Nat) (A : Nat → Prop) (t : State) : Prop := va_P (dC, dI) vwCl [(h0, .inr (1, [.ref h0d, .int (nI (pN_take_1 f k f2 k2))])), (h0d, .inl (bh0, 72, .inl (pN_take_0 f k f2 k2))), (h1, .inr (1, [.ref h1d, .int (nI k2)])), (h1d, .inl (bh1, 72, .inl f2))] t.heap ∧ va_K (dC, dI) vwCl [(bh0, .int), (bh1, .int)] t ∧ va_D A [(h0, .inr (1, [.ref h0d, .int (nI (pN_take_1 f k f2 k2))])), (h0d, .inl (bh0, 72, .inl (pN_take_0 f k f2 k2))), (h1, .inr (1, [.ref h1d, .int (nI k2)])), (h1d, .inl (bh1, 72, .inl f2))]
theorem trN_take {dC : Nat → ClassId} {dI : Nat → Nat → Nat} {h0 h0d h1 h1d : Nat} {bh0 bh1 : ClassId} {f2 : Nat → Int32} {k2 : Nat} {A : Nat → Prop} {H : Heap} {a0 b0 : Nat → Int32} {a1 b1 : Nat} (e0 : a0 = b0) (e1 : a1 = b1) (h : va_P (dC, dI) vwCl [(h0, .inr (1, [.ref h0d, .int (nI a1)])), (h0d, .inl (bh0, 72, .inl a0)), (h1, .inr (1, [.ref h1d, .int (nI k2)])), (h1d, .inl (bh1, 72, .inl f2))] H ∧ va_D A [(h0, .inr (1, [.ref h0d, .int (nI a1)])), (h0d, .inl (bh0, 72, .inl a0)), (h1, .inr (1, [.ref h1d, .int (nI k2)])), (h1d, .inl (bh1, 72, .inl f2))]) : va_P (dC, dI) vwCl [(h0, .inr (1, [.ref h0d, .int (nI b1)])), (h0d, .inl (bh0, 72, .inl b0)), (h1, .inr (1, [.ref h1d, .int (nI k2)])), (h1d, .inl (bh1, 72, .inl f2))] H ∧ va_D A [(h0, .inr (1, [.ref h0d, .int (nI b1)])), (h0d, .inl (bh0, 72, .inl b0)), (h1, .inr (1, [.ref h1d, .int (nI k2)])), (h1d, .inl (bh1, 72, .inl f2))] := by
  subst e0
  subst e1
  exact h
abbrev WN_take (p : Program) (l : Launch) (e : Env) (s : State) (m : MethodId) (below : List Frame) (meth : Method) (c : Code) (dC : Nat → ClassId) (dI : Nat → Nat → Nat) (h0 h0d h1 h1d : Nat) (bh0 bh1 : ClassId) (f : Nat → Int32) (k : Nat) (f2 : Nat → Int32) (k2 : Nat) (A : Nat → Prop) (H : Heap) (locs : List Loc) (g : JFrame) : Prop := W p l e (headSpec wN_take ({ frames := 1, cells := 0, slots := 0, locals := 20 })).room s m ([.ref h0, .ref h1] : List Value).toArray below meth c H locs 0 0 (MQ below (va_Qv (fun (_ : Unit) => True) (fun _ => atN_take dC dI h0 h0d h1 h1d bh0 bh1 f k f2 k2 A) A) ([.ref h0, .ref h1] : List Value).toArray s 0 0 A) g
set_option maxHeartbeats 4000000 in
set_option maxRecDepth 100000 in
theorem kN_take (l : Launch) (dC : Nat → ClassId) (dI : Nat → Nat → Nat) (h0 h0d h1 h1d : Nat) (bh0 bh1 : ClassId) (sz : Nat) (f : Nat → Int32) (k : Nat) (f2 : Nat → Int32) (k2 : Nat) (hk : k ≤ 72) (hk2 : k2 ≤ 72) : Met l yN_take wN_take ({ frames := 1, cells := 0, slots := 0, locals := 20 }) (va_Pc [.ref h0, .ref h1] (fun U => U.heap.size = sz ∧ va_P (dC, dI) vwCl [(h0, .inr (1, [.ref h0d, .int (nI k)])), (h0d, .inl (bh0, 72, .inl f)), (h1, .inr (1, [.ref h1d, .int (nI k2)])), (h1d, .inl (bh1, 72, .inl f2))] U.heap ∧ va_K (dC, dI) vwCl [(bh0, .int), (bh1, .int)] U ∧ va_D (fun _ => True) [(h0, .inr (1, [.ref h0d, .int (nI k)])), (h0d, .inl (bh0, 72, .inl f)), (h1, .inr (1, [.ref h1d, .int (nI k2)])), (h1d, .inl (bh1, 72, .inl f2))] ∧ NW U)) (va_Qv (fun (_ : Unit) => True) (fun _ => atN_take dC dI h0 h0d h1 h1d bh0 bh1 f k f2 k2 (va_A [(h0, .inr (1, [.ref h0d, .int (nI k)])), (h0d, .inl (bh0, 72, .inl f)), (h1, .inr (1, [.ref h1d, .int (nI k2)])), (h1d, .inl (bh1, 72, .inl f2))] sz)) (va_A [(h0, .inr (1, [.ref h0d, .int (nI k)])), (h0d, .inl (bh0, 72, .inl f)), (h1, .inr (1, [.ref h1d, .int (nI k2)])), (h1d, .inl (bh1, 72, .inl f2))] sz)) 0 0 (va_A [(h0, .inr (1, [.ref h0d, .int (nI k)])), (h0d, .inl (bh0, 72, .inl f)), (h1, .inr (1, [.ref h1d, .int (nI k2)])), (h1d, .inl (bh1, 72, .inl f2))] sz) := by
  refine Met.ofW (cc := cN_take) (maxL := 5) (ret := none) (by decide) rfl ?_
  intro p e s m args below meth c s₁ B hml hv
  obtain ⟨rfl, hsz, hP, hK, hD0, hN⟩ := hv
  have hx := B.exec
  have hb := B.bytes
  have hr := B.returns
  have hts := atoms_spec (ws := wN_take) B.pre
  have hown : s.vm.findClass RN = some m.cls := findClass_of_methodNamed B.named
  have hlocks := B.notSynchronized
  subst hsz
  have hD := hD0.self (sz := s.heap.size)
  generalize hAe : va_A [(h0, .inr (1, [.ref h0d, .int (nI k)])), (h0d, .inl (bh0, 72, .inl f)), (h1, .inr (1, [.ref h1d, .int (nI k2)])), (h1d, .inl (bh1, 72, .inl f2))] s.heap.size = A at hD ⊢
  have hA : ∀ q : Nat, s.heap.size ≤ q → A q := fun q h => by rw [← hAe]; exact Or.inr h
  have hS : va_S A s.heap s.heap [] := va_S.rf
  have hP : va_P (dC, dI) vwCl [(h0, .inr (1, [.ref h0d, .int (nI k)])), (h0d, .inl (bh0, 72, .inl f)), (h1, .inr (1, [.ref h1d, .int (nI k2)])), (h1d, .inl (bh1, 72, .inl f2))] s.heap := hP
  have hl := lv_entry ([.ref h0, .ref h1]) (n := 5) (Nat.le_of_ble_eq_true rfl)
  rw [lg_entry_eq]
  generalize (lg_sl ([.ref h0, .ref h1]) ++ List.replicate (5 - (lg_sl ([.ref h0, .ref h1])).length) Slot.unset).toArray = ls at hl ⊢
  have hl : lv_has ls 5 [(0, .ref h0), (1, .ref h1)] := hl
  refine lv_iconst (v := 0) hx hb dN_take_0 (by decide) ?_
  refine lv_istore_n (lv' := [(2, .int (0 : Int32)), (0, .ref h0), (1, .ref h1)]) hx hb dN_take_1 rfl hl (by decide) rfl (fun ls hl => ?_)
  refine lv_iconst (v := 0) hx hb dN_take_2 (by decide) ?_
  refine lv_istore_n (lv' := [(3, .int (0 : Int32)), (2, .int (0 : Int32)), (0, .ref h0), (1, .ref h1)]) hx hb dN_take_3 rfl hl (by decide) rfl (fun ls hl => ?_)
  have K_1 : ∀ (w_0 : Bool) (w_1 : Nat → Int32), (w_0, w_1) = qN_take_4 f2 k 0 false f → ∀ (H : Heap) (locs : List Loc), va_K (dC, dI) vwCl [(bh0, .int), (bh1, .int)] s → va_P (dC, dI) vwCl [(h0, .inr (1, [.ref h0d, .int (nI k)])), (h0d, .inl (bh0, 72, .inl w_1)), (h1, .inr (1, [.ref h1d, .int (nI k2)])), (h1d, .inl (bh1, 72, .inl f2))] H → va_D A [(h0, .inr (1, [.ref h0d, .int (nI k)])), (h0d, .inl (bh0, 72, .inl w_1)), (h1, .inr (1, [.ref h1d, .int (nI k2)])), (h1d, .inl (bh1, 72, .inl f2))] → va_S A s.heap H locs → ∀ (ls : Array Slot), lv_has ls 5 [(0, .ref h0)] → WN_take p l e s m below meth c dC dI h0 h0d h1 h1d bh0 bh1 f k f2 k2 A H locs (F0 m 57 ls []) := by
    intro w_0 w_1 hz
    have e_0 : w_0 = (v_N_take_1 f k f2 k2) := (congrArg (fun q => q.1) hz)
    have e_1 : w_1 = (v_N_take_2 f k f2 k2) := (congrArg (fun q => q.2) hz)
    rw [e_1]
    intro H locs hK hP hD hS ls hl
    refine lv_aload_n hx hb dN_take_57 rfl (lv_at hl 0 rfl) ?_
    have hPc := hP.sub (ws' := [(h0, .inr (1, [.ref h0d, .int (nI k)])), (h0d, .inl (bh0, 72, .inl (v_N_take_2 f k f2 k2)))]) [0, 1] rfl
    have hDc := hD.sub (ws' := [(h0, .inr (1, [.ref h0d, .int (nI k)])), (h0d, .inl (bh0, 72, .inl (v_N_take_2 f k f2 k2)))]) [0, 1] (by decide) rfl
    have hKc := hK.sub (tys' := [(bh0, .int)]) [0] rfl
    have hFc := va_free (wc := [(h0, .inr (1, [.ref h0d, .int (nI k)])), (h0d, .inl (bh0, 72, .inl (v_N_take_2 f k f2 k2)))]) hD hS hA [0, 1] rfl
    refine va_callv (va_runV (As := []) (rest := []) ⟨hx, hb, hml, hown, hts⟩ (kN_trim l dC dI h0 h0d bh0 H.size (v_N_take_2 f k f2 k2) k (by omega)) (cwV 0 hts (g_call (List.forall_mem_cons.mpr ⟨m2_10, List.forall_mem_cons.mpr ⟨m2_11, List.forall_mem_cons.mpr ⟨m2_12, List.forall_mem_cons.mpr ⟨m1_3, fun _ h => absurd h List.not_mem_nil⟩⟩⟩⟩) m2_13) rfl rfl rfl (by decide +kernel) ⟨Nat.le_of_ble_eq_true rfl, Nat.le_of_ble_eq_true rfl⟩) ⟨fun a U g mk q => by obtain ⟨q0, q1, qP, qK, qD, qN⟩ := q; exact ⟨q0, q1, qP, va_K.moved (u := U) (U := U.calling g mk a) (Vm.Alike.refl U.vm) qK, qD, NW.same (u := U) rfl qN⟩, va_recv hKc hPc (ci := 1) (q0 := 0) rfl rfl, fun U hU hW => ⟨rfl, by rw [hU], by rw [hU]; exact hPc, va_K.moved hW.alike hKc, hDc.weaken (fun _ _ _ _ => trivial), NW.warm hW hN⟩⟩ rfl rfl hl.1 rfl (lv_room (Nat.le_of_ble_eq_true rfl)) dN_take_58 ⟨Nat.le_of_ble_eq_true rfl, Nat.le_of_ble_eq_true rfl⟩) hS (fun q _ h => hFc q h) hFc (fun u9 t H1 locs ht hvm hw hB hz1 hk1 hS => ?_)
    obtain ⟨hP1, hK1, hD1⟩ := hB
    rw [ht] at hP1
    have hK1 := va_K.moved hvm.symm hK1
    have hP1 : va_P (dC, dI) vwCl [(h0, .inr (1, [.ref h0d, .int (nI (v_N_take_3 f k f2 k2))])), (h0d, .inl (bh0, 72, .inl (v_N_take_2 f k f2 k2)))] H1 := hP1
    have hD1 : va_D _ [(h0, .inr (1, [.ref h0d, .int (nI (v_N_take_3 f k f2 k2))])), (h0d, .inl (bh0, 72, .inl (v_N_take_2 f k f2 k2)))] := hD1
    obtain ⟨hP, hD⟩ := va_join (wr := [(h1, .inr (1, [.ref h1d, .int (nI k2)])), (h1d, .inl (bh1, 72, .inl f2))]) (w1 := [(h0, .inr (1, [.ref h0d, .int (nI (v_N_take_3 f k f2 k2))])), (h0d, .inl (bh0, 72, .inl (v_N_take_2 f k f2 k2)))]) hP hD [0, 1] [2, 3] rfl rfl (by decide) (by decide) hk1 hFc hP1 hD1
    have hK := (hK.sub (tys' := [(bh1, .int)]) [1] rfl).app hK1
    generalize H1 = H at hP hS ⊢
    have hP : va_P (dC, dI) vwCl [(h1, .inr (1, [.ref h1d, .int (nI k2)])), (h1d, .inl (bh1, 72, .inl f2)), (h0, .inr (1, [.ref h0d, .int (nI (v_N_take_3 f k f2 k2))])), (h0d, .inl (bh0, 72, .inl (v_N_take_2 f k f2 k2)))] H := hP
    have hD : va_D A [(h1, .inr (1, [.ref h1d, .int (nI k2)])), (h1d, .inl (bh1, 72, .inl f2)), (h0, .inr (1, [.ref h0d, .int (nI (v_N_take_3 f k f2 k2))])), (h0d, .inl (bh0, 72, .inl (v_N_take_2 f k f2 k2)))] := hD
    have hK : va_K (dC, dI) vwCl [(bh1, .int), (bh0, .int)] s := hK
    have e9_0 : (v_N_take_2 f k f2 k2) = pN_take_0 f k f2 k2 := (rfl).symm
    have e9_1 : (v_N_take_3 f k f2 k2) = pN_take_1 f k f2 k2 := (rfl).symm
    have hP9 := hP.sub (ws' := [(h0, .inr (1, [.ref h0d, .int (nI (v_N_take_3 f k f2 k2))])), (h0d, .inl (bh0, 72, .inl (v_N_take_2 f k f2 k2))), (h1, .inr (1, [.ref h1d, .int (nI k2)])), (h1d, .inl (bh1, 72, .inl f2))]) [2, 3, 0, 1] rfl
    have hD9 := hD.sub (ws' := [(h0, .inr (1, [.ref h0d, .int (nI (v_N_take_3 f k f2 k2))])), (h0d, .inl (bh0, 72, .inl (v_N_take_2 f k f2 k2))), (h1, .inr (1, [.ref h1d, .int (nI k2)])), (h1d, .inl (bh1, 72, .inl f2))]) [2, 3, 0, 1] (by decide) rfl
    have hK9 := hK.sub (tys' := [(bh0, .int), (bh1, .int)]) [1, 0] rfl
    have h9 := trN_take e9_0 e9_1 ⟨hP9, hD9⟩
    exact W.vret hx hb hr (fun t ht hW => ⟨⟨(), rfl, trivial, by rw [ht]; exact h9.1, va_K.moved hW.alike hK9, h9.2⟩, hS.F ht⟩) hS.2.2 dN_take_61
  have L_1 : ∀ (n1 j1 : Nat) (y1_0 : Bool) (y1_1 : Nat → Int32), j1 + n1 = k → qN_take_4 f2 n1 j1 y1_0 y1_1 = qN_take_4 f2 k 0 false f → ∀ (H : Heap) (locs : List Loc), va_K (dC, dI) vwCl [(bh0, .int), (bh1, .int)] s → va_P (dC, dI) vwCl [(h0, .inr (1, [.ref h0d, .int (nI k)])), (h0d, .inl (bh0, 72, .inl y1_1)), (h1, .inr (1, [.ref h1d, .int (nI k2)])), (h1d, .inl (bh1, 72, .inl f2))] H → va_D A [(h0, .inr (1, [.ref h0d, .int (nI k)])), (h0d, .inl (bh0, 72, .inl y1_1)), (h1, .inr (1, [.ref h1d, .int (nI k2)])), (h1d, .inl (bh1, 72, .inl f2))] → va_S A s.heap H locs → ∀ (ls : Array Slot), lv_has ls 5 [(0, .ref h0), (1, .ref h1), (2, .int (bI y1_0)), (3, .int (nI j1))] → WN_take p l e s m below meth c dC dI h0 h0d h1 h1d bh0 bh1 f k f2 k2 A H locs (F0 m 4 ls []) := by
    intro n1
    induction n1 with
    | zero =>
      intro j1 y1_0 y1_1 hj hq H locs hK hP hD hS ls hl
      refine lv_iload_n hx hb dN_take_4 rfl (lv_at hl 3 rfl) ?_
      refine lv_aload_n hx hb dN_take_5 rfl (lv_at hl 0 rfl) ?_
      refine va_get (D := (dC, dI)) (ci := 1) (v := .int (nI k)) (C := RN) (T := TN) (N := 2) hx hb hts (inC iN) hown hK hP 0 rfl rfl 1 (by decide) (hts _ (List.mem_cons_of_mem _ m1_52)) (fun _ h9 => h9) rfl dN_take_6 ?_
      refine lv_icmp_ge (tgt := 57) hx hb dN_take_9 (by decide) (fun c_1 => ?_) (fun c_1 => ?_)
      rotate_left
      · exact absurd ((nI_leI (a := k) (b := j1) (by omega) (by omega)).mpr (by omega)) c_1
      exact K_1 y1_0 y1_1 (by exact hq) _ _ (hK.sub [0, 1] rfl) (hP.sub [0, 1, 2, 3] rfl) (hD.sub [0, 1, 2, 3] (by decide) rfl) hS ls (lv_sub hl [0] rfl)
    | succ n1 ih =>
      intro j1 y1_0 y1_1 hj hq H locs hK hP hD hS ls hl
      refine lv_iload_n hx hb dN_take_4 rfl (lv_at hl 3 rfl) ?_
      refine lv_aload_n hx hb dN_take_5 rfl (lv_at hl 0 rfl) ?_
      refine va_get (D := (dC, dI)) (ci := 1) (v := .int (nI k)) (C := RN) (T := TN) (N := 2) hx hb hts (inC iN) hown hK hP 0 rfl rfl 1 (by decide) (hts _ (List.mem_cons_of_mem _ m1_52)) (fun _ h9 => h9) rfl dN_take_6 ?_
      refine lv_icmp_ge (tgt := 57) hx hb dN_take_9 (by decide) (fun c_2 => ?_) (fun c_2 => ?_)
      · exact absurd ((nI_leI (a := k) (b := j1) (by omega) (by omega)).mp c_2) (by omega)
      refine lv_aload_n hx hb dN_take_12 rfl (lv_at hl 0 rfl) ?_
      refine va_get (D := (dC, dI)) (ci := 1) (v := .ref h0d) (C := RN) (T := TN) (N := 2) hx hb hts (inC iN) hown hK hP 0 rfl rfl 0 (by decide) (hts _ (List.mem_cons_of_mem _ m1_51)) (fun _ h9 => h9) rfl dN_take_13 ?_
      refine lv_iload_n hx hb dN_take_16 rfl (lv_at hl 3 rfl) ?_
      refine va_iald hx hb hK hP 1 0 rfl rfl (i := (nI j1)) (vp_in_nI (n := j1) (by omega) (by omega)) dN_take_17 ?_
      refine lv_topi (fun w9 e9 => ?_)
      have e9 : w9 = (v_N_take_4 f2 j1 y1_0 y1_1) := e9.trans (congrArg y1_1 (nI_clamp (n := j1) (by omega)))
      rw [e9]
      refine lv_aload_n hx hb dN_take_18 rfl (lv_at hl 1 rfl) ?_
      refine va_get (D := (dC, dI)) (ci := 1) (v := .ref h1d) (C := RN) (T := TN) (N := 2) hx hb hts (inC iN) hown hK hP 2 rfl rfl 0 (by decide) (hts _ (List.mem_cons_of_mem _ m1_51)) (fun _ h9 => h9) rfl dN_take_19 ?_
      refine lv_iload_n hx hb dN_take_22 rfl (lv_at hl 3 rfl) ?_
      refine va_iald hx hb hK hP 3 1 rfl rfl (i := (nI j1)) (vp_in_nI (n := j1) (by omega) (by omega)) dN_take_23 ?_
      refine lv_topi (fun w9 e9 => ?_)
      have e9 : w9 = (v_N_take_5 f2 j1 y1_0 y1_1) := e9.trans (congrArg f2 (nI_clamp (n := j1) (by omega)))
      rw [e9]
      refine lv_isub hx hb dN_take_24 ?_
      refine lv_iload_n hx hb dN_take_25 rfl (lv_at hl 2 rfl) ?_
      refine lv_isub hx hb dN_take_26 ?_
      refine lv_topi (fun w9 e9 => ?_)
      have e9 : w9 = (v_N_take_6 f2 j1 y1_0 y1_1) := e9
      rw [e9]
      refine lv_istore (lv' := [(4, .int (v_N_take_6 f2 j1 y1_0 y1_1)), (0, .ref h0), (1, .ref h1), (2, .int (bI y1_0)), (3, .int (nI j1))]) hx hb dN_take_27 hl (by decide) rfl (fun ls hl => ?_)
      refine lv_iload hx hb dN_take_29 (lv_at hl 0 rfl) ?_
      have J_1 : ∀ (w_0 : Bool), w_0 = (v_N_take_7 f2 j1 y1_0 y1_1) → ∀ (H : Heap) (locs : List Loc), va_K (dC, dI) vwCl [(bh0, .int), (bh1, .int)] s → va_P (dC, dI) vwCl [(h0, .inr (1, [.ref h0d, .int (nI k)])), (h0d, .inl (bh0, 72, .inl y1_1)), (h1, .inr (1, [.ref h1d, .int (nI k2)])), (h1d, .inl (bh1, 72, .inl f2))] H → va_D A [(h0, .inr (1, [.ref h0d, .int (nI k)])), (h0d, .inl (bh0, 72, .inl y1_1)), (h1, .inr (1, [.ref h1d, .int (nI k2)])), (h1d, .inl (bh1, 72, .inl f2))] → va_S A s.heap H locs → ∀ (ls : Array Slot), lv_has ls 5 [(0, .ref h0), (1, .ref h1), (3, .int (nI j1)), (4, .int (v_N_take_6 f2 j1 y1_0 y1_1))] → WN_take p l e s m below meth c dC dI h0 h0d h1 h1d bh0 bh1 f k f2 k2 A H locs (F0 m 39 ls [.int (bI w_0)]) := by
        intro w_0 e_0
        rw [e_0]
        intro H locs hK hP hD hS ls hl
        refine lv_istore_n (lv' := [(2, .int (bI (v_N_take_7 f2 j1 y1_0 y1_1))), (0, .ref h0), (1, .ref h1), (3, .int (nI j1)), (4, .int (v_N_take_6 f2 j1 y1_0 y1_1))]) hx hb dN_take_39 rfl hl (by decide) rfl (fun ls hl => ?_)
        refine lv_aload_n hx hb dN_take_40 rfl (lv_at hl 1 rfl) ?_
        refine va_get (D := (dC, dI)) (ci := 1) (v := .ref h0d) (C := RN) (T := TN) (N := 2) hx hb hts (inC iN) hown hK hP 0 rfl rfl 0 (by decide) (hts _ (List.mem_cons_of_mem _ m1_51)) (fun _ h9 => h9) rfl dN_take_41 ?_
        refine lv_iload_n hx hb dN_take_44 rfl (lv_at hl 3 rfl) ?_
        refine lv_iload hx hb dN_take_45 (lv_at hl 4 rfl) ?_
        refine lv_ldc (v := 1073741823) hx hb hown (hts _ (List.mem_cons_of_mem _ m2_28)) dN_take_47 ?_
        refine lv_iand hx hb dN_take_49 ?_
        refine lv_topi (fun w9 e9 => ?_)
        have e9 : w9 = (v_N_take_8 f2 j1 y1_0 y1_1) := e9
        rw [e9]
        refine va_iast hx hb hK hP hD hS 1 0 rfl rfl (i := (nI j1)) (x := (v_N_take_8 f2 j1 y1_0 y1_1)) (vp_in_nI (n := j1) (by omega) (by omega)) dN_take_50 (fun H locs hP hD hS => ?_)
        have hP : va_P (dC, dI) vwCl [(h0, .inr (1, [.ref h0d, .int (nI k)])), (h0d, .inl (bh0, 72, .inl (upd y1_1 (nI j1).toNatClampNeg (v_N_take_8 f2 j1 y1_0 y1_1)))), (h1, .inr (1, [.ref h1d, .int (nI k2)])), (h1d, .inl (bh1, 72, .inl f2))] H := hP
        have hD : va_D A [(h0, .inr (1, [.ref h0d, .int (nI k)])), (h0d, .inl (bh0, 72, .inl (upd y1_1 (nI j1).toNatClampNeg (v_N_take_8 f2 j1 y1_0 y1_1)))), (h1, .inr (1, [.ref h1d, .int (nI k2)])), (h1d, .inl (bh1, 72, .inl f2))] := hD
        have e9 : upd y1_1 (nI j1).toNatClampNeg (v_N_take_8 f2 j1 y1_0 y1_1) = (v_N_take_9 f2 j1 y1_0 y1_1) := congrArg (fun z => upd y1_1 z (v_N_take_8 f2 j1 y1_0 y1_1)) (nI_clamp (n := j1) (by omega))
        rw [e9] at hP hD
        have hP : va_P (dC, dI) vwCl [(h0, .inr (1, [.ref h0d, .int (nI k)])), (h0d, .inl (bh0, 72, .inl (v_N_take_9 f2 j1 y1_0 y1_1))), (h1, .inr (1, [.ref h1d, .int (nI k2)])), (h1d, .inl (bh1, 72, .inl f2))] H := hP
        have hD : va_D A [(h0, .inr (1, [.ref h0d, .int (nI k)])), (h0d, .inl (bh0, 72, .inl (v_N_take_9 f2 j1 y1_0 y1_1))), (h1, .inr (1, [.ref h1d, .int (nI k2)])), (h1d, .inl (bh1, 72, .inl f2))] := hD
        refine lv_iinc (v := (nI (j1 + 1))) (lv' := [(3, .int (nI (j1 + 1))), (2, .int (bI (v_N_take_7 f2 j1 y1_0 y1_1))), (0, .ref h0), (1, .ref h1), (4, .int (v_N_take_6 f2 j1 y1_0 y1_1))]) hx hb dN_take_51 hl (k := 3) rfl (nI_1 _) (by decide) rfl (fun ls hl => ?_)
        refine lv_goto (tgt := 4) hx hb dN_take_54 (by decide) ?_
        exact ih (j1 + 1) (v_N_take_7 f2 j1 y1_0 y1_1) (v_N_take_9 f2 j1 y1_0 y1_1) (by omega) (by exact hq) _ _ (hK.sub [0, 1] rfl) (hP.sub [0, 1, 2, 3] rfl) (hD.sub [0, 1, 2, 3] (by decide) rfl) hS ls (lv_sub hl [2, 3, 1, 0] rfl)
      refine lv_if_ge (tgt := 38) hx hb dN_take_31 (by decide) (fun c_3 => ?_) (fun c_3 => ?_)
      · refine lv_iconst (v := 0) hx hb dN_take_38 (by decide) ?_
        exact J_1 false ((if_pos c_3)).symm _ _ (hK.sub [0, 1] rfl) (hP.sub [0, 1, 2, 3] rfl) (hD.sub [0, 1, 2, 3] (by decide) rfl) hS ls (lv_sub hl [1, 2, 4, 0] rfl)
      · refine lv_iconst (v := 1) hx hb dN_take_34 (by decide) ?_
        refine lv_goto (tgt := 39) hx hb dN_take_35 (by decide) ?_
        exact J_1 true ((if_neg c_3)).symm _ _ (hK.sub [0, 1] rfl) (hP.sub [0, 1, 2, 3] rfl) (hD.sub [0, 1, 2, 3] (by decide) rfl) hS ls (lv_sub hl [1, 2, 4, 0] rfl)
  exact L_1 k 0 false f (by omega) rfl _ _ (hK.sub [0, 1] rfl) (hP.sub [0, 1, 2, 3] rfl) (hD.sub [0, 1, 2, 3] (by decide) rfl) hS ls (lv_sub hl [2, 3, 1, 0] rfl)
