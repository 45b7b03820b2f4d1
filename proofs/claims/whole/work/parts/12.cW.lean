def v_W_isLess_1 (a : Int64) (b : Int64) : Bool := (if (b ^^^ (-9223372036854775808 : Int64)) ≤ (a ^^^ (-9223372036854775808 : Int64)) then false else true)
def pW_isLess (a : Int64) (b : Int64) : Bool := (v_W_isLess_1 a b)
/-- W_isLess -/
abbrev WW_isLess (p : Program) (l : Launch) (e : Env) (s : State) (m : MethodId) (below : List Frame) (meth : Method) (c : Code) (a : Int64) (b : Int64) (H : Heap) (locs : List Loc) (g : JFrame) : Prop := W p l e (headSpec wW_isLess ({ frames := 0, cells := 0, slots := 0, locals := 0 })).room s m ([.long a, .long b] : List Value).toArray below meth c H locs 0 0 (MQ below (QR (.int (bI (pW_isLess a b)))) ([.long a, .long b] : List Value).toArray s 0 0 (fun _ => False)) g
set_option maxHeartbeats 4000000 in
set_option maxRecDepth 100000 in
theorem kW_isLess (l : Launch) (a : Int64) (b : Int64) : Met l yW_isLess wW_isLess ({ frames := 0, cells := 0, slots := 0, locals := 0 }) (fun v _ => v = ([.long a, .long b] : List Value).toArray) (QR (.int (bI (pW_isLess a b)))) 0 0 (fun _ => False) := by
  refine Met.ofW (cc := cW_isLess) (maxL := 4) (ret := (some .boolean)) (by decide) rfl ?_
  intro p e s m args below meth c s₁ B hml hv
  have hv : args = ([.long a, .long b] : List Value).toArray := hv
  subst hv
  have hx := B.exec
  have hb := B.bytes
  have hr := B.returns
  have hts := atoms_spec (ws := wW_isLess) B.pre
  have hown : s.vm.findClass RW = some m.cls := findClass_of_methodNamed B.named
  have hlocks := B.notSynchronized
  have hl := lv_entry ([.long a, .long b]) (n := 4) (Nat.le_of_ble_eq_true rfl)
  rw [lg_entry_eq]
  generalize (lg_sl ([.long a, .long b]) ++ List.replicate (4 - (lg_sl ([.long a, .long b])).length) Slot.unset).toArray = ls at hl ⊢
  have hl : lv_has ls 4 [(0, .long a), (2, .long b)] := hl
  refine lv_lload_n hx hb dW_isLess_0 rfl (lv_at hl 0 rfl) ?_
  refine lv_ldc2 (v := -9223372036854775808) hx hb hown (hts _ (List.mem_cons_of_mem _ m1_161)) dW_isLess_1 ?_
  refine lv_lxor hx hb dW_isLess_4 ?_
  refine lv_lload_n hx hb dW_isLess_5 rfl (lv_at hl 1 rfl) ?_
  refine lv_ldc2 (v := -9223372036854775808) hx hb hown (hts _ (List.mem_cons_of_mem _ m1_161)) dW_isLess_6 ?_
  refine lv_lxor hx hb dW_isLess_9 ?_
  refine W.lcmp hx hb dW_isLess_10 ?_
  have J_1 : ∀ (w_0 : Bool), w_0 = (v_W_isLess_1 a b) → ∀ (ls : Array Slot), lv_has ls 4 [] → WW_isLess p l e s m below meth c a b s.heap [] (F0 m 19 ls [.int (bI w_0)]) := by
    intro w_0 e_0
    rw [e_0]
    intro ls hl
    have e9 : (v_W_isLess_1 a b) = pW_isLess a b := (rfl).symm
    exact W.zret (v := bI (v_W_isLess_1 a b)) hx hb hr (nb_z _) (fun t ht hW => ⟨by rw [e9], ht⟩) (fun q h => absurd h List.not_mem_nil) dW_isLess_19
  refine lv_if_ge (tgt := 18) hx hb dW_isLess_11 (by decide) (fun c_1 => ?_) (fun c_1 => ?_)
  · have c_1 : (b ^^^ (-9223372036854775808 : Int64)) ≤ (a ^^^ (-9223372036854775808 : Int64)) := (lg_cmp_ge _ _).mp c_1
    refine lv_iconst (v := 0) hx hb dW_isLess_18 (by decide) ?_
    exact J_1 false ((if_pos c_1)).symm ls (lv_sub hl [] rfl)
  · have c_1 : ¬ ((b ^^^ (-9223372036854775808 : Int64)) ≤ (a ^^^ (-9223372036854775808 : Int64))) := fun h => c_1 ((lg_cmp_ge _ _).mpr h)
    refine lv_iconst (v := 1) hx hb dW_isLess_14 (by decide) ?_
    refine lv_goto (tgt := 19) hx hb dW_isLess_15 (by decide) ?_
    exact J_1 true ((if_neg c_1)).symm ls (lv_sub hl [] rfl)
def v_W_setProduct_1 (hi : Int64) (lw : Int64) (ep : Int32) (ng : Bool) (gn : Bool) (x : Int64) (y : Int64) : Int64 := pF_significandOf x
def v_W_setProduct_2 (hi : Int64) (lw : Int64) (ep : Int32) (ng : Bool) (gn : Bool) (x : Int64) (y : Int64) : Int64 := pF_significandOf y
def v_W_setProduct_3 (hi : Int64) (lw : Int64) (ep : Int32) (ng : Bool) (gn : Bool) (x : Int64) (y : Int64) : Int64 := ((v_W_setProduct_1 hi lw ep ng gn x y) &&& (4294967295 : Int64)) * ((v_W_setProduct_2 hi lw ep ng gn x y) &&& (4294967295 : Int64))
def v_W_setProduct_4 (hi : Int64) (lw : Int64) (ep : Int32) (ng : Bool) (gn : Bool) (x : Int64) (y : Int64) : Int64 := ((jlush (v_W_setProduct_1 hi lw ep ng gn x y) (32 : Int32)) * ((v_W_setProduct_2 hi lw ep ng gn x y) &&& (4294967295 : Int64))) + (jlush (v_W_setProduct_3 hi lw ep ng gn x y) (32 : Int32))
def v_W_setProduct_5 (hi : Int64) (lw : Int64) (ep : Int32) (ng : Bool) (gn : Bool) (x : Int64) (y : Int64) : Int64 := (((v_W_setProduct_1 hi lw ep ng gn x y) &&& (4294967295 : Int64)) * (jlush (v_W_setProduct_2 hi lw ep ng gn x y) (32 : Int32))) + ((v_W_setProduct_4 hi lw ep ng gn x y) &&& (4294967295 : Int64))
def v_W_setProduct_6 (hi : Int64) (lw : Int64) (ep : Int32) (ng : Bool) (gn : Bool) (x : Int64) (y : Int64) : Int64 := (((jlush (v_W_setProduct_1 hi lw ep ng gn x y) (32 : Int32)) * (jlush (v_W_setProduct_2 hi lw ep ng gn x y) (32 : Int32))) + (jlush (v_W_setProduct_4 hi lw ep ng gn x y) (32 : Int32))) + (jlush (v_W_setProduct_5 hi lw ep ng gn x y) (32 : Int32))
def v_W_setProduct_7 (hi : Int64) (lw : Int64) (ep : Int32) (ng : Bool) (gn : Bool) (x : Int64) (y : Int64) : Int64 := (jlshl (v_W_setProduct_5 hi lw ep ng gn x y) (32 : Int32)) ||| ((v_W_setProduct_3 hi lw ep ng gn x y) &&& (4294967295 : Int64))
def v_W_setProduct_8 (hi : Int64) (lw : Int64) (ep : Int32) (ng : Bool) (gn : Bool) (x : Int64) (y : Int64) : Int32 := (pF_exponentOf x) + (pF_exponentOf y)
def v_W_setProduct_9 (hi : Int64) (lw : Int64) (ep : Int32) (ng : Bool) (gn : Bool) (x : Int64) (y : Int64) : Bool := (if (0 : Int64) ≤ (x ^^^ y) then false else true)
def pW_setProduct_0 (hi : Int64) (lw : Int64) (ep : Int32) (ng : Bool) (gn : Bool) (x : Int64) (y : Int64) : Int64 := (v_W_setProduct_6 hi lw ep ng gn x y)
def pW_setProduct_1 (hi : Int64) (lw : Int64) (ep : Int32) (ng : Bool) (gn : Bool) (x : Int64) (y : Int64) : Int64 := (v_W_setProduct_7 hi lw ep ng gn x y)
def pW_setProduct_2 (hi : Int64) (lw : Int64) (ep : Int32) (ng : Bool) (gn : Bool) (x : Int64) (y : Int64) : Int32 := (v_W_setProduct_8 hi lw ep ng gn x y)
def pW_setProduct_3 (hi : Int64) (lw : Int64) (ep : Int32) (ng : Bool) (gn : Bool) (x : Int64) (y : Int64) : Bool := (v_W_setProduct_9 hi lw ep ng gn x y)
def pW_setProduct_4 (hi : Int64) (lw : Int64) (ep : Int32) (ng : Bool) (gn : Bool) (x : Int64) (y : Int64) : Bool := false
/-- W_setProduct -/
abbrev atW_setProduct (dC : Nat → ClassId) (dI : Nat → Nat → Nat) (h0 : Nat) (hi : Int64) (lw : Int64) (ep : Int32) (ng : Bool) (gn : Bool) (x : Int64) (y : Int64) (A : Nat → Prop) (t : State) : Prop := va_P (dC, dI) vwCl [(h0, .inr (0, [.long (pW_setProduct_0 hi lw ep ng gn x y), .long (pW_setProduct_1 hi lw ep ng gn x y), .int (pW_setProduct_2 hi lw ep ng gn x y), .int (bI (pW_setProduct_3 hi lw ep ng gn x y)), .int (bI (pW_setProduct_4 hi lw ep ng gn x y))]))] t.heap ∧ va_K (dC, dI) vwCl [] t ∧ va_D A [(h0, .inr (0, [.long (pW_setProduct_0 hi lw ep ng gn x y), .long (pW_setProduct_1 hi lw ep ng gn x y), .int (pW_setProduct_2 hi lw ep ng gn x y), .int (bI (pW_setProduct_3 hi lw ep ng gn x y)), .int (bI (pW_setProduct_4 hi lw ep ng gn x y))]))]
theorem trW_setProduct {dC : Nat → ClassId} {dI : Nat → Nat → Nat} {h0 : Nat} {A : Nat → Prop} {H : Heap} {a0 b0 : Int64} {a1 b1 : Int64} {a2 b2 : Int32} {a3 b3 : Bool} {a4 b4 : Bool} (e0 : a0 = b0) (e1 : a1 = b1) (e2 : a2 = b2) (e3 : a3 = b3) (e4 : a4 = b4) (h : va_P (dC, dI) vwCl [(h0, .inr (0, [.long a0, .long a1, .int a2, .int (bI a3), .int (bI a4)]))] H ∧ va_D A [(h0, .inr (0, [.long a0, .long a1, .int a2, .int (bI a3), .int (bI a4)]))]) : va_P (dC, dI) vwCl [(h0, .inr (0, [.long b0, .long b1, .int b2, .int (bI b3), .int (bI b4)]))] H ∧ va_D A [(h0, .inr (0, [.long b0, .long b1, .int b2, .int (bI b3), .int (bI b4)]))] := by
  subst e0
  subst e1
  subst e2
  subst e3
  subst e4
  exact h
abbrev WW_setProduct (p : Program) (l : Launch) (e : Env) (s : State) (m : MethodId) (below : List Frame) (meth : Method) (c : Code) (dC : Nat → ClassId) (dI : Nat → Nat → Nat) (h0 : Nat) (hi : Int64) (lw : Int64) (ep : Int32) (ng : Bool) (gn : Bool) (x : Int64) (y : Int64) (A : Nat → Prop) (H : Heap) (locs : List Loc) (g : JFrame) : Prop := W p l e (headSpec wW_setProduct ({ frames := 2, cells := 0, slots := 0, locals := 43 })).room s m ([.ref h0, .long x, .long y] : List Value).toArray below meth c H locs 0 0 (MQ below (va_Qv (fun (_ : Unit) => True) (fun _ => atW_setProduct dC dI h0 hi lw ep ng gn x y A) A) ([.ref h0, .long x, .long y] : List Value).toArray s 0 0 A) g
set_option maxHeartbeats 4000000 in
set_option maxRecDepth 100000 in
theorem kW_setProduct (l : Launch) (dC : Nat → ClassId) (dI : Nat → Nat → Nat) (h0 : Nat) (sz : Nat) (hi : Int64) (lw : Int64) (ep : Int32) (ng : Bool) (gn : Bool) (x : Int64) (y : Int64) : Met l yW_setProduct wW_setProduct ({ frames := 2, cells := 0, slots := 0, locals := 43 }) (va_Pc [.ref h0, .long x, .long y] (fun U => U.heap.size = sz ∧ va_P (dC, dI) vwCl [(h0, .inr (0, [.long hi, .long lw, .int ep, .int (bI ng), .int (bI gn)]))] U.heap ∧ va_K (dC, dI) vwCl [] U ∧ va_D (fun _ => True) [(h0, .inr (0, [.long hi, .long lw, .int ep, .int (bI ng), .int (bI gn)]))] ∧ NW U)) (va_Qv (fun (_ : Unit) => True) (fun _ => atW_setProduct dC dI h0 hi lw ep ng gn x y (va_A [(h0, .inr (0, [.long hi, .long lw, .int ep, .int (bI ng), .int (bI gn)]))] sz)) (va_A [(h0, .inr (0, [.long hi, .long lw, .int ep, .int (bI ng), .int (bI gn)]))] sz)) 0 0 (va_A [(h0, .inr (0, [.long hi, .long lw, .int ep, .int (bI ng), .int (bI gn)]))] sz) := by
  refine Met.ofW (cc := cW_setProduct) (maxL := 15) (ret := none) (by decide) rfl ?_
  intro p e s m args below meth c s₁ B hml hv
  obtain ⟨rfl, hsz, hP, hK, hD0, hN⟩ := hv
  have hx := B.exec
  have hb := B.bytes
  have hr := B.returns
  have hts := atoms_spec (ws := wW_setProduct) B.pre
  have hown : s.vm.findClass RW = some m.cls := findClass_of_methodNamed B.named
  have hlocks := B.notSynchronized
  subst hsz
  have hD := hD0.self (sz := s.heap.size)
  generalize hAe : va_A [(h0, .inr (0, [.long hi, .long lw, .int ep, .int (bI ng), .int (bI gn)]))] s.heap.size = A at hD ⊢
  have hA : ∀ q : Nat, s.heap.size ≤ q → A q := fun q h => by rw [← hAe]; exact Or.inr h
  have hS : va_S A s.heap s.heap [] := va_S.rf
  have hP : va_P (dC, dI) vwCl [(h0, .inr (0, [.long hi, .long lw, .int ep, .int (bI ng), .int (bI gn)]))] s.heap := hP
  have hl := lv_entry ([.ref h0, .long x, .long y]) (n := 15) (Nat.le_of_ble_eq_true rfl)
  rw [lg_entry_eq]
  generalize (lg_sl ([.ref h0, .long x, .long y]) ++ List.replicate (15 - (lg_sl ([.ref h0, .long x, .long y])).length) Slot.unset).toArray = ls at hl ⊢
  have hl : lv_has ls 15 [(0, .ref h0), (1, .long x), (3, .long y)] := hl
  refine lv_lload_n hx hb dW_setProduct_0 rfl (lv_at hl 1 rfl) ?_
  refine k_callN (va_runSN (As := [.long x]) (rest := []) ⟨hx, hb, hml, hown, hts⟩ (kF_significandOf l x) ⟨va_cnB 1 hts (g_call (ex := []) (fun _ h => absurd h List.not_mem_nil) m1_113) rfl rfl rfl (hN _ (List.mem_of_getElem? (i := 2) rfl)) (hts _ (List.mem_cons_of_mem _ m1_1)) (by decide +kernel) ⟨Nat.le_of_ble_eq_true rfl, Nat.le_of_ble_eq_true rfl⟩, (hts _ (List.mem_cons_of_mem _ m1_112)), trivial⟩ preEq rfl rfl hl.1 rfl (lv_room (Nat.le_of_ble_eq_true rfl)) dW_setProduct_1 ⟨Nat.le_of_ble_eq_true rfl, Nat.le_of_ble_eq_true rfl⟩) ?_
  refine lv_topl (fun w9 e9 => ?_)
  have e9 : w9 = (v_W_setProduct_1 hi lw ep ng gn x y) := e9
  rw [e9]
  refine lv_lstore (lv' := [(5, .long (v_W_setProduct_1 hi lw ep ng gn x y)), (0, .ref h0), (1, .long x), (3, .long y)]) hx hb dW_setProduct_4 hl (by decide) rfl (fun ls hl => ?_)
  refine lv_lload_n hx hb dW_setProduct_6 rfl (lv_at hl 3 rfl) ?_
  refine k_callN (va_runSN (As := [.long y]) (rest := []) ⟨hx, hb, hml, hown, hts⟩ (kF_significandOf l y) ⟨va_cnB 1 hts (g_call (ex := []) (fun _ h => absurd h List.not_mem_nil) m1_113) rfl rfl rfl (hN _ (List.mem_of_getElem? (i := 2) rfl)) (hts _ (List.mem_cons_of_mem _ m1_1)) (by decide +kernel) ⟨Nat.le_of_ble_eq_true rfl, Nat.le_of_ble_eq_true rfl⟩, (hts _ (List.mem_cons_of_mem _ m1_112)), trivial⟩ preEq rfl rfl hl.1 rfl (lv_room (Nat.le_of_ble_eq_true rfl)) dW_setProduct_7 ⟨Nat.le_of_ble_eq_true rfl, Nat.le_of_ble_eq_true rfl⟩) ?_
  refine lv_topl (fun w9 e9 => ?_)
  have e9 : w9 = (v_W_setProduct_2 hi lw ep ng gn x y) := e9
  rw [e9]
  refine lv_lstore (lv' := [(7, .long (v_W_setProduct_2 hi lw ep ng gn x y)), (5, .long (v_W_setProduct_1 hi lw ep ng gn x y)), (0, .ref h0), (1, .long x), (3, .long y)]) hx hb dW_setProduct_10 hl (by decide) rfl (fun ls hl => ?_)
  refine lv_lload hx hb dW_setProduct_12 (lv_at hl 1 rfl) ?_
  refine lv_ldc2 (v := 4294967295) hx hb hown (hts _ (List.mem_cons_of_mem _ m1_120)) dW_setProduct_14 ?_
  refine lv_land hx hb dW_setProduct_17 ?_
  refine lv_lload hx hb dW_setProduct_18 (lv_at hl 0 rfl) ?_
  refine lv_ldc2 (v := 4294967295) hx hb hown (hts _ (List.mem_cons_of_mem _ m1_120)) dW_setProduct_20 ?_
  refine lv_land hx hb dW_setProduct_23 ?_
  refine lv_lmul hx hb dW_setProduct_24 ?_
  refine lv_topl (fun w9 e9 => ?_)
  have e9 : w9 = (v_W_setProduct_3 hi lw ep ng gn x y) := e9
  rw [e9]
  refine lv_lstore (lv' := [(9, .long (v_W_setProduct_3 hi lw ep ng gn x y)), (7, .long (v_W_setProduct_2 hi lw ep ng gn x y)), (5, .long (v_W_setProduct_1 hi lw ep ng gn x y)), (0, .ref h0), (1, .long x), (3, .long y)]) hx hb dW_setProduct_25 hl (by decide) rfl (fun ls hl => ?_)
  refine lv_lload hx hb dW_setProduct_27 (lv_at hl 2 rfl) ?_
  refine lv_bipush (v := 32) hx hb dW_setProduct_29 (by decide) ?_
  refine lv_lushr (v := jlush (v_W_setProduct_1 hi lw ep ng gn x y) (32 : Int32)) hx hb dW_setProduct_31 rfl ?_
  refine lv_lload hx hb dW_setProduct_32 (lv_at hl 1 rfl) ?_
  refine lv_ldc2 (v := 4294967295) hx hb hown (hts _ (List.mem_cons_of_mem _ m1_120)) dW_setProduct_34 ?_
  refine lv_land hx hb dW_setProduct_37 ?_
  refine lv_lmul hx hb dW_setProduct_38 ?_
  refine lv_lload hx hb dW_setProduct_39 (lv_at hl 0 rfl) ?_
  refine lv_bipush (v := 32) hx hb dW_setProduct_41 (by decide) ?_
  refine lv_lushr (v := jlush (v_W_setProduct_3 hi lw ep ng gn x y) (32 : Int32)) hx hb dW_setProduct_43 rfl ?_
  refine lv_ladd hx hb dW_setProduct_44 ?_
  refine lv_topl (fun w9 e9 => ?_)
  have e9 : w9 = (v_W_setProduct_4 hi lw ep ng gn x y) := e9
  rw [e9]
  refine lv_lstore (lv' := [(11, .long (v_W_setProduct_4 hi lw ep ng gn x y)), (9, .long (v_W_setProduct_3 hi lw ep ng gn x y)), (7, .long (v_W_setProduct_2 hi lw ep ng gn x y)), (5, .long (v_W_setProduct_1 hi lw ep ng gn x y)), (0, .ref h0), (1, .long x), (3, .long y)]) hx hb dW_setProduct_45 hl (by decide) rfl (fun ls hl => ?_)
  refine lv_lload hx hb dW_setProduct_47 (lv_at hl 3 rfl) ?_
  refine lv_ldc2 (v := 4294967295) hx hb hown (hts _ (List.mem_cons_of_mem _ m1_120)) dW_setProduct_49 ?_
  refine lv_land hx hb dW_setProduct_52 ?_
  refine lv_lload hx hb dW_setProduct_53 (lv_at hl 2 rfl) ?_
  refine lv_bipush (v := 32) hx hb dW_setProduct_55 (by decide) ?_
  refine lv_lushr (v := jlush (v_W_setProduct_2 hi lw ep ng gn x y) (32 : Int32)) hx hb dW_setProduct_57 rfl ?_
  refine lv_lmul hx hb dW_setProduct_58 ?_
  refine lv_lload hx hb dW_setProduct_59 (lv_at hl 0 rfl) ?_
  refine lv_ldc2 (v := 4294967295) hx hb hown (hts _ (List.mem_cons_of_mem _ m1_120)) dW_setProduct_61 ?_
  refine lv_land hx hb dW_setProduct_64 ?_
  refine lv_ladd hx hb dW_setProduct_65 ?_
  refine lv_topl (fun w9 e9 => ?_)
  have e9 : w9 = (v_W_setProduct_5 hi lw ep ng gn x y) := e9
  rw [e9]
  refine lv_lstore (lv' := [(13, .long (v_W_setProduct_5 hi lw ep ng gn x y)), (11, .long (v_W_setProduct_4 hi lw ep ng gn x y)), (9, .long (v_W_setProduct_3 hi lw ep ng gn x y)), (7, .long (v_W_setProduct_2 hi lw ep ng gn x y)), (5, .long (v_W_setProduct_1 hi lw ep ng gn x y)), (0, .ref h0), (1, .long x), (3, .long y)]) hx hb dW_setProduct_66 hl (by decide) rfl (fun ls hl => ?_)
  refine lv_aload_n hx hb dW_setProduct_68 rfl (lv_at hl 5 rfl) ?_
  refine lv_lload hx hb dW_setProduct_69 (lv_at hl 4 rfl) ?_
  refine lv_bipush (v := 32) hx hb dW_setProduct_71 (by decide) ?_
  refine lv_lushr (v := jlush (v_W_setProduct_1 hi lw ep ng gn x y) (32 : Int32)) hx hb dW_setProduct_73 rfl ?_
  refine lv_lload hx hb dW_setProduct_74 (lv_at hl 3 rfl) ?_
  refine lv_bipush (v := 32) hx hb dW_setProduct_76 (by decide) ?_
  refine lv_lushr (v := jlush (v_W_setProduct_2 hi lw ep ng gn x y) (32 : Int32)) hx hb dW_setProduct_78 rfl ?_
  refine lv_lmul hx hb dW_setProduct_79 ?_
  refine lv_lload hx hb dW_setProduct_80 (lv_at hl 1 rfl) ?_
  refine lv_bipush (v := 32) hx hb dW_setProduct_82 (by decide) ?_
  refine lv_lushr (v := jlush (v_W_setProduct_4 hi lw ep ng gn x y) (32 : Int32)) hx hb dW_setProduct_84 rfl ?_
  refine lv_ladd hx hb dW_setProduct_85 ?_
  refine lv_lload hx hb dW_setProduct_86 (lv_at hl 0 rfl) ?_
  refine lv_bipush (v := 32) hx hb dW_setProduct_88 (by decide) ?_
  refine lv_lushr (v := jlush (v_W_setProduct_5 hi lw ep ng gn x y) (32 : Int32)) hx hb dW_setProduct_90 rfl ?_
  refine lv_ladd hx hb dW_setProduct_91 ?_
  refine lv_topl (fun w9 e9 => ?_)
  have e9 : w9 = (v_W_setProduct_6 hi lw ep ng gn x y) := e9
  rw [e9]
  refine va_put (D := (dC, dI)) (ci := 0) (v := .long (v_W_setProduct_6 hi lw ep ng gn x y)) (ty := .long) (C := RW) (T := TW) (N := 5) hx hb hts (inC iW) tyW tyW_ok nmW hown hK hP hD hS 0 rfl rfl 0 (by decide) (hts _ (List.mem_cons_of_mem _ m1_24)) (fun _ h9 => h9) rfl (by decide +kernel) rfl rfl (Nat.le_of_ble_eq_true rfl) dW_setProduct_92 (fun H locs hP hD hS => ?_)
  have hP : va_P (dC, dI) vwCl [(h0, .inr (0, [.long (v_W_setProduct_6 hi lw ep ng gn x y), .long lw, .int ep, .int (bI ng), .int (bI gn)]))] H := hP
  have hD : va_D A [(h0, .inr (0, [.long (v_W_setProduct_6 hi lw ep ng gn x y), .long lw, .int ep, .int (bI ng), .int (bI gn)]))] := hD
  refine lv_aload_n hx hb dW_setProduct_95 rfl (lv_at hl 5 rfl) ?_
  refine lv_lload hx hb dW_setProduct_96 (lv_at hl 0 rfl) ?_
  refine lv_bipush (v := 32) hx hb dW_setProduct_98 (by decide) ?_
  refine lv_lshl (v := jlshl (v_W_setProduct_5 hi lw ep ng gn x y) (32 : Int32)) hx hb dW_setProduct_100 rfl ?_
  refine lv_lload hx hb dW_setProduct_101 (lv_at hl 2 rfl) ?_
  refine lv_ldc2 (v := 4294967295) hx hb hown (hts _ (List.mem_cons_of_mem _ m1_120)) dW_setProduct_103 ?_
  refine lv_land hx hb dW_setProduct_106 ?_
  refine lv_lor hx hb dW_setProduct_107 ?_
  refine lv_topl (fun w9 e9 => ?_)
  have e9 : w9 = (v_W_setProduct_7 hi lw ep ng gn x y) := e9
  rw [e9]
  refine va_put (D := (dC, dI)) (ci := 0) (v := .long (v_W_setProduct_7 hi lw ep ng gn x y)) (ty := .long) (C := RW) (T := TW) (N := 5) hx hb hts (inC iW) tyW tyW_ok nmW hown hK hP hD hS 0 rfl rfl 1 (by decide) (hts _ (List.mem_cons_of_mem _ m1_26)) (fun _ h9 => h9) rfl (by decide +kernel) rfl rfl (Nat.le_of_ble_eq_true rfl) dW_setProduct_108 (fun H locs hP hD hS => ?_)
  have hP : va_P (dC, dI) vwCl [(h0, .inr (0, [.long (v_W_setProduct_6 hi lw ep ng gn x y), .long (v_W_setProduct_7 hi lw ep ng gn x y), .int ep, .int (bI ng), .int (bI gn)]))] H := hP
  have hD : va_D A [(h0, .inr (0, [.long (v_W_setProduct_6 hi lw ep ng gn x y), .long (v_W_setProduct_7 hi lw ep ng gn x y), .int ep, .int (bI ng), .int (bI gn)]))] := hD
  refine lv_aload_n hx hb dW_setProduct_111 rfl (lv_at hl 5 rfl) ?_
  refine lv_lload_n hx hb dW_setProduct_112 rfl (lv_at hl 6 rfl) ?_
  refine k_callN (va_runSN (As := [.long x]) (rest := [.ref h0]) ⟨hx, hb, hml, hown, hts⟩ (kF_exponentOf l x) ⟨va_cnB 1 hts (g_call (ex := []) (fun _ h => absurd h List.not_mem_nil) m1_123) rfl rfl rfl (hN _ (List.mem_of_getElem? (i := 3) rfl)) (hts _ (List.mem_cons_of_mem _ m1_1)) (by decide +kernel) ⟨Nat.le_of_ble_eq_true rfl, Nat.le_of_ble_eq_true rfl⟩, (hts _ (List.mem_cons_of_mem _ m1_122)), trivial⟩ preEq rfl rfl hl.1 rfl (lv_room (Nat.le_of_ble_eq_true rfl)) dW_setProduct_113 ⟨Nat.le_of_ble_eq_true rfl, Nat.le_of_ble_eq_true rfl⟩) ?_
  refine lv_lload_n hx hb dW_setProduct_116 rfl (lv_at hl 7 rfl) ?_
  refine k_callN (va_runSN (As := [.long y]) (rest := [.int (pF_exponentOf x), .ref h0]) ⟨hx, hb, hml, hown, hts⟩ (kF_exponentOf l y) ⟨va_cnB 1 hts (g_call (ex := []) (fun _ h => absurd h List.not_mem_nil) m1_123) rfl rfl rfl (hN _ (List.mem_of_getElem? (i := 3) rfl)) (hts _ (List.mem_cons_of_mem _ m1_1)) (by decide +kernel) ⟨Nat.le_of_ble_eq_true rfl, Nat.le_of_ble_eq_true rfl⟩, (hts _ (List.mem_cons_of_mem _ m1_122)), trivial⟩ preEq rfl rfl hl.1 rfl (lv_room (Nat.le_of_ble_eq_true rfl)) dW_setProduct_117 ⟨Nat.le_of_ble_eq_true rfl, Nat.le_of_ble_eq_true rfl⟩) ?_
  refine lv_iadd hx hb dW_setProduct_120 ?_
  refine lv_topi (fun w9 e9 => ?_)
  have e9 : w9 = (v_W_setProduct_8 hi lw ep ng gn x y) := e9
  rw [e9]
  refine va_put (D := (dC, dI)) (ci := 0) (v := .int (v_W_setProduct_8 hi lw ep ng gn x y)) (ty := .int) (C := RW) (T := TW) (N := 5) hx hb hts (inC iW) tyW tyW_ok nmW hown hK hP hD hS 0 rfl rfl 2 (by decide) (hts _ (List.mem_cons_of_mem _ m1_28)) (fun _ h9 => h9) rfl (by decide +kernel) rfl rfl (Nat.le_of_ble_eq_true rfl) dW_setProduct_121 (fun H locs hP hD hS => ?_)
  have hP : va_P (dC, dI) vwCl [(h0, .inr (0, [.long (v_W_setProduct_6 hi lw ep ng gn x y), .long (v_W_setProduct_7 hi lw ep ng gn x y), .int (v_W_setProduct_8 hi lw ep ng gn x y), .int (bI ng), .int (bI gn)]))] H := hP
  have hD : va_D A [(h0, .inr (0, [.long (v_W_setProduct_6 hi lw ep ng gn x y), .long (v_W_setProduct_7 hi lw ep ng gn x y), .int (v_W_setProduct_8 hi lw ep ng gn x y), .int (bI ng), .int (bI gn)]))] := hD
  refine lv_aload_n hx hb dW_setProduct_124 rfl (lv_at hl 5 rfl) ?_
  refine lv_lload_n hx hb dW_setProduct_125 rfl (lv_at hl 6 rfl) ?_
  refine lv_lload_n hx hb dW_setProduct_126 rfl (lv_at hl 7 rfl) ?_
  refine lv_lxor hx hb dW_setProduct_127 ?_
  refine lv_lconst (v := 0) hx hb dW_setProduct_128 (by decide) ?_
  refine W.lcmp hx hb dW_setProduct_129 ?_
  have J_1 : ∀ (w_0 : Bool), w_0 = (v_W_setProduct_9 hi lw ep ng gn x y) → ∀ (H : Heap) (locs : List Loc), va_K (dC, dI) vwCl [] s → va_P (dC, dI) vwCl [(h0, .inr (0, [.long (v_W_setProduct_6 hi lw ep ng gn x y), .long (v_W_setProduct_7 hi lw ep ng gn x y), .int (v_W_setProduct_8 hi lw ep ng gn x y), .int (bI ng), .int (bI gn)]))] H → va_D A [(h0, .inr (0, [.long (v_W_setProduct_6 hi lw ep ng gn x y), .long (v_W_setProduct_7 hi lw ep ng gn x y), .int (v_W_setProduct_8 hi lw ep ng gn x y), .int (bI ng), .int (bI gn)]))] → va_S A s.heap H locs → ∀ (ls : Array Slot), lv_has ls 15 [(0, .ref h0)] → WW_setProduct p l e s m below meth c dC dI h0 hi lw ep ng gn x y A H locs (F0 m 138 ls [.int (bI w_0), .ref h0]) := by
    intro w_0 e_0
    rw [e_0]
    intro H locs hK hP hD hS ls hl
    refine va_put (D := (dC, dI)) (ci := 0) (v := .int (bI (v_W_setProduct_9 hi lw ep ng gn x y))) (ty := .boolean) (C := RW) (T := TW) (N := 5) hx hb hts (inC iW) tyW tyW_ok nmW hown hK hP hD hS 0 rfl rfl 3 (by decide) (hts _ (List.mem_cons_of_mem _ m1_30)) (fun _ h9 => h9) rfl (by decide +kernel) (nb_z _) (fb_z _) (Nat.le_of_ble_eq_true rfl) dW_setProduct_138 (fun H locs hP hD hS => ?_)
    have hP : va_P (dC, dI) vwCl [(h0, .inr (0, [.long (v_W_setProduct_6 hi lw ep ng gn x y), .long (v_W_setProduct_7 hi lw ep ng gn x y), .int (v_W_setProduct_8 hi lw ep ng gn x y), .int (bI (v_W_setProduct_9 hi lw ep ng gn x y)), .int (bI gn)]))] H := hP
    have hD : va_D A [(h0, .inr (0, [.long (v_W_setProduct_6 hi lw ep ng gn x y), .long (v_W_setProduct_7 hi lw ep ng gn x y), .int (v_W_setProduct_8 hi lw ep ng gn x y), .int (bI (v_W_setProduct_9 hi lw ep ng gn x y)), .int (bI gn)]))] := hD
    refine lv_aload_n hx hb dW_setProduct_141 rfl (lv_at hl 0 rfl) ?_
    refine lv_iconst (v := 0) hx hb dW_setProduct_142 (by decide) ?_
    refine va_put (D := (dC, dI)) (ci := 0) (v := .int (bI false)) (ty := .boolean) (C := RW) (T := TW) (N := 5) hx hb hts (inC iW) tyW tyW_ok nmW hown hK hP hD hS 0 rfl rfl 4 (by decide) (hts _ (List.mem_cons_of_mem _ m1_32)) (fun _ h9 => h9) rfl (by decide +kernel) (nb_z _) (fb_z _) (Nat.le_of_ble_eq_true rfl) dW_setProduct_143 (fun H locs hP hD hS => ?_)
    have hP : va_P (dC, dI) vwCl [(h0, .inr (0, [.long (v_W_setProduct_6 hi lw ep ng gn x y), .long (v_W_setProduct_7 hi lw ep ng gn x y), .int (v_W_setProduct_8 hi lw ep ng gn x y), .int (bI (v_W_setProduct_9 hi lw ep ng gn x y)), .int (bI false)]))] H := hP
    have hD : va_D A [(h0, .inr (0, [.long (v_W_setProduct_6 hi lw ep ng gn x y), .long (v_W_setProduct_7 hi lw ep ng gn x y), .int (v_W_setProduct_8 hi lw ep ng gn x y), .int (bI (v_W_setProduct_9 hi lw ep ng gn x y)), .int (bI false)]))] := hD
    have e9_0 : (v_W_setProduct_6 hi lw ep ng gn x y) = pW_setProduct_0 hi lw ep ng gn x y := (rfl).symm
    have e9_1 : (v_W_setProduct_7 hi lw ep ng gn x y) = pW_setProduct_1 hi lw ep ng gn x y := (rfl).symm
    have e9_2 : (v_W_setProduct_8 hi lw ep ng gn x y) = pW_setProduct_2 hi lw ep ng gn x y := (rfl).symm
    have e9_3 : (v_W_setProduct_9 hi lw ep ng gn x y) = pW_setProduct_3 hi lw ep ng gn x y := (rfl).symm
    have e9_4 : false = pW_setProduct_4 hi lw ep ng gn x y := (rfl).symm
    have hP9 := hP.sub (ws' := [(h0, .inr (0, [.long (v_W_setProduct_6 hi lw ep ng gn x y), .long (v_W_setProduct_7 hi lw ep ng gn x y), .int (v_W_setProduct_8 hi lw ep ng gn x y), .int (bI (v_W_setProduct_9 hi lw ep ng gn x y)), .int (bI false)]))]) [0] rfl
    have hD9 := hD.sub (ws' := [(h0, .inr (0, [.long (v_W_setProduct_6 hi lw ep ng gn x y), .long (v_W_setProduct_7 hi lw ep ng gn x y), .int (v_W_setProduct_8 hi lw ep ng gn x y), .int (bI (v_W_setProduct_9 hi lw ep ng gn x y)), .int (bI false)]))]) [0] (by decide) rfl
    have hK9 := hK.sub (tys' := []) [] rfl
    have h9 := trW_setProduct e9_0 e9_1 e9_2 e9_3 e9_4 ⟨hP9, hD9⟩
    exact W.vret hx hb hr (fun t ht hW => ⟨⟨(), rfl, trivial, by rw [ht]; exact h9.1, va_K.moved hW.alike hK9, h9.2⟩, hS.F ht⟩) hS.2.2 dW_setProduct_146
  refine lv_if_ge (tgt := 137) hx hb dW_setProduct_130 (by decide) (fun c_1 => ?_) (fun c_1 => ?_)
  · have c_1 : (0 : Int64) ≤ (x ^^^ y) := (lg_cmp_ge _ _).mp c_1
    refine lv_iconst (v := 0) hx hb dW_setProduct_137 (by decide) ?_
    exact J_1 false ((if_pos c_1)).symm _ _ (hK.sub [] rfl) (hP.sub [0] rfl) (hD.sub [0] (by decide) rfl) hS ls (lv_sub hl [5] rfl)
  · have c_1 : ¬ ((0 : Int64) ≤ (x ^^^ y)) := fun h => c_1 ((lg_cmp_ge _ _).mpr h)
    refine lv_iconst (v := 1) hx hb dW_setProduct_133 (by decide) ?_
    refine lv_goto (tgt := 138) hx hb dW_setProduct_134 (by decide) ?_
    exact J_1 true ((if_neg c_1)).symm _ _ (hK.sub [] rfl) (hP.sub [0] rfl) (hD.sub [0] (by decide) rfl) hS ls (lv_sub hl [5] rfl)
def v_W_isNothing_1 (hi : Int64) (lw : Int64) (ep : Int32) (ng : Bool) (gn : Bool) : Bool := (if hi = (0 : Int64) then (if lw = (0 : Int64) then true else false) else false)
def pW_isNothing (hi : Int64) (lw : Int64) (ep : Int32) (ng : Bool) (gn : Bool) : Bool := (v_W_isNothing_1 hi lw ep ng gn)
/-- W_isNothing -/
abbrev atW_isNothing (dC : Nat → ClassId) (dI : Nat → Nat → Nat) (h0 : Nat) (hi : Int64) (lw : Int64) (ep : Int32) (ng : Bool) (gn : Bool) (A : Nat → Prop) (t : State) : Prop := va_P (dC, dI) vwCl [(h0, .inr (0, [.long hi, .long lw, .int ep, .int (bI ng), .int (bI gn)]))] t.heap ∧ va_K (dC, dI) vwCl [] t ∧ va_D A [(h0, .inr (0, [.long hi, .long lw, .int ep, .int (bI ng), .int (bI gn)]))]
abbrev WW_isNothing (p : Program) (l : Launch) (e : Env) (s : State) (m : MethodId) (below : List Frame) (meth : Method) (c : Code) (dC : Nat → ClassId) (dI : Nat → Nat → Nat) (h0 : Nat) (hi : Int64) (lw : Int64) (ep : Int32) (ng : Bool) (gn : Bool) (A : Nat → Prop) (H : Heap) (locs : List Loc) (g : JFrame) : Prop := W p l e (headSpec wW_isNothing ({ frames := 0, cells := 0, slots := 0, locals := 0 })).room s m ([.ref h0] : List Value).toArray below meth c H locs 0 0 (MQ below (va_Qi (fun (r : Int32) (_ : Unit) => r = bI (pW_isNothing hi lw ep ng gn)) (fun _ => atW_isNothing dC dI h0 hi lw ep ng gn A) A) ([.ref h0] : List Value).toArray s 0 0 A) g
set_option maxHeartbeats 4000000 in
set_option maxRecDepth 100000 in
theorem kW_isNothing (l : Launch) (dC : Nat → ClassId) (dI : Nat → Nat → Nat) (h0 : Nat) (sz : Nat) (hi : Int64) (lw : Int64) (ep : Int32) (ng : Bool) (gn : Bool) : Met l yW_isNothing wW_isNothing ({ frames := 0, cells := 0, slots := 0, locals := 0 }) (va_Pc [.ref h0] (fun U => U.heap.size = sz ∧ va_P (dC, dI) vwCl [(h0, .inr (0, [.long hi, .long lw, .int ep, .int (bI ng), .int (bI gn)]))] U.heap ∧ va_K (dC, dI) vwCl [] U ∧ va_D (fun _ => True) [(h0, .inr (0, [.long hi, .long lw, .int ep, .int (bI ng), .int (bI gn)]))] ∧ NW U)) (va_Qi (fun (r : Int32) (_ : Unit) => r = bI (pW_isNothing hi lw ep ng gn)) (fun _ => atW_isNothing dC dI h0 hi lw ep ng gn (va_A [(h0, .inr (0, [.long hi, .long lw, .int ep, .int (bI ng), .int (bI gn)]))] sz)) (va_A [(h0, .inr (0, [.long hi, .long lw, .int ep, .int (bI ng), .int (bI gn)]))] sz)) 0 0 (va_A [(h0, .inr (0, [.long hi, .long lw, .int ep, .int (bI ng), .int (bI gn)]))] sz) := by
  refine Met.ofW (cc := cW_isNothing) (maxL := 1) (ret := (some .boolean)) (by decide) rfl ?_
  intro p e s m args below meth c s₁ B hml hv
  obtain ⟨rfl, hsz, hP, hK, hD0, hN⟩ := hv
  have hx := B.exec
  have hb := B.bytes
  have hr := B.returns
  have hts := atoms_spec (ws := wW_isNothing) B.pre
  have hown : s.vm.findClass RW = some m.cls := findClass_of_methodNamed B.named
  have hlocks := B.notSynchronized
  subst hsz
  have hD := hD0.self (sz := s.heap.size)
  generalize hAe : va_A [(h0, .inr (0, [.long hi, .long lw, .int ep, .int (bI ng), .int (bI gn)]))] s.heap.size = A at hD ⊢
  have hA : ∀ q : Nat, s.heap.size ≤ q → A q := fun q h => by rw [← hAe]; exact Or.inr h
  have hS : va_S A s.heap s.heap [] := va_S.rf
  have hP : va_P (dC, dI) vwCl [(h0, .inr (0, [.long hi, .long lw, .int ep, .int (bI ng), .int (bI gn)]))] s.heap := hP
  have hl := lv_entry ([.ref h0]) (n := 1) (Nat.le_of_ble_eq_true rfl)
  rw [lg_entry_eq]
  generalize (lg_sl ([.ref h0]) ++ List.replicate (1 - (lg_sl ([.ref h0])).length) Slot.unset).toArray = ls at hl ⊢
  have hl : lv_has ls 1 [(0, .ref h0)] := hl
  refine lv_aload_n hx hb dW_isNothing_0 rfl (lv_at hl 0 rfl) ?_
  refine va_get (D := (dC, dI)) (ci := 0) (v := .long hi) (C := RW) (T := TW) (N := 5) hx hb hts (inC iW) hown hK hP 0 rfl rfl 0 (by decide) (hts _ (List.mem_cons_of_mem _ m1_24)) (fun _ h9 => h9) rfl dW_isNothing_1 ?_
  refine lv_lconst (v := 0) hx hb dW_isNothing_4 (by decide) ?_
  refine W.lcmp hx hb dW_isNothing_5 ?_
  have J_1 : ∀ (w_0 : Bool), w_0 = (v_W_isNothing_1 hi lw ep ng gn) → ∀ (H : Heap) (locs : List Loc), va_K (dC, dI) vwCl [] s → va_P (dC, dI) vwCl [(h0, .inr (0, [.long hi, .long lw, .int ep, .int (bI ng), .int (bI gn)]))] H → va_D A [(h0, .inr (0, [.long hi, .long lw, .int ep, .int (bI ng), .int (bI gn)]))] → va_S A s.heap H locs → ∀ (ls : Array Slot), lv_has ls 1 [] → WW_isNothing p l e s m below meth c dC dI h0 hi lw ep ng gn A H locs (F0 m 23 ls [.int (bI w_0)]) := by
    intro w_0 e_0
    rw [e_0]
    intro H locs hK hP hD hS ls hl
    have e9 : (v_W_isNothing_1 hi lw ep ng gn) = pW_isNothing hi lw ep ng gn := (rfl).symm
    have hP9 := hP.sub (ws' := [(h0, .inr (0, [.long hi, .long lw, .int ep, .int (bI ng), .int (bI gn)]))]) [0] rfl
    have hD9 := hD.sub (ws' := [(h0, .inr (0, [.long hi, .long lw, .int ep, .int (bI ng), .int (bI gn)]))]) [0] (by decide) rfl
    have hK9 := hK.sub (tys' := []) [] rfl
    have h9 := And.intro hP9 hD9
    exact W.zret (v := bI (v_W_isNothing_1 hi lw ep ng gn)) hx hb hr (nb_z _) (fun t ht hW => ⟨⟨bI (v_W_isNothing_1 hi lw ep ng gn), (), rfl, congrArg bI e9, by rw [ht]; exact h9.1, va_K.moved hW.alike hK9, h9.2⟩, hS.F ht⟩) hS.2.2 dW_isNothing_23
  refine lv_if_ne (tgt := 22) hx hb dW_isNothing_6 (by decide) (fun c_1 => ?_) (fun c_1 => ?_)
  · have c_1 : ¬ (hi = (0 : Int64)) := fun h => c_1 ((lg_cmp_eq _ _).mpr h)
    refine lv_iconst (v := 0) hx hb dW_isNothing_22 (by decide) ?_
    exact J_1 false ((if_neg c_1)).symm _ _ (hK.sub [] rfl) (hP.sub [0] rfl) (hD.sub [0] (by decide) rfl) hS ls (lv_sub hl [] rfl)
  · have c_1 : hi = (0 : Int64) := (lg_cmp_eq _ _).mp c_1
    refine lv_aload_n hx hb dW_isNothing_9 rfl (lv_at hl 0 rfl) ?_
    refine va_get (D := (dC, dI)) (ci := 0) (v := .long lw) (C := RW) (T := TW) (N := 5) hx hb hts (inC iW) hown hK hP 0 rfl rfl 1 (by decide) (hts _ (List.mem_cons_of_mem _ m1_26)) (fun _ h9 => h9) rfl dW_isNothing_10 ?_
    refine lv_lconst (v := 0) hx hb dW_isNothing_13 (by decide) ?_
    refine W.lcmp hx hb dW_isNothing_14 ?_
    refine lv_if_ne (tgt := 22) hx hb dW_isNothing_15 (by decide) (fun c_2 => ?_) (fun c_2 => ?_)
    · have c_2 : ¬ (lw = (0 : Int64)) := fun h => c_2 ((lg_cmp_eq _ _).mpr h)
      refine lv_iconst (v := 0) hx hb dW_isNothing_22 (by decide) ?_
      exact J_1 false (((if_pos c_1).trans (if_neg c_2))).symm _ _ (hK.sub [] rfl) (hP.sub [0] rfl) (hD.sub [0] (by decide) rfl) hS ls (lv_sub hl [] rfl)
    · have c_2 : lw = (0 : Int64) := (lg_cmp_eq _ _).mp c_2
      refine lv_iconst (v := 1) hx hb dW_isNothing_18 (by decide) ?_
      refine lv_goto (tgt := 23) hx hb dW_isNothing_19 (by decide) ?_
      exact J_1 true (((if_pos c_1).trans (if_pos c_2))).symm _ _ (hK.sub [] rfl) (hP.sub [0] rfl) (hD.sub [0] (by decide) rfl) hS ls (lv_sub hl [] rfl)
def v_W_lift_1 (hi : Int64) (lw : Int64) (ep : Int32) (ng : Bool) (gn : Bool) : Int32 := (if hi = (0 : Int64) then pF_lengthOf lw else (64 : Int32) + (pF_lengthOf hi))
def v_W_lift_2 (hi : Int64) (lw : Int64) (ep : Int32) (ng : Bool) (gn : Bool) : Int32 := (126 : Int32) - (v_W_lift_1 hi lw ep ng gn)
def v_W_lift_3 (hi : Int64) (lw : Int64) (ep : Int32) (ng : Bool) (gn : Bool) : Int64 := (jlshl hi (v_W_lift_2 hi lw ep ng gn)) ||| (jlush lw ((64 : Int32) - (v_W_lift_2 hi lw ep ng gn)))
def v_W_lift_4 (hi : Int64) (lw : Int64) (ep : Int32) (ng : Bool) (gn : Bool) : Int64 := jlshl lw (v_W_lift_2 hi lw ep ng gn)
def v_W_lift_5 (hi : Int64) (lw : Int64) (ep : Int32) (ng : Bool) (gn : Bool) : Int64 := jlshl lw ((v_W_lift_2 hi lw ep ng gn) - (64 : Int32))
def v_W_lift_6 (hi : Int64) (lw : Int64) (ep : Int32) (ng : Bool) (gn : Bool) : Int64 := (if (v_W_lift_2 hi lw ep ng gn) < (64 : Int32) then (v_W_lift_3 hi lw ep ng gn) else (v_W_lift_5 hi lw ep ng gn))
def v_W_lift_7 (hi : Int64) (lw : Int64) (ep : Int32) (ng : Bool) (gn : Bool) : Int64 := (if (v_W_lift_2 hi lw ep ng gn) < (64 : Int32) then (v_W_lift_4 hi lw ep ng gn) else (0 : Int64))
def v_W_lift_8 (hi : Int64) (lw : Int64) (ep : Int32) (ng : Bool) (gn : Bool) : Int32 := ep - (v_W_lift_2 hi lw ep ng gn)
def pW_lift_0 (hi : Int64) (lw : Int64) (ep : Int32) (ng : Bool) (gn : Bool) : Int64 := (if (v_W_lift_1 hi lw ep ng gn) = 0 then hi else (if 0 < (v_W_lift_2 hi lw ep ng gn) then (v_W_lift_6 hi lw ep ng gn) else hi))
def pW_lift_1 (hi : Int64) (lw : Int64) (ep : Int32) (ng : Bool) (gn : Bool) : Int64 := (if (v_W_lift_1 hi lw ep ng gn) = 0 then lw else (if 0 < (v_W_lift_2 hi lw ep ng gn) then (v_W_lift_7 hi lw ep ng gn) else lw))
def pW_lift_2 (hi : Int64) (lw : Int64) (ep : Int32) (ng : Bool) (gn : Bool) : Int32 := (if (v_W_lift_1 hi lw ep ng gn) = 0 then ep else (if 0 < (v_W_lift_2 hi lw ep ng gn) then (v_W_lift_8 hi lw ep ng gn) else ep))
/-- W_lift -/
abbrev atW_lift (dC : Nat → ClassId) (dI : Nat → Nat → Nat) (h0 : Nat) (hi : Int64) (lw : Int64) (ep : Int32) (ng : Bool) (gn : Bool) (A : Nat → Prop) (t : State) : Prop := va_P (dC, dI) vwCl [(h0, .inr (0, [.long (pW_lift_0 hi lw ep ng gn), .long (pW_lift_1 hi lw ep ng gn), .int (pW_lift_2 hi lw ep ng gn), .int (bI ng), .int (bI gn)]))] t.heap ∧ va_K (dC, dI) vwCl [] t ∧ va_D A [(h0, .inr (0, [.long (pW_lift_0 hi lw ep ng gn), .long (pW_lift_1 hi lw ep ng gn), .int (pW_lift_2 hi lw ep ng gn), .int (bI ng), .int (bI gn)]))]
theorem trW_lift {dC : Nat → ClassId} {dI : Nat → Nat → Nat} {h0 : Nat} {ng : Bool} {gn : Bool} {A : Nat → Prop} {H : Heap} {a0 b0 : Int64} {a1 b1 : Int64} {a2 b2 : Int32} (e0 : a0 = b0) (e1 : a1 = b1) (e2 : a2 = b2) (h : va_P (dC, dI) vwCl [(h0, .inr (0, [.long a0, .long a1, .int a2, .int (bI ng), .int (bI gn)]))] H ∧ va_D A [(h0, .inr (0, [.long a0, .long a1, .int a2, .int (bI ng), .int (bI gn)]))]) : va_P (dC, dI) vwCl [(h0, .inr (0, [.long b0, .long b1, .int b2, .int (bI ng), .int (bI gn)]))] H ∧ va_D A [(h0, .inr (0, [.long b0, .long b1, .int b2, .int (bI ng), .int (bI gn)]))] := by
  subst e0
  subst e1
  subst e2
  exact h
abbrev WW_lift (p : Program) (l : Launch) (e : Env) (s : State) (m : MethodId) (below : List Frame) (meth : Method) (c : Code) (dC : Nat → ClassId) (dI : Nat → Nat → Nat) (h0 : Nat) (hi : Int64) (lw : Int64) (ep : Int32) (ng : Bool) (gn : Bool) (A : Nat → Prop) (H : Heap) (locs : List Loc) (g : JFrame) : Prop := W p l e (headSpec wW_lift ({ frames := 3, cells := 0, slots := 0, locals := 64 })).room s m ([.ref h0] : List Value).toArray below meth c H locs 0 0 (MQ below (va_Qv (fun (_ : Unit) => True) (fun _ => atW_lift dC dI h0 hi lw ep ng gn A) A) ([.ref h0] : List Value).toArray s 0 0 A) g
set_option maxHeartbeats 4000000 in
set_option maxRecDepth 100000 in
theorem kW_lift (l : Launch) (dC : Nat → ClassId) (dI : Nat → Nat → Nat) (h0 : Nat) (sz : Nat) (hi : Int64) (lw : Int64) (ep : Int32) (ng : Bool) (gn : Bool) : Met l yW_lift wW_lift ({ frames := 3, cells := 0, slots := 0, locals := 64 }) (va_Pc [.ref h0] (fun U => U.heap.size = sz ∧ va_P (dC, dI) vwCl [(h0, .inr (0, [.long hi, .long lw, .int ep, .int (bI ng), .int (bI gn)]))] U.heap ∧ va_K (dC, dI) vwCl [] U ∧ va_D (fun _ => True) [(h0, .inr (0, [.long hi, .long lw, .int ep, .int (bI ng), .int (bI gn)]))] ∧ NW U)) (va_Qv (fun (_ : Unit) => True) (fun _ => atW_lift dC dI h0 hi lw ep ng gn (va_A [(h0, .inr (0, [.long hi, .long lw, .int ep, .int (bI ng), .int (bI gn)]))] sz)) (va_A [(h0, .inr (0, [.long hi, .long lw, .int ep, .int (bI ng), .int (bI gn)]))] sz)) 0 0 (va_A [(h0, .inr (0, [.long hi, .long lw, .int ep, .int (bI ng), .int (bI gn)]))] sz) := by
  refine Met.ofW (cc := cW_lift) (maxL := 3) (ret := none) (by decide) rfl ?_
  intro p e s m args below meth c s₁ B hml hv
  obtain ⟨rfl, hsz, hP, hK, hD0, hN⟩ := hv
  have hx := B.exec
  have hb := B.bytes
  have hr := B.returns
  have hts := atoms_spec (ws := wW_lift) B.pre
  have hown : s.vm.findClass RW = some m.cls := findClass_of_methodNamed B.named
  have hlocks := B.notSynchronized
  subst hsz
  have hD := hD0.self (sz := s.heap.size)
  generalize hAe : va_A [(h0, .inr (0, [.long hi, .long lw, .int ep, .int (bI ng), .int (bI gn)]))] s.heap.size = A at hD ⊢
  have hA : ∀ q : Nat, s.heap.size ≤ q → A q := fun q h => by rw [← hAe]; exact Or.inr h
  have hS : va_S A s.heap s.heap [] := va_S.rf
  have hP : va_P (dC, dI) vwCl [(h0, .inr (0, [.long hi, .long lw, .int ep, .int (bI ng), .int (bI gn)]))] s.heap := hP
  have hl := lv_entry ([.ref h0]) (n := 3) (Nat.le_of_ble_eq_true rfl)
  rw [lg_entry_eq]
  generalize (lg_sl ([.ref h0]) ++ List.replicate (3 - (lg_sl ([.ref h0])).length) Slot.unset).toArray = ls at hl ⊢
  have hl : lv_has ls 3 [(0, .ref h0)] := hl
  refine lv_aload_n hx hb dW_lift_0 rfl (lv_at hl 0 rfl) ?_
  refine va_get (D := (dC, dI)) (ci := 0) (v := .long hi) (C := RW) (T := TW) (N := 5) hx hb hts (inC iW) hown hK hP 0 rfl rfl 0 (by decide) (hts _ (List.mem_cons_of_mem _ m1_24)) (fun _ h9 => h9) rfl dW_lift_1 ?_
  refine lv_lconst (v := 0) hx hb dW_lift_4 (by decide) ?_
  refine W.lcmp hx hb dW_lift_5 ?_
  have J_1 : ∀ (w_0 : Int32), w_0 = (v_W_lift_1 hi lw ep ng gn) → ∀ (H : Heap) (locs : List Loc), va_K (dC, dI) vwCl [] s → va_P (dC, dI) vwCl [(h0, .inr (0, [.long hi, .long lw, .int ep, .int (bI ng), .int (bI gn)]))] H → va_D A [(h0, .inr (0, [.long hi, .long lw, .int ep, .int (bI ng), .int (bI gn)]))] → va_S A s.heap H locs → ∀ (ls : Array Slot), lv_has ls 3 [(0, .ref h0)] → WW_lift p l e s m below meth c dC dI h0 hi lw ep ng gn A H locs (F0 m 29 ls [.int w_0]) := by
    intro w_0 e_0
    rw [e_0]
    intro H locs hK hP hD hS ls hl
    refine lv_istore_n (lv' := [(1, .int (v_W_lift_1 hi lw ep ng gn)), (0, .ref h0)]) hx hb dW_lift_29 rfl hl (by decide) rfl (fun ls hl => ?_)
    refine lv_bipush (v := 126) hx hb dW_lift_30 (by decide) ?_
    refine lv_iload_n hx hb dW_lift_32 rfl (lv_at hl 0 rfl) ?_
    refine lv_isub hx hb dW_lift_33 ?_
    refine lv_topi (fun w9 e9 => ?_)
    have e9 : w9 = (v_W_lift_2 hi lw ep ng gn) := e9
    rw [e9]
    refine lv_istore_n (lv' := [(2, .int (v_W_lift_2 hi lw ep ng gn)), (1, .int (v_W_lift_1 hi lw ep ng gn)), (0, .ref h0)]) hx hb dW_lift_34 rfl hl (by decide) rfl (fun ls hl => ?_)
    refine lv_iload_n hx hb dW_lift_35 rfl (lv_at hl 1 rfl) ?_
    refine lv_if_eq (tgt := 43) hx hb dW_lift_36 (by decide) (fun c_2 => ?_) (fun c_2 => ?_)
    · have e9_0 : hi = pW_lift_0 hi lw ep ng gn := ((if_pos c_2)).symm
      have e9_1 : lw = pW_lift_1 hi lw ep ng gn := ((if_pos c_2)).symm
      have e9_2 : ep = pW_lift_2 hi lw ep ng gn := ((if_pos c_2)).symm
      have hP9 := hP.sub (ws' := [(h0, .inr (0, [.long hi, .long lw, .int ep, .int (bI ng), .int (bI gn)]))]) [0] rfl
      have hD9 := hD.sub (ws' := [(h0, .inr (0, [.long hi, .long lw, .int ep, .int (bI ng), .int (bI gn)]))]) [0] (by decide) rfl
      have hK9 := hK.sub (tys' := []) [] rfl
      have h9 := trW_lift e9_0 e9_1 e9_2 ⟨hP9, hD9⟩
      exact W.vret hx hb hr (fun t ht hW => ⟨⟨(), rfl, trivial, by rw [ht]; exact h9.1, va_K.moved hW.alike hK9, h9.2⟩, hS.F ht⟩) hS.2.2 dW_lift_43
    · refine lv_iload_n hx hb dW_lift_39 rfl (lv_at hl 0 rfl) ?_
      refine lv_if_gt (tgt := 44) hx hb dW_lift_40 (by decide) (fun c_3 => ?_) (fun c_3 => ?_)
      · refine lv_iload_n hx hb dW_lift_44 rfl (lv_at hl 0 rfl) ?_
        refine lv_bipush (v := 64) hx hb dW_lift_45 (by decide) ?_
        have J_2 : ∀ (w_0 : Int64), w_0 = (v_W_lift_6 hi lw ep ng gn) → ∀ (w_1 : Int64), w_1 = (v_W_lift_7 hi lw ep ng gn) → ∀ (H : Heap) (locs : List Loc), va_K (dC, dI) vwCl [] s → va_P (dC, dI) vwCl [(h0, .inr (0, [.long w_0, .long w_1, .int ep, .int (bI ng), .int (bI gn)]))] H → va_D A [(h0, .inr (0, [.long w_0, .long w_1, .int ep, .int (bI ng), .int (bI gn)]))] → va_S A s.heap H locs → ∀ (ls : Array Slot), lv_has ls 3 [(0, .ref h0), (2, .int (v_W_lift_2 hi lw ep ng gn))] → WW_lift p l e s m below meth c dC dI h0 hi lw ep ng gn A H locs (F0 m 101 ls []) := by
          intro w_0 e_0
          rw [e_0]
          intro w_1 e_1
          rw [e_1]
          intro H locs hK hP hD hS ls hl
          refine lv_aload_n hx hb dW_lift_101 rfl (lv_at hl 0 rfl) ?_
          refine lv_dup hx hb dW_lift_102 rfl ?_
          refine va_get (D := (dC, dI)) (ci := 0) (v := .int ep) (C := RW) (T := TW) (N := 5) hx hb hts (inC iW) hown hK hP 0 rfl rfl 2 (by decide) (hts _ (List.mem_cons_of_mem _ m1_28)) (fun _ h9 => h9) rfl dW_lift_103 ?_
          refine lv_iload_n hx hb dW_lift_106 rfl (lv_at hl 1 rfl) ?_
          refine lv_isub hx hb dW_lift_107 ?_
          refine lv_topi (fun w9 e9 => ?_)
          have e9 : w9 = (v_W_lift_8 hi lw ep ng gn) := e9
          rw [e9]
          refine va_put (D := (dC, dI)) (ci := 0) (v := .int (v_W_lift_8 hi lw ep ng gn)) (ty := .int) (C := RW) (T := TW) (N := 5) hx hb hts (inC iW) tyW tyW_ok nmW hown hK hP hD hS 0 rfl rfl 2 (by decide) (hts _ (List.mem_cons_of_mem _ m1_28)) (fun _ h9 => h9) rfl (by decide +kernel) rfl rfl (Nat.le_of_ble_eq_true rfl) dW_lift_108 (fun H locs hP hD hS => ?_)
          have hP : va_P (dC, dI) vwCl [(h0, .inr (0, [.long (v_W_lift_6 hi lw ep ng gn), .long (v_W_lift_7 hi lw ep ng gn), .int (v_W_lift_8 hi lw ep ng gn), .int (bI ng), .int (bI gn)]))] H := hP
          have hD : va_D A [(h0, .inr (0, [.long (v_W_lift_6 hi lw ep ng gn), .long (v_W_lift_7 hi lw ep ng gn), .int (v_W_lift_8 hi lw ep ng gn), .int (bI ng), .int (bI gn)]))] := hD
          have e9_0 : (v_W_lift_6 hi lw ep ng gn) = pW_lift_0 hi lw ep ng gn := (((if_neg c_2).trans (if_pos c_3))).symm
          have e9_1 : (v_W_lift_7 hi lw ep ng gn) = pW_lift_1 hi lw ep ng gn := (((if_neg c_2).trans (if_pos c_3))).symm
          have e9_2 : (v_W_lift_8 hi lw ep ng gn) = pW_lift_2 hi lw ep ng gn := (((if_neg c_2).trans (if_pos c_3))).symm
          have hP9 := hP.sub (ws' := [(h0, .inr (0, [.long (v_W_lift_6 hi lw ep ng gn), .long (v_W_lift_7 hi lw ep ng gn), .int (v_W_lift_8 hi lw ep ng gn), .int (bI ng), .int (bI gn)]))]) [0] rfl
          have hD9 := hD.sub (ws' := [(h0, .inr (0, [.long (v_W_lift_6 hi lw ep ng gn), .long (v_W_lift_7 hi lw ep ng gn), .int (v_W_lift_8 hi lw ep ng gn), .int (bI ng), .int (bI gn)]))]) [0] (by decide) rfl
          have hK9 := hK.sub (tys' := []) [] rfl
          have h9 := trW_lift e9_0 e9_1 e9_2 ⟨hP9, hD9⟩
          exact W.vret hx hb hr (fun t ht hW => ⟨⟨(), rfl, trivial, by rw [ht]; exact h9.1, va_K.moved hW.alike hK9, h9.2⟩, hS.F ht⟩) hS.2.2 dW_lift_111
        refine lv_icmp_lt (tgt := 71) hx hb dW_lift_47 (by decide) (fun c_4 => ?_) (fun c_4 => ?_)
        · refine lv_aload_n hx hb dW_lift_71 rfl (lv_at hl 2 rfl) ?_
          refine lv_aload_n hx hb dW_lift_72 rfl (lv_at hl 2 rfl) ?_
          refine va_get (D := (dC, dI)) (ci := 0) (v := .long hi) (C := RW) (T := TW) (N := 5) hx hb hts (inC iW) hown hK hP 0 rfl rfl 0 (by decide) (hts _ (List.mem_cons_of_mem _ m1_24)) (fun _ h9 => h9) rfl dW_lift_73 ?_
          refine lv_iload_n hx hb dW_lift_76 rfl (lv_at hl 0 rfl) ?_
          refine lv_lshl (v := jlshl hi (v_W_lift_2 hi lw ep ng gn)) hx hb dW_lift_77 rfl ?_
          refine lv_aload_n hx hb dW_lift_78 rfl (lv_at hl 2 rfl) ?_
          refine va_get (D := (dC, dI)) (ci := 0) (v := .long lw) (C := RW) (T := TW) (N := 5) hx hb hts (inC iW) hown hK hP 0 rfl rfl 1 (by decide) (hts _ (List.mem_cons_of_mem _ m1_26)) (fun _ h9 => h9) rfl dW_lift_79 ?_
          refine lv_bipush (v := 64) hx hb dW_lift_82 (by decide) ?_
          refine lv_iload_n hx hb dW_lift_84 rfl (lv_at hl 0 rfl) ?_
          refine lv_isub hx hb dW_lift_85 ?_
          refine lv_lushr (v := jlush lw ((64 : Int32) - (v_W_lift_2 hi lw ep ng gn))) hx hb dW_lift_86 rfl ?_
          refine lv_lor hx hb dW_lift_87 ?_
          refine lv_topl (fun w9 e9 => ?_)
          have e9 : w9 = (v_W_lift_3 hi lw ep ng gn) := e9
          rw [e9]
          refine va_put (D := (dC, dI)) (ci := 0) (v := .long (v_W_lift_3 hi lw ep ng gn)) (ty := .long) (C := RW) (T := TW) (N := 5) hx hb hts (inC iW) tyW tyW_ok nmW hown hK hP hD hS 0 rfl rfl 0 (by decide) (hts _ (List.mem_cons_of_mem _ m1_24)) (fun _ h9 => h9) rfl (by decide +kernel) rfl rfl (Nat.le_of_ble_eq_true rfl) dW_lift_88 (fun H locs hP hD hS => ?_)
          have hP : va_P (dC, dI) vwCl [(h0, .inr (0, [.long (v_W_lift_3 hi lw ep ng gn), .long lw, .int ep, .int (bI ng), .int (bI gn)]))] H := hP
          have hD : va_D A [(h0, .inr (0, [.long (v_W_lift_3 hi lw ep ng gn), .long lw, .int ep, .int (bI ng), .int (bI gn)]))] := hD
          refine lv_aload_n hx hb dW_lift_91 rfl (lv_at hl 2 rfl) ?_
          refine lv_dup hx hb dW_lift_92 rfl ?_
          refine va_get (D := (dC, dI)) (ci := 0) (v := .long lw) (C := RW) (T := TW) (N := 5) hx hb hts (inC iW) hown hK hP 0 rfl rfl 1 (by decide) (hts _ (List.mem_cons_of_mem _ m1_26)) (fun _ h9 => h9) rfl dW_lift_93 ?_
          refine lv_iload_n hx hb dW_lift_96 rfl (lv_at hl 0 rfl) ?_
          refine lv_lshl (v := jlshl lw (v_W_lift_2 hi lw ep ng gn)) hx hb dW_lift_97 rfl ?_
          refine lv_topl (fun w9 e9 => ?_)
          have e9 : w9 = (v_W_lift_4 hi lw ep ng gn) := e9
          rw [e9]
          refine va_put (D := (dC, dI)) (ci := 0) (v := .long (v_W_lift_4 hi lw ep ng gn)) (ty := .long) (C := RW) (T := TW) (N := 5) hx hb hts (inC iW) tyW tyW_ok nmW hown hK hP hD hS 0 rfl rfl 1 (by decide) (hts _ (List.mem_cons_of_mem _ m1_26)) (fun _ h9 => h9) rfl (by decide +kernel) rfl rfl (Nat.le_of_ble_eq_true rfl) dW_lift_98 (fun H locs hP hD hS => ?_)
          have hP : va_P (dC, dI) vwCl [(h0, .inr (0, [.long (v_W_lift_3 hi lw ep ng gn), .long (v_W_lift_4 hi lw ep ng gn), .int ep, .int (bI ng), .int (bI gn)]))] H := hP
          have hD : va_D A [(h0, .inr (0, [.long (v_W_lift_3 hi lw ep ng gn), .long (v_W_lift_4 hi lw ep ng gn), .int ep, .int (bI ng), .int (bI gn)]))] := hD
          exact J_2 (v_W_lift_3 hi lw ep ng gn) ((if_pos c_4)).symm (v_W_lift_4 hi lw ep ng gn) ((if_pos c_4)).symm _ _ (hK.sub [] rfl) (hP.sub [0] rfl) (hD.sub [0] (by decide) rfl) hS ls (lv_sub hl [2, 0] rfl)
        · refine lv_aload_n hx hb dW_lift_50 rfl (lv_at hl 2 rfl) ?_
          refine lv_aload_n hx hb dW_lift_51 rfl (lv_at hl 2 rfl) ?_
          refine va_get (D := (dC, dI)) (ci := 0) (v := .long lw) (C := RW) (T := TW) (N := 5) hx hb hts (inC iW) hown hK hP 0 rfl rfl 1 (by decide) (hts _ (List.mem_cons_of_mem _ m1_26)) (fun _ h9 => h9) rfl dW_lift_52 ?_
          refine lv_iload_n hx hb dW_lift_55 rfl (lv_at hl 0 rfl) ?_
          refine lv_bipush (v := 64) hx hb dW_lift_56 (by decide) ?_
          refine lv_isub hx hb dW_lift_58 ?_
          refine lv_lshl (v := jlshl lw ((v_W_lift_2 hi lw ep ng gn) - (64 : Int32))) hx hb dW_lift_59 rfl ?_
          refine lv_topl (fun w9 e9 => ?_)
          have e9 : w9 = (v_W_lift_5 hi lw ep ng gn) := e9
          rw [e9]
          refine va_put (D := (dC, dI)) (ci := 0) (v := .long (v_W_lift_5 hi lw ep ng gn)) (ty := .long) (C := RW) (T := TW) (N := 5) hx hb hts (inC iW) tyW tyW_ok nmW hown hK hP hD hS 0 rfl rfl 0 (by decide) (hts _ (List.mem_cons_of_mem _ m1_24)) (fun _ h9 => h9) rfl (by decide +kernel) rfl rfl (Nat.le_of_ble_eq_true rfl) dW_lift_60 (fun H locs hP hD hS => ?_)
          have hP : va_P (dC, dI) vwCl [(h0, .inr (0, [.long (v_W_lift_5 hi lw ep ng gn), .long lw, .int ep, .int (bI ng), .int (bI gn)]))] H := hP
          have hD : va_D A [(h0, .inr (0, [.long (v_W_lift_5 hi lw ep ng gn), .long lw, .int ep, .int (bI ng), .int (bI gn)]))] := hD
          refine lv_aload_n hx hb dW_lift_63 rfl (lv_at hl 2 rfl) ?_
          refine lv_lconst (v := 0) hx hb dW_lift_64 (by decide) ?_
          refine va_put (D := (dC, dI)) (ci := 0) (v := .long (0 : Int64)) (ty := .long) (C := RW) (T := TW) (N := 5) hx hb hts (inC iW) tyW tyW_ok nmW hown hK hP hD hS 0 rfl rfl 1 (by decide) (hts _ (List.mem_cons_of_mem _ m1_26)) (fun _ h9 => h9) rfl (by decide +kernel) rfl rfl (Nat.le_of_ble_eq_true rfl) dW_lift_65 (fun H locs hP hD hS => ?_)
          have hP : va_P (dC, dI) vwCl [(h0, .inr (0, [.long (v_W_lift_5 hi lw ep ng gn), .long (0 : Int64), .int ep, .int (bI ng), .int (bI gn)]))] H := hP
          have hD : va_D A [(h0, .inr (0, [.long (v_W_lift_5 hi lw ep ng gn), .long (0 : Int64), .int ep, .int (bI ng), .int (bI gn)]))] := hD
          refine lv_goto (tgt := 101) hx hb dW_lift_68 (by decide) ?_
          exact J_2 (v_W_lift_5 hi lw ep ng gn) ((if_neg c_4)).symm (0 : Int64) ((if_neg c_4)).symm _ _ (hK.sub [] rfl) (hP.sub [0] rfl) (hD.sub [0] (by decide) rfl) hS ls (lv_sub hl [2, 0] rfl)
      · have e9_0 : hi = pW_lift_0 hi lw ep ng gn := (((if_neg c_2).trans (if_neg c_3))).symm
        have e9_1 : lw = pW_lift_1 hi lw ep ng gn := (((if_neg c_2).trans (if_neg c_3))).symm
        have e9_2 : ep = pW_lift_2 hi lw ep ng gn := (((if_neg c_2).trans (if_neg c_3))).symm
        have hP9 := hP.sub (ws' := [(h0, .inr (0, [.long hi, .long lw, .int ep, .int (bI ng), .int (bI gn)]))]) [0] rfl
        have hD9 := hD.sub (ws' := [(h0, .inr (0, [.long hi, .long lw, .int ep, .int (bI ng), .int (bI gn)]))]) [0] (by decide) rfl
        have hK9 := hK.sub (tys' := []) [] rfl
        have h9 := trW_lift e9_0 e9_1 e9_2 ⟨hP9, hD9⟩
        exact W.vret hx hb hr (fun t ht hW => ⟨⟨(), rfl, trivial, by rw [ht]; exact h9.1, va_K.moved hW.alike hK9, h9.2⟩, hS.F ht⟩) hS.2.2 dW_lift_43
  refine lv_if_eq (tgt := 22) hx hb dW_lift_6 (by decide) (fun c_1 => ?_) (fun c_1 => ?_)
  · have c_1 : hi = (0 : Int64) := (lg_cmp_eq _ _).mp c_1
    refine lv_aload_n hx hb dW_lift_22 rfl (lv_at hl 0 rfl) ?_
    refine va_get (D := (dC, dI)) (ci := 0) (v := .long lw) (C := RW) (T := TW) (N := 5) hx hb hts (inC iW) hown hK hP 0 rfl rfl 1 (by decide) (hts _ (List.mem_cons_of_mem _ m1_26)) (fun _ h9 => h9) rfl dW_lift_23 ?_
    refine k_callN (va_runSN (As := [.long lw]) (rest := []) ⟨hx, hb, hml, hown, hts⟩ (kF_lengthOf l lw) ⟨va_cnB 1 hts (g_call (ex := []) (fun _ h => absurd h List.not_mem_nil) m1_142) rfl rfl rfl (hN _ (List.mem_of_getElem? (i := 4) rfl)) (hts _ (List.mem_cons_of_mem _ m1_1)) (by decide +kernel) ⟨Nat.le_of_ble_eq_true rfl, Nat.le_of_ble_eq_true rfl⟩, (hts _ (List.mem_cons_of_mem _ m1_141)), trivial⟩ preEq rfl rfl hl.1 rfl (lv_room (Nat.le_of_ble_eq_true rfl)) dW_lift_26 ⟨Nat.le_of_ble_eq_true rfl, Nat.le_of_ble_eq_true rfl⟩) ?_
    exact J_1 (pF_lengthOf lw) ((if_pos c_1)).symm _ _ (hK.sub [] rfl) (hP.sub [0] rfl) (hD.sub [0] (by decide) rfl) hS ls (lv_sub hl [0] rfl)
  · have c_1 : ¬ (hi = (0 : Int64)) := fun h => c_1 ((lg_cmp_eq _ _).mpr h)
    refine lv_bipush (v := 64) hx hb dW_lift_9 (by decide) ?_
    refine lv_aload_n hx hb dW_lift_11 rfl (lv_at hl 0 rfl) ?_
    refine va_get (D := (dC, dI)) (ci := 0) (v := .long hi) (C := RW) (T := TW) (N := 5) hx hb hts (inC iW) hown hK hP 0 rfl rfl 0 (by decide) (hts _ (List.mem_cons_of_mem _ m1_24)) (fun _ h9 => h9) rfl dW_lift_12 ?_
    refine k_callN (va_runSN (As := [.long hi]) (rest := [.int (64 : Int32)]) ⟨hx, hb, hml, hown, hts⟩ (kF_lengthOf l hi) ⟨va_cnB 1 hts (g_call (ex := []) (fun _ h => absurd h List.not_mem_nil) m1_142) rfl rfl rfl (hN _ (List.mem_of_getElem? (i := 4) rfl)) (hts _ (List.mem_cons_of_mem _ m1_1)) (by decide +kernel) ⟨Nat.le_of_ble_eq_true rfl, Nat.le_of_ble_eq_true rfl⟩, (hts _ (List.mem_cons_of_mem _ m1_141)), trivial⟩ preEq rfl rfl hl.1 rfl (lv_room (Nat.le_of_ble_eq_true rfl)) dW_lift_15 ⟨Nat.le_of_ble_eq_true rfl, Nat.le_of_ble_eq_true rfl⟩) ?_
    refine lv_iadd hx hb dW_lift_18 ?_
    refine lv_goto (tgt := 29) hx hb dW_lift_19 (by decide) ?_
    exact J_1 ((64 : Int32) + (pF_lengthOf hi)) ((if_neg c_1)).symm _ _ (hK.sub [] rfl) (hP.sub [0] rfl) (hD.sub [0] (by decide) rfl) hS ls (lv_sub hl [0] rfl)
def v_W_sink_1 (hi : Int64) (lw : Int64) (ep : Int32) (ng : Bool) (gn : Bool) (sh : Int32) : Int32 := ep + sh
def v_W_sink_2 (hi : Int64) (lw : Int64) (ep : Int32) (ng : Bool) (gn : Bool) (sh : Int32) : Bool := (if gn = true then true else (if (jlshl (jlush lw sh) sh) = lw then false else true))
def v_W_sink_3 (hi : Int64) (lw : Int64) (ep : Int32) (ng : Bool) (gn : Bool) (sh : Int32) : Int64 := (jlush lw sh) ||| (jlshl hi ((64 : Int32) - sh))
def v_W_sink_4 (hi : Int64) (lw : Int64) (ep : Int32) (ng : Bool) (gn : Bool) (sh : Int32) : Int64 := jlush hi sh
def v_W_sink_5 (hi : Int64) (lw : Int64) (ep : Int32) (ng : Bool) (gn : Bool) (sh : Int32) : Int32 := sh - (64 : Int32)
def v_W_sink_6 (hi : Int64) (lw : Int64) (ep : Int32) (ng : Bool) (gn : Bool) (sh : Int32) : Bool := (if gn = true then true else (if lw = (0 : Int64) then (if (jlshl (jlush hi (v_W_sink_5 hi lw ep ng gn sh)) (v_W_sink_5 hi lw ep ng gn sh)) = hi then false else true) else true))
def v_W_sink_7 (hi : Int64) (lw : Int64) (ep : Int32) (ng : Bool) (gn : Bool) (sh : Int32) : Int64 := jlush hi (v_W_sink_5 hi lw ep ng gn sh)
def v_W_sink_8 (hi : Int64) (lw : Int64) (ep : Int32) (ng : Bool) (gn : Bool) (sh : Int32) : Bool := pW_isNothing hi lw (v_W_sink_1 hi lw ep ng gn sh) ng gn
def v_W_sink_9 (hi : Int64) (lw : Int64) (ep : Int32) (ng : Bool) (gn : Bool) (sh : Int32) : Bool := (if gn = true then true else (if (v_W_sink_8 hi lw ep ng gn sh) = true then false else true))
def v_W_sink_10 (hi : Int64) (lw : Int64) (ep : Int32) (ng : Bool) (gn : Bool) (sh : Int32) : Int64 := (if sh < (128 : Int32) then (if sh < (64 : Int32) then (v_W_sink_4 hi lw ep ng gn sh) else (0 : Int64)) else (0 : Int64))
def v_W_sink_11 (hi : Int64) (lw : Int64) (ep : Int32) (ng : Bool) (gn : Bool) (sh : Int32) : Int64 := (if sh < (128 : Int32) then (if sh < (64 : Int32) then (v_W_sink_3 hi lw ep ng gn sh) else (v_W_sink_7 hi lw ep ng gn sh)) else (0 : Int64))
def v_W_sink_12 (hi : Int64) (lw : Int64) (ep : Int32) (ng : Bool) (gn : Bool) (sh : Int32) : Bool := (if sh < (128 : Int32) then (if sh < (64 : Int32) then (v_W_sink_2 hi lw ep ng gn sh) else (v_W_sink_6 hi lw ep ng gn sh)) else (v_W_sink_9 hi lw ep ng gn sh))
def pW_sink_0 (hi : Int64) (lw : Int64) (ep : Int32) (ng : Bool) (gn : Bool) (sh : Int32) : Int64 := (if 0 < sh then (v_W_sink_10 hi lw ep ng gn sh) else hi)
def pW_sink_1 (hi : Int64) (lw : Int64) (ep : Int32) (ng : Bool) (gn : Bool) (sh : Int32) : Int64 := (if 0 < sh then (v_W_sink_11 hi lw ep ng gn sh) else lw)
def pW_sink_2 (hi : Int64) (lw : Int64) (ep : Int32) (ng : Bool) (gn : Bool) (sh : Int32) : Int32 := (if 0 < sh then (v_W_sink_1 hi lw ep ng gn sh) else ep)
def pW_sink_3 (hi : Int64) (lw : Int64) (ep : Int32) (ng : Bool) (gn : Bool) (sh : Int32) : Bool := (if 0 < sh then (v_W_sink_12 hi lw ep ng gn sh) else gn)
/-- W_sink -/
abbrev atW_sink (dC : Nat → ClassId) (dI : Nat → Nat → Nat) (h0 : Nat) (hi : Int64) (lw : Int64) (ep : Int32) (ng : Bool) (gn : Bool) (sh : Int32) (A : Nat → Prop) (t : State) : Prop := va_P (dC, dI) vwCl [(h0, .inr (0, [.long (pW_sink_0 hi lw ep ng gn sh), .long (pW_sink_1 hi lw ep ng gn sh), .int (pW_sink_2 hi lw ep ng gn sh), .int (bI ng), .int (bI (pW_sink_3 hi lw ep ng gn sh))]))] t.heap ∧ va_K (dC, dI) vwCl [] t ∧ va_D A [(h0, .inr (0, [.long (pW_sink_0 hi lw ep ng gn sh), .long (pW_sink_1 hi lw ep ng gn sh), .int (pW_sink_2 hi lw ep ng gn sh), .int (bI ng), .int (bI (pW_sink_3 hi lw ep ng gn sh))]))]
theorem trW_sink {dC : Nat → ClassId} {dI : Nat → Nat → Nat} {h0 : Nat} {ng : Bool} {A : Nat → Prop} {H : Heap} {a0 b0 : Int64} {a1 b1 : Int64} {a2 b2 : Int32} {a3 b3 : Bool} (e0 : a0 = b0) (e1 : a1 = b1) (e2 : a2 = b2) (e3 : a3 = b3) (h : va_P (dC, dI) vwCl [(h0, .inr (0, [.long a0, .long a1, .int a2, .int (bI ng), .int (bI a3)]))] H ∧ va_D A [(h0, .inr (0, [.long a0, .long a1, .int a2, .int (bI ng), .int (bI a3)]))]) : va_P (dC, dI) vwCl [(h0, .inr (0, [.long b0, .long b1, .int b2, .int (bI ng), .int (bI b3)]))] H ∧ va_D A [(h0, .inr (0, [.long b0, .long b1, .int b2, .int (bI ng), .int (bI b3)]))] := by
  subst e0
  subst e1
  subst e2
  subst e3
  exact h
abbrev WW_sink (p : Program) (l : Launch) (e : Env) (s : State) (m : MethodId) (below : List Frame) (meth : Method) (c : Code) (dC : Nat → ClassId) (dI : Nat → Nat → Nat) (h0 : Nat) (hi : Int64) (lw : Int64) (ep : Int32) (ng : Bool) (gn : Bool) (sh : Int32) (A : Nat → Prop) (H : Heap) (locs : List Loc) (g : JFrame) : Prop := W p l e (headSpec wW_sink ({ frames := 1, cells := 0, slots := 0, locals := 20 })).room s m ([.ref h0, .int sh] : List Value).toArray below meth c H locs 0 0 (MQ below (va_Qv (fun (_ : Unit) => True) (fun _ => atW_sink dC dI h0 hi lw ep ng gn sh A) A) ([.ref h0, .int sh] : List Value).toArray s 0 0 A) g
set_option maxHeartbeats 4000000 in
set_option maxRecDepth 100000 in
theorem kW_sink (l : Launch) (dC : Nat → ClassId) (dI : Nat → Nat → Nat) (h0 : Nat) (sz : Nat) (hi : Int64) (lw : Int64) (ep : Int32) (ng : Bool) (gn : Bool) (sh : Int32) : Met l yW_sink wW_sink ({ frames := 1, cells := 0, slots := 0, locals := 20 }) (va_Pc [.ref h0, .int sh] (fun U => U.heap.size = sz ∧ va_P (dC, dI) vwCl [(h0, .inr (0, [.long hi, .long lw, .int ep, .int (bI ng), .int (bI gn)]))] U.heap ∧ va_K (dC, dI) vwCl [] U ∧ va_D (fun _ => True) [(h0, .inr (0, [.long hi, .long lw, .int ep, .int (bI ng), .int (bI gn)]))] ∧ NW U)) (va_Qv (fun (_ : Unit) => True) (fun _ => atW_sink dC dI h0 hi lw ep ng gn sh (va_A [(h0, .inr (0, [.long hi, .long lw, .int ep, .int (bI ng), .int (bI gn)]))] sz)) (va_A [(h0, .inr (0, [.long hi, .long lw, .int ep, .int (bI ng), .int (bI gn)]))] sz)) 0 0 (va_A [(h0, .inr (0, [.long hi, .long lw, .int ep, .int (bI ng), .int (bI gn)]))] sz) := by
  refine Met.ofW (cc := cW_sink) (maxL := 3) (ret := none) (by decide) rfl ?_
  intro p e s m args below meth c s₁ B hml hv
  obtain ⟨rfl, hsz, hP, hK, hD0, hN⟩ := hv
  have hx := B.exec
  have hb := B.bytes
  have hr := B.returns
  have hts := atoms_spec (ws := wW_sink) B.pre
  have hown : s.vm.findClass RW = some m.cls := findClass_of_methodNamed B.named
  have hlocks := B.notSynchronized
  subst hsz
  have hD := hD0.self (sz := s.heap.size)
  generalize hAe : va_A [(h0, .inr (0, [.long hi, .long lw, .int ep, .int (bI ng), .int (bI gn)]))] s.heap.size = A at hD ⊢
  have hA : ∀ q : Nat, s.heap.size ≤ q → A q := fun q h => by rw [← hAe]; exact Or.inr h
  have hS : va_S A s.heap s.heap [] := va_S.rf
  have hP : va_P (dC, dI) vwCl [(h0, .inr (0, [.long hi, .long lw, .int ep, .int (bI ng), .int (bI gn)]))] s.heap := hP
  have hl := lv_entry ([.ref h0, .int sh]) (n := 3) (Nat.le_of_ble_eq_true rfl)
  rw [lg_entry_eq]
  generalize (lg_sl ([.ref h0, .int sh]) ++ List.replicate (3 - (lg_sl ([.ref h0, .int sh])).length) Slot.unset).toArray = ls at hl ⊢
  have hl : lv_has ls 3 [(0, .ref h0), (1, .int sh)] := hl
  refine lv_iload_n hx hb dW_sink_0 rfl (lv_at hl 1 rfl) ?_
  refine lv_if_gt (tgt := 5) hx hb dW_sink_1 (by decide) (fun c_1 => ?_) (fun c_1 => ?_)
  · refine lv_aload_n hx hb dW_sink_5 rfl (lv_at hl 0 rfl) ?_
    refine lv_dup hx hb dW_sink_6 rfl ?_
    refine va_get (D := (dC, dI)) (ci := 0) (v := .int ep) (C := RW) (T := TW) (N := 5) hx hb hts (inC iW) hown hK hP 0 rfl rfl 2 (by decide) (hts _ (List.mem_cons_of_mem _ m1_28)) (fun _ h9 => h9) rfl dW_sink_7 ?_
    refine lv_iload_n hx hb dW_sink_10 rfl (lv_at hl 1 rfl) ?_
    refine lv_iadd hx hb dW_sink_11 ?_
    refine lv_topi (fun w9 e9 => ?_)
    have e9 : w9 = (v_W_sink_1 hi lw ep ng gn sh) := e9
    rw [e9]
    refine va_put (D := (dC, dI)) (ci := 0) (v := .int (v_W_sink_1 hi lw ep ng gn sh)) (ty := .int) (C := RW) (T := TW) (N := 5) hx hb hts (inC iW) tyW tyW_ok nmW hown hK hP hD hS 0 rfl rfl 2 (by decide) (hts _ (List.mem_cons_of_mem _ m1_28)) (fun _ h9 => h9) rfl (by decide +kernel) rfl rfl (Nat.le_of_ble_eq_true rfl) dW_sink_12 (fun H locs hP hD hS => ?_)
    have hP : va_P (dC, dI) vwCl [(h0, .inr (0, [.long hi, .long lw, .int (v_W_sink_1 hi lw ep ng gn sh), .int (bI ng), .int (bI gn)]))] H := hP
    have hD : va_D A [(h0, .inr (0, [.long hi, .long lw, .int (v_W_sink_1 hi lw ep ng gn sh), .int (bI ng), .int (bI gn)]))] := hD
    refine lv_iload_n hx hb dW_sink_15 rfl (lv_at hl 1 rfl) ?_
    refine lv_sipush (v := 128) hx hb dW_sink_16 (by decide) ?_
    have J_4 : ∀ (w_0 : Int64), w_0 = (v_W_sink_10 hi lw ep ng gn sh) → ∀ (w_1 : Int64), w_1 = (v_W_sink_11 hi lw ep ng gn sh) → ∀ (w_2 : Bool), w_2 = (v_W_sink_12 hi lw ep ng gn sh) → ∀ (H : Heap) (locs : List Loc), va_K (dC, dI) vwCl [] s → va_P (dC, dI) vwCl [(h0, .inr (0, [.long w_0, .long w_1, .int (v_W_sink_1 hi lw ep ng gn sh), .int (bI ng), .int (bI w_2)]))] H → va_D A [(h0, .inr (0, [.long w_0, .long w_1, .int (v_W_sink_1 hi lw ep ng gn sh), .int (bI ng), .int (bI w_2)]))] → va_S A s.heap H locs → ∀ (ls : Array Slot), lv_has ls 3 [] → WW_sink p l e s m below meth c dC dI h0 hi lw ep ng gn sh A H locs (F0 m 190 ls []) := by
      intro w_0 e_0
      rw [e_0]
      intro w_1 e_1
      rw [e_1]
      intro w_2 e_2
      rw [e_2]
      intro H locs hK hP hD hS ls hl
      have e9_0 : (v_W_sink_10 hi lw ep ng gn sh) = pW_sink_0 hi lw ep ng gn sh := ((if_pos c_1)).symm
      have e9_1 : (v_W_sink_11 hi lw ep ng gn sh) = pW_sink_1 hi lw ep ng gn sh := ((if_pos c_1)).symm
      have e9_2 : (v_W_sink_1 hi lw ep ng gn sh) = pW_sink_2 hi lw ep ng gn sh := ((if_pos c_1)).symm
      have e9_3 : (v_W_sink_12 hi lw ep ng gn sh) = pW_sink_3 hi lw ep ng gn sh := ((if_pos c_1)).symm
      have hP9 := hP.sub (ws' := [(h0, .inr (0, [.long (v_W_sink_10 hi lw ep ng gn sh), .long (v_W_sink_11 hi lw ep ng gn sh), .int (v_W_sink_1 hi lw ep ng gn sh), .int (bI ng), .int (bI (v_W_sink_12 hi lw ep ng gn sh))]))]) [0] rfl
      have hD9 := hD.sub (ws' := [(h0, .inr (0, [.long (v_W_sink_10 hi lw ep ng gn sh), .long (v_W_sink_11 hi lw ep ng gn sh), .int (v_W_sink_1 hi lw ep ng gn sh), .int (bI ng), .int (bI (v_W_sink_12 hi lw ep ng gn sh))]))]) [0] (by decide) rfl
      have hK9 := hK.sub (tys' := []) [] rfl
      have h9 := trW_sink e9_0 e9_1 e9_2 e9_3 ⟨hP9, hD9⟩
      exact W.vret hx hb hr (fun t ht hW => ⟨⟨(), rfl, trivial, by rw [ht]; exact h9.1, va_K.moved hW.alike hK9, h9.2⟩, hS.F ht⟩) hS.2.2 dW_sink_190
    refine lv_icmp_lt (tgt := 58) hx hb dW_sink_19 (by decide) (fun c_2 => ?_) (fun c_2 => ?_)
    · refine lv_iload_n hx hb dW_sink_58 rfl (lv_at hl 1 rfl) ?_
      refine lv_bipush (v := 64) hx hb dW_sink_59 (by decide) ?_
      refine lv_icmp_lt (tgt := 128) hx hb dW_sink_61 (by decide) (fun c_3 => ?_) (fun c_3 => ?_)
      · refine lv_aload_n hx hb dW_sink_128 rfl (lv_at hl 0 rfl) ?_
        refine lv_aload_n hx hb dW_sink_129 rfl (lv_at hl 0 rfl) ?_
        refine va_get (D := (dC, dI)) (ci := 0) (v := .int (bI gn)) (C := RW) (T := TW) (N := 5) hx hb hts (inC iW) hown hK hP 0 rfl rfl 4 (by decide) (hts _ (List.mem_cons_of_mem _ m1_32)) (fun _ h9 => h9) rfl dW_sink_130 ?_
        have J_1 : ∀ (w_0 : Bool), w_0 = (v_W_sink_2 hi lw ep ng gn sh) → ∀ (H : Heap) (locs : List Loc), va_K (dC, dI) vwCl [] s → va_P (dC, dI) vwCl [(h0, .inr (0, [.long hi, .long lw, .int (v_W_sink_1 hi lw ep ng gn sh), .int (bI ng), .int (bI gn)]))] H → va_D A [(h0, .inr (0, [.long hi, .long lw, .int (v_W_sink_1 hi lw ep ng gn sh), .int (bI ng), .int (bI gn)]))] → va_S A s.heap H locs → ∀ (ls : Array Slot), lv_has ls 3 [(0, .ref h0), (1, .int sh)] → WW_sink p l e s m below meth c dC dI h0 hi lw ep ng gn sh A H locs (F0 m 157 ls [.int (bI w_0), .ref h0]) := by
          intro w_0 e_0
          rw [e_0]
          intro H locs hK hP hD hS ls hl
          refine va_put (D := (dC, dI)) (ci := 0) (v := .int (bI (v_W_sink_2 hi lw ep ng gn sh))) (ty := .boolean) (C := RW) (T := TW) (N := 5) hx hb hts (inC iW) tyW tyW_ok nmW hown hK hP hD hS 0 rfl rfl 4 (by decide) (hts _ (List.mem_cons_of_mem _ m1_32)) (fun _ h9 => h9) rfl (by decide +kernel) (nb_z _) (fb_z _) (Nat.le_of_ble_eq_true rfl) dW_sink_157 (fun H locs hP hD hS => ?_)
          have hP : va_P (dC, dI) vwCl [(h0, .inr (0, [.long hi, .long lw, .int (v_W_sink_1 hi lw ep ng gn sh), .int (bI ng), .int (bI (v_W_sink_2 hi lw ep ng gn sh))]))] H := hP
          have hD : va_D A [(h0, .inr (0, [.long hi, .long lw, .int (v_W_sink_1 hi lw ep ng gn sh), .int (bI ng), .int (bI (v_W_sink_2 hi lw ep ng gn sh))]))] := hD
          refine lv_aload_n hx hb dW_sink_160 rfl (lv_at hl 0 rfl) ?_
          refine lv_aload_n hx hb dW_sink_161 rfl (lv_at hl 0 rfl) ?_
          refine va_get (D := (dC, dI)) (ci := 0) (v := .long lw) (C := RW) (T := TW) (N := 5) hx hb hts (inC iW) hown hK hP 0 rfl rfl 1 (by decide) (hts _ (List.mem_cons_of_mem _ m1_26)) (fun _ h9 => h9) rfl dW_sink_162 ?_
          refine lv_iload_n hx hb dW_sink_165 rfl (lv_at hl 1 rfl) ?_
          refine lv_lushr (v := jlush lw sh) hx hb dW_sink_166 rfl ?_
          refine lv_aload_n hx hb dW_sink_167 rfl (lv_at hl 0 rfl) ?_
          refine va_get (D := (dC, dI)) (ci := 0) (v := .long hi) (C := RW) (T := TW) (N := 5) hx hb hts (inC iW) hown hK hP 0 rfl rfl 0 (by decide) (hts _ (List.mem_cons_of_mem _ m1_24)) (fun _ h9 => h9) rfl dW_sink_168 ?_
          refine lv_bipush (v := 64) hx hb dW_sink_171 (by decide) ?_
          refine lv_iload_n hx hb dW_sink_173 rfl (lv_at hl 1 rfl) ?_
          refine lv_isub hx hb dW_sink_174 ?_
          refine lv_lshl (v := jlshl hi ((64 : Int32) - sh)) hx hb dW_sink_175 rfl ?_
          refine lv_lor hx hb dW_sink_176 ?_
          refine lv_topl (fun w9 e9 => ?_)
          have e9 : w9 = (v_W_sink_3 hi lw ep ng gn sh) := e9
          rw [e9]
          refine va_put (D := (dC, dI)) (ci := 0) (v := .long (v_W_sink_3 hi lw ep ng gn sh)) (ty := .long) (C := RW) (T := TW) (N := 5) hx hb hts (inC iW) tyW tyW_ok nmW hown hK hP hD hS 0 rfl rfl 1 (by decide) (hts _ (List.mem_cons_of_mem _ m1_26)) (fun _ h9 => h9) rfl (by decide +kernel) rfl rfl (Nat.le_of_ble_eq_true rfl) dW_sink_177 (fun H locs hP hD hS => ?_)
          have hP : va_P (dC, dI) vwCl [(h0, .inr (0, [.long hi, .long (v_W_sink_3 hi lw ep ng gn sh), .int (v_W_sink_1 hi lw ep ng gn sh), .int (bI ng), .int (bI (v_W_sink_2 hi lw ep ng gn sh))]))] H := hP
          have hD : va_D A [(h0, .inr (0, [.long hi, .long (v_W_sink_3 hi lw ep ng gn sh), .int (v_W_sink_1 hi lw ep ng gn sh), .int (bI ng), .int (bI (v_W_sink_2 hi lw ep ng gn sh))]))] := hD
          refine lv_aload_n hx hb dW_sink_180 rfl (lv_at hl 0 rfl) ?_
          refine lv_dup hx hb dW_sink_181 rfl ?_
          refine va_get (D := (dC, dI)) (ci := 0) (v := .long hi) (C := RW) (T := TW) (N := 5) hx hb hts (inC iW) hown hK hP 0 rfl rfl 0 (by decide) (hts _ (List.mem_cons_of_mem _ m1_24)) (fun _ h9 => h9) rfl dW_sink_182 ?_
          refine lv_iload_n hx hb dW_sink_185 rfl (lv_at hl 1 rfl) ?_
          refine lv_lushr (v := jlush hi sh) hx hb dW_sink_186 rfl ?_
          refine lv_topl (fun w9 e9 => ?_)
          have e9 : w9 = (v_W_sink_4 hi lw ep ng gn sh) := e9
          rw [e9]
          refine va_put (D := (dC, dI)) (ci := 0) (v := .long (v_W_sink_4 hi lw ep ng gn sh)) (ty := .long) (C := RW) (T := TW) (N := 5) hx hb hts (inC iW) tyW tyW_ok nmW hown hK hP hD hS 0 rfl rfl 0 (by decide) (hts _ (List.mem_cons_of_mem _ m1_24)) (fun _ h9 => h9) rfl (by decide +kernel) rfl rfl (Nat.le_of_ble_eq_true rfl) dW_sink_187 (fun H locs hP hD hS => ?_)
          have hP : va_P (dC, dI) vwCl [(h0, .inr (0, [.long (v_W_sink_4 hi lw ep ng gn sh), .long (v_W_sink_3 hi lw ep ng gn sh), .int (v_W_sink_1 hi lw ep ng gn sh), .int (bI ng), .int (bI (v_W_sink_2 hi lw ep ng gn sh))]))] H := hP
          have hD : va_D A [(h0, .inr (0, [.long (v_W_sink_4 hi lw ep ng gn sh), .long (v_W_sink_3 hi lw ep ng gn sh), .int (v_W_sink_1 hi lw ep ng gn sh), .int (bI ng), .int (bI (v_W_sink_2 hi lw ep ng gn sh))]))] := hD
          exact J_4 (v_W_sink_4 hi lw ep ng gn sh) (((if_pos c_2).trans (if_pos c_3))).symm (v_W_sink_3 hi lw ep ng gn sh) (((if_pos c_2).trans (if_pos c_3))).symm (v_W_sink_2 hi lw ep ng gn sh) (((if_pos c_2).trans (if_pos c_3))).symm _ _ (hK.sub [] rfl) (hP.sub [0] rfl) (hD.sub [0] (by decide) rfl) hS ls (lv_sub hl [] rfl)
        refine kb_ne (tgt := 152) hx hb dW_sink_133 (by decide) (fun c_4 => ?_) (fun c_4 => ?_)
        · refine lv_iconst (v := 1) hx hb dW_sink_152 (by decide) ?_
          refine lv_goto (tgt := 157) hx hb dW_sink_153 (by decide) ?_
          exact J_1 true ((if_pos c_4)).symm _ _ (hK.sub [] rfl) (hP.sub [0] rfl) (hD.sub [0] (by decide) rfl) hS ls (lv_sub hl [0, 1] rfl)
        · refine lv_aload_n hx hb dW_sink_136 rfl (lv_at hl 0 rfl) ?_
          refine va_get (D := (dC, dI)) (ci := 0) (v := .long lw) (C := RW) (T := TW) (N := 5) hx hb hts (inC iW) hown hK hP 0 rfl rfl 1 (by decide) (hts _ (List.mem_cons_of_mem _ m1_26)) (fun _ h9 => h9) rfl dW_sink_137 ?_
          refine lv_iload_n hx hb dW_sink_140 rfl (lv_at hl 1 rfl) ?_
          refine lv_lushr (v := jlush lw sh) hx hb dW_sink_141 rfl ?_
          refine lv_iload_n hx hb dW_sink_142 rfl (lv_at hl 1 rfl) ?_
          refine lv_lshl (v := jlshl (jlush lw sh) sh) hx hb dW_sink_143 rfl ?_
          refine lv_aload_n hx hb dW_sink_144 rfl (lv_at hl 0 rfl) ?_
          refine va_get (D := (dC, dI)) (ci := 0) (v := .long lw) (C := RW) (T := TW) (N := 5) hx hb hts (inC iW) hown hK hP 0 rfl rfl 1 (by decide) (hts _ (List.mem_cons_of_mem _ m1_26)) (fun _ h9 => h9) rfl dW_sink_145 ?_
          refine W.lcmp hx hb dW_sink_148 ?_
          refine lv_if_eq (tgt := 156) hx hb dW_sink_149 (by decide) (fun c_5 => ?_) (fun c_5 => ?_)
          · have c_5 : (jlshl (jlush lw sh) sh) = lw := (lg_cmp_eq _ _).mp c_5
            refine lv_iconst (v := 0) hx hb dW_sink_156 (by decide) ?_
            exact J_1 false (((if_neg c_4).trans (if_pos c_5))).symm _ _ (hK.sub [] rfl) (hP.sub [0] rfl) (hD.sub [0] (by decide) rfl) hS ls (lv_sub hl [0, 1] rfl)
          · have c_5 : ¬ ((jlshl (jlush lw sh) sh) = lw) := fun h => c_5 ((lg_cmp_eq _ _).mpr h)
            refine lv_iconst (v := 1) hx hb dW_sink_152 (by decide) ?_
            refine lv_goto (tgt := 157) hx hb dW_sink_153 (by decide) ?_
            exact J_1 true (((if_neg c_4).trans (if_neg c_5))).symm _ _ (hK.sub [] rfl) (hP.sub [0] rfl) (hD.sub [0] (by decide) rfl) hS ls (lv_sub hl [0, 1] rfl)
      · refine lv_iload_n hx hb dW_sink_64 rfl (lv_at hl 1 rfl) ?_
        refine lv_bipush (v := 64) hx hb dW_sink_65 (by decide) ?_
        refine lv_isub hx hb dW_sink_67 ?_
        refine lv_topi (fun w9 e9 => ?_)
        have e9 : w9 = (v_W_sink_5 hi lw ep ng gn sh) := e9
        rw [e9]
        refine lv_istore_n (lv' := [(2, .int (v_W_sink_5 hi lw ep ng gn sh)), (0, .ref h0), (1, .int sh)]) hx hb dW_sink_68 rfl hl (by decide) rfl (fun ls hl => ?_)
        refine lv_aload_n hx hb dW_sink_69 rfl (lv_at hl 1 rfl) ?_
        refine lv_aload_n hx hb dW_sink_70 rfl (lv_at hl 1 rfl) ?_
        refine va_get (D := (dC, dI)) (ci := 0) (v := .int (bI gn)) (C := RW) (T := TW) (N := 5) hx hb hts (inC iW) hown hK hP 0 rfl rfl 4 (by decide) (hts _ (List.mem_cons_of_mem _ m1_32)) (fun _ h9 => h9) rfl dW_sink_71 ?_
        have J_2 : ∀ (w_0 : Bool), w_0 = (v_W_sink_6 hi lw ep ng gn sh) → ∀ (H : Heap) (locs : List Loc), va_K (dC, dI) vwCl [] s → va_P (dC, dI) vwCl [(h0, .inr (0, [.long hi, .long lw, .int (v_W_sink_1 hi lw ep ng gn sh), .int (bI ng), .int (bI gn)]))] H → va_D A [(h0, .inr (0, [.long hi, .long lw, .int (v_W_sink_1 hi lw ep ng gn sh), .int (bI ng), .int (bI gn)]))] → va_S A s.heap H locs → ∀ (ls : Array Slot), lv_has ls 3 [(0, .ref h0), (2, .int (v_W_sink_5 hi lw ep ng gn sh))] → WW_sink p l e s m below meth c dC dI h0 hi lw ep ng gn sh A H locs (F0 m 107 ls [.int (bI w_0), .ref h0]) := by
          intro w_0 e_0
          rw [e_0]
          intro H locs hK hP hD hS ls hl
          refine va_put (D := (dC, dI)) (ci := 0) (v := .int (bI (v_W_sink_6 hi lw ep ng gn sh))) (ty := .boolean) (C := RW) (T := TW) (N := 5) hx hb hts (inC iW) tyW tyW_ok nmW hown hK hP hD hS 0 rfl rfl 4 (by decide) (hts _ (List.mem_cons_of_mem _ m1_32)) (fun _ h9 => h9) rfl (by decide +kernel) (nb_z _) (fb_z _) (Nat.le_of_ble_eq_true rfl) dW_sink_107 (fun H locs hP hD hS => ?_)
          have hP : va_P (dC, dI) vwCl [(h0, .inr (0, [.long hi, .long lw, .int (v_W_sink_1 hi lw ep ng gn sh), .int (bI ng), .int (bI (v_W_sink_6 hi lw ep ng gn sh))]))] H := hP
          have hD : va_D A [(h0, .inr (0, [.long hi, .long lw, .int (v_W_sink_1 hi lw ep ng gn sh), .int (bI ng), .int (bI (v_W_sink_6 hi lw ep ng gn sh))]))] := hD
          refine lv_aload_n hx hb dW_sink_110 rfl (lv_at hl 0 rfl) ?_
          refine lv_aload_n hx hb dW_sink_111 rfl (lv_at hl 0 rfl) ?_
          refine va_get (D := (dC, dI)) (ci := 0) (v := .long hi) (C := RW) (T := TW) (N := 5) hx hb hts (inC iW) hown hK hP 0 rfl rfl 0 (by decide) (hts _ (List.mem_cons_of_mem _ m1_24)) (fun _ h9 => h9) rfl dW_sink_112 ?_
          refine lv_iload_n hx hb dW_sink_115 rfl (lv_at hl 1 rfl) ?_
          refine lv_lushr (v := jlush hi (v_W_sink_5 hi lw ep ng gn sh)) hx hb dW_sink_116 rfl ?_
          refine lv_topl (fun w9 e9 => ?_)
          have e9 : w9 = (v_W_sink_7 hi lw ep ng gn sh) := e9
          rw [e9]
          refine va_put (D := (dC, dI)) (ci := 0) (v := .long (v_W_sink_7 hi lw ep ng gn sh)) (ty := .long) (C := RW) (T := TW) (N := 5) hx hb hts (inC iW) tyW tyW_ok nmW hown hK hP hD hS 0 rfl rfl 1 (by decide) (hts _ (List.mem_cons_of_mem _ m1_26)) (fun _ h9 => h9) rfl (by decide +kernel) rfl rfl (Nat.le_of_ble_eq_true rfl) dW_sink_117 (fun H locs hP hD hS => ?_)
          have hP : va_P (dC, dI) vwCl [(h0, .inr (0, [.long hi, .long (v_W_sink_7 hi lw ep ng gn sh), .int (v_W_sink_1 hi lw ep ng gn sh), .int (bI ng), .int (bI (v_W_sink_6 hi lw ep ng gn sh))]))] H := hP
          have hD : va_D A [(h0, .inr (0, [.long hi, .long (v_W_sink_7 hi lw ep ng gn sh), .int (v_W_sink_1 hi lw ep ng gn sh), .int (bI ng), .int (bI (v_W_sink_6 hi lw ep ng gn sh))]))] := hD
          refine lv_aload_n hx hb dW_sink_120 rfl (lv_at hl 0 rfl) ?_
          refine lv_lconst (v := 0) hx hb dW_sink_121 (by decide) ?_
          refine va_put (D := (dC, dI)) (ci := 0) (v := .long (0 : Int64)) (ty := .long) (C := RW) (T := TW) (N := 5) hx hb hts (inC iW) tyW tyW_ok nmW hown hK hP hD hS 0 rfl rfl 0 (by decide) (hts _ (List.mem_cons_of_mem _ m1_24)) (fun _ h9 => h9) rfl (by decide +kernel) rfl rfl (Nat.le_of_ble_eq_true rfl) dW_sink_122 (fun H locs hP hD hS => ?_)
          have hP : va_P (dC, dI) vwCl [(h0, .inr (0, [.long (0 : Int64), .long (v_W_sink_7 hi lw ep ng gn sh), .int (v_W_sink_1 hi lw ep ng gn sh), .int (bI ng), .int (bI (v_W_sink_6 hi lw ep ng gn sh))]))] H := hP
          have hD : va_D A [(h0, .inr (0, [.long (0 : Int64), .long (v_W_sink_7 hi lw ep ng gn sh), .int (v_W_sink_1 hi lw ep ng gn sh), .int (bI ng), .int (bI (v_W_sink_6 hi lw ep ng gn sh))]))] := hD
          refine lv_goto (tgt := 190) hx hb dW_sink_125 (by decide) ?_
          exact J_4 (0 : Int64) (((if_pos c_2).trans (if_neg c_3))).symm (v_W_sink_7 hi lw ep ng gn sh) (((if_pos c_2).trans (if_neg c_3))).symm (v_W_sink_6 hi lw ep ng gn sh) (((if_pos c_2).trans (if_neg c_3))).symm _ _ (hK.sub [] rfl) (hP.sub [0] rfl) (hD.sub [0] (by decide) rfl) hS ls (lv_sub hl [] rfl)
        refine kb_ne (tgt := 102) hx hb dW_sink_74 (by decide) (fun c_6 => ?_) (fun c_6 => ?_)
        · refine lv_iconst (v := 1) hx hb dW_sink_102 (by decide) ?_
          refine lv_goto (tgt := 107) hx hb dW_sink_103 (by decide) ?_
          exact J_2 true ((if_pos c_6)).symm _ _ (hK.sub [] rfl) (hP.sub [0] rfl) (hD.sub [0] (by decide) rfl) hS ls (lv_sub hl [1, 0] rfl)
        · refine lv_aload_n hx hb dW_sink_77 rfl (lv_at hl 1 rfl) ?_
          refine va_get (D := (dC, dI)) (ci := 0) (v := .long lw) (C := RW) (T := TW) (N := 5) hx hb hts (inC iW) hown hK hP 0 rfl rfl 1 (by decide) (hts _ (List.mem_cons_of_mem _ m1_26)) (fun _ h9 => h9) rfl dW_sink_78 ?_
          refine lv_lconst (v := 0) hx hb dW_sink_81 (by decide) ?_
          refine W.lcmp hx hb dW_sink_82 ?_
          refine lv_if_ne (tgt := 102) hx hb dW_sink_83 (by decide) (fun c_7 => ?_) (fun c_7 => ?_)
          · have c_7 : ¬ (lw = (0 : Int64)) := fun h => c_7 ((lg_cmp_eq _ _).mpr h)
            refine lv_iconst (v := 1) hx hb dW_sink_102 (by decide) ?_
            refine lv_goto (tgt := 107) hx hb dW_sink_103 (by decide) ?_
            exact J_2 true (((if_neg c_6).trans (if_neg c_7))).symm _ _ (hK.sub [] rfl) (hP.sub [0] rfl) (hD.sub [0] (by decide) rfl) hS ls (lv_sub hl [1, 0] rfl)
          · have c_7 : lw = (0 : Int64) := (lg_cmp_eq _ _).mp c_7
            refine lv_aload_n hx hb dW_sink_86 rfl (lv_at hl 1 rfl) ?_
            refine va_get (D := (dC, dI)) (ci := 0) (v := .long hi) (C := RW) (T := TW) (N := 5) hx hb hts (inC iW) hown hK hP 0 rfl rfl 0 (by decide) (hts _ (List.mem_cons_of_mem _ m1_24)) (fun _ h9 => h9) rfl dW_sink_87 ?_
            refine lv_iload_n hx hb dW_sink_90 rfl (lv_at hl 0 rfl) ?_
            refine lv_lushr (v := jlush hi (v_W_sink_5 hi lw ep ng gn sh)) hx hb dW_sink_91 rfl ?_
            refine lv_iload_n hx hb dW_sink_92 rfl (lv_at hl 0 rfl) ?_
            refine lv_lshl (v := jlshl (jlush hi (v_W_sink_5 hi lw ep ng gn sh)) (v_W_sink_5 hi lw ep ng gn sh)) hx hb dW_sink_93 rfl ?_
            refine lv_aload_n hx hb dW_sink_94 rfl (lv_at hl 1 rfl) ?_
            refine va_get (D := (dC, dI)) (ci := 0) (v := .long hi) (C := RW) (T := TW) (N := 5) hx hb hts (inC iW) hown hK hP 0 rfl rfl 0 (by decide) (hts _ (List.mem_cons_of_mem _ m1_24)) (fun _ h9 => h9) rfl dW_sink_95 ?_
            refine W.lcmp hx hb dW_sink_98 ?_
            refine lv_if_eq (tgt := 106) hx hb dW_sink_99 (by decide) (fun c_8 => ?_) (fun c_8 => ?_)
            · have c_8 : (jlshl (jlush hi (v_W_sink_5 hi lw ep ng gn sh)) (v_W_sink_5 hi lw ep ng gn sh)) = hi := (lg_cmp_eq _ _).mp c_8
              refine lv_iconst (v := 0) hx hb dW_sink_106 (by decide) ?_
              exact J_2 false ((((if_neg c_6).trans (if_pos c_7)).trans (if_pos c_8))).symm _ _ (hK.sub [] rfl) (hP.sub [0] rfl) (hD.sub [0] (by decide) rfl) hS ls (lv_sub hl [1, 0] rfl)
            · have c_8 : ¬ ((jlshl (jlush hi (v_W_sink_5 hi lw ep ng gn sh)) (v_W_sink_5 hi lw ep ng gn sh)) = hi) := fun h => c_8 ((lg_cmp_eq _ _).mpr h)
              refine lv_iconst (v := 1) hx hb dW_sink_102 (by decide) ?_
              refine lv_goto (tgt := 107) hx hb dW_sink_103 (by decide) ?_
              exact J_2 true ((((if_neg c_6).trans (if_pos c_7)).trans (if_neg c_8))).symm _ _ (hK.sub [] rfl) (hP.sub [0] rfl) (hD.sub [0] (by decide) rfl) hS ls (lv_sub hl [1, 0] rfl)
    · refine lv_aload_n hx hb dW_sink_22 rfl (lv_at hl 0 rfl) ?_
      refine lv_aload_n hx hb dW_sink_23 rfl (lv_at hl 0 rfl) ?_
      refine va_get (D := (dC, dI)) (ci := 0) (v := .int (bI gn)) (C := RW) (T := TW) (N := 5) hx hb hts (inC iW) hown hK hP 0 rfl rfl 4 (by decide) (hts _ (List.mem_cons_of_mem _ m1_32)) (fun _ h9 => h9) rfl dW_sink_24 ?_
      have J_3 : ∀ (w_0 : Bool), w_0 = (v_W_sink_9 hi lw ep ng gn sh) → ∀ (H : Heap) (locs : List Loc), va_K (dC, dI) vwCl [] s → va_P (dC, dI) vwCl [(h0, .inr (0, [.long hi, .long lw, .int (v_W_sink_1 hi lw ep ng gn sh), .int (bI ng), .int (bI gn)]))] H → va_D A [(h0, .inr (0, [.long hi, .long lw, .int (v_W_sink_1 hi lw ep ng gn sh), .int (bI ng), .int (bI gn)]))] → va_S A s.heap H locs → ∀ (ls : Array Slot), lv_has ls 3 [(0, .ref h0)] → WW_sink p l e s m below meth c dC dI h0 hi lw ep ng gn sh A H locs (F0 m 42 ls [.int (bI w_0), .ref h0]) := by
        intro w_0 e_0
        rw [e_0]
        intro H locs hK hP hD hS ls hl
        refine va_put (D := (dC, dI)) (ci := 0) (v := .int (bI (v_W_sink_9 hi lw ep ng gn sh))) (ty := .boolean) (C := RW) (T := TW) (N := 5) hx hb hts (inC iW) tyW tyW_ok nmW hown hK hP hD hS 0 rfl rfl 4 (by decide) (hts _ (List.mem_cons_of_mem _ m1_32)) (fun _ h9 => h9) rfl (by decide +kernel) (nb_z _) (fb_z _) (Nat.le_of_ble_eq_true rfl) dW_sink_42 (fun H locs hP hD hS => ?_)
        have hP : va_P (dC, dI) vwCl [(h0, .inr (0, [.long hi, .long lw, .int (v_W_sink_1 hi lw ep ng gn sh), .int (bI ng), .int (bI (v_W_sink_9 hi lw ep ng gn sh))]))] H := hP
        have hD : va_D A [(h0, .inr (0, [.long hi, .long lw, .int (v_W_sink_1 hi lw ep ng gn sh), .int (bI ng), .int (bI (v_W_sink_9 hi lw ep ng gn sh))]))] := hD
        refine lv_aload_n hx hb dW_sink_45 rfl (lv_at hl 0 rfl) ?_
        refine lv_lconst (v := 0) hx hb dW_sink_46 (by decide) ?_
        refine va_put (D := (dC, dI)) (ci := 0) (v := .long (0 : Int64)) (ty := .long) (C := RW) (T := TW) (N := 5) hx hb hts (inC iW) tyW tyW_ok nmW hown hK hP hD hS 0 rfl rfl 0 (by decide) (hts _ (List.mem_cons_of_mem _ m1_24)) (fun _ h9 => h9) rfl (by decide +kernel) rfl rfl (Nat.le_of_ble_eq_true rfl) dW_sink_47 (fun H locs hP hD hS => ?_)
        have hP : va_P (dC, dI) vwCl [(h0, .inr (0, [.long (0 : Int64), .long lw, .int (v_W_sink_1 hi lw ep ng gn sh), .int (bI ng), .int (bI (v_W_sink_9 hi lw ep ng gn sh))]))] H := hP
        have hD : va_D A [(h0, .inr (0, [.long (0 : Int64), .long lw, .int (v_W_sink_1 hi lw ep ng gn sh), .int (bI ng), .int (bI (v_W_sink_9 hi lw ep ng gn sh))]))] := hD
        refine lv_aload_n hx hb dW_sink_50 rfl (lv_at hl 0 rfl) ?_
        refine lv_lconst (v := 0) hx hb dW_sink_51 (by decide) ?_
        refine va_put (D := (dC, dI)) (ci := 0) (v := .long (0 : Int64)) (ty := .long) (C := RW) (T := TW) (N := 5) hx hb hts (inC iW) tyW tyW_ok nmW hown hK hP hD hS 0 rfl rfl 1 (by decide) (hts _ (List.mem_cons_of_mem _ m1_26)) (fun _ h9 => h9) rfl (by decide +kernel) rfl rfl (Nat.le_of_ble_eq_true rfl) dW_sink_52 (fun H locs hP hD hS => ?_)
        have hP : va_P (dC, dI) vwCl [(h0, .inr (0, [.long (0 : Int64), .long (0 : Int64), .int (v_W_sink_1 hi lw ep ng gn sh), .int (bI ng), .int (bI (v_W_sink_9 hi lw ep ng gn sh))]))] H := hP
        have hD : va_D A [(h0, .inr (0, [.long (0 : Int64), .long (0 : Int64), .int (v_W_sink_1 hi lw ep ng gn sh), .int (bI ng), .int (bI (v_W_sink_9 hi lw ep ng gn sh))]))] := hD
        refine lv_goto (tgt := 190) hx hb dW_sink_55 (by decide) ?_
        exact J_4 (0 : Int64) ((if_neg c_2)).symm (0 : Int64) ((if_neg c_2)).symm (v_W_sink_9 hi lw ep ng gn sh) ((if_neg c_2)).symm _ _ (hK.sub [] rfl) (hP.sub [0] rfl) (hD.sub [0] (by decide) rfl) hS ls (lv_sub hl [] rfl)
      refine kb_ne (tgt := 37) hx hb dW_sink_27 (by decide) (fun c_9 => ?_) (fun c_9 => ?_)
      · refine lv_iconst (v := 1) hx hb dW_sink_37 (by decide) ?_
        refine lv_goto (tgt := 42) hx hb dW_sink_38 (by decide) ?_
        exact J_3 true ((if_pos c_9)).symm _ _ (hK.sub [] rfl) (hP.sub [0] rfl) (hD.sub [0] (by decide) rfl) hS ls (lv_sub hl [0] rfl)
      · refine lv_aload_n hx hb dW_sink_30 rfl (lv_at hl 0 rfl) ?_
        have hPc := hP.sub (ws' := [(h0, .inr (0, [.long hi, .long lw, .int (v_W_sink_1 hi lw ep ng gn sh), .int (bI ng), .int (bI gn)]))]) [0] rfl
        have hDc := hD.sub (ws' := [(h0, .inr (0, [.long hi, .long lw, .int (v_W_sink_1 hi lw ep ng gn sh), .int (bI ng), .int (bI gn)]))]) [0] (by decide) rfl
        have hKc := hK.sub (tys' := []) [] rfl
        have hFc := va_free (wc := [(h0, .inr (0, [.long hi, .long lw, .int (v_W_sink_1 hi lw ep ng gn sh), .int (bI ng), .int (bI gn)]))]) hD hS hA [0] rfl
        refine va_calli (va_runV (As := []) (rest := [.ref h0]) ⟨hx, hb, hml, hown, hts⟩ (kW_isNothing l dC dI h0 H.size hi lw (v_W_sink_1 hi lw ep ng gn sh) ng gn) (cwV 0 hts (g_call (List.forall_mem_cons.mpr ⟨m1_128, List.forall_mem_cons.mpr ⟨m1_129, List.forall_mem_cons.mpr ⟨m1_130, List.forall_mem_cons.mpr ⟨m1_2, fun _ h => absurd h List.not_mem_nil⟩⟩⟩⟩) m1_131) rfl rfl rfl (by decide +kernel) ⟨Nat.le_of_ble_eq_true rfl, Nat.le_of_ble_eq_true rfl⟩) ⟨fun a U g mk q => by obtain ⟨q0, q1, qP, qK, qD, qN⟩ := q; exact ⟨q0, q1, qP, va_K.moved (u := U) (U := U.calling g mk a) (Vm.Alike.refl U.vm) qK, qD, NW.same (u := U) rfl qN⟩, va_recv hKc hPc (ci := 0) (q0 := 0) rfl rfl, fun U hU hW => ⟨rfl, by rw [hU], by rw [hU]; exact hPc, va_K.moved hW.alike hKc, hDc.weaken (fun _ _ _ _ => trivial), NW.warm hW hN⟩⟩ rfl rfl hl.1 rfl (lv_room (Nat.le_of_ble_eq_true rfl)) dW_sink_31 ⟨Nat.le_of_ble_eq_true rfl, Nat.le_of_ble_eq_true rfl⟩) hS (fun q _ h => hFc q h) hFc (fun w9 u9 t H1 locs ht hvm hw hB hz1 hk1 hS => ?_)
        have e9 : w9 = bI (v_W_sink_8 hi lw ep ng gn sh) := hw
        rw [e9]
        obtain ⟨hP1, hK1, hD1⟩ := hB
        rw [ht] at hP1
        have hK1 := va_K.moved hvm.symm hK1
        have hP1 : va_P (dC, dI) vwCl [(h0, .inr (0, [.long hi, .long lw, .int (v_W_sink_1 hi lw ep ng gn sh), .int (bI ng), .int (bI gn)]))] H1 := hP1
        have hD1 : va_D _ [(h0, .inr (0, [.long hi, .long lw, .int (v_W_sink_1 hi lw ep ng gn sh), .int (bI ng), .int (bI gn)]))] := hD1
        obtain ⟨hP, hD⟩ := va_join (wr := []) (w1 := [(h0, .inr (0, [.long hi, .long lw, .int (v_W_sink_1 hi lw ep ng gn sh), .int (bI ng), .int (bI gn)]))]) hP hD [0] [] rfl rfl (by decide) (by decide) hk1 hFc hP1 hD1
        have hK := (hK.sub (tys' := []) [] rfl).app hK1
        generalize H1 = H at hP hS ⊢
        have hP : va_P (dC, dI) vwCl [(h0, .inr (0, [.long hi, .long lw, .int (v_W_sink_1 hi lw ep ng gn sh), .int (bI ng), .int (bI gn)]))] H := hP
        have hD : va_D A [(h0, .inr (0, [.long hi, .long lw, .int (v_W_sink_1 hi lw ep ng gn sh), .int (bI ng), .int (bI gn)]))] := hD
        have hK : va_K (dC, dI) vwCl [] s := hK
        refine kb_ne (tgt := 41) hx hb dW_sink_34 (by decide) (fun c_10 => ?_) (fun c_10 => ?_)
        · refine lv_iconst (v := 0) hx hb dW_sink_41 (by decide) ?_
          exact J_3 false (((if_neg c_9).trans (if_pos c_10))).symm _ _ (hK.sub [] rfl) (hP.sub [0] rfl) (hD.sub [0] (by decide) rfl) hS ls (lv_sub hl [0] rfl)
        · refine lv_iconst (v := 1) hx hb dW_sink_37 (by decide) ?_
          refine lv_goto (tgt := 42) hx hb dW_sink_38 (by decide) ?_
          exact J_3 true (((if_neg c_9).trans (if_neg c_10))).symm _ _ (hK.sub [] rfl) (hP.sub [0] rfl) (hD.sub [0] (by decide) rfl) hS ls (lv_sub hl [0] rfl)
  · have e9_0 : hi = pW_sink_0 hi lw ep ng gn sh := ((if_neg c_1)).symm
    have e9_1 : lw = pW_sink_1 hi lw ep ng gn sh := ((if_neg c_1)).symm
    have e9_2 : ep = pW_sink_2 hi lw ep ng gn sh := ((if_neg c_1)).symm
    have e9_3 : gn = pW_sink_3 hi lw ep ng gn sh := ((if_neg c_1)).symm
    have hP9 := hP.sub (ws' := [(h0, .inr (0, [.long hi, .long lw, .int ep, .int (bI ng), .int (bI gn)]))]) [0] rfl
    have hD9 := hD.sub (ws' := [(h0, .inr (0, [.long hi, .long lw, .int ep, .int (bI ng), .int (bI gn)]))]) [0] (by decide) rfl
    have hK9 := hK.sub (tys' := []) [] rfl
    have h9 := trW_sink e9_0 e9_1 e9_2 e9_3 ⟨hP9, hD9⟩
    exact W.vret hx hb hr (fun t ht hW => ⟨⟨(), rfl, trivial, by rw [ht]; exact h9.1, va_K.moved hW.alike hK9, h9.2⟩, hS.F ht⟩) hS.2.2 dW_sink_4
def pW_copy_0 (hi : Int64) (lw : Int64) (ep : Int32) (ng : Bool) (gn : Bool) (hi2 : Int64) (lw2 : Int64) (ep2 : Int32) (ng2 : Bool) (gn2 : Bool) : Int64 := hi2
def pW_copy_1 (hi : Int64) (lw : Int64) (ep : Int32) (ng : Bool) (gn : Bool) (hi2 : Int64) (lw2 : Int64) (ep2 : Int32) (ng2 : Bool) (gn2 : Bool) : Int64 := lw2
def pW_copy_2 (hi : Int64) (lw : Int64) (ep : Int32) (ng : Bool) (gn : Bool) (hi2 : Int64) (lw2 : Int64) (ep2 : Int32) (ng2 : Bool) (gn2 : Bool) : Int32 := ep2
def pW_copy_3 (hi : Int64) (lw : Int64) (ep : Int32) (ng : Bool) (gn : Bool) (hi2 : Int64) (lw2 : Int64) (ep2 : Int32) (ng2 : Bool) (gn2 : Bool) : Bool := ng2
def pW_copy_4 (hi : Int64) (lw : Int64) (ep : Int32) (ng : Bool) (gn : Bool) (hi2 : Int64) (lw2 : Int64) (ep2 : Int32) (ng2 : Bool) (gn2 : Bool) : Bool := gn2
/-- W_copy -/
abbrev atW_copy (dC : Nat → ClassId) (dI : Nat → Nat → Nat) (h0 h1 : Nat) (hi : Int64) (lw : Int64) (ep : Int32) (ng : Bool) (gn : Bool) (hi2 : Int64) (lw2 : Int64) (ep2 : Int32) (ng2 : Bool) (gn2 : Bool) (A : Nat → Prop) (t : State) : Prop := va_P (dC, dI) vwCl [(h0, .inr (0, [.long (pW_copy_0 hi lw ep ng gn hi2 lw2 ep2 ng2 gn2), .long (pW_copy_1 hi lw ep ng gn hi2 lw2 ep2 ng2 gn2), .int (pW_copy_2 hi lw ep ng gn hi2 lw2 ep2 ng2 gn2), .int (bI (pW_copy_3 hi lw ep ng gn hi2 lw2 ep2 ng2 gn2)), .int (bI (pW_copy_4 hi lw ep ng gn hi2 lw2 ep2 ng2 gn2))])), (h1, .inr (0, [.long hi2, .long lw2, .int ep2, .int (bI ng2), .int (bI gn2)]))] t.heap ∧ va_K (dC, dI) vwCl [] t ∧ va_D A [(h0, .inr (0, [.long (pW_copy_0 hi lw ep ng gn hi2 lw2 ep2 ng2 gn2), .long (pW_copy_1 hi lw ep ng gn hi2 lw2 ep2 ng2 gn2), .int (pW_copy_2 hi lw ep ng gn hi2 lw2 ep2 ng2 gn2), .int (bI (pW_copy_3 hi lw ep ng gn hi2 lw2 ep2 ng2 gn2)), .int (bI (pW_copy_4 hi lw ep ng gn hi2 lw2 ep2 ng2 gn2))])), (h1, .inr (0, [.long hi2, .long lw2, .int ep2, .int (bI ng2), .int (bI gn2)]))]
theorem trW_copy {dC : Nat → ClassId} {dI : Nat → Nat → Nat} {h0 h1 : Nat} {hi2 : Int64} {lw2 : Int64} {ep2 : Int32} {ng2 : Bool} {gn2 : Bool} {A : Nat → Prop} {H : Heap} {a0 b0 : Int64} {a1 b1 : Int64} {a2 b2 : Int32} {a3 b3 : Bool} {a4 b4 : Bool} (e0 : a0 = b0) (e1 : a1 = b1) (e2 : a2 = b2) (e3 : a3 = b3) (e4 : a4 = b4) (h : va_P (dC, dI) vwCl [(h0, .inr (0, [.long a0, .long a1, .int a2, .int (bI a3), .int (bI a4)])), (h1, .inr (0, [.long hi2, .long lw2, .int ep2, .int (bI ng2), .int (bI gn2)]))] H ∧ va_D A [(h0, .inr (0, [.long a0, .long a1, .int a2, .int (bI a3), .int (bI a4)])), (h1, .inr (0, [.long hi2, .long lw2, .int ep2, .int (bI ng2), .int (bI gn2)]))]) : va_P (dC, dI) vwCl [(h0, .inr (0, [.long b0, .long b1, .int b2, .int (bI b3), .int (bI b4)])), (h1, .inr (0, [.long hi2, .long lw2, .int ep2, .int (bI ng2), .int (bI gn2)]))] H ∧ va_D A [(h0, .inr (0, [.long b0, .long b1, .int b2, .int (bI b3), .int (bI b4)])), (h1, .inr (0, [.long hi2, .long lw2, .int ep2, .int (bI ng2), .int (bI gn2)]))] := by
  subst e0
  subst e1
  subst e2
  subst e3
  subst e4
  exact h
abbrev WW_copy (p : Program) (l : Launch) (e : Env) (s : State) (m : MethodId) (below : List Frame) (meth : Method) (c : Code) (dC : Nat → ClassId) (dI : Nat → Nat → Nat) (h0 h1 : Nat) (hi : Int64) (lw : Int64) (ep : Int32) (ng : Bool) (gn : Bool) (hi2 : Int64) (lw2 : Int64) (ep2 : Int32) (ng2 : Bool) (gn2 : Bool) (A : Nat → Prop) (H : Heap) (locs : List Loc) (g : JFrame) : Prop := W p l e (headSpec wW_copy ({ frames := 0, cells := 0, slots := 0, locals := 0 })).room s m ([.ref h0, .ref h1] : List Value).toArray below meth c H locs 0 0 (MQ below (va_Qv (fun (_ : Unit) => True) (fun _ => atW_copy dC dI h0 h1 hi lw ep ng gn hi2 lw2 ep2 ng2 gn2 A) A) ([.ref h0, .ref h1] : List Value).toArray s 0 0 A) g
set_option maxHeartbeats 4000000 in
set_option maxRecDepth 100000 in
theorem kW_copy (l : Launch) (dC : Nat → ClassId) (dI : Nat → Nat → Nat) (h0 h1 : Nat) (sz : Nat) (hi : Int64) (lw : Int64) (ep : Int32) (ng : Bool) (gn : Bool) (hi2 : Int64) (lw2 : Int64) (ep2 : Int32) (ng2 : Bool) (gn2 : Bool) : Met l yW_copy wW_copy ({ frames := 0, cells := 0, slots := 0, locals := 0 }) (va_Pc [.ref h0, .ref h1] (fun U => U.heap.size = sz ∧ va_P (dC, dI) vwCl [(h0, .inr (0, [.long hi, .long lw, .int ep, .int (bI ng), .int (bI gn)])), (h1, .inr (0, [.long hi2, .long lw2, .int ep2, .int (bI ng2), .int (bI gn2)]))] U.heap ∧ va_K (dC, dI) vwCl [] U ∧ va_D (fun _ => True) [(h0, .inr (0, [.long hi, .long lw, .int ep, .int (bI ng), .int (bI gn)])), (h1, .inr (0, [.long hi2, .long lw2, .int ep2, .int (bI ng2), .int (bI gn2)]))] ∧ NW U)) (va_Qv (fun (_ : Unit) => True) (fun _ => atW_copy dC dI h0 h1 hi lw ep ng gn hi2 lw2 ep2 ng2 gn2 (va_A [(h0, .inr (0, [.long hi, .long lw, .int ep, .int (bI ng), .int (bI gn)])), (h1, .inr (0, [.long hi2, .long lw2, .int ep2, .int (bI ng2), .int (bI gn2)]))] sz)) (va_A [(h0, .inr (0, [.long hi, .long lw, .int ep, .int (bI ng), .int (bI gn)])), (h1, .inr (0, [.long hi2, .long lw2, .int ep2, .int (bI ng2), .int (bI gn2)]))] sz)) 0 0 (va_A [(h0, .inr (0, [.long hi, .long lw, .int ep, .int (bI ng), .int (bI gn)])), (h1, .inr (0, [.long hi2, .long lw2, .int ep2, .int (bI ng2), .int (bI gn2)]))] sz) := by
  refine Met.ofW (cc := cW_copy) (maxL := 2) (ret := none) (by decide) rfl ?_
  intro p e s m args below meth c s₁ B hml hv
  obtain ⟨rfl, hsz, hP, hK, hD0, hN⟩ := hv
  have hx := B.exec
  have hb := B.bytes
  have hr := B.returns
  have hts := atoms_spec (ws := wW_copy) B.pre
  have hown : s.vm.findClass RW = some m.cls := findClass_of_methodNamed B.named
  have hlocks := B.notSynchronized
  subst hsz
  have hD := hD0.self (sz := s.heap.size)
  generalize hAe : va_A [(h0, .inr (0, [.long hi, .long lw, .int ep, .int (bI ng), .int (bI gn)])), (h1, .inr (0, [.long hi2, .long lw2, .int ep2, .int (bI ng2), .int (bI gn2)]))] s.heap.size = A at hD ⊢
  have hA : ∀ q : Nat, s.heap.size ≤ q → A q := fun q h => by rw [← hAe]; exact Or.inr h
  have hS : va_S A s.heap s.heap [] := va_S.rf
  have hP : va_P (dC, dI) vwCl [(h0, .inr (0, [.long hi, .long lw, .int ep, .int (bI ng), .int (bI gn)])), (h1, .inr (0, [.long hi2, .long lw2, .int ep2, .int (bI ng2), .int (bI gn2)]))] s.heap := hP
  have hl := lv_entry ([.ref h0, .ref h1]) (n := 2) (Nat.le_of_ble_eq_true rfl)
  rw [lg_entry_eq]
  generalize (lg_sl ([.ref h0, .ref h1]) ++ List.replicate (2 - (lg_sl ([.ref h0, .ref h1])).length) Slot.unset).toArray = ls at hl ⊢
  have hl : lv_has ls 2 [(0, .ref h0), (1, .ref h1)] := hl
  refine lv_aload_n hx hb dW_copy_0 rfl (lv_at hl 0 rfl) ?_
  refine lv_aload_n hx hb dW_copy_1 rfl (lv_at hl 1 rfl) ?_
  refine va_get (D := (dC, dI)) (ci := 0) (v := .long hi2) (C := RW) (T := TW) (N := 5) hx hb hts (inC iW) hown hK hP 1 rfl rfl 0 (by decide) (hts _ (List.mem_cons_of_mem _ m1_24)) (fun _ h9 => h9) rfl dW_copy_2 ?_
  refine va_put (D := (dC, dI)) (ci := 0) (v := .long hi2) (ty := .long) (C := RW) (T := TW) (N := 5) hx hb hts (inC iW) tyW tyW_ok nmW hown hK hP hD hS 0 rfl rfl 0 (by decide) (hts _ (List.mem_cons_of_mem _ m1_24)) (fun _ h9 => h9) rfl (by decide +kernel) rfl rfl (Nat.le_of_ble_eq_true rfl) dW_copy_5 (fun H locs hP hD hS => ?_)
  have hP : va_P (dC, dI) vwCl [(h0, .inr (0, [.long hi2, .long lw, .int ep, .int (bI ng), .int (bI gn)])), (h1, .inr (0, [.long hi2, .long lw2, .int ep2, .int (bI ng2), .int (bI gn2)]))] H := hP
  have hD : va_D A [(h0, .inr (0, [.long hi2, .long lw, .int ep, .int (bI ng), .int (bI gn)])), (h1, .inr (0, [.long hi2, .long lw2, .int ep2, .int (bI ng2), .int (bI gn2)]))] := hD
  refine lv_aload_n hx hb dW_copy_8 rfl (lv_at hl 0 rfl) ?_
  refine lv_aload_n hx hb dW_copy_9 rfl (lv_at hl 1 rfl) ?_
  refine va_get (D := (dC, dI)) (ci := 0) (v := .long lw2) (C := RW) (T := TW) (N := 5) hx hb hts (inC iW) hown hK hP 1 rfl rfl 1 (by decide) (hts _ (List.mem_cons_of_mem _ m1_26)) (fun _ h9 => h9) rfl dW_copy_10 ?_
  refine va_put (D := (dC, dI)) (ci := 0) (v := .long lw2) (ty := .long) (C := RW) (T := TW) (N := 5) hx hb hts (inC iW) tyW tyW_ok nmW hown hK hP hD hS 0 rfl rfl 1 (by decide) (hts _ (List.mem_cons_of_mem _ m1_26)) (fun _ h9 => h9) rfl (by decide +kernel) rfl rfl (Nat.le_of_ble_eq_true rfl) dW_copy_13 (fun H locs hP hD hS => ?_)
  have hP : va_P (dC, dI) vwCl [(h0, .inr (0, [.long hi2, .long lw2, .int ep, .int (bI ng), .int (bI gn)])), (h1, .inr (0, [.long hi2, .long lw2, .int ep2, .int (bI ng2), .int (bI gn2)]))] H := hP
  have hD : va_D A [(h0, .inr (0, [.long hi2, .long lw2, .int ep, .int (bI ng), .int (bI gn)])), (h1, .inr (0, [.long hi2, .long lw2, .int ep2, .int (bI ng2), .int (bI gn2)]))] := hD
  refine lv_aload_n hx hb dW_copy_16 rfl (lv_at hl 0 rfl) ?_
  refine lv_aload_n hx hb dW_copy_17 rfl (lv_at hl 1 rfl) ?_
  refine va_get (D := (dC, dI)) (ci := 0) (v := .int ep2) (C := RW) (T := TW) (N := 5) hx hb hts (inC iW) hown hK hP 1 rfl rfl 2 (by decide) (hts _ (List.mem_cons_of_mem _ m1_28)) (fun _ h9 => h9) rfl dW_copy_18 ?_
  refine va_put (D := (dC, dI)) (ci := 0) (v := .int ep2) (ty := .int) (C := RW) (T := TW) (N := 5) hx hb hts (inC iW) tyW tyW_ok nmW hown hK hP hD hS 0 rfl rfl 2 (by decide) (hts _ (List.mem_cons_of_mem _ m1_28)) (fun _ h9 => h9) rfl (by decide +kernel) rfl rfl (Nat.le_of_ble_eq_true rfl) dW_copy_21 (fun H locs hP hD hS => ?_)
  have hP : va_P (dC, dI) vwCl [(h0, .inr (0, [.long hi2, .long lw2, .int ep2, .int (bI ng), .int (bI gn)])), (h1, .inr (0, [.long hi2, .long lw2, .int ep2, .int (bI ng2), .int (bI gn2)]))] H := hP
  have hD : va_D A [(h0, .inr (0, [.long hi2, .long lw2, .int ep2, .int (bI ng), .int (bI gn)])), (h1, .inr (0, [.long hi2, .long lw2, .int ep2, .int (bI ng2), .int (bI gn2)]))] := hD
  refine lv_aload_n hx hb dW_copy_24 rfl (lv_at hl 0 rfl) ?_
  refine lv_aload_n hx hb dW_copy_25 rfl (lv_at hl 1 rfl) ?_
  refine va_get (D := (dC, dI)) (ci := 0) (v := .int (bI ng2)) (C := RW) (T := TW) (N := 5) hx hb hts (inC iW) hown hK hP 1 rfl rfl 3 (by decide) (hts _ (List.mem_cons_of_mem _ m1_30)) (fun _ h9 => h9) rfl dW_copy_26 ?_
  refine va_put (D := (dC, dI)) (ci := 0) (v := .int (bI ng2)) (ty := .boolean) (C := RW) (T := TW) (N := 5) hx hb hts (inC iW) tyW tyW_ok nmW hown hK hP hD hS 0 rfl rfl 3 (by decide) (hts _ (List.mem_cons_of_mem _ m1_30)) (fun _ h9 => h9) rfl (by decide +kernel) (nb_z _) (fb_z _) (Nat.le_of_ble_eq_true rfl) dW_copy_29 (fun H locs hP hD hS => ?_)
  have hP : va_P (dC, dI) vwCl [(h0, .inr (0, [.long hi2, .long lw2, .int ep2, .int (bI ng2), .int (bI gn)])), (h1, .inr (0, [.long hi2, .long lw2, .int ep2, .int (bI ng2), .int (bI gn2)]))] H := hP
  have hD : va_D A [(h0, .inr (0, [.long hi2, .long lw2, .int ep2, .int (bI ng2), .int (bI gn)])), (h1, .inr (0, [.long hi2, .long lw2, .int ep2, .int (bI ng2), .int (bI gn2)]))] := hD
  refine lv_aload_n hx hb dW_copy_32 rfl (lv_at hl 0 rfl) ?_
  refine lv_aload_n hx hb dW_copy_33 rfl (lv_at hl 1 rfl) ?_
  refine va_get (D := (dC, dI)) (ci := 0) (v := .int (bI gn2)) (C := RW) (T := TW) (N := 5) hx hb hts (inC iW) hown hK hP 1 rfl rfl 4 (by decide) (hts _ (List.mem_cons_of_mem _ m1_32)) (fun _ h9 => h9) rfl dW_copy_34 ?_
  refine va_put (D := (dC, dI)) (ci := 0) (v := .int (bI gn2)) (ty := .boolean) (C := RW) (T := TW) (N := 5) hx hb hts (inC iW) tyW tyW_ok nmW hown hK hP hD hS 0 rfl rfl 4 (by decide) (hts _ (List.mem_cons_of_mem _ m1_32)) (fun _ h9 => h9) rfl (by decide +kernel) (nb_z _) (fb_z _) (Nat.le_of_ble_eq_true rfl) dW_copy_37 (fun H locs hP hD hS => ?_)
  have hP : va_P (dC, dI) vwCl [(h0, .inr (0, [.long hi2, .long lw2, .int ep2, .int (bI ng2), .int (bI gn2)])), (h1, .inr (0, [.long hi2, .long lw2, .int ep2, .int (bI ng2), .int (bI gn2)]))] H := hP
  have hD : va_D A [(h0, .inr (0, [.long hi2, .long lw2, .int ep2, .int (bI ng2), .int (bI gn2)])), (h1, .inr (0, [.long hi2, .long lw2, .int ep2, .int (bI ng2), .int (bI gn2)]))] := hD
  have e9_0 : hi2 = pW_copy_0 hi lw ep ng gn hi2 lw2 ep2 ng2 gn2 := (rfl).symm
  have e9_1 : lw2 = pW_copy_1 hi lw ep ng gn hi2 lw2 ep2 ng2 gn2 := (rfl).symm
  have e9_2 : ep2 = pW_copy_2 hi lw ep ng gn hi2 lw2 ep2 ng2 gn2 := (rfl).symm
  have e9_3 : ng2 = pW_copy_3 hi lw ep ng gn hi2 lw2 ep2 ng2 gn2 := (rfl).symm
  have e9_4 : gn2 = pW_copy_4 hi lw ep ng gn hi2 lw2 ep2 ng2 gn2 := (rfl).symm
  have hP9 := hP.sub (ws' := [(h0, .inr (0, [.long hi2, .long lw2, .int ep2, .int (bI ng2), .int (bI gn2)])), (h1, .inr (0, [.long hi2, .long lw2, .int ep2, .int (bI ng2), .int (bI gn2)]))]) [0, 1] rfl
  have hD9 := hD.sub (ws' := [(h0, .inr (0, [.long hi2, .long lw2, .int ep2, .int (bI ng2), .int (bI gn2)])), (h1, .inr (0, [.long hi2, .long lw2, .int ep2, .int (bI ng2), .int (bI gn2)]))]) [0, 1] (by decide) rfl
  have hK9 := hK.sub (tys' := []) [] rfl
  have h9 := trW_copy e9_0 e9_1 e9_2 e9_3 e9_4 ⟨hP9, hD9⟩
  exact W.vret hx hb hr (fun t ht hW => ⟨⟨(), rfl, trivial, by rw [ht]; exact h9.1, va_K.moved hW.alike hK9, h9.2⟩, hS.F ht⟩) hS.2.2 dW_copy_40
def v_W_isBelow_1 (hi : Int64) (lw : Int64) (ep : Int32) (ng : Bool) (gn : Bool) (hi2 : Int64) (lw2 : Int64) (ep2 : Int32) (ng2 : Bool) (gn2 : Bool) : Bool := (if hi = hi2 then pW_isLess lw lw2 else (if hi2 ≤ hi then false else true))
def pW_isBelow (hi : Int64) (lw : Int64) (ep : Int32) (ng : Bool) (gn : Bool) (hi2 : Int64) (lw2 : Int64) (ep2 : Int32) (ng2 : Bool) (gn2 : Bool) : Bool := (v_W_isBelow_1 hi lw ep ng gn hi2 lw2 ep2 ng2 gn2)
/-- W_isBelow -/
abbrev atW_isBelow (dC : Nat → ClassId) (dI : Nat → Nat → Nat) (h0 h1 : Nat) (hi : Int64) (lw : Int64) (ep : Int32) (ng : Bool) (gn : Bool) (hi2 : Int64) (lw2 : Int64) (ep2 : Int32) (ng2 : Bool) (gn2 : Bool) (A : Nat → Prop) (t : State) : Prop := va_P (dC, dI) vwCl [(h0, .inr (0, [.long hi, .long lw, .int ep, .int (bI ng), .int (bI gn)])), (h1, .inr (0, [.long hi2, .long lw2, .int ep2, .int (bI ng2), .int (bI gn2)]))] t.heap ∧ va_K (dC, dI) vwCl [] t ∧ va_D A [(h0, .inr (0, [.long hi, .long lw, .int ep, .int (bI ng), .int (bI gn)])), (h1, .inr (0, [.long hi2, .long lw2, .int ep2, .int (bI ng2), .int (bI gn2)]))]
abbrev WW_isBelow (p : Program) (l : Launch) (e : Env) (s : State) (m : MethodId) (below : List Frame) (meth : Method) (c : Code) (dC : Nat → ClassId) (dI : Nat → Nat → Nat) (h0 h1 : Nat) (hi : Int64) (lw : Int64) (ep : Int32) (ng : Bool) (gn : Bool) (hi2 : Int64) (lw2 : Int64) (ep2 : Int32) (ng2 : Bool) (gn2 : Bool) (A : Nat → Prop) (H : Heap) (locs : List Loc) (g : JFrame) : Prop := W p l e (headSpec wW_isBelow ({ frames := 1, cells := 0, slots := 0, locals := 23 })).room s m ([.ref h0, .ref h1] : List Value).toArray below meth c H locs 0 0 (MQ below (va_Qi (fun (r : Int32) (_ : Unit) => r = bI (pW_isBelow hi lw ep ng gn hi2 lw2 ep2 ng2 gn2)) (fun _ => atW_isBelow dC dI h0 h1 hi lw ep ng gn hi2 lw2 ep2 ng2 gn2 A) A) ([.ref h0, .ref h1] : List Value).toArray s 0 0 A) g
set_option maxHeartbeats 4000000 in
set_option maxRecDepth 100000 in
theorem kW_isBelow (l : Launch) (dC : Nat → ClassId) (dI : Nat → Nat → Nat) (h0 h1 : Nat) (sz : Nat) (hi : Int64) (lw : Int64) (ep : Int32) (ng : Bool) (gn : Bool) (hi2 : Int64) (lw2 : Int64) (ep2 : Int32) (ng2 : Bool) (gn2 : Bool) : Met l yW_isBelow wW_isBelow ({ frames := 1, cells := 0, slots := 0, locals := 23 }) (va_Pc [.ref h0, .ref h1] (fun U => U.heap.size = sz ∧ va_P (dC, dI) vwCl [(h0, .inr (0, [.long hi, .long lw, .int ep, .int (bI ng), .int (bI gn)])), (h1, .inr (0, [.long hi2, .long lw2, .int ep2, .int (bI ng2), .int (bI gn2)]))] U.heap ∧ va_K (dC, dI) vwCl [] U ∧ va_D (fun _ => True) [(h0, .inr (0, [.long hi, .long lw, .int ep, .int (bI ng), .int (bI gn)])), (h1, .inr (0, [.long hi2, .long lw2, .int ep2, .int (bI ng2), .int (bI gn2)]))] ∧ NW U)) (va_Qi (fun (r : Int32) (_ : Unit) => r = bI (pW_isBelow hi lw ep ng gn hi2 lw2 ep2 ng2 gn2)) (fun _ => atW_isBelow dC dI h0 h1 hi lw ep ng gn hi2 lw2 ep2 ng2 gn2 (va_A [(h0, .inr (0, [.long hi, .long lw, .int ep, .int (bI ng), .int (bI gn)])), (h1, .inr (0, [.long hi2, .long lw2, .int ep2, .int (bI ng2), .int (bI gn2)]))] sz)) (va_A [(h0, .inr (0, [.long hi, .long lw, .int ep, .int (bI ng), .int (bI gn)])), (h1, .inr (0, [.long hi2, .long lw2, .int ep2, .int (bI ng2), .int (bI gn2)]))] sz)) 0 0 (va_A [(h0, .inr (0, [.long hi, .long lw, .int ep, .int (bI ng), .int (bI gn)])), (h1, .inr (0, [.long hi2, .long lw2, .int ep2, .int (bI ng2), .int (bI gn2)]))] sz) := by
  refine Met.ofW (cc := cW_isBelow) (maxL := 2) (ret := (some .boolean)) (by decide) rfl ?_
  intro p e s m args below meth c s₁ B hml hv
  obtain ⟨rfl, hsz, hP, hK, hD0, hN⟩ := hv
  have hx := B.exec
  have hb := B.bytes
  have hr := B.returns
  have hts := atoms_spec (ws := wW_isBelow) B.pre
  have hown : s.vm.findClass RW = some m.cls := findClass_of_methodNamed B.named
  have hlocks := B.notSynchronized
  subst hsz
  have hD := hD0.self (sz := s.heap.size)
  generalize hAe : va_A [(h0, .inr (0, [.long hi, .long lw, .int ep, .int (bI ng), .int (bI gn)])), (h1, .inr (0, [.long hi2, .long lw2, .int ep2, .int (bI ng2), .int (bI gn2)]))] s.heap.size = A at hD ⊢
  have hA : ∀ q : Nat, s.heap.size ≤ q → A q := fun q h => by rw [← hAe]; exact Or.inr h
  have hS : va_S A s.heap s.heap [] := va_S.rf
  have hP : va_P (dC, dI) vwCl [(h0, .inr (0, [.long hi, .long lw, .int ep, .int (bI ng), .int (bI gn)])), (h1, .inr (0, [.long hi2, .long lw2, .int ep2, .int (bI ng2), .int (bI gn2)]))] s.heap := hP
  have hl := lv_entry ([.ref h0, .ref h1]) (n := 2) (Nat.le_of_ble_eq_true rfl)
  rw [lg_entry_eq]
  generalize (lg_sl ([.ref h0, .ref h1]) ++ List.replicate (2 - (lg_sl ([.ref h0, .ref h1])).length) Slot.unset).toArray = ls at hl ⊢
  have hl : lv_has ls 2 [(0, .ref h0), (1, .ref h1)] := hl
  refine lv_aload_n hx hb dW_isBelow_0 rfl (lv_at hl 0 rfl) ?_
  refine va_get (D := (dC, dI)) (ci := 0) (v := .long hi) (C := RW) (T := TW) (N := 5) hx hb hts (inC iW) hown hK hP 0 rfl rfl 0 (by decide) (hts _ (List.mem_cons_of_mem _ m1_24)) (fun _ h9 => h9) rfl dW_isBelow_1 ?_
  refine lv_aload_n hx hb dW_isBelow_4 rfl (lv_at hl 1 rfl) ?_
  refine va_get (D := (dC, dI)) (ci := 0) (v := .long hi2) (C := RW) (T := TW) (N := 5) hx hb hts (inC iW) hown hK hP 1 rfl rfl 0 (by decide) (hts _ (List.mem_cons_of_mem _ m1_24)) (fun _ h9 => h9) rfl dW_isBelow_5 ?_
  refine W.lcmp hx hb dW_isBelow_8 ?_
  have J_1 : ∀ (w_0 : Bool), w_0 = (v_W_isBelow_1 hi lw ep ng gn hi2 lw2 ep2 ng2 gn2) → ∀ (H : Heap) (locs : List Loc), va_K (dC, dI) vwCl [] s → va_P (dC, dI) vwCl [(h0, .inr (0, [.long hi, .long lw, .int ep, .int (bI ng), .int (bI gn)])), (h1, .inr (0, [.long hi2, .long lw2, .int ep2, .int (bI ng2), .int (bI gn2)]))] H → va_D A [(h0, .inr (0, [.long hi, .long lw, .int ep, .int (bI ng), .int (bI gn)])), (h1, .inr (0, [.long hi2, .long lw2, .int ep2, .int (bI ng2), .int (bI gn2)]))] → va_S A s.heap H locs → ∀ (ls : Array Slot), lv_has ls 2 [] → WW_isBelow p l e s m below meth c dC dI h0 h1 hi lw ep ng gn hi2 lw2 ep2 ng2 gn2 A H locs (F0 m 43 ls [.int (bI w_0)]) := by
    intro w_0 e_0
    rw [e_0]
    intro H locs hK hP hD hS ls hl
    have e9 : (v_W_isBelow_1 hi lw ep ng gn hi2 lw2 ep2 ng2 gn2) = pW_isBelow hi lw ep ng gn hi2 lw2 ep2 ng2 gn2 := (rfl).symm
    have hP9 := hP.sub (ws' := [(h0, .inr (0, [.long hi, .long lw, .int ep, .int (bI ng), .int (bI gn)])), (h1, .inr (0, [.long hi2, .long lw2, .int ep2, .int (bI ng2), .int (bI gn2)]))]) [0, 1] rfl
    have hD9 := hD.sub (ws' := [(h0, .inr (0, [.long hi, .long lw, .int ep, .int (bI ng), .int (bI gn)])), (h1, .inr (0, [.long hi2, .long lw2, .int ep2, .int (bI ng2), .int (bI gn2)]))]) [0, 1] (by decide) rfl
    have hK9 := hK.sub (tys' := []) [] rfl
    have h9 := And.intro hP9 hD9
    exact W.zret (v := bI (v_W_isBelow_1 hi lw ep ng gn hi2 lw2 ep2 ng2 gn2)) hx hb hr (nb_z _) (fun t ht hW => ⟨⟨bI (v_W_isBelow_1 hi lw ep ng gn hi2 lw2 ep2 ng2 gn2), (), rfl, congrArg bI e9, by rw [ht]; exact h9.1, va_K.moved hW.alike hK9, h9.2⟩, hS.F ht⟩) hS.2.2 dW_isBelow_43
  refine lv_if_eq (tgt := 32) hx hb dW_isBelow_9 (by decide) (fun c_1 => ?_) (fun c_1 => ?_)
  · have c_1 : hi = hi2 := (lg_cmp_eq _ _).mp c_1
    refine lv_aload_n hx hb dW_isBelow_32 rfl (lv_at hl 0 rfl) ?_
    refine va_get (D := (dC, dI)) (ci := 0) (v := .long lw) (C := RW) (T := TW) (N := 5) hx hb hts (inC iW) hown hK hP 0 rfl rfl 1 (by decide) (hts _ (List.mem_cons_of_mem _ m1_26)) (fun _ h9 => h9) rfl dW_isBelow_33 ?_
    refine lv_aload_n hx hb dW_isBelow_36 rfl (lv_at hl 1 rfl) ?_
    refine va_get (D := (dC, dI)) (ci := 0) (v := .long lw2) (C := RW) (T := TW) (N := 5) hx hb hts (inC iW) hown hK hP 1 rfl rfl 1 (by decide) (hts _ (List.mem_cons_of_mem _ m1_26)) (fun _ h9 => h9) rfl dW_isBelow_37 ?_
    refine k_call (W.runS (As := [.long lw, .long lw2]) (rest := []) ⟨hx, hb, hml, hown, hts⟩ (kW_isLess l lw lw2) (cwS 2 hts (g_call (List.forall_mem_cons.mpr ⟨m1_158, List.forall_mem_cons.mpr ⟨m1_159, List.forall_mem_cons.mpr ⟨m1_2, fun _ h => absurd h List.not_mem_nil⟩⟩⟩) m1_160) rfl rfl rfl (by decide +kernel) ⟨Nat.le_of_ble_eq_true rfl, Nat.le_of_ble_eq_true rfl⟩) preEq rfl rfl hl.1 rfl (lv_room (Nat.le_of_ble_eq_true rfl)) dW_isBelow_40 ⟨Nat.le_of_ble_eq_true rfl, Nat.le_of_ble_eq_true rfl⟩) ?_
    exact J_1 (pW_isLess lw lw2) ((if_pos c_1)).symm _ _ (hK.sub [] rfl) (hP.sub [0, 1] rfl) (hD.sub [0, 1] (by decide) rfl) hS ls (lv_sub hl [] rfl)
  · have c_1 : ¬ (hi = hi2) := fun h => c_1 ((lg_cmp_eq _ _).mpr h)
    refine lv_aload_n hx hb dW_isBelow_12 rfl (lv_at hl 0 rfl) ?_
    refine va_get (D := (dC, dI)) (ci := 0) (v := .long hi) (C := RW) (T := TW) (N := 5) hx hb hts (inC iW) hown hK hP 0 rfl rfl 0 (by decide) (hts _ (List.mem_cons_of_mem _ m1_24)) (fun _ h9 => h9) rfl dW_isBelow_13 ?_
    refine lv_aload_n hx hb dW_isBelow_16 rfl (lv_at hl 1 rfl) ?_
    refine va_get (D := (dC, dI)) (ci := 0) (v := .long hi2) (C := RW) (T := TW) (N := 5) hx hb hts (inC iW) hown hK hP 1 rfl rfl 0 (by decide) (hts _ (List.mem_cons_of_mem _ m1_24)) (fun _ h9 => h9) rfl dW_isBelow_17 ?_
    refine W.lcmp hx hb dW_isBelow_20 ?_
    refine lv_if_ge (tgt := 28) hx hb dW_isBelow_21 (by decide) (fun c_2 => ?_) (fun c_2 => ?_)
    · have c_2 : hi2 ≤ hi := (lg_cmp_ge _ _).mp c_2
      refine lv_iconst (v := 0) hx hb dW_isBelow_28 (by decide) ?_
      refine lv_goto (tgt := 43) hx hb dW_isBelow_29 (by decide) ?_
      exact J_1 false (((if_neg c_1).trans (if_pos c_2))).symm _ _ (hK.sub [] rfl) (hP.sub [0, 1] rfl) (hD.sub [0, 1] (by decide) rfl) hS ls (lv_sub hl [] rfl)
    · have c_2 : ¬ (hi2 ≤ hi) := fun h => c_2 ((lg_cmp_ge _ _).mpr h)
      refine lv_iconst (v := 1) hx hb dW_isBelow_24 (by decide) ?_
      refine lv_goto (tgt := 43) hx hb dW_isBelow_25 (by decide) ?_
      exact J_1 true (((if_neg c_1).trans (if_neg c_2))).symm _ _ (hK.sub [] rfl) (hP.sub [0, 1] rfl) (hD.sub [0, 1] (by decide) rfl) hS ls (lv_sub hl [] rfl)
def v_W_raise_1 (hi : Int64) (lw : Int64) (ep : Int32) (ng : Bool) (gn : Bool) (hi2 : Int64) (lw2 : Int64) (ep2 : Int32) (ng2 : Bool) (gn2 : Bool) : Int64 := lw + lw2
def v_W_raise_2 (hi : Int64) (lw : Int64) (ep : Int32) (ng : Bool) (gn : Bool) (hi2 : Int64) (lw2 : Int64) (ep2 : Int32) (ng2 : Bool) (gn2 : Bool) : Bool := (if (pW_isLess (v_W_raise_1 hi lw ep ng gn hi2 lw2 ep2 ng2 gn2) lw2) = true then true else false)
def v_W_raise_3 (hi : Int64) (lw : Int64) (ep : Int32) (ng : Bool) (gn : Bool) (hi2 : Int64) (lw2 : Int64) (ep2 : Int32) (ng2 : Bool) (gn2 : Bool) : Int64 := hi + (hi2 + ((bI (v_W_raise_2 hi lw ep ng gn hi2 lw2 ep2 ng2 gn2)).toInt64))
def v_W_raise_4 (hi : Int64) (lw : Int64) (ep : Int32) (ng : Bool) (gn : Bool) (hi2 : Int64) (lw2 : Int64) (ep2 : Int32) (ng2 : Bool) (gn2 : Bool) : Bool := (if gn = true then true else (if gn2 = true then true else false))
def pW_raise_0 (hi : Int64) (lw : Int64) (ep : Int32) (ng : Bool) (gn : Bool) (hi2 : Int64) (lw2 : Int64) (ep2 : Int32) (ng2 : Bool) (gn2 : Bool) : Int64 := (v_W_raise_3 hi lw ep ng gn hi2 lw2 ep2 ng2 gn2)
def pW_raise_1 (hi : Int64) (lw : Int64) (ep : Int32) (ng : Bool) (gn : Bool) (hi2 : Int64) (lw2 : Int64) (ep2 : Int32) (ng2 : Bool) (gn2 : Bool) : Int64 := (v_W_raise_1 hi lw ep ng gn hi2 lw2 ep2 ng2 gn2)
def pW_raise_2 (hi : Int64) (lw : Int64) (ep : Int32) (ng : Bool) (gn : Bool) (hi2 : Int64) (lw2 : Int64) (ep2 : Int32) (ng2 : Bool) (gn2 : Bool) : Bool := (v_W_raise_4 hi lw ep ng gn hi2 lw2 ep2 ng2 gn2)
/-- W_raise -/
abbrev atW_raise (dC : Nat → ClassId) (dI : Nat → Nat → Nat) (h0 h1 : Nat) (hi : Int64) (lw : Int64) (ep : Int32) (ng : Bool) (gn : Bool) (hi2 : Int64) (lw2 : Int64) (ep2 : Int32) (ng2 : Bool) (gn2 : Bool) (A : Nat → Prop) (t : State) : Prop := va_P (dC, dI) vwCl [(h0, .inr (0, [.long (pW_raise_0 hi lw ep ng gn hi2 lw2 ep2 ng2 gn2), .long (pW_raise_1 hi lw ep ng gn hi2 lw2 ep2 ng2 gn2), .int ep, .int (bI ng), .int (bI (pW_raise_2 hi lw ep ng gn hi2 lw2 ep2 ng2 gn2))])), (h1, .inr (0, [.long hi2, .long lw2, .int ep2, .int (bI ng2), .int (bI gn2)]))] t.heap ∧ va_K (dC, dI) vwCl [] t ∧ va_D A [(h0, .inr (0, [.long (pW_raise_0 hi lw ep ng gn hi2 lw2 ep2 ng2 gn2), .long (pW_raise_1 hi lw ep ng gn hi2 lw2 ep2 ng2 gn2), .int ep, .int (bI ng), .int (bI (pW_raise_2 hi lw ep ng gn hi2 lw2 ep2 ng2 gn2))])), (h1, .inr (0, [.long hi2, .long lw2, .int ep2, .int (bI ng2), .int (bI gn2)]))]
theorem trW_raise {dC : Nat → ClassId} {dI : Nat → Nat → Nat} {h0 h1 : Nat} {ep : Int32} {ng : Bool} {hi2 : Int64} {lw2 : Int64} {ep2 : Int32} {ng2 : Bool} {gn2 : Bool} {A : Nat → Prop} {H : Heap} {a0 b0 : Int64} {a1 b1 : Int64} {a2 b2 : Bool} (e0 : a0 = b0) (e1 : a1 = b1) (e2 : a2 = b2) (h : va_P (dC, dI) vwCl [(h0, .inr (0, [.long a0, .long a1, .int ep, .int (bI ng), .int (bI a2)])), (h1, .inr (0, [.long hi2, .long lw2, .int ep2, .int (bI ng2), .int (bI gn2)]))] H ∧ va_D A [(h0, .inr (0, [.long a0, .long a1, .int ep, .int (bI ng), .int (bI a2)])), (h1, .inr (0, [.long hi2, .long lw2, .int ep2, .int (bI ng2), .int (bI gn2)]))]) : va_P (dC, dI) vwCl [(h0, .inr (0, [.long b0, .long b1, .int ep, .int (bI ng), .int (bI b2)])), (h1, .inr (0, [.long hi2, .long lw2, .int ep2, .int (bI ng2), .int (bI gn2)]))] H ∧ va_D A [(h0, .inr (0, [.long b0, .long b1, .int ep, .int (bI ng), .int (bI b2)])), (h1, .inr (0, [.long hi2, .long lw2, .int ep2, .int (bI ng2), .int (bI gn2)]))] := by
  subst e0
  subst e1
  subst e2
  exact h
abbrev WW_raise (p : Program) (l : Launch) (e : Env) (s : State) (m : MethodId) (below : List Frame) (meth : Method) (c : Code) (dC : Nat → ClassId) (dI : Nat → Nat → Nat) (h0 h1 : Nat) (hi : Int64) (lw : Int64) (ep : Int32) (ng : Bool) (gn : Bool) (hi2 : Int64) (lw2 : Int64) (ep2 : Int32) (ng2 : Bool) (gn2 : Bool) (A : Nat → Prop) (H : Heap) (locs : List Loc) (g : JFrame) : Prop := W p l e (headSpec wW_raise ({ frames := 1, cells := 0, slots := 0, locals := 23 })).room s m ([.ref h0, .ref h1] : List Value).toArray below meth c H locs 0 0 (MQ below (va_Qv (fun (_ : Unit) => True) (fun _ => atW_raise dC dI h0 h1 hi lw ep ng gn hi2 lw2 ep2 ng2 gn2 A) A) ([.ref h0, .ref h1] : List Value).toArray s 0 0 A) g
set_option maxHeartbeats 4000000 in
set_option maxRecDepth 100000 in
theorem kW_raise (l : Launch) (dC : Nat → ClassId) (dI : Nat → Nat → Nat) (h0 h1 : Nat) (sz : Nat) (hi : Int64) (lw : Int64) (ep : Int32) (ng : Bool) (gn : Bool) (hi2 : Int64) (lw2 : Int64) (ep2 : Int32) (ng2 : Bool) (gn2 : Bool) : Met l yW_raise wW_raise ({ frames := 1, cells := 0, slots := 0, locals := 23 }) (va_Pc [.ref h0, .ref h1] (fun U => U.heap.size = sz ∧ va_P (dC, dI) vwCl [(h0, .inr (0, [.long hi, .long lw, .int ep, .int (bI ng), .int (bI gn)])), (h1, .inr (0, [.long hi2, .long lw2, .int ep2, .int (bI ng2), .int (bI gn2)]))] U.heap ∧ va_K (dC, dI) vwCl [] U ∧ va_D (fun _ => True) [(h0, .inr (0, [.long hi, .long lw, .int ep, .int (bI ng), .int (bI gn)])), (h1, .inr (0, [.long hi2, .long lw2, .int ep2, .int (bI ng2), .int (bI gn2)]))] ∧ NW U)) (va_Qv (fun (_ : Unit) => True) (fun _ => atW_raise dC dI h0 h1 hi lw ep ng gn hi2 lw2 ep2 ng2 gn2 (va_A [(h0, .inr (0, [.long hi, .long lw, .int ep, .int (bI ng), .int (bI gn)])), (h1, .inr (0, [.long hi2, .long lw2, .int ep2, .int (bI ng2), .int (bI gn2)]))] sz)) (va_A [(h0, .inr (0, [.long hi, .long lw, .int ep, .int (bI ng), .int (bI gn)])), (h1, .inr (0, [.long hi2, .long lw2, .int ep2, .int (bI ng2), .int (bI gn2)]))] sz)) 0 0 (va_A [(h0, .inr (0, [.long hi, .long lw, .int ep, .int (bI ng), .int (bI gn)])), (h1, .inr (0, [.long hi2, .long lw2, .int ep2, .int (bI ng2), .int (bI gn2)]))] sz) := by
  refine Met.ofW (cc := cW_raise) (maxL := 2) (ret := none) (by decide) rfl ?_
  intro p e s m args below meth c s₁ B hml hv
  obtain ⟨rfl, hsz, hP, hK, hD0, hN⟩ := hv
  have hx := B.exec
  have hb := B.bytes
  have hr := B.returns
  have hts := atoms_spec (ws := wW_raise) B.pre
  have hown : s.vm.findClass RW = some m.cls := findClass_of_methodNamed B.named
  have hlocks := B.notSynchronized
  subst hsz
  have hD := hD0.self (sz := s.heap.size)
  generalize hAe : va_A [(h0, .inr (0, [.long hi, .long lw, .int ep, .int (bI ng), .int (bI gn)])), (h1, .inr (0, [.long hi2, .long lw2, .int ep2, .int (bI ng2), .int (bI gn2)]))] s.heap.size = A at hD ⊢
  have hA : ∀ q : Nat, s.heap.size ≤ q → A q := fun q h => by rw [← hAe]; exact Or.inr h
  have hS : va_S A s.heap s.heap [] := va_S.rf
  have hP : va_P (dC, dI) vwCl [(h0, .inr (0, [.long hi, .long lw, .int ep, .int (bI ng), .int (bI gn)])), (h1, .inr (0, [.long hi2, .long lw2, .int ep2, .int (bI ng2), .int (bI gn2)]))] s.heap := hP
  have hl := lv_entry ([.ref h0, .ref h1]) (n := 2) (Nat.le_of_ble_eq_true rfl)
  rw [lg_entry_eq]
  generalize (lg_sl ([.ref h0, .ref h1]) ++ List.replicate (2 - (lg_sl ([.ref h0, .ref h1])).length) Slot.unset).toArray = ls at hl ⊢
  have hl : lv_has ls 2 [(0, .ref h0), (1, .ref h1)] := hl
  refine lv_aload_n hx hb dW_raise_0 rfl (lv_at hl 0 rfl) ?_
  refine lv_dup hx hb dW_raise_1 rfl ?_
  refine va_get (D := (dC, dI)) (ci := 0) (v := .long lw) (C := RW) (T := TW) (N := 5) hx hb hts (inC iW) hown hK hP 0 rfl rfl 1 (by decide) (hts _ (List.mem_cons_of_mem _ m1_26)) (fun _ h9 => h9) rfl dW_raise_2 ?_
  refine lv_aload_n hx hb dW_raise_5 rfl (lv_at hl 1 rfl) ?_
  refine va_get (D := (dC, dI)) (ci := 0) (v := .long lw2) (C := RW) (T := TW) (N := 5) hx hb hts (inC iW) hown hK hP 1 rfl rfl 1 (by decide) (hts _ (List.mem_cons_of_mem _ m1_26)) (fun _ h9 => h9) rfl dW_raise_6 ?_
  refine lv_ladd hx hb dW_raise_9 ?_
  refine lv_topl (fun w9 e9 => ?_)
  have e9 : w9 = (v_W_raise_1 hi lw ep ng gn hi2 lw2 ep2 ng2 gn2) := e9
  rw [e9]
  refine va_put (D := (dC, dI)) (ci := 0) (v := .long (v_W_raise_1 hi lw ep ng gn hi2 lw2 ep2 ng2 gn2)) (ty := .long) (C := RW) (T := TW) (N := 5) hx hb hts (inC iW) tyW tyW_ok nmW hown hK hP hD hS 0 rfl rfl 1 (by decide) (hts _ (List.mem_cons_of_mem _ m1_26)) (fun _ h9 => h9) rfl (by decide +kernel) rfl rfl (Nat.le_of_ble_eq_true rfl) dW_raise_10 (fun H locs hP hD hS => ?_)
  have hP : va_P (dC, dI) vwCl [(h0, .inr (0, [.long hi, .long (v_W_raise_1 hi lw ep ng gn hi2 lw2 ep2 ng2 gn2), .int ep, .int (bI ng), .int (bI gn)])), (h1, .inr (0, [.long hi2, .long lw2, .int ep2, .int (bI ng2), .int (bI gn2)]))] H := hP
  have hD : va_D A [(h0, .inr (0, [.long hi, .long (v_W_raise_1 hi lw ep ng gn hi2 lw2 ep2 ng2 gn2), .int ep, .int (bI ng), .int (bI gn)])), (h1, .inr (0, [.long hi2, .long lw2, .int ep2, .int (bI ng2), .int (bI gn2)]))] := hD
  refine lv_aload_n hx hb dW_raise_13 rfl (lv_at hl 0 rfl) ?_
  refine lv_dup hx hb dW_raise_14 rfl ?_
  refine va_get (D := (dC, dI)) (ci := 0) (v := .long hi) (C := RW) (T := TW) (N := 5) hx hb hts (inC iW) hown hK hP 0 rfl rfl 0 (by decide) (hts _ (List.mem_cons_of_mem _ m1_24)) (fun _ h9 => h9) rfl dW_raise_15 ?_
  refine lv_aload_n hx hb dW_raise_18 rfl (lv_at hl 1 rfl) ?_
  refine va_get (D := (dC, dI)) (ci := 0) (v := .long hi2) (C := RW) (T := TW) (N := 5) hx hb hts (inC iW) hown hK hP 1 rfl rfl 0 (by decide) (hts _ (List.mem_cons_of_mem _ m1_24)) (fun _ h9 => h9) rfl dW_raise_19 ?_
  refine lv_aload_n hx hb dW_raise_22 rfl (lv_at hl 0 rfl) ?_
  refine va_get (D := (dC, dI)) (ci := 0) (v := .long (v_W_raise_1 hi lw ep ng gn hi2 lw2 ep2 ng2 gn2)) (C := RW) (T := TW) (N := 5) hx hb hts (inC iW) hown hK hP 0 rfl rfl 1 (by decide) (hts _ (List.mem_cons_of_mem _ m1_26)) (fun _ h9 => h9) rfl dW_raise_23 ?_
  refine lv_aload_n hx hb dW_raise_26 rfl (lv_at hl 1 rfl) ?_
  refine va_get (D := (dC, dI)) (ci := 0) (v := .long lw2) (C := RW) (T := TW) (N := 5) hx hb hts (inC iW) hown hK hP 1 rfl rfl 1 (by decide) (hts _ (List.mem_cons_of_mem _ m1_26)) (fun _ h9 => h9) rfl dW_raise_27 ?_
  refine k_call (W.runS (As := [.long (v_W_raise_1 hi lw ep ng gn hi2 lw2 ep2 ng2 gn2), .long lw2]) (rest := [.long hi2, .long hi, .ref h0]) ⟨hx, hb, hml, hown, hts⟩ (kW_isLess l (v_W_raise_1 hi lw ep ng gn hi2 lw2 ep2 ng2 gn2) lw2) (cwS 2 hts (g_call (List.forall_mem_cons.mpr ⟨m1_158, List.forall_mem_cons.mpr ⟨m1_159, List.forall_mem_cons.mpr ⟨m1_2, fun _ h => absurd h List.not_mem_nil⟩⟩⟩) m1_160) rfl rfl rfl (by decide +kernel) ⟨Nat.le_of_ble_eq_true rfl, Nat.le_of_ble_eq_true rfl⟩) preEq rfl rfl hl.1 rfl (lv_room (Nat.le_of_ble_eq_true rfl)) dW_raise_30 ⟨Nat.le_of_ble_eq_true rfl, Nat.le_of_ble_eq_true rfl⟩) ?_
  have J_1 : ∀ (w_0 : Bool), w_0 = (v_W_raise_2 hi lw ep ng gn hi2 lw2 ep2 ng2 gn2) → ∀ (H : Heap) (locs : List Loc), va_K (dC, dI) vwCl [] s → va_P (dC, dI) vwCl [(h0, .inr (0, [.long hi, .long (v_W_raise_1 hi lw ep ng gn hi2 lw2 ep2 ng2 gn2), .int ep, .int (bI ng), .int (bI gn)])), (h1, .inr (0, [.long hi2, .long lw2, .int ep2, .int (bI ng2), .int (bI gn2)]))] H → va_D A [(h0, .inr (0, [.long hi, .long (v_W_raise_1 hi lw ep ng gn hi2 lw2 ep2 ng2 gn2), .int ep, .int (bI ng), .int (bI gn)])), (h1, .inr (0, [.long hi2, .long lw2, .int ep2, .int (bI ng2), .int (bI gn2)]))] → va_S A s.heap H locs → ∀ (ls : Array Slot), lv_has ls 2 [(0, .ref h0), (1, .ref h1)] → WW_raise p l e s m below meth c dC dI h0 h1 hi lw ep ng gn hi2 lw2 ep2 ng2 gn2 A H locs (F0 m 41 ls [.int (bI w_0), .long hi2, .long hi, .ref h0]) := by
    intro w_0 e_0
    rw [e_0]
    intro H locs hK hP hD hS ls hl
    refine lv_i2l (v := (bI (v_W_raise_2 hi lw ep ng gn hi2 lw2 ep2 ng2 gn2)).toInt64) hx hb dW_raise_41 rfl ?_
    refine lv_ladd hx hb dW_raise_42 ?_
    refine lv_ladd hx hb dW_raise_43 ?_
    refine lv_topl (fun w9 e9 => ?_)
    have e9 : w9 = (v_W_raise_3 hi lw ep ng gn hi2 lw2 ep2 ng2 gn2) := e9
    rw [e9]
    refine va_put (D := (dC, dI)) (ci := 0) (v := .long (v_W_raise_3 hi lw ep ng gn hi2 lw2 ep2 ng2 gn2)) (ty := .long) (C := RW) (T := TW) (N := 5) hx hb hts (inC iW) tyW tyW_ok nmW hown hK hP hD hS 0 rfl rfl 0 (by decide) (hts _ (List.mem_cons_of_mem _ m1_24)) (fun _ h9 => h9) rfl (by decide +kernel) rfl rfl (Nat.le_of_ble_eq_true rfl) dW_raise_44 (fun H locs hP hD hS => ?_)
    have hP : va_P (dC, dI) vwCl [(h0, .inr (0, [.long (v_W_raise_3 hi lw ep ng gn hi2 lw2 ep2 ng2 gn2), .long (v_W_raise_1 hi lw ep ng gn hi2 lw2 ep2 ng2 gn2), .int ep, .int (bI ng), .int (bI gn)])), (h1, .inr (0, [.long hi2, .long lw2, .int ep2, .int (bI ng2), .int (bI gn2)]))] H := hP
    have hD : va_D A [(h0, .inr (0, [.long (v_W_raise_3 hi lw ep ng gn hi2 lw2 ep2 ng2 gn2), .long (v_W_raise_1 hi lw ep ng gn hi2 lw2 ep2 ng2 gn2), .int ep, .int (bI ng), .int (bI gn)])), (h1, .inr (0, [.long hi2, .long lw2, .int ep2, .int (bI ng2), .int (bI gn2)]))] := hD
    refine lv_aload_n hx hb dW_raise_47 rfl (lv_at hl 0 rfl) ?_
    refine lv_aload_n hx hb dW_raise_48 rfl (lv_at hl 0 rfl) ?_
    refine va_get (D := (dC, dI)) (ci := 0) (v := .int (bI gn)) (C := RW) (T := TW) (N := 5) hx hb hts (inC iW) hown hK hP 0 rfl rfl 4 (by decide) (hts _ (List.mem_cons_of_mem _ m1_32)) (fun _ h9 => h9) rfl dW_raise_49 ?_
    have J_2 : ∀ (w_0 : Bool), w_0 = (v_W_raise_4 hi lw ep ng gn hi2 lw2 ep2 ng2 gn2) → ∀ (H : Heap) (locs : List Loc), va_K (dC, dI) vwCl [] s → va_P (dC, dI) vwCl [(h0, .inr (0, [.long (v_W_raise_3 hi lw ep ng gn hi2 lw2 ep2 ng2 gn2), .long (v_W_raise_1 hi lw ep ng gn hi2 lw2 ep2 ng2 gn2), .int ep, .int (bI ng), .int (bI gn)])), (h1, .inr (0, [.long hi2, .long lw2, .int ep2, .int (bI ng2), .int (bI gn2)]))] H → va_D A [(h0, .inr (0, [.long (v_W_raise_3 hi lw ep ng gn hi2 lw2 ep2 ng2 gn2), .long (v_W_raise_1 hi lw ep ng gn hi2 lw2 ep2 ng2 gn2), .int ep, .int (bI ng), .int (bI gn)])), (h1, .inr (0, [.long hi2, .long lw2, .int ep2, .int (bI ng2), .int (bI gn2)]))] → va_S A s.heap H locs → ∀ (ls : Array Slot), lv_has ls 2 [] → WW_raise p l e s m below meth c dC dI h0 h1 hi lw ep ng gn hi2 lw2 ep2 ng2 gn2 A H locs (F0 m 67 ls [.int (bI w_0), .ref h0]) := by
      intro w_0 e_0
      rw [e_0]
      intro H locs hK hP hD hS ls hl
      refine va_put (D := (dC, dI)) (ci := 0) (v := .int (bI (v_W_raise_4 hi lw ep ng gn hi2 lw2 ep2 ng2 gn2))) (ty := .boolean) (C := RW) (T := TW) (N := 5) hx hb hts (inC iW) tyW tyW_ok nmW hown hK hP hD hS 0 rfl rfl 4 (by decide) (hts _ (List.mem_cons_of_mem _ m1_32)) (fun _ h9 => h9) rfl (by decide +kernel) (nb_z _) (fb_z _) (Nat.le_of_ble_eq_true rfl) dW_raise_67 (fun H locs hP hD hS => ?_)
      have hP : va_P (dC, dI) vwCl [(h0, .inr (0, [.long (v_W_raise_3 hi lw ep ng gn hi2 lw2 ep2 ng2 gn2), .long (v_W_raise_1 hi lw ep ng gn hi2 lw2 ep2 ng2 gn2), .int ep, .int (bI ng), .int (bI (v_W_raise_4 hi lw ep ng gn hi2 lw2 ep2 ng2 gn2))])), (h1, .inr (0, [.long hi2, .long lw2, .int ep2, .int (bI ng2), .int (bI gn2)]))] H := hP
      have hD : va_D A [(h0, .inr (0, [.long (v_W_raise_3 hi lw ep ng gn hi2 lw2 ep2 ng2 gn2), .long (v_W_raise_1 hi lw ep ng gn hi2 lw2 ep2 ng2 gn2), .int ep, .int (bI ng), .int (bI (v_W_raise_4 hi lw ep ng gn hi2 lw2 ep2 ng2 gn2))])), (h1, .inr (0, [.long hi2, .long lw2, .int ep2, .int (bI ng2), .int (bI gn2)]))] := hD
      have e9_0 : (v_W_raise_3 hi lw ep ng gn hi2 lw2 ep2 ng2 gn2) = pW_raise_0 hi lw ep ng gn hi2 lw2 ep2 ng2 gn2 := (rfl).symm
      have e9_1 : (v_W_raise_1 hi lw ep ng gn hi2 lw2 ep2 ng2 gn2) = pW_raise_1 hi lw ep ng gn hi2 lw2 ep2 ng2 gn2 := (rfl).symm
      have e9_2 : (v_W_raise_4 hi lw ep ng gn hi2 lw2 ep2 ng2 gn2) = pW_raise_2 hi lw ep ng gn hi2 lw2 ep2 ng2 gn2 := (rfl).symm
      have hP9 := hP.sub (ws' := [(h0, .inr (0, [.long (v_W_raise_3 hi lw ep ng gn hi2 lw2 ep2 ng2 gn2), .long (v_W_raise_1 hi lw ep ng gn hi2 lw2 ep2 ng2 gn2), .int ep, .int (bI ng), .int (bI (v_W_raise_4 hi lw ep ng gn hi2 lw2 ep2 ng2 gn2))])), (h1, .inr (0, [.long hi2, .long lw2, .int ep2, .int (bI ng2), .int (bI gn2)]))]) [0, 1] rfl
      have hD9 := hD.sub (ws' := [(h0, .inr (0, [.long (v_W_raise_3 hi lw ep ng gn hi2 lw2 ep2 ng2 gn2), .long (v_W_raise_1 hi lw ep ng gn hi2 lw2 ep2 ng2 gn2), .int ep, .int (bI ng), .int (bI (v_W_raise_4 hi lw ep ng gn hi2 lw2 ep2 ng2 gn2))])), (h1, .inr (0, [.long hi2, .long lw2, .int ep2, .int (bI ng2), .int (bI gn2)]))]) [0, 1] (by decide) rfl
      have hK9 := hK.sub (tys' := []) [] rfl
      have h9 := trW_raise e9_0 e9_1 e9_2 ⟨hP9, hD9⟩
      exact W.vret hx hb hr (fun t ht hW => ⟨⟨(), rfl, trivial, by rw [ht]; exact h9.1, va_K.moved hW.alike hK9, h9.2⟩, hS.F ht⟩) hS.2.2 dW_raise_70
    refine kb_ne (tgt := 62) hx hb dW_raise_52 (by decide) (fun c_2 => ?_) (fun c_2 => ?_)
    · refine lv_iconst (v := 1) hx hb dW_raise_62 (by decide) ?_
      refine lv_goto (tgt := 67) hx hb dW_raise_63 (by decide) ?_
      exact J_2 true ((if_pos c_2)).symm _ _ (hK.sub [] rfl) (hP.sub [0, 1] rfl) (hD.sub [0, 1] (by decide) rfl) hS ls (lv_sub hl [] rfl)
    · refine lv_aload_n hx hb dW_raise_55 rfl (lv_at hl 1 rfl) ?_
      refine va_get (D := (dC, dI)) (ci := 0) (v := .int (bI gn2)) (C := RW) (T := TW) (N := 5) hx hb hts (inC iW) hown hK hP 1 rfl rfl 4 (by decide) (hts _ (List.mem_cons_of_mem _ m1_32)) (fun _ h9 => h9) rfl dW_raise_56 ?_
      refine kb_eq (tgt := 66) hx hb dW_raise_59 (by decide) (fun c_3 => ?_) (fun c_3 => ?_)
      · refine lv_iconst (v := 0) hx hb dW_raise_66 (by decide) ?_
        exact J_2 false (((if_neg c_2).trans (if_neg c_3))).symm _ _ (hK.sub [] rfl) (hP.sub [0, 1] rfl) (hD.sub [0, 1] (by decide) rfl) hS ls (lv_sub hl [] rfl)
      · refine lv_iconst (v := 1) hx hb dW_raise_62 (by decide) ?_
        refine lv_goto (tgt := 67) hx hb dW_raise_63 (by decide) ?_
        exact J_2 true (((if_neg c_2).trans (if_pos c_3))).symm _ _ (hK.sub [] rfl) (hP.sub [0, 1] rfl) (hD.sub [0, 1] (by decide) rfl) hS ls (lv_sub hl [] rfl)
  refine kb_eq (tgt := 40) hx hb dW_raise_33 (by decide) (fun c_1 => ?_) (fun c_1 => ?_)
  · refine lv_iconst (v := 0) hx hb dW_raise_40 (by decide) ?_
    exact J_1 false ((if_neg c_1)).symm _ _ (hK.sub [] rfl) (hP.sub [0, 1] rfl) (hD.sub [0, 1] (by decide) rfl) hS ls (lv_sub hl [0, 1] rfl)
  · refine lv_iconst (v := 1) hx hb dW_raise_36 (by decide) ?_
    refine lv_goto (tgt := 41) hx hb dW_raise_37 (by decide) ?_
    exact J_1 true ((if_pos c_1)).symm _ _ (hK.sub [] rfl) (hP.sub [0, 1] rfl) (hD.sub [0, 1] (by decide) rfl) hS ls (lv_sub hl [0, 1] rfl)
def v_W_lower_1 (hi : Int64) (lw : Int64) (ep : Int32) (ng : Bool) (gn : Bool) (hi2 : Int64) (lw2 : Int64) (ep2 : Int32) (ng2 : Bool) (gn2 : Bool) : Bool := (if (pW_isLess lw lw2) = true then true else false)
def v_W_lower_2 (hi : Int64) (lw : Int64) (ep : Int32) (ng : Bool) (gn : Bool) (hi2 : Int64) (lw2 : Int64) (ep2 : Int32) (ng2 : Bool) (gn2 : Bool) : Int64 := hi - (hi2 + ((bI (v_W_lower_1 hi lw ep ng gn hi2 lw2 ep2 ng2 gn2)).toInt64))
def v_W_lower_3 (hi : Int64) (lw : Int64) (ep : Int32) (ng : Bool) (gn : Bool) (hi2 : Int64) (lw2 : Int64) (ep2 : Int32) (ng2 : Bool) (gn2 : Bool) : Int64 := lw - lw2
def v_W_lower_4 (hi : Int64) (lw : Int64) (ep : Int32) (ng : Bool) (gn : Bool) (hi2 : Int64) (lw2 : Int64) (ep2 : Int32) (ng2 : Bool) (gn2 : Bool) : Int64 := (if (v_W_lower_3 hi lw ep ng gn hi2 lw2 ep2 ng2 gn2) = (0 : Int64) then (1 : Int64) else (0 : Int64))
def v_W_lower_5 (hi : Int64) (lw : Int64) (ep : Int32) (ng : Bool) (gn : Bool) (hi2 : Int64) (lw2 : Int64) (ep2 : Int32) (ng2 : Bool) (gn2 : Bool) : Int64 := (v_W_lower_2 hi lw ep ng gn hi2 lw2 ep2 ng2 gn2) - (v_W_lower_4 hi lw ep ng gn hi2 lw2 ep2 ng2 gn2)
def v_W_lower_6 (hi : Int64) (lw : Int64) (ep : Int32) (ng : Bool) (gn : Bool) (hi2 : Int64) (lw2 : Int64) (ep2 : Int32) (ng2 : Bool) (gn2 : Bool) : Int64 := (v_W_lower_3 hi lw ep ng gn hi2 lw2 ep2 ng2 gn2) - (1 : Int64)
def v_W_lower_7 (hi : Int64) (lw : Int64) (ep : Int32) (ng : Bool) (gn : Bool) (hi2 : Int64) (lw2 : Int64) (ep2 : Int32) (ng2 : Bool) (gn2 : Bool) : Int64 := (if gn2 = true then (v_W_lower_5 hi lw ep ng gn hi2 lw2 ep2 ng2 gn2) else (v_W_lower_2 hi lw ep ng gn hi2 lw2 ep2 ng2 gn2))
def v_W_lower_8 (hi : Int64) (lw : Int64) (ep : Int32) (ng : Bool) (gn : Bool) (hi2 : Int64) (lw2 : Int64) (ep2 : Int32) (ng2 : Bool) (gn2 : Bool) : Int64 := (if gn2 = true then (v_W_lower_6 hi lw ep ng gn hi2 lw2 ep2 ng2 gn2) else (v_W_lower_3 hi lw ep ng gn hi2 lw2 ep2 ng2 gn2))
def v_W_lower_9 (hi : Int64) (lw : Int64) (ep : Int32) (ng : Bool) (gn : Bool) (hi2 : Int64) (lw2 : Int64) (ep2 : Int32) (ng2 : Bool) (gn2 : Bool) : Bool := (if gn2 = true then true else gn)
def pW_lower_0 (hi : Int64) (lw : Int64) (ep : Int32) (ng : Bool) (gn : Bool) (hi2 : Int64) (lw2 : Int64) (ep2 : Int32) (ng2 : Bool) (gn2 : Bool) : Int64 := (v_W_lower_7 hi lw ep ng gn hi2 lw2 ep2 ng2 gn2)
def pW_lower_1 (hi : Int64) (lw : Int64) (ep : Int32) (ng : Bool) (gn : Bool) (hi2 : Int64) (lw2 : Int64) (ep2 : Int32) (ng2 : Bool) (gn2 : Bool) : Int64 := (v_W_lower_8 hi lw ep ng gn hi2 lw2 ep2 ng2 gn2)
def pW_lower_2 (hi : Int64) (lw : Int64) (ep : Int32) (ng : Bool) (gn : Bool) (hi2 : Int64) (lw2 : Int64) (ep2 : Int32) (ng2 : Bool) (gn2 : Bool) : Bool := (v_W_lower_9 hi lw ep ng gn hi2 lw2 ep2 ng2 gn2)
/-- W_lower -/
abbrev atW_lower (dC : Nat → ClassId) (dI : Nat → Nat → Nat) (h0 h1 : Nat) (hi : Int64) (lw : Int64) (ep : Int32) (ng : Bool) (gn : Bool) (hi2 : Int64) (lw2 : Int64) (ep2 : Int32) (ng2 : Bool) (gn2 : Bool) (A : Nat → Prop) (t : State) : Prop := va_P (dC, dI) vwCl [(h0, .inr (0, [.long (pW_lower_0 hi lw ep ng gn hi2 lw2 ep2 ng2 gn2), .long (pW_lower_1 hi lw ep ng gn hi2 lw2 ep2 ng2 gn2), .int ep, .int (bI ng), .int (bI (pW_lower_2 hi lw ep ng gn hi2 lw2 ep2 ng2 gn2))])), (h1, .inr (0, [.long hi2, .long lw2, .int ep2, .int (bI ng2), .int (bI gn2)]))] t.heap ∧ va_K (dC, dI) vwCl [] t ∧ va_D A [(h0, .inr (0, [.long (pW_lower_0 hi lw ep ng gn hi2 lw2 ep2 ng2 gn2), .long (pW_lower_1 hi lw ep ng gn hi2 lw2 ep2 ng2 gn2), .int ep, .int (bI ng), .int (bI (pW_lower_2 hi lw ep ng gn hi2 lw2 ep2 ng2 gn2))])), (h1, .inr (0, [.long hi2, .long lw2, .int ep2, .int (bI ng2), .int (bI gn2)]))]
theorem trW_lower {dC : Nat → ClassId} {dI : Nat → Nat → Nat} {h0 h1 : Nat} {ep : Int32} {ng : Bool} {hi2 : Int64} {lw2 : Int64} {ep2 : Int32} {ng2 : Bool} {gn2 : Bool} {A : Nat → Prop} {H : Heap} {a0 b0 : Int64} {a1 b1 : Int64} {a2 b2 : Bool} (e0 : a0 = b0) (e1 : a1 = b1) (e2 : a2 = b2) (h : va_P (dC, dI) vwCl [(h0, .inr (0, [.long a0, .long a1, .int ep, .int (bI ng), .int (bI a2)])), (h1, .inr (0, [.long hi2, .long lw2, .int ep2, .int (bI ng2), .int (bI gn2)]))] H ∧ va_D A [(h0, .inr (0, [.long a0, .long a1, .int ep, .int (bI ng), .int (bI a2)])), (h1, .inr (0, [.long hi2, .long lw2, .int ep2, .int (bI ng2), .int (bI gn2)]))]) : va_P (dC, dI) vwCl [(h0, .inr (0, [.long b0, .long b1, .int ep, .int (bI ng), .int (bI b2)])), (h1, .inr (0, [.long hi2, .long lw2, .int ep2, .int (bI ng2), .int (bI gn2)]))] H ∧ va_D A [(h0, .inr (0, [.long b0, .long b1, .int ep, .int (bI ng), .int (bI b2)])), (h1, .inr (0, [.long hi2, .long lw2, .int ep2, .int (bI ng2), .int (bI gn2)]))] := by
  subst e0
  subst e1
  subst e2
  exact h
abbrev WW_lower (p : Program) (l : Launch) (e : Env) (s : State) (m : MethodId) (below : List Frame) (meth : Method) (c : Code) (dC : Nat → ClassId) (dI : Nat → Nat → Nat) (h0 h1 : Nat) (hi : Int64) (lw : Int64) (ep : Int32) (ng : Bool) (gn : Bool) (hi2 : Int64) (lw2 : Int64) (ep2 : Int32) (ng2 : Bool) (gn2 : Bool) (A : Nat → Prop) (H : Heap) (locs : List Loc) (g : JFrame) : Prop := W p l e (headSpec wW_lower ({ frames := 1, cells := 0, slots := 0, locals := 23 })).room s m ([.ref h0, .ref h1] : List Value).toArray below meth c H locs 0 0 (MQ below (va_Qv (fun (_ : Unit) => True) (fun _ => atW_lower dC dI h0 h1 hi lw ep ng gn hi2 lw2 ep2 ng2 gn2 A) A) ([.ref h0, .ref h1] : List Value).toArray s 0 0 A) g
set_option maxHeartbeats 4000000 in
set_option maxRecDepth 100000 in
theorem kW_lower (l : Launch) (dC : Nat → ClassId) (dI : Nat → Nat → Nat) (h0 h1 : Nat) (sz : Nat) (hi : Int64) (lw : Int64) (ep : Int32) (ng : Bool) (gn : Bool) (hi2 : Int64) (lw2 : Int64) (ep2 : Int32) (ng2 : Bool) (gn2 : Bool) : Met l yW_lower wW_lower ({ frames := 1, cells := 0, slots := 0, locals := 23 }) (va_Pc [.ref h0, .ref h1] (fun U => U.heap.size = sz ∧ va_P (dC, dI) vwCl [(h0, .inr (0, [.long hi, .long lw, .int ep, .int (bI ng), .int (bI gn)])), (h1, .inr (0, [.long hi2, .long lw2, .int ep2, .int (bI ng2), .int (bI gn2)]))] U.heap ∧ va_K (dC, dI) vwCl [] U ∧ va_D (fun _ => True) [(h0, .inr (0, [.long hi, .long lw, .int ep, .int (bI ng), .int (bI gn)])), (h1, .inr (0, [.long hi2, .long lw2, .int ep2, .int (bI ng2), .int (bI gn2)]))] ∧ NW U)) (va_Qv (fun (_ : Unit) => True) (fun _ => atW_lower dC dI h0 h1 hi lw ep ng gn hi2 lw2 ep2 ng2 gn2 (va_A [(h0, .inr (0, [.long hi, .long lw, .int ep, .int (bI ng), .int (bI gn)])), (h1, .inr (0, [.long hi2, .long lw2, .int ep2, .int (bI ng2), .int (bI gn2)]))] sz)) (va_A [(h0, .inr (0, [.long hi, .long lw, .int ep, .int (bI ng), .int (bI gn)])), (h1, .inr (0, [.long hi2, .long lw2, .int ep2, .int (bI ng2), .int (bI gn2)]))] sz)) 0 0 (va_A [(h0, .inr (0, [.long hi, .long lw, .int ep, .int (bI ng), .int (bI gn)])), (h1, .inr (0, [.long hi2, .long lw2, .int ep2, .int (bI ng2), .int (bI gn2)]))] sz) := by
  refine Met.ofW (cc := cW_lower) (maxL := 2) (ret := none) (by decide) rfl ?_
  intro p e s m args below meth c s₁ B hml hv
  obtain ⟨rfl, hsz, hP, hK, hD0, hN⟩ := hv
  have hx := B.exec
  have hb := B.bytes
  have hr := B.returns
  have hts := atoms_spec (ws := wW_lower) B.pre
  have hown : s.vm.findClass RW = some m.cls := findClass_of_methodNamed B.named
  have hlocks := B.notSynchronized
  subst hsz
  have hD := hD0.self (sz := s.heap.size)
  generalize hAe : va_A [(h0, .inr (0, [.long hi, .long lw, .int ep, .int (bI ng), .int (bI gn)])), (h1, .inr (0, [.long hi2, .long lw2, .int ep2, .int (bI ng2), .int (bI gn2)]))] s.heap.size = A at hD ⊢
  have hA : ∀ q : Nat, s.heap.size ≤ q → A q := fun q h => by rw [← hAe]; exact Or.inr h
  have hS : va_S A s.heap s.heap [] := va_S.rf
  have hP : va_P (dC, dI) vwCl [(h0, .inr (0, [.long hi, .long lw, .int ep, .int (bI ng), .int (bI gn)])), (h1, .inr (0, [.long hi2, .long lw2, .int ep2, .int (bI ng2), .int (bI gn2)]))] s.heap := hP
  have hl := lv_entry ([.ref h0, .ref h1]) (n := 2) (Nat.le_of_ble_eq_true rfl)
  rw [lg_entry_eq]
  generalize (lg_sl ([.ref h0, .ref h1]) ++ List.replicate (2 - (lg_sl ([.ref h0, .ref h1])).length) Slot.unset).toArray = ls at hl ⊢
  have hl : lv_has ls 2 [(0, .ref h0), (1, .ref h1)] := hl
  refine lv_aload_n hx hb dW_lower_0 rfl (lv_at hl 0 rfl) ?_
  refine lv_dup hx hb dW_lower_1 rfl ?_
  refine va_get (D := (dC, dI)) (ci := 0) (v := .long hi) (C := RW) (T := TW) (N := 5) hx hb hts (inC iW) hown hK hP 0 rfl rfl 0 (by decide) (hts _ (List.mem_cons_of_mem _ m1_24)) (fun _ h9 => h9) rfl dW_lower_2 ?_
  refine lv_aload_n hx hb dW_lower_5 rfl (lv_at hl 1 rfl) ?_
  refine va_get (D := (dC, dI)) (ci := 0) (v := .long hi2) (C := RW) (T := TW) (N := 5) hx hb hts (inC iW) hown hK hP 1 rfl rfl 0 (by decide) (hts _ (List.mem_cons_of_mem _ m1_24)) (fun _ h9 => h9) rfl dW_lower_6 ?_
  refine lv_aload_n hx hb dW_lower_9 rfl (lv_at hl 0 rfl) ?_
  refine va_get (D := (dC, dI)) (ci := 0) (v := .long lw) (C := RW) (T := TW) (N := 5) hx hb hts (inC iW) hown hK hP 0 rfl rfl 1 (by decide) (hts _ (List.mem_cons_of_mem _ m1_26)) (fun _ h9 => h9) rfl dW_lower_10 ?_
  refine lv_aload_n hx hb dW_lower_13 rfl (lv_at hl 1 rfl) ?_
  refine va_get (D := (dC, dI)) (ci := 0) (v := .long lw2) (C := RW) (T := TW) (N := 5) hx hb hts (inC iW) hown hK hP 1 rfl rfl 1 (by decide) (hts _ (List.mem_cons_of_mem _ m1_26)) (fun _ h9 => h9) rfl dW_lower_14 ?_
  refine k_call (W.runS (As := [.long lw, .long lw2]) (rest := [.long hi2, .long hi, .ref h0]) ⟨hx, hb, hml, hown, hts⟩ (kW_isLess l lw lw2) (cwS 2 hts (g_call (List.forall_mem_cons.mpr ⟨m1_158, List.forall_mem_cons.mpr ⟨m1_159, List.forall_mem_cons.mpr ⟨m1_2, fun _ h => absurd h List.not_mem_nil⟩⟩⟩) m1_160) rfl rfl rfl (by decide +kernel) ⟨Nat.le_of_ble_eq_true rfl, Nat.le_of_ble_eq_true rfl⟩) preEq rfl rfl hl.1 rfl (lv_room (Nat.le_of_ble_eq_true rfl)) dW_lower_17 ⟨Nat.le_of_ble_eq_true rfl, Nat.le_of_ble_eq_true rfl⟩) ?_
  have J_1 : ∀ (w_0 : Bool), w_0 = (v_W_lower_1 hi lw ep ng gn hi2 lw2 ep2 ng2 gn2) → ∀ (H : Heap) (locs : List Loc), va_K (dC, dI) vwCl [] s → va_P (dC, dI) vwCl [(h0, .inr (0, [.long hi, .long lw, .int ep, .int (bI ng), .int (bI gn)])), (h1, .inr (0, [.long hi2, .long lw2, .int ep2, .int (bI ng2), .int (bI gn2)]))] H → va_D A [(h0, .inr (0, [.long hi, .long lw, .int ep, .int (bI ng), .int (bI gn)])), (h1, .inr (0, [.long hi2, .long lw2, .int ep2, .int (bI ng2), .int (bI gn2)]))] → va_S A s.heap H locs → ∀ (ls : Array Slot), lv_has ls 2 [(0, .ref h0), (1, .ref h1)] → WW_lower p l e s m below meth c dC dI h0 h1 hi lw ep ng gn hi2 lw2 ep2 ng2 gn2 A H locs (F0 m 28 ls [.int (bI w_0), .long hi2, .long hi, .ref h0]) := by
    intro w_0 e_0
    rw [e_0]
    intro H locs hK hP hD hS ls hl
    refine lv_i2l (v := (bI (v_W_lower_1 hi lw ep ng gn hi2 lw2 ep2 ng2 gn2)).toInt64) hx hb dW_lower_28 rfl ?_
    refine lv_ladd hx hb dW_lower_29 ?_
    refine lv_lsub hx hb dW_lower_30 ?_
    refine lv_topl (fun w9 e9 => ?_)
    have e9 : w9 = (v_W_lower_2 hi lw ep ng gn hi2 lw2 ep2 ng2 gn2) := e9
    rw [e9]
    refine va_put (D := (dC, dI)) (ci := 0) (v := .long (v_W_lower_2 hi lw ep ng gn hi2 lw2 ep2 ng2 gn2)) (ty := .long) (C := RW) (T := TW) (N := 5) hx hb hts (inC iW) tyW tyW_ok nmW hown hK hP hD hS 0 rfl rfl 0 (by decide) (hts _ (List.mem_cons_of_mem _ m1_24)) (fun _ h9 => h9) rfl (by decide +kernel) rfl rfl (Nat.le_of_ble_eq_true rfl) dW_lower_31 (fun H locs hP hD hS => ?_)
    have hP : va_P (dC, dI) vwCl [(h0, .inr (0, [.long (v_W_lower_2 hi lw ep ng gn hi2 lw2 ep2 ng2 gn2), .long lw, .int ep, .int (bI ng), .int (bI gn)])), (h1, .inr (0, [.long hi2, .long lw2, .int ep2, .int (bI ng2), .int (bI gn2)]))] H := hP
    have hD : va_D A [(h0, .inr (0, [.long (v_W_lower_2 hi lw ep ng gn hi2 lw2 ep2 ng2 gn2), .long lw, .int ep, .int (bI ng), .int (bI gn)])), (h1, .inr (0, [.long hi2, .long lw2, .int ep2, .int (bI ng2), .int (bI gn2)]))] := hD
    refine lv_aload_n hx hb dW_lower_34 rfl (lv_at hl 0 rfl) ?_
    refine lv_dup hx hb dW_lower_35 rfl ?_
    refine va_get (D := (dC, dI)) (ci := 0) (v := .long lw) (C := RW) (T := TW) (N := 5) hx hb hts (inC iW) hown hK hP 0 rfl rfl 1 (by decide) (hts _ (List.mem_cons_of_mem _ m1_26)) (fun _ h9 => h9) rfl dW_lower_36 ?_
    refine lv_aload_n hx hb dW_lower_39 rfl (lv_at hl 1 rfl) ?_
    refine va_get (D := (dC, dI)) (ci := 0) (v := .long lw2) (C := RW) (T := TW) (N := 5) hx hb hts (inC iW) hown hK hP 1 rfl rfl 1 (by decide) (hts _ (List.mem_cons_of_mem _ m1_26)) (fun _ h9 => h9) rfl dW_lower_40 ?_
    refine lv_lsub hx hb dW_lower_43 ?_
    refine lv_topl (fun w9 e9 => ?_)
    have e9 : w9 = (v_W_lower_3 hi lw ep ng gn hi2 lw2 ep2 ng2 gn2) := e9
    rw [e9]
    refine va_put (D := (dC, dI)) (ci := 0) (v := .long (v_W_lower_3 hi lw ep ng gn hi2 lw2 ep2 ng2 gn2)) (ty := .long) (C := RW) (T := TW) (N := 5) hx hb hts (inC iW) tyW tyW_ok nmW hown hK hP hD hS 0 rfl rfl 1 (by decide) (hts _ (List.mem_cons_of_mem _ m1_26)) (fun _ h9 => h9) rfl (by decide +kernel) rfl rfl (Nat.le_of_ble_eq_true rfl) dW_lower_44 (fun H locs hP hD hS => ?_)
    have hP : va_P (dC, dI) vwCl [(h0, .inr (0, [.long (v_W_lower_2 hi lw ep ng gn hi2 lw2 ep2 ng2 gn2), .long (v_W_lower_3 hi lw ep ng gn hi2 lw2 ep2 ng2 gn2), .int ep, .int (bI ng), .int (bI gn)])), (h1, .inr (0, [.long hi2, .long lw2, .int ep2, .int (bI ng2), .int (bI gn2)]))] H := hP
    have hD : va_D A [(h0, .inr (0, [.long (v_W_lower_2 hi lw ep ng gn hi2 lw2 ep2 ng2 gn2), .long (v_W_lower_3 hi lw ep ng gn hi2 lw2 ep2 ng2 gn2), .int ep, .int (bI ng), .int (bI gn)])), (h1, .inr (0, [.long hi2, .long lw2, .int ep2, .int (bI ng2), .int (bI gn2)]))] := hD
    refine lv_aload_n hx hb dW_lower_47 rfl (lv_at hl 1 rfl) ?_
    refine va_get (D := (dC, dI)) (ci := 0) (v := .int (bI gn2)) (C := RW) (T := TW) (N := 5) hx hb hts (inC iW) hown hK hP 1 rfl rfl 4 (by decide) (hts _ (List.mem_cons_of_mem _ m1_32)) (fun _ h9 => h9) rfl dW_lower_48 ?_
    have J_3 : ∀ (w_0 : Int64), w_0 = (v_W_lower_7 hi lw ep ng gn hi2 lw2 ep2 ng2 gn2) → ∀ (w_1 : Int64), w_1 = (v_W_lower_8 hi lw ep ng gn hi2 lw2 ep2 ng2 gn2) → ∀ (w_2 : Bool), w_2 = (v_W_lower_9 hi lw ep ng gn hi2 lw2 ep2 ng2 gn2) → ∀ (H : Heap) (locs : List Loc), va_K (dC, dI) vwCl [] s → va_P (dC, dI) vwCl [(h0, .inr (0, [.long w_0, .long w_1, .int ep, .int (bI ng), .int (bI w_2)])), (h1, .inr (0, [.long hi2, .long lw2, .int ep2, .int (bI ng2), .int (bI gn2)]))] H → va_D A [(h0, .inr (0, [.long w_0, .long w_1, .int ep, .int (bI ng), .int (bI w_2)])), (h1, .inr (0, [.long hi2, .long lw2, .int ep2, .int (bI ng2), .int (bI gn2)]))] → va_S A s.heap H locs → ∀ (ls : Array Slot), lv_has ls 2 [] → WW_lower p l e s m below meth c dC dI h0 h1 hi lw ep ng gn hi2 lw2 ep2 ng2 gn2 A H locs (F0 m 92 ls []) := by
      intro w_0 e_0
      rw [e_0]
      intro w_1 e_1
      rw [e_1]
      intro w_2 e_2
      rw [e_2]
      intro H locs hK hP hD hS ls hl
      have e9_0 : (v_W_lower_7 hi lw ep ng gn hi2 lw2 ep2 ng2 gn2) = pW_lower_0 hi lw ep ng gn hi2 lw2 ep2 ng2 gn2 := (rfl).symm
      have e9_1 : (v_W_lower_8 hi lw ep ng gn hi2 lw2 ep2 ng2 gn2) = pW_lower_1 hi lw ep ng gn hi2 lw2 ep2 ng2 gn2 := (rfl).symm
      have e9_2 : (v_W_lower_9 hi lw ep ng gn hi2 lw2 ep2 ng2 gn2) = pW_lower_2 hi lw ep ng gn hi2 lw2 ep2 ng2 gn2 := (rfl).symm
      have hP9 := hP.sub (ws' := [(h0, .inr (0, [.long (v_W_lower_7 hi lw ep ng gn hi2 lw2 ep2 ng2 gn2), .long (v_W_lower_8 hi lw ep ng gn hi2 lw2 ep2 ng2 gn2), .int ep, .int (bI ng), .int (bI (v_W_lower_9 hi lw ep ng gn hi2 lw2 ep2 ng2 gn2))])), (h1, .inr (0, [.long hi2, .long lw2, .int ep2, .int (bI ng2), .int (bI gn2)]))]) [0, 1] rfl
      have hD9 := hD.sub (ws' := [(h0, .inr (0, [.long (v_W_lower_7 hi lw ep ng gn hi2 lw2 ep2 ng2 gn2), .long (v_W_lower_8 hi lw ep ng gn hi2 lw2 ep2 ng2 gn2), .int ep, .int (bI ng), .int (bI (v_W_lower_9 hi lw ep ng gn hi2 lw2 ep2 ng2 gn2))])), (h1, .inr (0, [.long hi2, .long lw2, .int ep2, .int (bI ng2), .int (bI gn2)]))]) [0, 1] (by decide) rfl
      have hK9 := hK.sub (tys' := []) [] rfl
      have h9 := trW_lower e9_0 e9_1 e9_2 ⟨hP9, hD9⟩
      exact W.vret hx hb hr (fun t ht hW => ⟨⟨(), rfl, trivial, by rw [ht]; exact h9.1, va_K.moved hW.alike hK9, h9.2⟩, hS.F ht⟩) hS.2.2 dW_lower_92
    refine kb_eq (tgt := 92) hx hb dW_lower_51 (by decide) (fun c_2 => ?_) (fun c_2 => ?_)
    · exact J_3 (v_W_lower_2 hi lw ep ng gn hi2 lw2 ep2 ng2 gn2) ((if_neg c_2)).symm (v_W_lower_3 hi lw ep ng gn hi2 lw2 ep2 ng2 gn2) ((if_neg c_2)).symm gn ((if_neg c_2)).symm _ _ (hK.sub [] rfl) (hP.sub [0, 1] rfl) (hD.sub [0, 1] (by decide) rfl) hS ls (lv_sub hl [] rfl)
    · refine lv_aload_n hx hb dW_lower_54 rfl (lv_at hl 0 rfl) ?_
      refine lv_dup hx hb dW_lower_55 rfl ?_
      refine va_get (D := (dC, dI)) (ci := 0) (v := .long (v_W_lower_2 hi lw ep ng gn hi2 lw2 ep2 ng2 gn2)) (C := RW) (T := TW) (N := 5) hx hb hts (inC iW) hown hK hP 0 rfl rfl 0 (by decide) (hts _ (List.mem_cons_of_mem _ m1_24)) (fun _ h9 => h9) rfl dW_lower_56 ?_
      refine lv_aload_n hx hb dW_lower_59 rfl (lv_at hl 0 rfl) ?_
      refine va_get (D := (dC, dI)) (ci := 0) (v := .long (v_W_lower_3 hi lw ep ng gn hi2 lw2 ep2 ng2 gn2)) (C := RW) (T := TW) (N := 5) hx hb hts (inC iW) hown hK hP 0 rfl rfl 1 (by decide) (hts _ (List.mem_cons_of_mem _ m1_26)) (fun _ h9 => h9) rfl dW_lower_60 ?_
      refine lv_lconst (v := 0) hx hb dW_lower_63 (by decide) ?_
      refine W.lcmp hx hb dW_lower_64 ?_
      have J_2 : ∀ (w_0 : Int64), w_0 = (v_W_lower_4 hi lw ep ng gn hi2 lw2 ep2 ng2 gn2) → ∀ (H : Heap) (locs : List Loc), va_K (dC, dI) vwCl [] s → va_P (dC, dI) vwCl [(h0, .inr (0, [.long (v_W_lower_2 hi lw ep ng gn hi2 lw2 ep2 ng2 gn2), .long (v_W_lower_3 hi lw ep ng gn hi2 lw2 ep2 ng2 gn2), .int ep, .int (bI ng), .int (bI gn)])), (h1, .inr (0, [.long hi2, .long lw2, .int ep2, .int (bI ng2), .int (bI gn2)]))] H → va_D A [(h0, .inr (0, [.long (v_W_lower_2 hi lw ep ng gn hi2 lw2 ep2 ng2 gn2), .long (v_W_lower_3 hi lw ep ng gn hi2 lw2 ep2 ng2 gn2), .int ep, .int (bI ng), .int (bI gn)])), (h1, .inr (0, [.long hi2, .long lw2, .int ep2, .int (bI ng2), .int (bI gn2)]))] → va_S A s.heap H locs → ∀ (ls : Array Slot), lv_has ls 2 [(0, .ref h0)] → WW_lower p l e s m below meth c dC dI h0 h1 hi lw ep ng gn hi2 lw2 ep2 ng2 gn2 A H locs (F0 m 73 ls [.long w_0, .long (v_W_lower_2 hi lw ep ng gn hi2 lw2 ep2 ng2 gn2), .ref h0]) := by
        intro w_0 e_0
        rw [e_0]
        intro H locs hK hP hD hS ls hl
        refine lv_lsub hx hb dW_lower_73 ?_
        refine lv_topl (fun w9 e9 => ?_)
        have e9 : w9 = (v_W_lower_5 hi lw ep ng gn hi2 lw2 ep2 ng2 gn2) := e9
        rw [e9]
        refine va_put (D := (dC, dI)) (ci := 0) (v := .long (v_W_lower_5 hi lw ep ng gn hi2 lw2 ep2 ng2 gn2)) (ty := .long) (C := RW) (T := TW) (N := 5) hx hb hts (inC iW) tyW tyW_ok nmW hown hK hP hD hS 0 rfl rfl 0 (by decide) (hts _ (List.mem_cons_of_mem _ m1_24)) (fun _ h9 => h9) rfl (by decide +kernel) rfl rfl (Nat.le_of_ble_eq_true rfl) dW_lower_74 (fun H locs hP hD hS => ?_)
        have hP : va_P (dC, dI) vwCl [(h0, .inr (0, [.long (v_W_lower_5 hi lw ep ng gn hi2 lw2 ep2 ng2 gn2), .long (v_W_lower_3 hi lw ep ng gn hi2 lw2 ep2 ng2 gn2), .int ep, .int (bI ng), .int (bI gn)])), (h1, .inr (0, [.long hi2, .long lw2, .int ep2, .int (bI ng2), .int (bI gn2)]))] H := hP
        have hD : va_D A [(h0, .inr (0, [.long (v_W_lower_5 hi lw ep ng gn hi2 lw2 ep2 ng2 gn2), .long (v_W_lower_3 hi lw ep ng gn hi2 lw2 ep2 ng2 gn2), .int ep, .int (bI ng), .int (bI gn)])), (h1, .inr (0, [.long hi2, .long lw2, .int ep2, .int (bI ng2), .int (bI gn2)]))] := hD
        refine lv_aload_n hx hb dW_lower_77 rfl (lv_at hl 0 rfl) ?_
        refine lv_dup hx hb dW_lower_78 rfl ?_
        refine va_get (D := (dC, dI)) (ci := 0) (v := .long (v_W_lower_3 hi lw ep ng gn hi2 lw2 ep2 ng2 gn2)) (C := RW) (T := TW) (N := 5) hx hb hts (inC iW) hown hK hP 0 rfl rfl 1 (by decide) (hts _ (List.mem_cons_of_mem _ m1_26)) (fun _ h9 => h9) rfl dW_lower_79 ?_
        refine lv_lconst (v := 1) hx hb dW_lower_82 (by decide) ?_
        refine lv_lsub hx hb dW_lower_83 ?_
        refine lv_topl (fun w9 e9 => ?_)
        have e9 : w9 = (v_W_lower_6 hi lw ep ng gn hi2 lw2 ep2 ng2 gn2) := e9
        rw [e9]
        refine va_put (D := (dC, dI)) (ci := 0) (v := .long (v_W_lower_6 hi lw ep ng gn hi2 lw2 ep2 ng2 gn2)) (ty := .long) (C := RW) (T := TW) (N := 5) hx hb hts (inC iW) tyW tyW_ok nmW hown hK hP hD hS 0 rfl rfl 1 (by decide) (hts _ (List.mem_cons_of_mem _ m1_26)) (fun _ h9 => h9) rfl (by decide +kernel) rfl rfl (Nat.le_of_ble_eq_true rfl) dW_lower_84 (fun H locs hP hD hS => ?_)
        have hP : va_P (dC, dI) vwCl [(h0, .inr (0, [.long (v_W_lower_5 hi lw ep ng gn hi2 lw2 ep2 ng2 gn2), .long (v_W_lower_6 hi lw ep ng gn hi2 lw2 ep2 ng2 gn2), .int ep, .int (bI ng), .int (bI gn)])), (h1, .inr (0, [.long hi2, .long lw2, .int ep2, .int (bI ng2), .int (bI gn2)]))] H := hP
        have hD : va_D A [(h0, .inr (0, [.long (v_W_lower_5 hi lw ep ng gn hi2 lw2 ep2 ng2 gn2), .long (v_W_lower_6 hi lw ep ng gn hi2 lw2 ep2 ng2 gn2), .int ep, .int (bI ng), .int (bI gn)])), (h1, .inr (0, [.long hi2, .long lw2, .int ep2, .int (bI ng2), .int (bI gn2)]))] := hD
        refine lv_aload_n hx hb dW_lower_87 rfl (lv_at hl 0 rfl) ?_
        refine lv_iconst (v := 1) hx hb dW_lower_88 (by decide) ?_
        refine va_put (D := (dC, dI)) (ci := 0) (v := .int (bI true)) (ty := .boolean) (C := RW) (T := TW) (N := 5) hx hb hts (inC iW) tyW tyW_ok nmW hown hK hP hD hS 0 rfl rfl 4 (by decide) (hts _ (List.mem_cons_of_mem _ m1_32)) (fun _ h9 => h9) rfl (by decide +kernel) (nb_z _) (fb_z _) (Nat.le_of_ble_eq_true rfl) dW_lower_89 (fun H locs hP hD hS => ?_)
        have hP : va_P (dC, dI) vwCl [(h0, .inr (0, [.long (v_W_lower_5 hi lw ep ng gn hi2 lw2 ep2 ng2 gn2), .long (v_W_lower_6 hi lw ep ng gn hi2 lw2 ep2 ng2 gn2), .int ep, .int (bI ng), .int (bI true)])), (h1, .inr (0, [.long hi2, .long lw2, .int ep2, .int (bI ng2), .int (bI gn2)]))] H := hP
        have hD : va_D A [(h0, .inr (0, [.long (v_W_lower_5 hi lw ep ng gn hi2 lw2 ep2 ng2 gn2), .long (v_W_lower_6 hi lw ep ng gn hi2 lw2 ep2 ng2 gn2), .int ep, .int (bI ng), .int (bI true)])), (h1, .inr (0, [.long hi2, .long lw2, .int ep2, .int (bI ng2), .int (bI gn2)]))] := hD
        exact J_3 (v_W_lower_5 hi lw ep ng gn hi2 lw2 ep2 ng2 gn2) ((if_pos c_2)).symm (v_W_lower_6 hi lw ep ng gn hi2 lw2 ep2 ng2 gn2) ((if_pos c_2)).symm true ((if_pos c_2)).symm _ _ (hK.sub [] rfl) (hP.sub [0, 1] rfl) (hD.sub [0, 1] (by decide) rfl) hS ls (lv_sub hl [] rfl)
      refine lv_if_ne (tgt := 72) hx hb dW_lower_65 (by decide) (fun c_3 => ?_) (fun c_3 => ?_)
      · have c_3 : ¬ ((v_W_lower_3 hi lw ep ng gn hi2 lw2 ep2 ng2 gn2) = (0 : Int64)) := fun h => c_3 ((lg_cmp_eq _ _).mpr h)
        refine lv_lconst (v := 0) hx hb dW_lower_72 (by decide) ?_
        exact J_2 (0 : Int64) ((if_neg c_3)).symm _ _ (hK.sub [] rfl) (hP.sub [0, 1] rfl) (hD.sub [0, 1] (by decide) rfl) hS ls (lv_sub hl [0] rfl)
      · have c_3 : (v_W_lower_3 hi lw ep ng gn hi2 lw2 ep2 ng2 gn2) = (0 : Int64) := (lg_cmp_eq _ _).mp c_3
        refine lv_lconst (v := 1) hx hb dW_lower_68 (by decide) ?_
        refine lv_goto (tgt := 73) hx hb dW_lower_69 (by decide) ?_
        exact J_2 (1 : Int64) ((if_pos c_3)).symm _ _ (hK.sub [] rfl) (hP.sub [0, 1] rfl) (hD.sub [0, 1] (by decide) rfl) hS ls (lv_sub hl [0] rfl)
  refine kb_eq (tgt := 27) hx hb dW_lower_20 (by decide) (fun c_1 => ?_) (fun c_1 => ?_)
  · refine lv_iconst (v := 0) hx hb dW_lower_27 (by decide) ?_
    exact J_1 false ((if_neg c_1)).symm _ _ (hK.sub [] rfl) (hP.sub [0, 1] rfl) (hD.sub [0, 1] (by decide) rfl) hS ls (lv_sub hl [0, 1] rfl)
  · refine lv_iconst (v := 1) hx hb dW_lower_23 (by decide) ?_
    refine lv_goto (tgt := 28) hx hb dW_lower_24 (by decide) ?_
    exact J_1 true ((if_pos c_1)).symm _ _ (hK.sub [] rfl) (hP.sub [0, 1] rfl) (hD.sub [0, 1] (by decide) rfl) hS ls (lv_sub hl [0, 1] rfl)
def v_W_join_1 (hi : Int64) (lw : Int64) (ep : Int32) (ng : Bool) (gn : Bool) (hi2 : Int64) (lw2 : Int64) (ep2 : Int32) (ng2 : Bool) (gn2 : Bool) : Bool := pW_isNothing hi2 lw2 ep2 ng2 gn2
def v_W_join_2 (hi : Int64) (lw : Int64) (ep : Int32) (ng : Bool) (gn : Bool) (hi2 : Int64) (lw2 : Int64) (ep2 : Int32) (ng2 : Bool) (gn2 : Bool) : Bool := pW_isNothing hi lw ep ng gn
def v_W_join_3 (hi : Int64) (lw : Int64) (ep : Int32) (ng : Bool) (gn : Bool) (hi2 : Int64) (lw2 : Int64) (ep2 : Int32) (ng2 : Bool) (gn2 : Bool) : Int64 := pW_lift_0 hi lw ep ng gn
def v_W_join_4 (hi : Int64) (lw : Int64) (ep : Int32) (ng : Bool) (gn : Bool) (hi2 : Int64) (lw2 : Int64) (ep2 : Int32) (ng2 : Bool) (gn2 : Bool) : Int64 := pW_lift_1 hi lw ep ng gn
def v_W_join_5 (hi : Int64) (lw : Int64) (ep : Int32) (ng : Bool) (gn : Bool) (hi2 : Int64) (lw2 : Int64) (ep2 : Int32) (ng2 : Bool) (gn2 : Bool) : Int32 := pW_lift_2 hi lw ep ng gn
def v_W_join_6 (hi : Int64) (lw : Int64) (ep : Int32) (ng : Bool) (gn : Bool) (hi2 : Int64) (lw2 : Int64) (ep2 : Int32) (ng2 : Bool) (gn2 : Bool) : Int64 := pW_lift_0 hi2 lw2 ep2 ng2 gn2
def v_W_join_7 (hi : Int64) (lw : Int64) (ep : Int32) (ng : Bool) (gn : Bool) (hi2 : Int64) (lw2 : Int64) (ep2 : Int32) (ng2 : Bool) (gn2 : Bool) : Int64 := pW_lift_1 hi2 lw2 ep2 ng2 gn2
def v_W_join_8 (hi : Int64) (lw : Int64) (ep : Int32) (ng : Bool) (gn : Bool) (hi2 : Int64) (lw2 : Int64) (ep2 : Int32) (ng2 : Bool) (gn2 : Bool) : Int32 := pW_lift_2 hi2 lw2 ep2 ng2 gn2
def v_W_join_9 (hi : Int64) (lw : Int64) (ep : Int32) (ng : Bool) (gn : Bool) (hi2 : Int64) (lw2 : Int64) (ep2 : Int32) (ng2 : Bool) (gn2 : Bool) : Int32 := (v_W_join_5 hi lw ep ng gn hi2 lw2 ep2 ng2 gn2) - (v_W_join_8 hi lw ep ng gn hi2 lw2 ep2 ng2 gn2)
def v_W_join_10 (hi : Int64) (lw : Int64) (ep : Int32) (ng : Bool) (gn : Bool) (hi2 : Int64) (lw2 : Int64) (ep2 : Int32) (ng2 : Bool) (gn2 : Bool) : Int64 := pW_sink_0 (v_W_join_6 hi lw ep ng gn hi2 lw2 ep2 ng2 gn2) (v_W_join_7 hi lw ep ng gn hi2 lw2 ep2 ng2 gn2) (v_W_join_8 hi lw ep ng gn hi2 lw2 ep2 ng2 gn2) ng2 gn2 (v_W_join_9 hi lw ep ng gn hi2 lw2 ep2 ng2 gn2)
def v_W_join_11 (hi : Int64) (lw : Int64) (ep : Int32) (ng : Bool) (gn : Bool) (hi2 : Int64) (lw2 : Int64) (ep2 : Int32) (ng2 : Bool) (gn2 : Bool) : Int64 := pW_sink_1 (v_W_join_6 hi lw ep ng gn hi2 lw2 ep2 ng2 gn2) (v_W_join_7 hi lw ep ng gn hi2 lw2 ep2 ng2 gn2) (v_W_join_8 hi lw ep ng gn hi2 lw2 ep2 ng2 gn2) ng2 gn2 (v_W_join_9 hi lw ep ng gn hi2 lw2 ep2 ng2 gn2)
def v_W_join_12 (hi : Int64) (lw : Int64) (ep : Int32) (ng : Bool) (gn : Bool) (hi2 : Int64) (lw2 : Int64) (ep2 : Int32) (ng2 : Bool) (gn2 : Bool) : Int32 := pW_sink_2 (v_W_join_6 hi lw ep ng gn hi2 lw2 ep2 ng2 gn2) (v_W_join_7 hi lw ep ng gn hi2 lw2 ep2 ng2 gn2) (v_W_join_8 hi lw ep ng gn hi2 lw2 ep2 ng2 gn2) ng2 gn2 (v_W_join_9 hi lw ep ng gn hi2 lw2 ep2 ng2 gn2)
def v_W_join_13 (hi : Int64) (lw : Int64) (ep : Int32) (ng : Bool) (gn : Bool) (hi2 : Int64) (lw2 : Int64) (ep2 : Int32) (ng2 : Bool) (gn2 : Bool) : Bool := pW_sink_3 (v_W_join_6 hi lw ep ng gn hi2 lw2 ep2 ng2 gn2) (v_W_join_7 hi lw ep ng gn hi2 lw2 ep2 ng2 gn2) (v_W_join_8 hi lw ep ng gn hi2 lw2 ep2 ng2 gn2) ng2 gn2 (v_W_join_9 hi lw ep ng gn hi2 lw2 ep2 ng2 gn2)
def v_W_join_14 (hi : Int64) (lw : Int64) (ep : Int32) (ng : Bool) (gn : Bool) (hi2 : Int64) (lw2 : Int64) (ep2 : Int32) (ng2 : Bool) (gn2 : Bool) : Int64 := pW_sink_0 (v_W_join_3 hi lw ep ng gn hi2 lw2 ep2 ng2 gn2) (v_W_join_4 hi lw ep ng gn hi2 lw2 ep2 ng2 gn2) (v_W_join_5 hi lw ep ng gn hi2 lw2 ep2 ng2 gn2) ng gn (-(v_W_join_9 hi lw ep ng gn hi2 lw2 ep2 ng2 gn2))
def v_W_join_15 (hi : Int64) (lw : Int64) (ep : Int32) (ng : Bool) (gn : Bool) (hi2 : Int64) (lw2 : Int64) (ep2 : Int32) (ng2 : Bool) (gn2 : Bool) : Int64 := pW_sink_1 (v_W_join_3 hi lw ep ng gn hi2 lw2 ep2 ng2 gn2) (v_W_join_4 hi lw ep ng gn hi2 lw2 ep2 ng2 gn2) (v_W_join_5 hi lw ep ng gn hi2 lw2 ep2 ng2 gn2) ng gn (-(v_W_join_9 hi lw ep ng gn hi2 lw2 ep2 ng2 gn2))
def v_W_join_16 (hi : Int64) (lw : Int64) (ep : Int32) (ng : Bool) (gn : Bool) (hi2 : Int64) (lw2 : Int64) (ep2 : Int32) (ng2 : Bool) (gn2 : Bool) : Int32 := pW_sink_2 (v_W_join_3 hi lw ep ng gn hi2 lw2 ep2 ng2 gn2) (v_W_join_4 hi lw ep ng gn hi2 lw2 ep2 ng2 gn2) (v_W_join_5 hi lw ep ng gn hi2 lw2 ep2 ng2 gn2) ng gn (-(v_W_join_9 hi lw ep ng gn hi2 lw2 ep2 ng2 gn2))
def v_W_join_17 (hi : Int64) (lw : Int64) (ep : Int32) (ng : Bool) (gn : Bool) (hi2 : Int64) (lw2 : Int64) (ep2 : Int32) (ng2 : Bool) (gn2 : Bool) : Bool := pW_sink_3 (v_W_join_3 hi lw ep ng gn hi2 lw2 ep2 ng2 gn2) (v_W_join_4 hi lw ep ng gn hi2 lw2 ep2 ng2 gn2) (v_W_join_5 hi lw ep ng gn hi2 lw2 ep2 ng2 gn2) ng gn (-(v_W_join_9 hi lw ep ng gn hi2 lw2 ep2 ng2 gn2))
def v_W_join_18 (hi : Int64) (lw : Int64) (ep : Int32) (ng : Bool) (gn : Bool) (hi2 : Int64) (lw2 : Int64) (ep2 : Int32) (ng2 : Bool) (gn2 : Bool) : Bool := pW_isBelow (v_W_join_14 hi lw ep ng gn hi2 lw2 ep2 ng2 gn2) (v_W_join_15 hi lw ep ng gn hi2 lw2 ep2 ng2 gn2) (v_W_join_16 hi lw ep ng gn hi2 lw2 ep2 ng2 gn2) ng (v_W_join_17 hi lw ep ng gn hi2 lw2 ep2 ng2 gn2) (v_W_join_10 hi lw ep ng gn hi2 lw2 ep2 ng2 gn2) (v_W_join_11 hi lw ep ng gn hi2 lw2 ep2 ng2 gn2) (v_W_join_12 hi lw ep ng gn hi2 lw2 ep2 ng2 gn2) ng2 (v_W_join_13 hi lw ep ng gn hi2 lw2 ep2 ng2 gn2)
def v_W_join_19 (hi : Int64) (lw : Int64) (ep : Int32) (ng : Bool) (gn : Bool) (hi2 : Int64) (lw2 : Int64) (ep2 : Int32) (ng2 : Bool) (gn2 : Bool) : Int64 := pW_lower_0 (v_W_join_14 hi lw ep ng gn hi2 lw2 ep2 ng2 gn2) (v_W_join_15 hi lw ep ng gn hi2 lw2 ep2 ng2 gn2) (v_W_join_16 hi lw ep ng gn hi2 lw2 ep2 ng2 gn2) ng (v_W_join_17 hi lw ep ng gn hi2 lw2 ep2 ng2 gn2) (v_W_join_10 hi lw ep ng gn hi2 lw2 ep2 ng2 gn2) (v_W_join_11 hi lw ep ng gn hi2 lw2 ep2 ng2 gn2) (v_W_join_12 hi lw ep ng gn hi2 lw2 ep2 ng2 gn2) ng2 (v_W_join_13 hi lw ep ng gn hi2 lw2 ep2 ng2 gn2)
def v_W_join_20 (hi : Int64) (lw : Int64) (ep : Int32) (ng : Bool) (gn : Bool) (hi2 : Int64) (lw2 : Int64) (ep2 : Int32) (ng2 : Bool) (gn2 : Bool) : Int64 := pW_lower_1 (v_W_join_14 hi lw ep ng gn hi2 lw2 ep2 ng2 gn2) (v_W_join_15 hi lw ep ng gn hi2 lw2 ep2 ng2 gn2) (v_W_join_16 hi lw ep ng gn hi2 lw2 ep2 ng2 gn2) ng (v_W_join_17 hi lw ep ng gn hi2 lw2 ep2 ng2 gn2) (v_W_join_10 hi lw ep ng gn hi2 lw2 ep2 ng2 gn2) (v_W_join_11 hi lw ep ng gn hi2 lw2 ep2 ng2 gn2) (v_W_join_12 hi lw ep ng gn hi2 lw2 ep2 ng2 gn2) ng2 (v_W_join_13 hi lw ep ng gn hi2 lw2 ep2 ng2 gn2)
def v_W_join_21 (hi : Int64) (lw : Int64) (ep : Int32) (ng : Bool) (gn : Bool) (hi2 : Int64) (lw2 : Int64) (ep2 : Int32) (ng2 : Bool) (gn2 : Bool) : Bool := pW_lower_2 (v_W_join_14 hi lw ep ng gn hi2 lw2 ep2 ng2 gn2) (v_W_join_15 hi lw ep ng gn hi2 lw2 ep2 ng2 gn2) (v_W_join_16 hi lw ep ng gn hi2 lw2 ep2 ng2 gn2) ng (v_W_join_17 hi lw ep ng gn hi2 lw2 ep2 ng2 gn2) (v_W_join_10 hi lw ep ng gn hi2 lw2 ep2 ng2 gn2) (v_W_join_11 hi lw ep ng gn hi2 lw2 ep2 ng2 gn2) (v_W_join_12 hi lw ep ng gn hi2 lw2 ep2 ng2 gn2) ng2 (v_W_join_13 hi lw ep ng gn hi2 lw2 ep2 ng2 gn2)
def v_W_join_22 (hi : Int64) (lw : Int64) (ep : Int32) (ng : Bool) (gn : Bool) (hi2 : Int64) (lw2 : Int64) (ep2 : Int32) (ng2 : Bool) (gn2 : Bool) : Int64 := pW_lower_0 (v_W_join_10 hi lw ep ng gn hi2 lw2 ep2 ng2 gn2) (v_W_join_11 hi lw ep ng gn hi2 lw2 ep2 ng2 gn2) (v_W_join_12 hi lw ep ng gn hi2 lw2 ep2 ng2 gn2) ng2 (v_W_join_13 hi lw ep ng gn hi2 lw2 ep2 ng2 gn2) (v_W_join_14 hi lw ep ng gn hi2 lw2 ep2 ng2 gn2) (v_W_join_15 hi lw ep ng gn hi2 lw2 ep2 ng2 gn2) (v_W_join_16 hi lw ep ng gn hi2 lw2 ep2 ng2 gn2) ng (v_W_join_17 hi lw ep ng gn hi2 lw2 ep2 ng2 gn2)
def v_W_join_23 (hi : Int64) (lw : Int64) (ep : Int32) (ng : Bool) (gn : Bool) (hi2 : Int64) (lw2 : Int64) (ep2 : Int32) (ng2 : Bool) (gn2 : Bool) : Int64 := pW_lower_1 (v_W_join_10 hi lw ep ng gn hi2 lw2 ep2 ng2 gn2) (v_W_join_11 hi lw ep ng gn hi2 lw2 ep2 ng2 gn2) (v_W_join_12 hi lw ep ng gn hi2 lw2 ep2 ng2 gn2) ng2 (v_W_join_13 hi lw ep ng gn hi2 lw2 ep2 ng2 gn2) (v_W_join_14 hi lw ep ng gn hi2 lw2 ep2 ng2 gn2) (v_W_join_15 hi lw ep ng gn hi2 lw2 ep2 ng2 gn2) (v_W_join_16 hi lw ep ng gn hi2 lw2 ep2 ng2 gn2) ng (v_W_join_17 hi lw ep ng gn hi2 lw2 ep2 ng2 gn2)
def v_W_join_24 (hi : Int64) (lw : Int64) (ep : Int32) (ng : Bool) (gn : Bool) (hi2 : Int64) (lw2 : Int64) (ep2 : Int32) (ng2 : Bool) (gn2 : Bool) : Bool := pW_lower_2 (v_W_join_10 hi lw ep ng gn hi2 lw2 ep2 ng2 gn2) (v_W_join_11 hi lw ep ng gn hi2 lw2 ep2 ng2 gn2) (v_W_join_12 hi lw ep ng gn hi2 lw2 ep2 ng2 gn2) ng2 (v_W_join_13 hi lw ep ng gn hi2 lw2 ep2 ng2 gn2) (v_W_join_14 hi lw ep ng gn hi2 lw2 ep2 ng2 gn2) (v_W_join_15 hi lw ep ng gn hi2 lw2 ep2 ng2 gn2) (v_W_join_16 hi lw ep ng gn hi2 lw2 ep2 ng2 gn2) ng (v_W_join_17 hi lw ep ng gn hi2 lw2 ep2 ng2 gn2)
def v_W_join_25 (hi : Int64) (lw : Int64) (ep : Int32) (ng : Bool) (gn : Bool) (hi2 : Int64) (lw2 : Int64) (ep2 : Int32) (ng2 : Bool) (gn2 : Bool) : Int64 := pW_copy_0 (v_W_join_14 hi lw ep ng gn hi2 lw2 ep2 ng2 gn2) (v_W_join_15 hi lw ep ng gn hi2 lw2 ep2 ng2 gn2) (v_W_join_16 hi lw ep ng gn hi2 lw2 ep2 ng2 gn2) ng (v_W_join_17 hi lw ep ng gn hi2 lw2 ep2 ng2 gn2) (v_W_join_22 hi lw ep ng gn hi2 lw2 ep2 ng2 gn2) (v_W_join_23 hi lw ep ng gn hi2 lw2 ep2 ng2 gn2) (v_W_join_12 hi lw ep ng gn hi2 lw2 ep2 ng2 gn2) ng2 (v_W_join_24 hi lw ep ng gn hi2 lw2 ep2 ng2 gn2)
def v_W_join_26 (hi : Int64) (lw : Int64) (ep : Int32) (ng : Bool) (gn : Bool) (hi2 : Int64) (lw2 : Int64) (ep2 : Int32) (ng2 : Bool) (gn2 : Bool) : Int64 := pW_copy_1 (v_W_join_14 hi lw ep ng gn hi2 lw2 ep2 ng2 gn2) (v_W_join_15 hi lw ep ng gn hi2 lw2 ep2 ng2 gn2) (v_W_join_16 hi lw ep ng gn hi2 lw2 ep2 ng2 gn2) ng (v_W_join_17 hi lw ep ng gn hi2 lw2 ep2 ng2 gn2) (v_W_join_22 hi lw ep ng gn hi2 lw2 ep2 ng2 gn2) (v_W_join_23 hi lw ep ng gn hi2 lw2 ep2 ng2 gn2) (v_W_join_12 hi lw ep ng gn hi2 lw2 ep2 ng2 gn2) ng2 (v_W_join_24 hi lw ep ng gn hi2 lw2 ep2 ng2 gn2)
def v_W_join_27 (hi : Int64) (lw : Int64) (ep : Int32) (ng : Bool) (gn : Bool) (hi2 : Int64) (lw2 : Int64) (ep2 : Int32) (ng2 : Bool) (gn2 : Bool) : Int32 := pW_copy_2 (v_W_join_14 hi lw ep ng gn hi2 lw2 ep2 ng2 gn2) (v_W_join_15 hi lw ep ng gn hi2 lw2 ep2 ng2 gn2) (v_W_join_16 hi lw ep ng gn hi2 lw2 ep2 ng2 gn2) ng (v_W_join_17 hi lw ep ng gn hi2 lw2 ep2 ng2 gn2) (v_W_join_22 hi lw ep ng gn hi2 lw2 ep2 ng2 gn2) (v_W_join_23 hi lw ep ng gn hi2 lw2 ep2 ng2 gn2) (v_W_join_12 hi lw ep ng gn hi2 lw2 ep2 ng2 gn2) ng2 (v_W_join_24 hi lw ep ng gn hi2 lw2 ep2 ng2 gn2)
def v_W_join_28 (hi : Int64) (lw : Int64) (ep : Int32) (ng : Bool) (gn : Bool) (hi2 : Int64) (lw2 : Int64) (ep2 : Int32) (ng2 : Bool) (gn2 : Bool) : Bool := pW_copy_3 (v_W_join_14 hi lw ep ng gn hi2 lw2 ep2 ng2 gn2) (v_W_join_15 hi lw ep ng gn hi2 lw2 ep2 ng2 gn2) (v_W_join_16 hi lw ep ng gn hi2 lw2 ep2 ng2 gn2) ng (v_W_join_17 hi lw ep ng gn hi2 lw2 ep2 ng2 gn2) (v_W_join_22 hi lw ep ng gn hi2 lw2 ep2 ng2 gn2) (v_W_join_23 hi lw ep ng gn hi2 lw2 ep2 ng2 gn2) (v_W_join_12 hi lw ep ng gn hi2 lw2 ep2 ng2 gn2) ng2 (v_W_join_24 hi lw ep ng gn hi2 lw2 ep2 ng2 gn2)
def v_W_join_29 (hi : Int64) (lw : Int64) (ep : Int32) (ng : Bool) (gn : Bool) (hi2 : Int64) (lw2 : Int64) (ep2 : Int32) (ng2 : Bool) (gn2 : Bool) : Bool := pW_copy_4 (v_W_join_14 hi lw ep ng gn hi2 lw2 ep2 ng2 gn2) (v_W_join_15 hi lw ep ng gn hi2 lw2 ep2 ng2 gn2) (v_W_join_16 hi lw ep ng gn hi2 lw2 ep2 ng2 gn2) ng (v_W_join_17 hi lw ep ng gn hi2 lw2 ep2 ng2 gn2) (v_W_join_22 hi lw ep ng gn hi2 lw2 ep2 ng2 gn2) (v_W_join_23 hi lw ep ng gn hi2 lw2 ep2 ng2 gn2) (v_W_join_12 hi lw ep ng gn hi2 lw2 ep2 ng2 gn2) ng2 (v_W_join_24 hi lw ep ng gn hi2 lw2 ep2 ng2 gn2)
def v_W_join_30 (hi : Int64) (lw : Int64) (ep : Int32) (ng : Bool) (gn : Bool) (hi2 : Int64) (lw2 : Int64) (ep2 : Int32) (ng2 : Bool) (gn2 : Bool) : Int64 := pW_raise_0 (v_W_join_14 hi lw ep ng gn hi2 lw2 ep2 ng2 gn2) (v_W_join_15 hi lw ep ng gn hi2 lw2 ep2 ng2 gn2) (v_W_join_16 hi lw ep ng gn hi2 lw2 ep2 ng2 gn2) ng (v_W_join_17 hi lw ep ng gn hi2 lw2 ep2 ng2 gn2) (v_W_join_10 hi lw ep ng gn hi2 lw2 ep2 ng2 gn2) (v_W_join_11 hi lw ep ng gn hi2 lw2 ep2 ng2 gn2) (v_W_join_12 hi lw ep ng gn hi2 lw2 ep2 ng2 gn2) ng2 (v_W_join_13 hi lw ep ng gn hi2 lw2 ep2 ng2 gn2)
def v_W_join_31 (hi : Int64) (lw : Int64) (ep : Int32) (ng : Bool) (gn : Bool) (hi2 : Int64) (lw2 : Int64) (ep2 : Int32) (ng2 : Bool) (gn2 : Bool) : Int64 := pW_raise_1 (v_W_join_14 hi lw ep ng gn hi2 lw2 ep2 ng2 gn2) (v_W_join_15 hi lw ep ng gn hi2 lw2 ep2 ng2 gn2) (v_W_join_16 hi lw ep ng gn hi2 lw2 ep2 ng2 gn2) ng (v_W_join_17 hi lw ep ng gn hi2 lw2 ep2 ng2 gn2) (v_W_join_10 hi lw ep ng gn hi2 lw2 ep2 ng2 gn2) (v_W_join_11 hi lw ep ng gn hi2 lw2 ep2 ng2 gn2) (v_W_join_12 hi lw ep ng gn hi2 lw2 ep2 ng2 gn2) ng2 (v_W_join_13 hi lw ep ng gn hi2 lw2 ep2 ng2 gn2)
def v_W_join_32 (hi : Int64) (lw : Int64) (ep : Int32) (ng : Bool) (gn : Bool) (hi2 : Int64) (lw2 : Int64) (ep2 : Int32) (ng2 : Bool) (gn2 : Bool) : Bool := pW_raise_2 (v_W_join_14 hi lw ep ng gn hi2 lw2 ep2 ng2 gn2) (v_W_join_15 hi lw ep ng gn hi2 lw2 ep2 ng2 gn2) (v_W_join_16 hi lw ep ng gn hi2 lw2 ep2 ng2 gn2) ng (v_W_join_17 hi lw ep ng gn hi2 lw2 ep2 ng2 gn2) (v_W_join_10 hi lw ep ng gn hi2 lw2 ep2 ng2 gn2) (v_W_join_11 hi lw ep ng gn hi2 lw2 ep2 ng2 gn2) (v_W_join_12 hi lw ep ng gn hi2 lw2 ep2 ng2 gn2) ng2 (v_W_join_13 hi lw ep ng gn hi2 lw2 ep2 ng2 gn2)
def v_W_join_33 (hi : Int64) (lw : Int64) (ep : Int32) (ng : Bool) (gn : Bool) (hi2 : Int64) (lw2 : Int64) (ep2 : Int32) (ng2 : Bool) (gn2 : Bool) : Int64 := (if ng = ng2 then (v_W_join_30 hi lw ep ng gn hi2 lw2 ep2 ng2 gn2) else (if (v_W_join_18 hi lw ep ng gn hi2 lw2 ep2 ng2 gn2) = true then (v_W_join_25 hi lw ep ng gn hi2 lw2 ep2 ng2 gn2) else (v_W_join_19 hi lw ep ng gn hi2 lw2 ep2 ng2 gn2)))
def v_W_join_34 (hi : Int64) (lw : Int64) (ep : Int32) (ng : Bool) (gn : Bool) (hi2 : Int64) (lw2 : Int64) (ep2 : Int32) (ng2 : Bool) (gn2 : Bool) : Int64 := (if ng = ng2 then (v_W_join_31 hi lw ep ng gn hi2 lw2 ep2 ng2 gn2) else (if (v_W_join_18 hi lw ep ng gn hi2 lw2 ep2 ng2 gn2) = true then (v_W_join_26 hi lw ep ng gn hi2 lw2 ep2 ng2 gn2) else (v_W_join_20 hi lw ep ng gn hi2 lw2 ep2 ng2 gn2)))
def v_W_join_35 (hi : Int64) (lw : Int64) (ep : Int32) (ng : Bool) (gn : Bool) (hi2 : Int64) (lw2 : Int64) (ep2 : Int32) (ng2 : Bool) (gn2 : Bool) : Int32 := (if ng = ng2 then (v_W_join_16 hi lw ep ng gn hi2 lw2 ep2 ng2 gn2) else (if (v_W_join_18 hi lw ep ng gn hi2 lw2 ep2 ng2 gn2) = true then (v_W_join_27 hi lw ep ng gn hi2 lw2 ep2 ng2 gn2) else (v_W_join_16 hi lw ep ng gn hi2 lw2 ep2 ng2 gn2)))
def v_W_join_36 (hi : Int64) (lw : Int64) (ep : Int32) (ng : Bool) (gn : Bool) (hi2 : Int64) (lw2 : Int64) (ep2 : Int32) (ng2 : Bool) (gn2 : Bool) : Bool := (if ng = ng2 then ng else (if (v_W_join_18 hi lw ep ng gn hi2 lw2 ep2 ng2 gn2) = true then (v_W_join_28 hi lw ep ng gn hi2 lw2 ep2 ng2 gn2) else ng))
def v_W_join_37 (hi : Int64) (lw : Int64) (ep : Int32) (ng : Bool) (gn : Bool) (hi2 : Int64) (lw2 : Int64) (ep2 : Int32) (ng2 : Bool) (gn2 : Bool) : Bool := (if ng = ng2 then (v_W_join_32 hi lw ep ng gn hi2 lw2 ep2 ng2 gn2) else (if (v_W_join_18 hi lw ep ng gn hi2 lw2 ep2 ng2 gn2) = true then (v_W_join_29 hi lw ep ng gn hi2 lw2 ep2 ng2 gn2) else (v_W_join_21 hi lw ep ng gn hi2 lw2 ep2 ng2 gn2)))
def v_W_join_38 (hi : Int64) (lw : Int64) (ep : Int32) (ng : Bool) (gn : Bool) (hi2 : Int64) (lw2 : Int64) (ep2 : Int32) (ng2 : Bool) (gn2 : Bool) : Int64 := (if ng = ng2 then (v_W_join_10 hi lw ep ng gn hi2 lw2 ep2 ng2 gn2) else (if (v_W_join_18 hi lw ep ng gn hi2 lw2 ep2 ng2 gn2) = true then (v_W_join_22 hi lw ep ng gn hi2 lw2 ep2 ng2 gn2) else (v_W_join_10 hi lw ep ng gn hi2 lw2 ep2 ng2 gn2)))
def v_W_join_39 (hi : Int64) (lw : Int64) (ep : Int32) (ng : Bool) (gn : Bool) (hi2 : Int64) (lw2 : Int64) (ep2 : Int32) (ng2 : Bool) (gn2 : Bool) : Int64 := (if ng = ng2 then (v_W_join_11 hi lw ep ng gn hi2 lw2 ep2 ng2 gn2) else (if (v_W_join_18 hi lw ep ng gn hi2 lw2 ep2 ng2 gn2) = true then (v_W_join_23 hi lw ep ng gn hi2 lw2 ep2 ng2 gn2) else (v_W_join_11 hi lw ep ng gn hi2 lw2 ep2 ng2 gn2)))
def v_W_join_40 (hi : Int64) (lw : Int64) (ep : Int32) (ng : Bool) (gn : Bool) (hi2 : Int64) (lw2 : Int64) (ep2 : Int32) (ng2 : Bool) (gn2 : Bool) : Bool := (if ng = ng2 then (v_W_join_13 hi lw ep ng gn hi2 lw2 ep2 ng2 gn2) else (if (v_W_join_18 hi lw ep ng gn hi2 lw2 ep2 ng2 gn2) = true then (v_W_join_24 hi lw ep ng gn hi2 lw2 ep2 ng2 gn2) else (v_W_join_13 hi lw ep ng gn hi2 lw2 ep2 ng2 gn2)))
def v_W_join_41 (hi : Int64) (lw : Int64) (ep : Int32) (ng : Bool) (gn : Bool) (hi2 : Int64) (lw2 : Int64) (ep2 : Int32) (ng2 : Bool) (gn2 : Bool) : Int64 := pW_copy_0 hi lw ep ng gn hi2 lw2 ep2 ng2 gn2
def v_W_join_42 (hi : Int64) (lw : Int64) (ep : Int32) (ng : Bool) (gn : Bool) (hi2 : Int64) (lw2 : Int64) (ep2 : Int32) (ng2 : Bool) (gn2 : Bool) : Int64 := pW_copy_1 hi lw ep ng gn hi2 lw2 ep2 ng2 gn2
def v_W_join_43 (hi : Int64) (lw : Int64) (ep : Int32) (ng : Bool) (gn : Bool) (hi2 : Int64) (lw2 : Int64) (ep2 : Int32) (ng2 : Bool) (gn2 : Bool) : Int32 := pW_copy_2 hi lw ep ng gn hi2 lw2 ep2 ng2 gn2
def v_W_join_44 (hi : Int64) (lw : Int64) (ep : Int32) (ng : Bool) (gn : Bool) (hi2 : Int64) (lw2 : Int64) (ep2 : Int32) (ng2 : Bool) (gn2 : Bool) : Bool := pW_copy_3 hi lw ep ng gn hi2 lw2 ep2 ng2 gn2
def v_W_join_45 (hi : Int64) (lw : Int64) (ep : Int32) (ng : Bool) (gn : Bool) (hi2 : Int64) (lw2 : Int64) (ep2 : Int32) (ng2 : Bool) (gn2 : Bool) : Bool := pW_copy_4 hi lw ep ng gn hi2 lw2 ep2 ng2 gn2
def pW_join_0 (hi : Int64) (lw : Int64) (ep : Int32) (ng : Bool) (gn : Bool) (hi2 : Int64) (lw2 : Int64) (ep2 : Int32) (ng2 : Bool) (gn2 : Bool) : Int64 := (if (v_W_join_1 hi lw ep ng gn hi2 lw2 ep2 ng2 gn2) = true then hi else (if (v_W_join_2 hi lw ep ng gn hi2 lw2 ep2 ng2 gn2) = true then (v_W_join_41 hi lw ep ng gn hi2 lw2 ep2 ng2 gn2) else (v_W_join_33 hi lw ep ng gn hi2 lw2 ep2 ng2 gn2)))
def pW_join_1 (hi : Int64) (lw : Int64) (ep : Int32) (ng : Bool) (gn : Bool) (hi2 : Int64) (lw2 : Int64) (ep2 : Int32) (ng2 : Bool) (gn2 : Bool) : Int64 := (if (v_W_join_1 hi lw ep ng gn hi2 lw2 ep2 ng2 gn2) = true then lw else (if (v_W_join_2 hi lw ep ng gn hi2 lw2 ep2 ng2 gn2) = true then (v_W_join_42 hi lw ep ng gn hi2 lw2 ep2 ng2 gn2) else (v_W_join_34 hi lw ep ng gn hi2 lw2 ep2 ng2 gn2)))
def pW_join_2 (hi : Int64) (lw : Int64) (ep : Int32) (ng : Bool) (gn : Bool) (hi2 : Int64) (lw2 : Int64) (ep2 : Int32) (ng2 : Bool) (gn2 : Bool) : Int32 := (if (v_W_join_1 hi lw ep ng gn hi2 lw2 ep2 ng2 gn2) = true then ep else (if (v_W_join_2 hi lw ep ng gn hi2 lw2 ep2 ng2 gn2) = true then (v_W_join_43 hi lw ep ng gn hi2 lw2 ep2 ng2 gn2) else (v_W_join_35 hi lw ep ng gn hi2 lw2 ep2 ng2 gn2)))
def pW_join_3 (hi : Int64) (lw : Int64) (ep : Int32) (ng : Bool) (gn : Bool) (hi2 : Int64) (lw2 : Int64) (ep2 : Int32) (ng2 : Bool) (gn2 : Bool) : Bool := (if (v_W_join_1 hi lw ep ng gn hi2 lw2 ep2 ng2 gn2) = true then ng else (if (v_W_join_2 hi lw ep ng gn hi2 lw2 ep2 ng2 gn2) = true then (v_W_join_44 hi lw ep ng gn hi2 lw2 ep2 ng2 gn2) else (v_W_join_36 hi lw ep ng gn hi2 lw2 ep2 ng2 gn2)))
def pW_join_4 (hi : Int64) (lw : Int64) (ep : Int32) (ng : Bool) (gn : Bool) (hi2 : Int64) (lw2 : Int64) (ep2 : Int32) (ng2 : Bool) (gn2 : Bool) : Bool := (if (v_W_join_1 hi lw ep ng gn hi2 lw2 ep2 ng2 gn2) = true then gn else (if (v_W_join_2 hi lw ep ng gn hi2 lw2 ep2 ng2 gn2) = true then (v_W_join_45 hi lw ep ng gn hi2 lw2 ep2 ng2 gn2) else (v_W_join_37 hi lw ep ng gn hi2 lw2 ep2 ng2 gn2)))
def pW_join_5 (hi : Int64) (lw : Int64) (ep : Int32) (ng : Bool) (gn : Bool) (hi2 : Int64) (lw2 : Int64) (ep2 : Int32) (ng2 : Bool) (gn2 : Bool) : Int64 := (if (v_W_join_1 hi lw ep ng gn hi2 lw2 ep2 ng2 gn2) = true then hi2 else (if (v_W_join_2 hi lw ep ng gn hi2 lw2 ep2 ng2 gn2) = true then hi2 else (v_W_join_38 hi lw ep ng gn hi2 lw2 ep2 ng2 gn2)))
def pW_join_6 (hi : Int64) (lw : Int64) (ep : Int32) (ng : Bool) (gn : Bool) (hi2 : Int64) (lw2 : Int64) (ep2 : Int32) (ng2 : Bool) (gn2 : Bool) : Int64 := (if (v_W_join_1 hi lw ep ng gn hi2 lw2 ep2 ng2 gn2) = true then lw2 else (if (v_W_join_2 hi lw ep ng gn hi2 lw2 ep2 ng2 gn2) = true then lw2 else (v_W_join_39 hi lw ep ng gn hi2 lw2 ep2 ng2 gn2)))
def pW_join_7 (hi : Int64) (lw : Int64) (ep : Int32) (ng : Bool) (gn : Bool) (hi2 : Int64) (lw2 : Int64) (ep2 : Int32) (ng2 : Bool) (gn2 : Bool) : Int32 := (if (v_W_join_1 hi lw ep ng gn hi2 lw2 ep2 ng2 gn2) = true then ep2 else (if (v_W_join_2 hi lw ep ng gn hi2 lw2 ep2 ng2 gn2) = true then ep2 else (v_W_join_12 hi lw ep ng gn hi2 lw2 ep2 ng2 gn2)))
def pW_join_8 (hi : Int64) (lw : Int64) (ep : Int32) (ng : Bool) (gn : Bool) (hi2 : Int64) (lw2 : Int64) (ep2 : Int32) (ng2 : Bool) (gn2 : Bool) : Bool := (if (v_W_join_1 hi lw ep ng gn hi2 lw2 ep2 ng2 gn2) = true then gn2 else (if (v_W_join_2 hi lw ep ng gn hi2 lw2 ep2 ng2 gn2) = true then gn2 else (v_W_join_40 hi lw ep ng gn hi2 lw2 ep2 ng2 gn2)))
/-- W_join -/
abbrev atW_join (dC : Nat → ClassId) (dI : Nat → Nat → Nat) (h0 h1 : Nat) (hi : Int64) (lw : Int64) (ep : Int32) (ng : Bool) (gn : Bool) (hi2 : Int64) (lw2 : Int64) (ep2 : Int32) (ng2 : Bool) (gn2 : Bool) (A : Nat → Prop) (t : State) : Prop := va_P (dC, dI) vwCl [(h0, .inr (0, [.long (pW_join_0 hi lw ep ng gn hi2 lw2 ep2 ng2 gn2), .long (pW_join_1 hi lw ep ng gn hi2 lw2 ep2 ng2 gn2), .int (pW_join_2 hi lw ep ng gn hi2 lw2 ep2 ng2 gn2), .int (bI (pW_join_3 hi lw ep ng gn hi2 lw2 ep2 ng2 gn2)), .int (bI (pW_join_4 hi lw ep ng gn hi2 lw2 ep2 ng2 gn2))])), (h1, .inr (0, [.long (pW_join_5 hi lw ep ng gn hi2 lw2 ep2 ng2 gn2), .long (pW_join_6 hi lw ep ng gn hi2 lw2 ep2 ng2 gn2), .int (pW_join_7 hi lw ep ng gn hi2 lw2 ep2 ng2 gn2), .int (bI ng2), .int (bI (pW_join_8 hi lw ep ng gn hi2 lw2 ep2 ng2 gn2))]))] t.heap ∧ va_K (dC, dI) vwCl [] t ∧ va_D A [(h0, .inr (0, [.long (pW_join_0 hi lw ep ng gn hi2 lw2 ep2 ng2 gn2), .long (pW_join_1 hi lw ep ng gn hi2 lw2 ep2 ng2 gn2), .int (pW_join_2 hi lw ep ng gn hi2 lw2 ep2 ng2 gn2), .int (bI (pW_join_3 hi lw ep ng gn hi2 lw2 ep2 ng2 gn2)), .int (bI (pW_join_4 hi lw ep ng gn hi2 lw2 ep2 ng2 gn2))])), (h1, .inr (0, [.long (pW_join_5 hi lw ep ng gn hi2 lw2 ep2 ng2 gn2), .long (pW_join_6 hi lw ep ng gn hi2 lw2 ep2 ng2 gn2), .int (pW_join_7 hi lw ep ng gn hi2 lw2 ep2 ng2 gn2), .int (bI ng2), .int (bI (pW_join_8 hi lw ep ng gn hi2 lw2 ep2 ng2 gn2))]))]
theorem trW_join {dC : Nat → ClassId} {dI : Nat → Nat → Nat} {h0 h1 : Nat} {ng2 : Bool} {A : Nat → Prop} {H : Heap} {a0 b0 : Int64} {a1 b1 : Int64} {a2 b2 : Int32} {a3 b3 : Bool} {a4 b4 : Bool} {a5 b5 : Int64} {a6 b6 : Int64} {a7 b7 : Int32} {a8 b8 : Bool} (e0 : a0 = b0) (e1 : a1 = b1) (e2 : a2 = b2) (e3 : a3 = b3) (e4 : a4 = b4) (e5 : a5 = b5) (e6 : a6 = b6) (e7 : a7 = b7) (e8 : a8 = b8) (h : va_P (dC, dI) vwCl [(h0, .inr (0, [.long a0, .long a1, .int a2, .int (bI a3), .int (bI a4)])), (h1, .inr (0, [.long a5, .long a6, .int a7, .int (bI ng2), .int (bI a8)]))] H ∧ va_D A [(h0, .inr (0, [.long a0, .long a1, .int a2, .int (bI a3), .int (bI a4)])), (h1, .inr (0, [.long a5, .long a6, .int a7, .int (bI ng2), .int (bI a8)]))]) : va_P (dC, dI) vwCl [(h0, .inr (0, [.long b0, .long b1, .int b2, .int (bI b3), .int (bI b4)])), (h1, .inr (0, [.long b5, .long b6, .int b7, .int (bI ng2), .int (bI b8)]))] H ∧ va_D A [(h0, .inr (0, [.long b0, .long b1, .int b2, .int (bI b3), .int (bI b4)])), (h1, .inr (0, [.long b5, .long b6, .int b7, .int (bI ng2), .int (bI b8)]))] := by
  subst e0
  subst e1
  subst e2
  subst e3
  subst e4
  subst e5
  subst e6
  subst e7
  subst e8
  exact h
abbrev WW_join (p : Program) (l : Launch) (e : Env) (s : State) (m : MethodId) (below : List Frame) (meth : Method) (c : Code) (dC : Nat → ClassId) (dI : Nat → Nat → Nat) (h0 h1 : Nat) (hi : Int64) (lw : Int64) (ep : Int32) (ng : Bool) (gn : Bool) (hi2 : Int64) (lw2 : Int64) (ep2 : Int32) (ng2 : Bool) (gn2 : Bool) (A : Nat → Prop) (H : Heap) (locs : List Loc) (g : JFrame) : Prop := W p l e (headSpec wW_join ({ frames := 4, cells := 0, slots := 0, locals := 86 })).room s m ([.ref h0, .ref h1] : List Value).toArray below meth c H locs 0 0 (MQ below (va_Qv (fun (_ : Unit) => True) (fun _ => atW_join dC dI h0 h1 hi lw ep ng gn hi2 lw2 ep2 ng2 gn2 A) A) ([.ref h0, .ref h1] : List Value).toArray s 0 0 A) g
set_option maxHeartbeats 4000000 in
set_option maxRecDepth 100000 in
theorem kW_join (l : Launch) (dC : Nat → ClassId) (dI : Nat → Nat → Nat) (h0 h1 : Nat) (sz : Nat) (hi : Int64) (lw : Int64) (ep : Int32) (ng : Bool) (gn : Bool) (hi2 : Int64) (lw2 : Int64) (ep2 : Int32) (ng2 : Bool) (gn2 : Bool) : Met l yW_join wW_join ({ frames := 4, cells := 0, slots := 0, locals := 86 }) (va_Pc [.ref h0, .ref h1] (fun U => U.heap.size = sz ∧ va_P (dC, dI) vwCl [(h0, .inr (0, [.long hi, .long lw, .int ep, .int (bI ng), .int (bI gn)])), (h1, .inr (0, [.long hi2, .long lw2, .int ep2, .int (bI ng2), .int (bI gn2)]))] U.heap ∧ va_K (dC, dI) vwCl [] U ∧ va_D (fun _ => True) [(h0, .inr (0, [.long hi, .long lw, .int ep, .int (bI ng), .int (bI gn)])), (h1, .inr (0, [.long hi2, .long lw2, .int ep2, .int (bI ng2), .int (bI gn2)]))] ∧ NW U)) (va_Qv (fun (_ : Unit) => True) (fun _ => atW_join dC dI h0 h1 hi lw ep ng gn hi2 lw2 ep2 ng2 gn2 (va_A [(h0, .inr (0, [.long hi, .long lw, .int ep, .int (bI ng), .int (bI gn)])), (h1, .inr (0, [.long hi2, .long lw2, .int ep2, .int (bI ng2), .int (bI gn2)]))] sz)) (va_A [(h0, .inr (0, [.long hi, .long lw, .int ep, .int (bI ng), .int (bI gn)])), (h1, .inr (0, [.long hi2, .long lw2, .int ep2, .int (bI ng2), .int (bI gn2)]))] sz)) 0 0 (va_A [(h0, .inr (0, [.long hi, .long lw, .int ep, .int (bI ng), .int (bI gn)])), (h1, .inr (0, [.long hi2, .long lw2, .int ep2, .int (bI ng2), .int (bI gn2)]))] sz) := by
  refine Met.ofW (cc := cW_join) (maxL := 3) (ret := none) (by decide) rfl ?_
  intro p e s m args below meth c s₁ B hml hv
  obtain ⟨rfl, hsz, hP, hK, hD0, hN⟩ := hv
  have hx := B.exec
  have hb := B.bytes
  have hr := B.returns
  have hts := atoms_spec (ws := wW_join) B.pre
  have hown : s.vm.findClass RW = some m.cls := findClass_of_methodNamed B.named
  have hlocks := B.notSynchronized
  subst hsz
  have hD := hD0.self (sz := s.heap.size)
  generalize hAe : va_A [(h0, .inr (0, [.long hi, .long lw, .int ep, .int (bI ng), .int (bI gn)])), (h1, .inr (0, [.long hi2, .long lw2, .int ep2, .int (bI ng2), .int (bI gn2)]))] s.heap.size = A at hD ⊢
  have hA : ∀ q : Nat, s.heap.size ≤ q → A q := fun q h => by rw [← hAe]; exact Or.inr h
  have hS : va_S A s.heap s.heap [] := va_S.rf
  have hP : va_P (dC, dI) vwCl [(h0, .inr (0, [.long hi, .long lw, .int ep, .int (bI ng), .int (bI gn)])), (h1, .inr (0, [.long hi2, .long lw2, .int ep2, .int (bI ng2), .int (bI gn2)]))] s.heap := hP
  have hl := lv_entry ([.ref h0, .ref h1]) (n := 3) (Nat.le_of_ble_eq_true rfl)
  rw [lg_entry_eq]
  generalize (lg_sl ([.ref h0, .ref h1]) ++ List.replicate (3 - (lg_sl ([.ref h0, .ref h1])).length) Slot.unset).toArray = ls at hl ⊢
  have hl : lv_has ls 3 [(0, .ref h0), (1, .ref h1)] := hl
  refine lv_aload_n hx hb dW_join_0 rfl (lv_at hl 1 rfl) ?_
  have hPc := hP.sub (ws' := [(h1, .inr (0, [.long hi2, .long lw2, .int ep2, .int (bI ng2), .int (bI gn2)]))]) [1] rfl
  have hDc := hD.sub (ws' := [(h1, .inr (0, [.long hi2, .long lw2, .int ep2, .int (bI ng2), .int (bI gn2)]))]) [1] (by decide) rfl
  have hKc := hK.sub (tys' := []) [] rfl
  have hFc := va_free (wc := [(h1, .inr (0, [.long hi2, .long lw2, .int ep2, .int (bI ng2), .int (bI gn2)]))]) hD hS hA [1] rfl
  refine va_calli (va_runV (As := []) (rest := []) ⟨hx, hb, hml, hown, hts⟩ (kW_isNothing l dC dI h1 s.heap.size hi2 lw2 ep2 ng2 gn2) (cwV 0 hts (g_call (List.forall_mem_cons.mpr ⟨m1_128, List.forall_mem_cons.mpr ⟨m1_129, List.forall_mem_cons.mpr ⟨m1_130, List.forall_mem_cons.mpr ⟨m1_2, fun _ h => absurd h List.not_mem_nil⟩⟩⟩⟩) m1_131) rfl rfl rfl (by decide +kernel) ⟨Nat.le_of_ble_eq_true rfl, Nat.le_of_ble_eq_true rfl⟩) ⟨fun a U g mk q => by obtain ⟨q0, q1, qP, qK, qD, qN⟩ := q; exact ⟨q0, q1, qP, va_K.moved (u := U) (U := U.calling g mk a) (Vm.Alike.refl U.vm) qK, qD, NW.same (u := U) rfl qN⟩, va_recv hKc hPc (ci := 0) (q0 := 0) rfl rfl, fun U hU hW => ⟨rfl, by rw [hU], by rw [hU]; exact hPc, va_K.moved hW.alike hKc, hDc.weaken (fun _ _ _ _ => trivial), NW.warm hW hN⟩⟩ rfl rfl hl.1 rfl (lv_room (Nat.le_of_ble_eq_true rfl)) dW_join_1 ⟨Nat.le_of_ble_eq_true rfl, Nat.le_of_ble_eq_true rfl⟩) hS (fun q _ h => hFc q h) hFc (fun w9 u9 t H1 locs ht hvm hw hB hz1 hk1 hS => ?_)
  have e9 : w9 = bI (v_W_join_1 hi lw ep ng gn hi2 lw2 ep2 ng2 gn2) := hw
  rw [e9]
  obtain ⟨hP1, hK1, hD1⟩ := hB
  rw [ht] at hP1
  have hK1 := va_K.moved hvm.symm hK1
  have hP1 : va_P (dC, dI) vwCl [(h1, .inr (0, [.long hi2, .long lw2, .int ep2, .int (bI ng2), .int (bI gn2)]))] H1 := hP1
  have hD1 : va_D _ [(h1, .inr (0, [.long hi2, .long lw2, .int ep2, .int (bI ng2), .int (bI gn2)]))] := hD1
  obtain ⟨hP, hD⟩ := va_join (wr := [(h0, .inr (0, [.long hi, .long lw, .int ep, .int (bI ng), .int (bI gn)]))]) (w1 := [(h1, .inr (0, [.long hi2, .long lw2, .int ep2, .int (bI ng2), .int (bI gn2)]))]) hP hD [1] [0] rfl rfl (by decide) (by decide) hk1 hFc hP1 hD1
  have hK := (hK.sub (tys' := []) [] rfl).app hK1
  generalize H1 = H at hP hS ⊢
  have hP : va_P (dC, dI) vwCl [(h0, .inr (0, [.long hi, .long lw, .int ep, .int (bI ng), .int (bI gn)])), (h1, .inr (0, [.long hi2, .long lw2, .int ep2, .int (bI ng2), .int (bI gn2)]))] H := hP
  have hD : va_D A [(h0, .inr (0, [.long hi, .long lw, .int ep, .int (bI ng), .int (bI gn)])), (h1, .inr (0, [.long hi2, .long lw2, .int ep2, .int (bI ng2), .int (bI gn2)]))] := hD
  have hK : va_K (dC, dI) vwCl [] s := hK
  refine kb_eq (tgt := 8) hx hb dW_join_4 (by decide) (fun c_1 => ?_) (fun c_1 => ?_)
  · refine lv_aload_n hx hb dW_join_8 rfl (lv_at hl 0 rfl) ?_
    have hPc := hP.sub (ws' := [(h0, .inr (0, [.long hi, .long lw, .int ep, .int (bI ng), .int (bI gn)]))]) [0] rfl
    have hDc := hD.sub (ws' := [(h0, .inr (0, [.long hi, .long lw, .int ep, .int (bI ng), .int (bI gn)]))]) [0] (by decide) rfl
    have hKc := hK.sub (tys' := []) [] rfl
    have hFc := va_free (wc := [(h0, .inr (0, [.long hi, .long lw, .int ep, .int (bI ng), .int (bI gn)]))]) hD hS hA [0] rfl
    refine va_calli (va_runV (As := []) (rest := []) ⟨hx, hb, hml, hown, hts⟩ (kW_isNothing l dC dI h0 H.size hi lw ep ng gn) (cwV 0 hts (g_call (List.forall_mem_cons.mpr ⟨m1_128, List.forall_mem_cons.mpr ⟨m1_129, List.forall_mem_cons.mpr ⟨m1_130, List.forall_mem_cons.mpr ⟨m1_2, fun _ h => absurd h List.not_mem_nil⟩⟩⟩⟩) m1_131) rfl rfl rfl (by decide +kernel) ⟨Nat.le_of_ble_eq_true rfl, Nat.le_of_ble_eq_true rfl⟩) ⟨fun a U g mk q => by obtain ⟨q0, q1, qP, qK, qD, qN⟩ := q; exact ⟨q0, q1, qP, va_K.moved (u := U) (U := U.calling g mk a) (Vm.Alike.refl U.vm) qK, qD, NW.same (u := U) rfl qN⟩, va_recv hKc hPc (ci := 0) (q0 := 0) rfl rfl, fun U hU hW => ⟨rfl, by rw [hU], by rw [hU]; exact hPc, va_K.moved hW.alike hKc, hDc.weaken (fun _ _ _ _ => trivial), NW.warm hW hN⟩⟩ rfl rfl hl.1 rfl (lv_room (Nat.le_of_ble_eq_true rfl)) dW_join_9 ⟨Nat.le_of_ble_eq_true rfl, Nat.le_of_ble_eq_true rfl⟩) hS (fun q _ h => hFc q h) hFc (fun w9 u9 t H1 locs ht hvm hw hB hz1 hk1 hS => ?_)
    have e9 : w9 = bI (v_W_join_2 hi lw ep ng gn hi2 lw2 ep2 ng2 gn2) := hw
    rw [e9]
    obtain ⟨hP1, hK1, hD1⟩ := hB
    rw [ht] at hP1
    have hK1 := va_K.moved hvm.symm hK1
    have hP1 : va_P (dC, dI) vwCl [(h0, .inr (0, [.long hi, .long lw, .int ep, .int (bI ng), .int (bI gn)]))] H1 := hP1
    have hD1 : va_D _ [(h0, .inr (0, [.long hi, .long lw, .int ep, .int (bI ng), .int (bI gn)]))] := hD1
    obtain ⟨hP, hD⟩ := va_join (wr := [(h1, .inr (0, [.long hi2, .long lw2, .int ep2, .int (bI ng2), .int (bI gn2)]))]) (w1 := [(h0, .inr (0, [.long hi, .long lw, .int ep, .int (bI ng), .int (bI gn)]))]) hP hD [0] [1] rfl rfl (by decide) (by decide) hk1 hFc hP1 hD1
    have hK := (hK.sub (tys' := []) [] rfl).app hK1
    generalize H1 = H at hP hS ⊢
    have hP : va_P (dC, dI) vwCl [(h1, .inr (0, [.long hi2, .long lw2, .int ep2, .int (bI ng2), .int (bI gn2)])), (h0, .inr (0, [.long hi, .long lw, .int ep, .int (bI ng), .int (bI gn)]))] H := hP
    have hD : va_D A [(h1, .inr (0, [.long hi2, .long lw2, .int ep2, .int (bI ng2), .int (bI gn2)])), (h0, .inr (0, [.long hi, .long lw, .int ep, .int (bI ng), .int (bI gn)]))] := hD
    have hK : va_K (dC, dI) vwCl [] s := hK
    refine kb_eq (tgt := 21) hx hb dW_join_12 (by decide) (fun c_2 => ?_) (fun c_2 => ?_)
    · refine lv_aload_n hx hb dW_join_21 rfl (lv_at hl 0 rfl) ?_
      have hPc := hP.sub (ws' := [(h0, .inr (0, [.long hi, .long lw, .int ep, .int (bI ng), .int (bI gn)]))]) [1] rfl
      have hDc := hD.sub (ws' := [(h0, .inr (0, [.long hi, .long lw, .int ep, .int (bI ng), .int (bI gn)]))]) [1] (by decide) rfl
      have hKc := hK.sub (tys' := []) [] rfl
      have hFc := va_free (wc := [(h0, .inr (0, [.long hi, .long lw, .int ep, .int (bI ng), .int (bI gn)]))]) hD hS hA [1] rfl
      refine va_callv (va_runV (As := []) (rest := []) ⟨hx, hb, hml, hown, hts⟩ (kW_lift l dC dI h0 H.size hi lw ep ng gn) (cwV 0 hts (g_call (List.forall_mem_cons.mpr ⟨m1_136, List.forall_mem_cons.mpr ⟨m1_137, List.forall_mem_cons.mpr ⟨m1_138, List.forall_mem_cons.mpr ⟨m1_2, fun _ h => absurd h List.not_mem_nil⟩⟩⟩⟩) m1_139) rfl rfl rfl (by decide +kernel) ⟨Nat.le_of_ble_eq_true rfl, Nat.le_of_ble_eq_true rfl⟩) ⟨fun a U g mk q => by obtain ⟨q0, q1, qP, qK, qD, qN⟩ := q; exact ⟨q0, q1, qP, va_K.moved (u := U) (U := U.calling g mk a) (Vm.Alike.refl U.vm) qK, qD, NW.same (u := U) rfl qN⟩, va_recv hKc hPc (ci := 0) (q0 := 0) rfl rfl, fun U hU hW => ⟨rfl, by rw [hU], by rw [hU]; exact hPc, va_K.moved hW.alike hKc, hDc.weaken (fun _ _ _ _ => trivial), NW.warm hW hN⟩⟩ rfl rfl hl.1 rfl (lv_room (Nat.le_of_ble_eq_true rfl)) dW_join_22 ⟨Nat.le_of_ble_eq_true rfl, Nat.le_of_ble_eq_true rfl⟩) hS (fun q _ h => hFc q h) hFc (fun u9 t H1 locs ht hvm hw hB hz1 hk1 hS => ?_)
      obtain ⟨hP1, hK1, hD1⟩ := hB
      rw [ht] at hP1
      have hK1 := va_K.moved hvm.symm hK1
      have hP1 : va_P (dC, dI) vwCl [(h0, .inr (0, [.long (v_W_join_3 hi lw ep ng gn hi2 lw2 ep2 ng2 gn2), .long (v_W_join_4 hi lw ep ng gn hi2 lw2 ep2 ng2 gn2), .int (v_W_join_5 hi lw ep ng gn hi2 lw2 ep2 ng2 gn2), .int (bI ng), .int (bI gn)]))] H1 := hP1
      have hD1 : va_D _ [(h0, .inr (0, [.long (v_W_join_3 hi lw ep ng gn hi2 lw2 ep2 ng2 gn2), .long (v_W_join_4 hi lw ep ng gn hi2 lw2 ep2 ng2 gn2), .int (v_W_join_5 hi lw ep ng gn hi2 lw2 ep2 ng2 gn2), .int (bI ng), .int (bI gn)]))] := hD1
      obtain ⟨hP, hD⟩ := va_join (wr := [(h1, .inr (0, [.long hi2, .long lw2, .int ep2, .int (bI ng2), .int (bI gn2)]))]) (w1 := [(h0, .inr (0, [.long (v_W_join_3 hi lw ep ng gn hi2 lw2 ep2 ng2 gn2), .long (v_W_join_4 hi lw ep ng gn hi2 lw2 ep2 ng2 gn2), .int (v_W_join_5 hi lw ep ng gn hi2 lw2 ep2 ng2 gn2), .int (bI ng), .int (bI gn)]))]) hP hD [1] [0] rfl rfl (by decide) (by decide) hk1 hFc hP1 hD1
      have hK := (hK.sub (tys' := []) [] rfl).app hK1
      generalize H1 = H at hP hS ⊢
      have hP : va_P (dC, dI) vwCl [(h1, .inr (0, [.long hi2, .long lw2, .int ep2, .int (bI ng2), .int (bI gn2)])), (h0, .inr (0, [.long (v_W_join_3 hi lw ep ng gn hi2 lw2 ep2 ng2 gn2), .long (v_W_join_4 hi lw ep ng gn hi2 lw2 ep2 ng2 gn2), .int (v_W_join_5 hi lw ep ng gn hi2 lw2 ep2 ng2 gn2), .int (bI ng), .int (bI gn)]))] H := hP
      have hD : va_D A [(h1, .inr (0, [.long hi2, .long lw2, .int ep2, .int (bI ng2), .int (bI gn2)])), (h0, .inr (0, [.long (v_W_join_3 hi lw ep ng gn hi2 lw2 ep2 ng2 gn2), .long (v_W_join_4 hi lw ep ng gn hi2 lw2 ep2 ng2 gn2), .int (v_W_join_5 hi lw ep ng gn hi2 lw2 ep2 ng2 gn2), .int (bI ng), .int (bI gn)]))] := hD
      have hK : va_K (dC, dI) vwCl [] s := hK
      refine lv_aload_n hx hb dW_join_25 rfl (lv_at hl 1 rfl) ?_
      have hPc := hP.sub (ws' := [(h1, .inr (0, [.long hi2, .long lw2, .int ep2, .int (bI ng2), .int (bI gn2)]))]) [0] rfl
      have hDc := hD.sub (ws' := [(h1, .inr (0, [.long hi2, .long lw2, .int ep2, .int (bI ng2), .int (bI gn2)]))]) [0] (by decide) rfl
      have hKc := hK.sub (tys' := []) [] rfl
      have hFc := va_free (wc := [(h1, .inr (0, [.long hi2, .long lw2, .int ep2, .int (bI ng2), .int (bI gn2)]))]) hD hS hA [0] rfl
      refine va_callv (va_runV (As := []) (rest := []) ⟨hx, hb, hml, hown, hts⟩ (kW_lift l dC dI h1 H.size hi2 lw2 ep2 ng2 gn2) (cwV 0 hts (g_call (List.forall_mem_cons.mpr ⟨m1_136, List.forall_mem_cons.mpr ⟨m1_137, List.forall_mem_cons.mpr ⟨m1_138, List.forall_mem_cons.mpr ⟨m1_2, fun _ h => absurd h List.not_mem_nil⟩⟩⟩⟩) m1_139) rfl rfl rfl (by decide +kernel) ⟨Nat.le_of_ble_eq_true rfl, Nat.le_of_ble_eq_true rfl⟩) ⟨fun a U g mk q => by obtain ⟨q0, q1, qP, qK, qD, qN⟩ := q; exact ⟨q0, q1, qP, va_K.moved (u := U) (U := U.calling g mk a) (Vm.Alike.refl U.vm) qK, qD, NW.same (u := U) rfl qN⟩, va_recv hKc hPc (ci := 0) (q0 := 0) rfl rfl, fun U hU hW => ⟨rfl, by rw [hU], by rw [hU]; exact hPc, va_K.moved hW.alike hKc, hDc.weaken (fun _ _ _ _ => trivial), NW.warm hW hN⟩⟩ rfl rfl hl.1 rfl (lv_room (Nat.le_of_ble_eq_true rfl)) dW_join_26 ⟨Nat.le_of_ble_eq_true rfl, Nat.le_of_ble_eq_true rfl⟩) hS (fun q _ h => hFc q h) hFc (fun u9 t H1 locs ht hvm hw hB hz1 hk1 hS => ?_)
      obtain ⟨hP1, hK1, hD1⟩ := hB
      rw [ht] at hP1
      have hK1 := va_K.moved hvm.symm hK1
      have hP1 : va_P (dC, dI) vwCl [(h1, .inr (0, [.long (v_W_join_6 hi lw ep ng gn hi2 lw2 ep2 ng2 gn2), .long (v_W_join_7 hi lw ep ng gn hi2 lw2 ep2 ng2 gn2), .int (v_W_join_8 hi lw ep ng gn hi2 lw2 ep2 ng2 gn2), .int (bI ng2), .int (bI gn2)]))] H1 := hP1
      have hD1 : va_D _ [(h1, .inr (0, [.long (v_W_join_6 hi lw ep ng gn hi2 lw2 ep2 ng2 gn2), .long (v_W_join_7 hi lw ep ng gn hi2 lw2 ep2 ng2 gn2), .int (v_W_join_8 hi lw ep ng gn hi2 lw2 ep2 ng2 gn2), .int (bI ng2), .int (bI gn2)]))] := hD1
      obtain ⟨hP, hD⟩ := va_join (wr := [(h0, .inr (0, [.long (v_W_join_3 hi lw ep ng gn hi2 lw2 ep2 ng2 gn2), .long (v_W_join_4 hi lw ep ng gn hi2 lw2 ep2 ng2 gn2), .int (v_W_join_5 hi lw ep ng gn hi2 lw2 ep2 ng2 gn2), .int (bI ng), .int (bI gn)]))]) (w1 := [(h1, .inr (0, [.long (v_W_join_6 hi lw ep ng gn hi2 lw2 ep2 ng2 gn2), .long (v_W_join_7 hi lw ep ng gn hi2 lw2 ep2 ng2 gn2), .int (v_W_join_8 hi lw ep ng gn hi2 lw2 ep2 ng2 gn2), .int (bI ng2), .int (bI gn2)]))]) hP hD [0] [1] rfl rfl (by decide) (by decide) hk1 hFc hP1 hD1
      have hK := (hK.sub (tys' := []) [] rfl).app hK1
      generalize H1 = H at hP hS ⊢
      have hP : va_P (dC, dI) vwCl [(h0, .inr (0, [.long (v_W_join_3 hi lw ep ng gn hi2 lw2 ep2 ng2 gn2), .long (v_W_join_4 hi lw ep ng gn hi2 lw2 ep2 ng2 gn2), .int (v_W_join_5 hi lw ep ng gn hi2 lw2 ep2 ng2 gn2), .int (bI ng), .int (bI gn)])), (h1, .inr (0, [.long (v_W_join_6 hi lw ep ng gn hi2 lw2 ep2 ng2 gn2), .long (v_W_join_7 hi lw ep ng gn hi2 lw2 ep2 ng2 gn2), .int (v_W_join_8 hi lw ep ng gn hi2 lw2 ep2 ng2 gn2), .int (bI ng2), .int (bI gn2)]))] H := hP
      have hD : va_D A [(h0, .inr (0, [.long (v_W_join_3 hi lw ep ng gn hi2 lw2 ep2 ng2 gn2), .long (v_W_join_4 hi lw ep ng gn hi2 lw2 ep2 ng2 gn2), .int (v_W_join_5 hi lw ep ng gn hi2 lw2 ep2 ng2 gn2), .int (bI ng), .int (bI gn)])), (h1, .inr (0, [.long (v_W_join_6 hi lw ep ng gn hi2 lw2 ep2 ng2 gn2), .long (v_W_join_7 hi lw ep ng gn hi2 lw2 ep2 ng2 gn2), .int (v_W_join_8 hi lw ep ng gn hi2 lw2 ep2 ng2 gn2), .int (bI ng2), .int (bI gn2)]))] := hD
      have hK : va_K (dC, dI) vwCl [] s := hK
      refine lv_aload_n hx hb dW_join_29 rfl (lv_at hl 0 rfl) ?_
      refine va_get (D := (dC, dI)) (ci := 0) (v := .int (v_W_join_5 hi lw ep ng gn hi2 lw2 ep2 ng2 gn2)) (C := RW) (T := TW) (N := 5) hx hb hts (inC iW) hown hK hP 0 rfl rfl 2 (by decide) (hts _ (List.mem_cons_of_mem _ m1_28)) (fun _ h9 => h9) rfl dW_join_30 ?_
      refine lv_aload_n hx hb dW_join_33 rfl (lv_at hl 1 rfl) ?_
      refine va_get (D := (dC, dI)) (ci := 0) (v := .int (v_W_join_8 hi lw ep ng gn hi2 lw2 ep2 ng2 gn2)) (C := RW) (T := TW) (N := 5) hx hb hts (inC iW) hown hK hP 1 rfl rfl 2 (by decide) (hts _ (List.mem_cons_of_mem _ m1_28)) (fun _ h9 => h9) rfl dW_join_34 ?_
      refine lv_isub hx hb dW_join_37 ?_
      refine lv_topi (fun w9 e9 => ?_)
      have e9 : w9 = (v_W_join_9 hi lw ep ng gn hi2 lw2 ep2 ng2 gn2) := e9
      rw [e9]
      refine lv_istore_n (lv' := [(2, .int (v_W_join_9 hi lw ep ng gn hi2 lw2 ep2 ng2 gn2)), (0, .ref h0), (1, .ref h1)]) hx hb dW_join_38 rfl hl (by decide) rfl (fun ls hl => ?_)
      refine lv_aload_n hx hb dW_join_39 rfl (lv_at hl 2 rfl) ?_
      refine lv_iload_n hx hb dW_join_40 rfl (lv_at hl 0 rfl) ?_
      have hPc := hP.sub (ws' := [(h1, .inr (0, [.long (v_W_join_6 hi lw ep ng gn hi2 lw2 ep2 ng2 gn2), .long (v_W_join_7 hi lw ep ng gn hi2 lw2 ep2 ng2 gn2), .int (v_W_join_8 hi lw ep ng gn hi2 lw2 ep2 ng2 gn2), .int (bI ng2), .int (bI gn2)]))]) [1] rfl
      have hDc := hD.sub (ws' := [(h1, .inr (0, [.long (v_W_join_6 hi lw ep ng gn hi2 lw2 ep2 ng2 gn2), .long (v_W_join_7 hi lw ep ng gn hi2 lw2 ep2 ng2 gn2), .int (v_W_join_8 hi lw ep ng gn hi2 lw2 ep2 ng2 gn2), .int (bI ng2), .int (bI gn2)]))]) [1] (by decide) rfl
      have hKc := hK.sub (tys' := []) [] rfl
      have hFc := va_free (wc := [(h1, .inr (0, [.long (v_W_join_6 hi lw ep ng gn hi2 lw2 ep2 ng2 gn2), .long (v_W_join_7 hi lw ep ng gn hi2 lw2 ep2 ng2 gn2), .int (v_W_join_8 hi lw ep ng gn hi2 lw2 ep2 ng2 gn2), .int (bI ng2), .int (bI gn2)]))]) hD hS hA [1] rfl
      refine va_callv (va_runV (As := [.int (v_W_join_9 hi lw ep ng gn hi2 lw2 ep2 ng2 gn2)]) (rest := []) ⟨hx, hb, hml, hown, hts⟩ (kW_sink l dC dI h1 H.size (v_W_join_6 hi lw ep ng gn hi2 lw2 ep2 ng2 gn2) (v_W_join_7 hi lw ep ng gn hi2 lw2 ep2 ng2 gn2) (v_W_join_8 hi lw ep ng gn hi2 lw2 ep2 ng2 gn2) ng2 gn2 (v_W_join_9 hi lw ep ng gn hi2 lw2 ep2 ng2 gn2)) (cwV 1 hts (g_call (List.forall_mem_cons.mpr ⟨m1_150, List.forall_mem_cons.mpr ⟨m1_151, List.forall_mem_cons.mpr ⟨m1_152, List.forall_mem_cons.mpr ⟨m1_2, fun _ h => absurd h List.not_mem_nil⟩⟩⟩⟩) m1_153) rfl rfl rfl (by decide +kernel) ⟨Nat.le_of_ble_eq_true rfl, Nat.le_of_ble_eq_true rfl⟩) ⟨fun a U g mk q => by obtain ⟨q0, q1, qP, qK, qD, qN⟩ := q; exact ⟨q0, q1, qP, va_K.moved (u := U) (U := U.calling g mk a) (Vm.Alike.refl U.vm) qK, qD, NW.same (u := U) rfl qN⟩, va_recv hKc hPc (ci := 0) (q0 := 0) rfl rfl, fun U hU hW => ⟨rfl, by rw [hU], by rw [hU]; exact hPc, va_K.moved hW.alike hKc, hDc.weaken (fun _ _ _ _ => trivial), NW.warm hW hN⟩⟩ rfl rfl hl.1 rfl (lv_room (Nat.le_of_ble_eq_true rfl)) dW_join_41 ⟨Nat.le_of_ble_eq_true rfl, Nat.le_of_ble_eq_true rfl⟩) hS (fun q _ h => hFc q h) hFc (fun u9 t H1 locs ht hvm hw hB hz1 hk1 hS => ?_)
      obtain ⟨hP1, hK1, hD1⟩ := hB
      rw [ht] at hP1
      have hK1 := va_K.moved hvm.symm hK1
      have hP1 : va_P (dC, dI) vwCl [(h1, .inr (0, [.long (v_W_join_10 hi lw ep ng gn hi2 lw2 ep2 ng2 gn2), .long (v_W_join_11 hi lw ep ng gn hi2 lw2 ep2 ng2 gn2), .int (v_W_join_12 hi lw ep ng gn hi2 lw2 ep2 ng2 gn2), .int (bI ng2), .int (bI (v_W_join_13 hi lw ep ng gn hi2 lw2 ep2 ng2 gn2))]))] H1 := hP1
      have hD1 : va_D _ [(h1, .inr (0, [.long (v_W_join_10 hi lw ep ng gn hi2 lw2 ep2 ng2 gn2), .long (v_W_join_11 hi lw ep ng gn hi2 lw2 ep2 ng2 gn2), .int (v_W_join_12 hi lw ep ng gn hi2 lw2 ep2 ng2 gn2), .int (bI ng2), .int (bI (v_W_join_13 hi lw ep ng gn hi2 lw2 ep2 ng2 gn2))]))] := hD1
      obtain ⟨hP, hD⟩ := va_join (wr := [(h0, .inr (0, [.long (v_W_join_3 hi lw ep ng gn hi2 lw2 ep2 ng2 gn2), .long (v_W_join_4 hi lw ep ng gn hi2 lw2 ep2 ng2 gn2), .int (v_W_join_5 hi lw ep ng gn hi2 lw2 ep2 ng2 gn2), .int (bI ng), .int (bI gn)]))]) (w1 := [(h1, .inr (0, [.long (v_W_join_10 hi lw ep ng gn hi2 lw2 ep2 ng2 gn2), .long (v_W_join_11 hi lw ep ng gn hi2 lw2 ep2 ng2 gn2), .int (v_W_join_12 hi lw ep ng gn hi2 lw2 ep2 ng2 gn2), .int (bI ng2), .int (bI (v_W_join_13 hi lw ep ng gn hi2 lw2 ep2 ng2 gn2))]))]) hP hD [1] [0] rfl rfl (by decide) (by decide) hk1 hFc hP1 hD1
      have hK := (hK.sub (tys' := []) [] rfl).app hK1
      generalize H1 = H at hP hS ⊢
      have hP : va_P (dC, dI) vwCl [(h0, .inr (0, [.long (v_W_join_3 hi lw ep ng gn hi2 lw2 ep2 ng2 gn2), .long (v_W_join_4 hi lw ep ng gn hi2 lw2 ep2 ng2 gn2), .int (v_W_join_5 hi lw ep ng gn hi2 lw2 ep2 ng2 gn2), .int (bI ng), .int (bI gn)])), (h1, .inr (0, [.long (v_W_join_10 hi lw ep ng gn hi2 lw2 ep2 ng2 gn2), .long (v_W_join_11 hi lw ep ng gn hi2 lw2 ep2 ng2 gn2), .int (v_W_join_12 hi lw ep ng gn hi2 lw2 ep2 ng2 gn2), .int (bI ng2), .int (bI (v_W_join_13 hi lw ep ng gn hi2 lw2 ep2 ng2 gn2))]))] H := hP
      have hD : va_D A [(h0, .inr (0, [.long (v_W_join_3 hi lw ep ng gn hi2 lw2 ep2 ng2 gn2), .long (v_W_join_4 hi lw ep ng gn hi2 lw2 ep2 ng2 gn2), .int (v_W_join_5 hi lw ep ng gn hi2 lw2 ep2 ng2 gn2), .int (bI ng), .int (bI gn)])), (h1, .inr (0, [.long (v_W_join_10 hi lw ep ng gn hi2 lw2 ep2 ng2 gn2), .long (v_W_join_11 hi lw ep ng gn hi2 lw2 ep2 ng2 gn2), .int (v_W_join_12 hi lw ep ng gn hi2 lw2 ep2 ng2 gn2), .int (bI ng2), .int (bI (v_W_join_13 hi lw ep ng gn hi2 lw2 ep2 ng2 gn2))]))] := hD
      have hK : va_K (dC, dI) vwCl [] s := hK
      refine lv_aload_n hx hb dW_join_44 rfl (lv_at hl 1 rfl) ?_
      refine lv_iload_n hx hb dW_join_45 rfl (lv_at hl 0 rfl) ?_
      refine lv_ineg hx hb dW_join_46 ?_
      have hPc := hP.sub (ws' := [(h0, .inr (0, [.long (v_W_join_3 hi lw ep ng gn hi2 lw2 ep2 ng2 gn2), .long (v_W_join_4 hi lw ep ng gn hi2 lw2 ep2 ng2 gn2), .int (v_W_join_5 hi lw ep ng gn hi2 lw2 ep2 ng2 gn2), .int (bI ng), .int (bI gn)]))]) [0] rfl
      have hDc := hD.sub (ws' := [(h0, .inr (0, [.long (v_W_join_3 hi lw ep ng gn hi2 lw2 ep2 ng2 gn2), .long (v_W_join_4 hi lw ep ng gn hi2 lw2 ep2 ng2 gn2), .int (v_W_join_5 hi lw ep ng gn hi2 lw2 ep2 ng2 gn2), .int (bI ng), .int (bI gn)]))]) [0] (by decide) rfl
      have hKc := hK.sub (tys' := []) [] rfl
      have hFc := va_free (wc := [(h0, .inr (0, [.long (v_W_join_3 hi lw ep ng gn hi2 lw2 ep2 ng2 gn2), .long (v_W_join_4 hi lw ep ng gn hi2 lw2 ep2 ng2 gn2), .int (v_W_join_5 hi lw ep ng gn hi2 lw2 ep2 ng2 gn2), .int (bI ng), .int (bI gn)]))]) hD hS hA [0] rfl
      refine va_callv (va_runV (As := [.int (-(v_W_join_9 hi lw ep ng gn hi2 lw2 ep2 ng2 gn2))]) (rest := []) ⟨hx, hb, hml, hown, hts⟩ (kW_sink l dC dI h0 H.size (v_W_join_3 hi lw ep ng gn hi2 lw2 ep2 ng2 gn2) (v_W_join_4 hi lw ep ng gn hi2 lw2 ep2 ng2 gn2) (v_W_join_5 hi lw ep ng gn hi2 lw2 ep2 ng2 gn2) ng gn (-(v_W_join_9 hi lw ep ng gn hi2 lw2 ep2 ng2 gn2))) (cwV 1 hts (g_call (List.forall_mem_cons.mpr ⟨m1_150, List.forall_mem_cons.mpr ⟨m1_151, List.forall_mem_cons.mpr ⟨m1_152, List.forall_mem_cons.mpr ⟨m1_2, fun _ h => absurd h List.not_mem_nil⟩⟩⟩⟩) m1_153) rfl rfl rfl (by decide +kernel) ⟨Nat.le_of_ble_eq_true rfl, Nat.le_of_ble_eq_true rfl⟩) ⟨fun a U g mk q => by obtain ⟨q0, q1, qP, qK, qD, qN⟩ := q; exact ⟨q0, q1, qP, va_K.moved (u := U) (U := U.calling g mk a) (Vm.Alike.refl U.vm) qK, qD, NW.same (u := U) rfl qN⟩, va_recv hKc hPc (ci := 0) (q0 := 0) rfl rfl, fun U hU hW => ⟨rfl, by rw [hU], by rw [hU]; exact hPc, va_K.moved hW.alike hKc, hDc.weaken (fun _ _ _ _ => trivial), NW.warm hW hN⟩⟩ rfl rfl hl.1 rfl (lv_room (Nat.le_of_ble_eq_true rfl)) dW_join_47 ⟨Nat.le_of_ble_eq_true rfl, Nat.le_of_ble_eq_true rfl⟩) hS (fun q _ h => hFc q h) hFc (fun u9 t H1 locs ht hvm hw hB hz1 hk1 hS => ?_)
      obtain ⟨hP1, hK1, hD1⟩ := hB
      rw [ht] at hP1
      have hK1 := va_K.moved hvm.symm hK1
      have hP1 : va_P (dC, dI) vwCl [(h0, .inr (0, [.long (v_W_join_14 hi lw ep ng gn hi2 lw2 ep2 ng2 gn2), .long (v_W_join_15 hi lw ep ng gn hi2 lw2 ep2 ng2 gn2), .int (v_W_join_16 hi lw ep ng gn hi2 lw2 ep2 ng2 gn2), .int (bI ng), .int (bI (v_W_join_17 hi lw ep ng gn hi2 lw2 ep2 ng2 gn2))]))] H1 := hP1
      have hD1 : va_D _ [(h0, .inr (0, [.long (v_W_join_14 hi lw ep ng gn hi2 lw2 ep2 ng2 gn2), .long (v_W_join_15 hi lw ep ng gn hi2 lw2 ep2 ng2 gn2), .int (v_W_join_16 hi lw ep ng gn hi2 lw2 ep2 ng2 gn2), .int (bI ng), .int (bI (v_W_join_17 hi lw ep ng gn hi2 lw2 ep2 ng2 gn2))]))] := hD1
      obtain ⟨hP, hD⟩ := va_join (wr := [(h1, .inr (0, [.long (v_W_join_10 hi lw ep ng gn hi2 lw2 ep2 ng2 gn2), .long (v_W_join_11 hi lw ep ng gn hi2 lw2 ep2 ng2 gn2), .int (v_W_join_12 hi lw ep ng gn hi2 lw2 ep2 ng2 gn2), .int (bI ng2), .int (bI (v_W_join_13 hi lw ep ng gn hi2 lw2 ep2 ng2 gn2))]))]) (w1 := [(h0, .inr (0, [.long (v_W_join_14 hi lw ep ng gn hi2 lw2 ep2 ng2 gn2), .long (v_W_join_15 hi lw ep ng gn hi2 lw2 ep2 ng2 gn2), .int (v_W_join_16 hi lw ep ng gn hi2 lw2 ep2 ng2 gn2), .int (bI ng), .int (bI (v_W_join_17 hi lw ep ng gn hi2 lw2 ep2 ng2 gn2))]))]) hP hD [0] [1] rfl rfl (by decide) (by decide) hk1 hFc hP1 hD1
      have hK := (hK.sub (tys' := []) [] rfl).app hK1
      generalize H1 = H at hP hS ⊢
      have hP : va_P (dC, dI) vwCl [(h1, .inr (0, [.long (v_W_join_10 hi lw ep ng gn hi2 lw2 ep2 ng2 gn2), .long (v_W_join_11 hi lw ep ng gn hi2 lw2 ep2 ng2 gn2), .int (v_W_join_12 hi lw ep ng gn hi2 lw2 ep2 ng2 gn2), .int (bI ng2), .int (bI (v_W_join_13 hi lw ep ng gn hi2 lw2 ep2 ng2 gn2))])), (h0, .inr (0, [.long (v_W_join_14 hi lw ep ng gn hi2 lw2 ep2 ng2 gn2), .long (v_W_join_15 hi lw ep ng gn hi2 lw2 ep2 ng2 gn2), .int (v_W_join_16 hi lw ep ng gn hi2 lw2 ep2 ng2 gn2), .int (bI ng), .int (bI (v_W_join_17 hi lw ep ng gn hi2 lw2 ep2 ng2 gn2))]))] H := hP
      have hD : va_D A [(h1, .inr (0, [.long (v_W_join_10 hi lw ep ng gn hi2 lw2 ep2 ng2 gn2), .long (v_W_join_11 hi lw ep ng gn hi2 lw2 ep2 ng2 gn2), .int (v_W_join_12 hi lw ep ng gn hi2 lw2 ep2 ng2 gn2), .int (bI ng2), .int (bI (v_W_join_13 hi lw ep ng gn hi2 lw2 ep2 ng2 gn2))])), (h0, .inr (0, [.long (v_W_join_14 hi lw ep ng gn hi2 lw2 ep2 ng2 gn2), .long (v_W_join_15 hi lw ep ng gn hi2 lw2 ep2 ng2 gn2), .int (v_W_join_16 hi lw ep ng gn hi2 lw2 ep2 ng2 gn2), .int (bI ng), .int (bI (v_W_join_17 hi lw ep ng gn hi2 lw2 ep2 ng2 gn2))]))] := hD
      have hK : va_K (dC, dI) vwCl [] s := hK
      refine lv_aload_n hx hb dW_join_50 rfl (lv_at hl 1 rfl) ?_
      refine va_get (D := (dC, dI)) (ci := 0) (v := .int (bI ng)) (C := RW) (T := TW) (N := 5) hx hb hts (inC iW) hown hK hP 1 rfl rfl 3 (by decide) (hts _ (List.mem_cons_of_mem _ m1_30)) (fun _ h9 => h9) rfl dW_join_51 ?_
      refine lv_aload_n hx hb dW_join_54 rfl (lv_at hl 2 rfl) ?_
      refine va_get (D := (dC, dI)) (ci := 0) (v := .int (bI ng2)) (C := RW) (T := TW) (N := 5) hx hb hts (inC iW) hown hK hP 0 rfl rfl 3 (by decide) (hts _ (List.mem_cons_of_mem _ m1_30)) (fun _ h9 => h9) rfl dW_join_55 ?_
      have J_1 : ∀ (w_0 : Int64), w_0 = (v_W_join_33 hi lw ep ng gn hi2 lw2 ep2 ng2 gn2) → ∀ (w_1 : Int64), w_1 = (v_W_join_34 hi lw ep ng gn hi2 lw2 ep2 ng2 gn2) → ∀ (w_2 : Int32), w_2 = (v_W_join_35 hi lw ep ng gn hi2 lw2 ep2 ng2 gn2) → ∀ (w_3 : Bool), w_3 = (v_W_join_36 hi lw ep ng gn hi2 lw2 ep2 ng2 gn2) → ∀ (w_4 : Bool), w_4 = (v_W_join_37 hi lw ep ng gn hi2 lw2 ep2 ng2 gn2) → ∀ (w_5 : Int64), w_5 = (v_W_join_38 hi lw ep ng gn hi2 lw2 ep2 ng2 gn2) → ∀ (w_6 : Int64), w_6 = (v_W_join_39 hi lw ep ng gn hi2 lw2 ep2 ng2 gn2) → ∀ (w_7 : Bool), w_7 = (v_W_join_40 hi lw ep ng gn hi2 lw2 ep2 ng2 gn2) → ∀ (H : Heap) (locs : List Loc), va_K (dC, dI) vwCl [] s → va_P (dC, dI) vwCl [(h0, .inr (0, [.long w_0, .long w_1, .int w_2, .int (bI w_3), .int (bI w_4)])), (h1, .inr (0, [.long w_5, .long w_6, .int (v_W_join_12 hi lw ep ng gn hi2 lw2 ep2 ng2 gn2), .int (bI ng2), .int (bI w_7)]))] H → va_D A [(h0, .inr (0, [.long w_0, .long w_1, .int w_2, .int (bI w_3), .int (bI w_4)])), (h1, .inr (0, [.long w_5, .long w_6, .int (v_W_join_12 hi lw ep ng gn hi2 lw2 ep2 ng2 gn2), .int (bI ng2), .int (bI w_7)]))] → va_S A s.heap H locs → ∀ (ls : Array Slot), lv_has ls 3 [] → WW_join p l e s m below meth c dC dI h0 h1 hi lw ep ng gn hi2 lw2 ep2 ng2 gn2 A H locs (F0 m 95 ls []) := by
        intro w_0 e_0
        rw [e_0]
        intro w_1 e_1
        rw [e_1]
        intro w_2 e_2
        rw [e_2]
        intro w_3 e_3
        rw [e_3]
        intro w_4 e_4
        rw [e_4]
        intro w_5 e_5
        rw [e_5]
        intro w_6 e_6
        rw [e_6]
        intro w_7 e_7
        rw [e_7]
        intro H locs hK hP hD hS ls hl
        have e9_0 : (v_W_join_33 hi lw ep ng gn hi2 lw2 ep2 ng2 gn2) = pW_join_0 hi lw ep ng gn hi2 lw2 ep2 ng2 gn2 := (((if_neg c_1).trans (if_neg c_2))).symm
        have e9_1 : (v_W_join_34 hi lw ep ng gn hi2 lw2 ep2 ng2 gn2) = pW_join_1 hi lw ep ng gn hi2 lw2 ep2 ng2 gn2 := (((if_neg c_1).trans (if_neg c_2))).symm
        have e9_2 : (v_W_join_35 hi lw ep ng gn hi2 lw2 ep2 ng2 gn2) = pW_join_2 hi lw ep ng gn hi2 lw2 ep2 ng2 gn2 := (((if_neg c_1).trans (if_neg c_2))).symm
        have e9_3 : (v_W_join_36 hi lw ep ng gn hi2 lw2 ep2 ng2 gn2) = pW_join_3 hi lw ep ng gn hi2 lw2 ep2 ng2 gn2 := (((if_neg c_1).trans (if_neg c_2))).symm
        have e9_4 : (v_W_join_37 hi lw ep ng gn hi2 lw2 ep2 ng2 gn2) = pW_join_4 hi lw ep ng gn hi2 lw2 ep2 ng2 gn2 := (((if_neg c_1).trans (if_neg c_2))).symm
        have e9_5 : (v_W_join_38 hi lw ep ng gn hi2 lw2 ep2 ng2 gn2) = pW_join_5 hi lw ep ng gn hi2 lw2 ep2 ng2 gn2 := (((if_neg c_1).trans (if_neg c_2))).symm
        have e9_6 : (v_W_join_39 hi lw ep ng gn hi2 lw2 ep2 ng2 gn2) = pW_join_6 hi lw ep ng gn hi2 lw2 ep2 ng2 gn2 := (((if_neg c_1).trans (if_neg c_2))).symm
        have e9_7 : (v_W_join_12 hi lw ep ng gn hi2 lw2 ep2 ng2 gn2) = pW_join_7 hi lw ep ng gn hi2 lw2 ep2 ng2 gn2 := (((if_neg c_1).trans (if_neg c_2))).symm
        have e9_8 : (v_W_join_40 hi lw ep ng gn hi2 lw2 ep2 ng2 gn2) = pW_join_8 hi lw ep ng gn hi2 lw2 ep2 ng2 gn2 := (((if_neg c_1).trans (if_neg c_2))).symm
        have hP9 := hP.sub (ws' := [(h0, .inr (0, [.long (v_W_join_33 hi lw ep ng gn hi2 lw2 ep2 ng2 gn2), .long (v_W_join_34 hi lw ep ng gn hi2 lw2 ep2 ng2 gn2), .int (v_W_join_35 hi lw ep ng gn hi2 lw2 ep2 ng2 gn2), .int (bI (v_W_join_36 hi lw ep ng gn hi2 lw2 ep2 ng2 gn2)), .int (bI (v_W_join_37 hi lw ep ng gn hi2 lw2 ep2 ng2 gn2))])), (h1, .inr (0, [.long (v_W_join_38 hi lw ep ng gn hi2 lw2 ep2 ng2 gn2), .long (v_W_join_39 hi lw ep ng gn hi2 lw2 ep2 ng2 gn2), .int (v_W_join_12 hi lw ep ng gn hi2 lw2 ep2 ng2 gn2), .int (bI ng2), .int (bI (v_W_join_40 hi lw ep ng gn hi2 lw2 ep2 ng2 gn2))]))]) [0, 1] rfl
        have hD9 := hD.sub (ws' := [(h0, .inr (0, [.long (v_W_join_33 hi lw ep ng gn hi2 lw2 ep2 ng2 gn2), .long (v_W_join_34 hi lw ep ng gn hi2 lw2 ep2 ng2 gn2), .int (v_W_join_35 hi lw ep ng gn hi2 lw2 ep2 ng2 gn2), .int (bI (v_W_join_36 hi lw ep ng gn hi2 lw2 ep2 ng2 gn2)), .int (bI (v_W_join_37 hi lw ep ng gn hi2 lw2 ep2 ng2 gn2))])), (h1, .inr (0, [.long (v_W_join_38 hi lw ep ng gn hi2 lw2 ep2 ng2 gn2), .long (v_W_join_39 hi lw ep ng gn hi2 lw2 ep2 ng2 gn2), .int (v_W_join_12 hi lw ep ng gn hi2 lw2 ep2 ng2 gn2), .int (bI ng2), .int (bI (v_W_join_40 hi lw ep ng gn hi2 lw2 ep2 ng2 gn2))]))]) [0, 1] (by decide) rfl
        have hK9 := hK.sub (tys' := []) [] rfl
        have h9 := trW_join e9_0 e9_1 e9_2 e9_3 e9_4 e9_5 e9_6 e9_7 e9_8 ⟨hP9, hD9⟩
        exact W.vret hx hb hr (fun t ht hW => ⟨⟨(), rfl, trivial, by rw [ht]; exact h9.1, va_K.moved hW.alike hK9, h9.2⟩, hS.F ht⟩) hS.2.2 dW_join_95
      refine kb_cne (tgt := 69) hx hb dW_join_58 (by decide) (fun c_3 => ?_) (fun c_3 => ?_)
      · refine lv_aload_n hx hb dW_join_69 rfl (lv_at hl 1 rfl) ?_
        refine lv_aload_n hx hb dW_join_70 rfl (lv_at hl 2 rfl) ?_
        have hPc := hP.sub (ws' := [(h0, .inr (0, [.long (v_W_join_14 hi lw ep ng gn hi2 lw2 ep2 ng2 gn2), .long (v_W_join_15 hi lw ep ng gn hi2 lw2 ep2 ng2 gn2), .int (v_W_join_16 hi lw ep ng gn hi2 lw2 ep2 ng2 gn2), .int (bI ng), .int (bI (v_W_join_17 hi lw ep ng gn hi2 lw2 ep2 ng2 gn2))])), (h1, .inr (0, [.long (v_W_join_10 hi lw ep ng gn hi2 lw2 ep2 ng2 gn2), .long (v_W_join_11 hi lw ep ng gn hi2 lw2 ep2 ng2 gn2), .int (v_W_join_12 hi lw ep ng gn hi2 lw2 ep2 ng2 gn2), .int (bI ng2), .int (bI (v_W_join_13 hi lw ep ng gn hi2 lw2 ep2 ng2 gn2))]))]) [1, 0] rfl
        have hDc := hD.sub (ws' := [(h0, .inr (0, [.long (v_W_join_14 hi lw ep ng gn hi2 lw2 ep2 ng2 gn2), .long (v_W_join_15 hi lw ep ng gn hi2 lw2 ep2 ng2 gn2), .int (v_W_join_16 hi lw ep ng gn hi2 lw2 ep2 ng2 gn2), .int (bI ng), .int (bI (v_W_join_17 hi lw ep ng gn hi2 lw2 ep2 ng2 gn2))])), (h1, .inr (0, [.long (v_W_join_10 hi lw ep ng gn hi2 lw2 ep2 ng2 gn2), .long (v_W_join_11 hi lw ep ng gn hi2 lw2 ep2 ng2 gn2), .int (v_W_join_12 hi lw ep ng gn hi2 lw2 ep2 ng2 gn2), .int (bI ng2), .int (bI (v_W_join_13 hi lw ep ng gn hi2 lw2 ep2 ng2 gn2))]))]) [1, 0] (by decide) rfl
        have hKc := hK.sub (tys' := []) [] rfl
        have hFc := va_free (wc := [(h0, .inr (0, [.long (v_W_join_14 hi lw ep ng gn hi2 lw2 ep2 ng2 gn2), .long (v_W_join_15 hi lw ep ng gn hi2 lw2 ep2 ng2 gn2), .int (v_W_join_16 hi lw ep ng gn hi2 lw2 ep2 ng2 gn2), .int (bI ng), .int (bI (v_W_join_17 hi lw ep ng gn hi2 lw2 ep2 ng2 gn2))])), (h1, .inr (0, [.long (v_W_join_10 hi lw ep ng gn hi2 lw2 ep2 ng2 gn2), .long (v_W_join_11 hi lw ep ng gn hi2 lw2 ep2 ng2 gn2), .int (v_W_join_12 hi lw ep ng gn hi2 lw2 ep2 ng2 gn2), .int (bI ng2), .int (bI (v_W_join_13 hi lw ep ng gn hi2 lw2 ep2 ng2 gn2))]))]) hD hS hA [1, 0] rfl
        refine va_calli (va_runV (As := [.ref h1]) (rest := []) ⟨hx, hb, hml, hown, hts⟩ (kW_isBelow l dC dI h0 h1 H.size (v_W_join_14 hi lw ep ng gn hi2 lw2 ep2 ng2 gn2) (v_W_join_15 hi lw ep ng gn hi2 lw2 ep2 ng2 gn2) (v_W_join_16 hi lw ep ng gn hi2 lw2 ep2 ng2 gn2) ng (v_W_join_17 hi lw ep ng gn hi2 lw2 ep2 ng2 gn2) (v_W_join_10 hi lw ep ng gn hi2 lw2 ep2 ng2 gn2) (v_W_join_11 hi lw ep ng gn hi2 lw2 ep2 ng2 gn2) (v_W_join_12 hi lw ep ng gn hi2 lw2 ep2 ng2 gn2) ng2 (v_W_join_13 hi lw ep ng gn hi2 lw2 ep2 ng2 gn2)) (cwV 1 hts (g_call (List.forall_mem_cons.mpr ⟨m1_162, List.forall_mem_cons.mpr ⟨m1_163, List.forall_mem_cons.mpr ⟨m1_164, List.forall_mem_cons.mpr ⟨m1_2, fun _ h => absurd h List.not_mem_nil⟩⟩⟩⟩) m1_165) rfl rfl rfl (by decide +kernel) ⟨Nat.le_of_ble_eq_true rfl, Nat.le_of_ble_eq_true rfl⟩) ⟨fun a U g mk q => by obtain ⟨q0, q1, qP, qK, qD, qN⟩ := q; exact ⟨q0, q1, qP, va_K.moved (u := U) (U := U.calling g mk a) (Vm.Alike.refl U.vm) qK, qD, NW.same (u := U) rfl qN⟩, va_recv hKc hPc (ci := 0) (q0 := 0) rfl rfl, fun U hU hW => ⟨rfl, by rw [hU], by rw [hU]; exact hPc, va_K.moved hW.alike hKc, hDc.weaken (fun _ _ _ _ => trivial), NW.warm hW hN⟩⟩ rfl rfl hl.1 rfl (lv_room (Nat.le_of_ble_eq_true rfl)) dW_join_71 ⟨Nat.le_of_ble_eq_true rfl, Nat.le_of_ble_eq_true rfl⟩) hS (fun q _ h => hFc q h) hFc (fun w9 u9 t H1 locs ht hvm hw hB hz1 hk1 hS => ?_)
        have e9 : w9 = bI (v_W_join_18 hi lw ep ng gn hi2 lw2 ep2 ng2 gn2) := hw
        rw [e9]
        obtain ⟨hP1, hK1, hD1⟩ := hB
        rw [ht] at hP1
        have hK1 := va_K.moved hvm.symm hK1
        have hP1 : va_P (dC, dI) vwCl [(h0, .inr (0, [.long (v_W_join_14 hi lw ep ng gn hi2 lw2 ep2 ng2 gn2), .long (v_W_join_15 hi lw ep ng gn hi2 lw2 ep2 ng2 gn2), .int (v_W_join_16 hi lw ep ng gn hi2 lw2 ep2 ng2 gn2), .int (bI ng), .int (bI (v_W_join_17 hi lw ep ng gn hi2 lw2 ep2 ng2 gn2))])), (h1, .inr (0, [.long (v_W_join_10 hi lw ep ng gn hi2 lw2 ep2 ng2 gn2), .long (v_W_join_11 hi lw ep ng gn hi2 lw2 ep2 ng2 gn2), .int (v_W_join_12 hi lw ep ng gn hi2 lw2 ep2 ng2 gn2), .int (bI ng2), .int (bI (v_W_join_13 hi lw ep ng gn hi2 lw2 ep2 ng2 gn2))]))] H1 := hP1
        have hD1 : va_D _ [(h0, .inr (0, [.long (v_W_join_14 hi lw ep ng gn hi2 lw2 ep2 ng2 gn2), .long (v_W_join_15 hi lw ep ng gn hi2 lw2 ep2 ng2 gn2), .int (v_W_join_16 hi lw ep ng gn hi2 lw2 ep2 ng2 gn2), .int (bI ng), .int (bI (v_W_join_17 hi lw ep ng gn hi2 lw2 ep2 ng2 gn2))])), (h1, .inr (0, [.long (v_W_join_10 hi lw ep ng gn hi2 lw2 ep2 ng2 gn2), .long (v_W_join_11 hi lw ep ng gn hi2 lw2 ep2 ng2 gn2), .int (v_W_join_12 hi lw ep ng gn hi2 lw2 ep2 ng2 gn2), .int (bI ng2), .int (bI (v_W_join_13 hi lw ep ng gn hi2 lw2 ep2 ng2 gn2))]))] := hD1
        obtain ⟨hP, hD⟩ := va_join (wr := []) (w1 := [(h0, .inr (0, [.long (v_W_join_14 hi lw ep ng gn hi2 lw2 ep2 ng2 gn2), .long (v_W_join_15 hi lw ep ng gn hi2 lw2 ep2 ng2 gn2), .int (v_W_join_16 hi lw ep ng gn hi2 lw2 ep2 ng2 gn2), .int (bI ng), .int (bI (v_W_join_17 hi lw ep ng gn hi2 lw2 ep2 ng2 gn2))])), (h1, .inr (0, [.long (v_W_join_10 hi lw ep ng gn hi2 lw2 ep2 ng2 gn2), .long (v_W_join_11 hi lw ep ng gn hi2 lw2 ep2 ng2 gn2), .int (v_W_join_12 hi lw ep ng gn hi2 lw2 ep2 ng2 gn2), .int (bI ng2), .int (bI (v_W_join_13 hi lw ep ng gn hi2 lw2 ep2 ng2 gn2))]))]) hP hD [1, 0] [] rfl rfl (by decide) (by decide) hk1 hFc hP1 hD1
        have hK := (hK.sub (tys' := []) [] rfl).app hK1
        generalize H1 = H at hP hS ⊢
        have hP : va_P (dC, dI) vwCl [(h0, .inr (0, [.long (v_W_join_14 hi lw ep ng gn hi2 lw2 ep2 ng2 gn2), .long (v_W_join_15 hi lw ep ng gn hi2 lw2 ep2 ng2 gn2), .int (v_W_join_16 hi lw ep ng gn hi2 lw2 ep2 ng2 gn2), .int (bI ng), .int (bI (v_W_join_17 hi lw ep ng gn hi2 lw2 ep2 ng2 gn2))])), (h1, .inr (0, [.long (v_W_join_10 hi lw ep ng gn hi2 lw2 ep2 ng2 gn2), .long (v_W_join_11 hi lw ep ng gn hi2 lw2 ep2 ng2 gn2), .int (v_W_join_12 hi lw ep ng gn hi2 lw2 ep2 ng2 gn2), .int (bI ng2), .int (bI (v_W_join_13 hi lw ep ng gn hi2 lw2 ep2 ng2 gn2))]))] H := hP
        have hD : va_D A [(h0, .inr (0, [.long (v_W_join_14 hi lw ep ng gn hi2 lw2 ep2 ng2 gn2), .long (v_W_join_15 hi lw ep ng gn hi2 lw2 ep2 ng2 gn2), .int (v_W_join_16 hi lw ep ng gn hi2 lw2 ep2 ng2 gn2), .int (bI ng), .int (bI (v_W_join_17 hi lw ep ng gn hi2 lw2 ep2 ng2 gn2))])), (h1, .inr (0, [.long (v_W_join_10 hi lw ep ng gn hi2 lw2 ep2 ng2 gn2), .long (v_W_join_11 hi lw ep ng gn hi2 lw2 ep2 ng2 gn2), .int (v_W_join_12 hi lw ep ng gn hi2 lw2 ep2 ng2 gn2), .int (bI ng2), .int (bI (v_W_join_13 hi lw ep ng gn hi2 lw2 ep2 ng2 gn2))]))] := hD
        have hK : va_K (dC, dI) vwCl [] s := hK
        refine kb_eq (tgt := 90) hx hb dW_join_74 (by decide) (fun c_4 => ?_) (fun c_4 => ?_)
        · refine lv_aload_n hx hb dW_join_90 rfl (lv_at hl 1 rfl) ?_
          refine lv_aload_n hx hb dW_join_91 rfl (lv_at hl 2 rfl) ?_
          have hPc := hP.sub (ws' := [(h0, .inr (0, [.long (v_W_join_14 hi lw ep ng gn hi2 lw2 ep2 ng2 gn2), .long (v_W_join_15 hi lw ep ng gn hi2 lw2 ep2 ng2 gn2), .int (v_W_join_16 hi lw ep ng gn hi2 lw2 ep2 ng2 gn2), .int (bI ng), .int (bI (v_W_join_17 hi lw ep ng gn hi2 lw2 ep2 ng2 gn2))])), (h1, .inr (0, [.long (v_W_join_10 hi lw ep ng gn hi2 lw2 ep2 ng2 gn2), .long (v_W_join_11 hi lw ep ng gn hi2 lw2 ep2 ng2 gn2), .int (v_W_join_12 hi lw ep ng gn hi2 lw2 ep2 ng2 gn2), .int (bI ng2), .int (bI (v_W_join_13 hi lw ep ng gn hi2 lw2 ep2 ng2 gn2))]))]) [0, 1] rfl
          have hDc := hD.sub (ws' := [(h0, .inr (0, [.long (v_W_join_14 hi lw ep ng gn hi2 lw2 ep2 ng2 gn2), .long (v_W_join_15 hi lw ep ng gn hi2 lw2 ep2 ng2 gn2), .int (v_W_join_16 hi lw ep ng gn hi2 lw2 ep2 ng2 gn2), .int (bI ng), .int (bI (v_W_join_17 hi lw ep ng gn hi2 lw2 ep2 ng2 gn2))])), (h1, .inr (0, [.long (v_W_join_10 hi lw ep ng gn hi2 lw2 ep2 ng2 gn2), .long (v_W_join_11 hi lw ep ng gn hi2 lw2 ep2 ng2 gn2), .int (v_W_join_12 hi lw ep ng gn hi2 lw2 ep2 ng2 gn2), .int (bI ng2), .int (bI (v_W_join_13 hi lw ep ng gn hi2 lw2 ep2 ng2 gn2))]))]) [0, 1] (by decide) rfl
          have hKc := hK.sub (tys' := []) [] rfl
          have hFc := va_free (wc := [(h0, .inr (0, [.long (v_W_join_14 hi lw ep ng gn hi2 lw2 ep2 ng2 gn2), .long (v_W_join_15 hi lw ep ng gn hi2 lw2 ep2 ng2 gn2), .int (v_W_join_16 hi lw ep ng gn hi2 lw2 ep2 ng2 gn2), .int (bI ng), .int (bI (v_W_join_17 hi lw ep ng gn hi2 lw2 ep2 ng2 gn2))])), (h1, .inr (0, [.long (v_W_join_10 hi lw ep ng gn hi2 lw2 ep2 ng2 gn2), .long (v_W_join_11 hi lw ep ng gn hi2 lw2 ep2 ng2 gn2), .int (v_W_join_12 hi lw ep ng gn hi2 lw2 ep2 ng2 gn2), .int (bI ng2), .int (bI (v_W_join_13 hi lw ep ng gn hi2 lw2 ep2 ng2 gn2))]))]) hD hS hA [0, 1] rfl
          refine va_callv (va_runV (As := [.ref h1]) (rest := []) ⟨hx, hb, hml, hown, hts⟩ (kW_lower l dC dI h0 h1 H.size (v_W_join_14 hi lw ep ng gn hi2 lw2 ep2 ng2 gn2) (v_W_join_15 hi lw ep ng gn hi2 lw2 ep2 ng2 gn2) (v_W_join_16 hi lw ep ng gn hi2 lw2 ep2 ng2 gn2) ng (v_W_join_17 hi lw ep ng gn hi2 lw2 ep2 ng2 gn2) (v_W_join_10 hi lw ep ng gn hi2 lw2 ep2 ng2 gn2) (v_W_join_11 hi lw ep ng gn hi2 lw2 ep2 ng2 gn2) (v_W_join_12 hi lw ep ng gn hi2 lw2 ep2 ng2 gn2) ng2 (v_W_join_13 hi lw ep ng gn hi2 lw2 ep2 ng2 gn2)) (cwV 1 hts (g_call (List.forall_mem_cons.mpr ⟨m1_166, List.forall_mem_cons.mpr ⟨m1_167, List.forall_mem_cons.mpr ⟨m1_168, List.forall_mem_cons.mpr ⟨m1_2, fun _ h => absurd h List.not_mem_nil⟩⟩⟩⟩) m1_169) rfl rfl rfl (by decide +kernel) ⟨Nat.le_of_ble_eq_true rfl, Nat.le_of_ble_eq_true rfl⟩) ⟨fun a U g mk q => by obtain ⟨q0, q1, qP, qK, qD, qN⟩ := q; exact ⟨q0, q1, qP, va_K.moved (u := U) (U := U.calling g mk a) (Vm.Alike.refl U.vm) qK, qD, NW.same (u := U) rfl qN⟩, va_recv hKc hPc (ci := 0) (q0 := 0) rfl rfl, fun U hU hW => ⟨rfl, by rw [hU], by rw [hU]; exact hPc, va_K.moved hW.alike hKc, hDc.weaken (fun _ _ _ _ => trivial), NW.warm hW hN⟩⟩ rfl rfl hl.1 rfl (lv_room (Nat.le_of_ble_eq_true rfl)) dW_join_92 ⟨Nat.le_of_ble_eq_true rfl, Nat.le_of_ble_eq_true rfl⟩) hS (fun q _ h => hFc q h) hFc (fun u9 t H1 locs ht hvm hw hB hz1 hk1 hS => ?_)
          obtain ⟨hP1, hK1, hD1⟩ := hB
          rw [ht] at hP1
          have hK1 := va_K.moved hvm.symm hK1
          have hP1 : va_P (dC, dI) vwCl [(h0, .inr (0, [.long (v_W_join_19 hi lw ep ng gn hi2 lw2 ep2 ng2 gn2), .long (v_W_join_20 hi lw ep ng gn hi2 lw2 ep2 ng2 gn2), .int (v_W_join_16 hi lw ep ng gn hi2 lw2 ep2 ng2 gn2), .int (bI ng), .int (bI (v_W_join_21 hi lw ep ng gn hi2 lw2 ep2 ng2 gn2))])), (h1, .inr (0, [.long (v_W_join_10 hi lw ep ng gn hi2 lw2 ep2 ng2 gn2), .long (v_W_join_11 hi lw ep ng gn hi2 lw2 ep2 ng2 gn2), .int (v_W_join_12 hi lw ep ng gn hi2 lw2 ep2 ng2 gn2), .int (bI ng2), .int (bI (v_W_join_13 hi lw ep ng gn hi2 lw2 ep2 ng2 gn2))]))] H1 := hP1
          have hD1 : va_D _ [(h0, .inr (0, [.long (v_W_join_19 hi lw ep ng gn hi2 lw2 ep2 ng2 gn2), .long (v_W_join_20 hi lw ep ng gn hi2 lw2 ep2 ng2 gn2), .int (v_W_join_16 hi lw ep ng gn hi2 lw2 ep2 ng2 gn2), .int (bI ng), .int (bI (v_W_join_21 hi lw ep ng gn hi2 lw2 ep2 ng2 gn2))])), (h1, .inr (0, [.long (v_W_join_10 hi lw ep ng gn hi2 lw2 ep2 ng2 gn2), .long (v_W_join_11 hi lw ep ng gn hi2 lw2 ep2 ng2 gn2), .int (v_W_join_12 hi lw ep ng gn hi2 lw2 ep2 ng2 gn2), .int (bI ng2), .int (bI (v_W_join_13 hi lw ep ng gn hi2 lw2 ep2 ng2 gn2))]))] := hD1
          obtain ⟨hP, hD⟩ := va_join (wr := []) (w1 := [(h0, .inr (0, [.long (v_W_join_19 hi lw ep ng gn hi2 lw2 ep2 ng2 gn2), .long (v_W_join_20 hi lw ep ng gn hi2 lw2 ep2 ng2 gn2), .int (v_W_join_16 hi lw ep ng gn hi2 lw2 ep2 ng2 gn2), .int (bI ng), .int (bI (v_W_join_21 hi lw ep ng gn hi2 lw2 ep2 ng2 gn2))])), (h1, .inr (0, [.long (v_W_join_10 hi lw ep ng gn hi2 lw2 ep2 ng2 gn2), .long (v_W_join_11 hi lw ep ng gn hi2 lw2 ep2 ng2 gn2), .int (v_W_join_12 hi lw ep ng gn hi2 lw2 ep2 ng2 gn2), .int (bI ng2), .int (bI (v_W_join_13 hi lw ep ng gn hi2 lw2 ep2 ng2 gn2))]))]) hP hD [0, 1] [] rfl rfl (by decide) (by decide) hk1 hFc hP1 hD1
          have hK := (hK.sub (tys' := []) [] rfl).app hK1
          generalize H1 = H at hP hS ⊢
          have hP : va_P (dC, dI) vwCl [(h0, .inr (0, [.long (v_W_join_19 hi lw ep ng gn hi2 lw2 ep2 ng2 gn2), .long (v_W_join_20 hi lw ep ng gn hi2 lw2 ep2 ng2 gn2), .int (v_W_join_16 hi lw ep ng gn hi2 lw2 ep2 ng2 gn2), .int (bI ng), .int (bI (v_W_join_21 hi lw ep ng gn hi2 lw2 ep2 ng2 gn2))])), (h1, .inr (0, [.long (v_W_join_10 hi lw ep ng gn hi2 lw2 ep2 ng2 gn2), .long (v_W_join_11 hi lw ep ng gn hi2 lw2 ep2 ng2 gn2), .int (v_W_join_12 hi lw ep ng gn hi2 lw2 ep2 ng2 gn2), .int (bI ng2), .int (bI (v_W_join_13 hi lw ep ng gn hi2 lw2 ep2 ng2 gn2))]))] H := hP
          have hD : va_D A [(h0, .inr (0, [.long (v_W_join_19 hi lw ep ng gn hi2 lw2 ep2 ng2 gn2), .long (v_W_join_20 hi lw ep ng gn hi2 lw2 ep2 ng2 gn2), .int (v_W_join_16 hi lw ep ng gn hi2 lw2 ep2 ng2 gn2), .int (bI ng), .int (bI (v_W_join_21 hi lw ep ng gn hi2 lw2 ep2 ng2 gn2))])), (h1, .inr (0, [.long (v_W_join_10 hi lw ep ng gn hi2 lw2 ep2 ng2 gn2), .long (v_W_join_11 hi lw ep ng gn hi2 lw2 ep2 ng2 gn2), .int (v_W_join_12 hi lw ep ng gn hi2 lw2 ep2 ng2 gn2), .int (bI ng2), .int (bI (v_W_join_13 hi lw ep ng gn hi2 lw2 ep2 ng2 gn2))]))] := hD
          have hK : va_K (dC, dI) vwCl [] s := hK
          exact J_1 (v_W_join_19 hi lw ep ng gn hi2 lw2 ep2 ng2 gn2) (((if_neg c_3).trans (if_neg c_4))).symm (v_W_join_20 hi lw ep ng gn hi2 lw2 ep2 ng2 gn2) (((if_neg c_3).trans (if_neg c_4))).symm (v_W_join_16 hi lw ep ng gn hi2 lw2 ep2 ng2 gn2) (((if_neg c_3).trans (if_neg c_4))).symm ng (((if_neg c_3).trans (if_neg c_4))).symm (v_W_join_21 hi lw ep ng gn hi2 lw2 ep2 ng2 gn2) (((if_neg c_3).trans (if_neg c_4))).symm (v_W_join_10 hi lw ep ng gn hi2 lw2 ep2 ng2 gn2) (((if_neg c_3).trans (if_neg c_4))).symm (v_W_join_11 hi lw ep ng gn hi2 lw2 ep2 ng2 gn2) (((if_neg c_3).trans (if_neg c_4))).symm (v_W_join_13 hi lw ep ng gn hi2 lw2 ep2 ng2 gn2) (((if_neg c_3).trans (if_neg c_4))).symm _ _ (hK.sub [] rfl) (hP.sub [0, 1] rfl) (hD.sub [0, 1] (by decide) rfl) hS ls (lv_sub hl [] rfl)
        · refine lv_aload_n hx hb dW_join_77 rfl (lv_at hl 2 rfl) ?_
          refine lv_aload_n hx hb dW_join_78 rfl (lv_at hl 1 rfl) ?_
          have hPc := hP.sub (ws' := [(h1, .inr (0, [.long (v_W_join_10 hi lw ep ng gn hi2 lw2 ep2 ng2 gn2), .long (v_W_join_11 hi lw ep ng gn hi2 lw2 ep2 ng2 gn2), .int (v_W_join_12 hi lw ep ng gn hi2 lw2 ep2 ng2 gn2), .int (bI ng2), .int (bI (v_W_join_13 hi lw ep ng gn hi2 lw2 ep2 ng2 gn2))])), (h0, .inr (0, [.long (v_W_join_14 hi lw ep ng gn hi2 lw2 ep2 ng2 gn2), .long (v_W_join_15 hi lw ep ng gn hi2 lw2 ep2 ng2 gn2), .int (v_W_join_16 hi lw ep ng gn hi2 lw2 ep2 ng2 gn2), .int (bI ng), .int (bI (v_W_join_17 hi lw ep ng gn hi2 lw2 ep2 ng2 gn2))]))]) [1, 0] rfl
          have hDc := hD.sub (ws' := [(h1, .inr (0, [.long (v_W_join_10 hi lw ep ng gn hi2 lw2 ep2 ng2 gn2), .long (v_W_join_11 hi lw ep ng gn hi2 lw2 ep2 ng2 gn2), .int (v_W_join_12 hi lw ep ng gn hi2 lw2 ep2 ng2 gn2), .int (bI ng2), .int (bI (v_W_join_13 hi lw ep ng gn hi2 lw2 ep2 ng2 gn2))])), (h0, .inr (0, [.long (v_W_join_14 hi lw ep ng gn hi2 lw2 ep2 ng2 gn2), .long (v_W_join_15 hi lw ep ng gn hi2 lw2 ep2 ng2 gn2), .int (v_W_join_16 hi lw ep ng gn hi2 lw2 ep2 ng2 gn2), .int (bI ng), .int (bI (v_W_join_17 hi lw ep ng gn hi2 lw2 ep2 ng2 gn2))]))]) [1, 0] (by decide) rfl
          have hKc := hK.sub (tys' := []) [] rfl
          have hFc := va_free (wc := [(h1, .inr (0, [.long (v_W_join_10 hi lw ep ng gn hi2 lw2 ep2 ng2 gn2), .long (v_W_join_11 hi lw ep ng gn hi2 lw2 ep2 ng2 gn2), .int (v_W_join_12 hi lw ep ng gn hi2 lw2 ep2 ng2 gn2), .int (bI ng2), .int (bI (v_W_join_13 hi lw ep ng gn hi2 lw2 ep2 ng2 gn2))])), (h0, .inr (0, [.long (v_W_join_14 hi lw ep ng gn hi2 lw2 ep2 ng2 gn2), .long (v_W_join_15 hi lw ep ng gn hi2 lw2 ep2 ng2 gn2), .int (v_W_join_16 hi lw ep ng gn hi2 lw2 ep2 ng2 gn2), .int (bI ng), .int (bI (v_W_join_17 hi lw ep ng gn hi2 lw2 ep2 ng2 gn2))]))]) hD hS hA [1, 0] rfl
          refine va_callv (va_runV (As := [.ref h0]) (rest := []) ⟨hx, hb, hml, hown, hts⟩ (kW_lower l dC dI h1 h0 H.size (v_W_join_10 hi lw ep ng gn hi2 lw2 ep2 ng2 gn2) (v_W_join_11 hi lw ep ng gn hi2 lw2 ep2 ng2 gn2) (v_W_join_12 hi lw ep ng gn hi2 lw2 ep2 ng2 gn2) ng2 (v_W_join_13 hi lw ep ng gn hi2 lw2 ep2 ng2 gn2) (v_W_join_14 hi lw ep ng gn hi2 lw2 ep2 ng2 gn2) (v_W_join_15 hi lw ep ng gn hi2 lw2 ep2 ng2 gn2) (v_W_join_16 hi lw ep ng gn hi2 lw2 ep2 ng2 gn2) ng (v_W_join_17 hi lw ep ng gn hi2 lw2 ep2 ng2 gn2)) (cwV 1 hts (g_call (List.forall_mem_cons.mpr ⟨m1_166, List.forall_mem_cons.mpr ⟨m1_167, List.forall_mem_cons.mpr ⟨m1_168, List.forall_mem_cons.mpr ⟨m1_2, fun _ h => absurd h List.not_mem_nil⟩⟩⟩⟩) m1_169) rfl rfl rfl (by decide +kernel) ⟨Nat.le_of_ble_eq_true rfl, Nat.le_of_ble_eq_true rfl⟩) ⟨fun a U g mk q => by obtain ⟨q0, q1, qP, qK, qD, qN⟩ := q; exact ⟨q0, q1, qP, va_K.moved (u := U) (U := U.calling g mk a) (Vm.Alike.refl U.vm) qK, qD, NW.same (u := U) rfl qN⟩, va_recv hKc hPc (ci := 0) (q0 := 0) rfl rfl, fun U hU hW => ⟨rfl, by rw [hU], by rw [hU]; exact hPc, va_K.moved hW.alike hKc, hDc.weaken (fun _ _ _ _ => trivial), NW.warm hW hN⟩⟩ rfl rfl hl.1 rfl (lv_room (Nat.le_of_ble_eq_true rfl)) dW_join_79 ⟨Nat.le_of_ble_eq_true rfl, Nat.le_of_ble_eq_true rfl⟩) hS (fun q _ h => hFc q h) hFc (fun u9 t H1 locs ht hvm hw hB hz1 hk1 hS => ?_)
          obtain ⟨hP1, hK1, hD1⟩ := hB
          rw [ht] at hP1
          have hK1 := va_K.moved hvm.symm hK1
          have hP1 : va_P (dC, dI) vwCl [(h1, .inr (0, [.long (v_W_join_22 hi lw ep ng gn hi2 lw2 ep2 ng2 gn2), .long (v_W_join_23 hi lw ep ng gn hi2 lw2 ep2 ng2 gn2), .int (v_W_join_12 hi lw ep ng gn hi2 lw2 ep2 ng2 gn2), .int (bI ng2), .int (bI (v_W_join_24 hi lw ep ng gn hi2 lw2 ep2 ng2 gn2))])), (h0, .inr (0, [.long (v_W_join_14 hi lw ep ng gn hi2 lw2 ep2 ng2 gn2), .long (v_W_join_15 hi lw ep ng gn hi2 lw2 ep2 ng2 gn2), .int (v_W_join_16 hi lw ep ng gn hi2 lw2 ep2 ng2 gn2), .int (bI ng), .int (bI (v_W_join_17 hi lw ep ng gn hi2 lw2 ep2 ng2 gn2))]))] H1 := hP1
          have hD1 : va_D _ [(h1, .inr (0, [.long (v_W_join_22 hi lw ep ng gn hi2 lw2 ep2 ng2 gn2), .long (v_W_join_23 hi lw ep ng gn hi2 lw2 ep2 ng2 gn2), .int (v_W_join_12 hi lw ep ng gn hi2 lw2 ep2 ng2 gn2), .int (bI ng2), .int (bI (v_W_join_24 hi lw ep ng gn hi2 lw2 ep2 ng2 gn2))])), (h0, .inr (0, [.long (v_W_join_14 hi lw ep ng gn hi2 lw2 ep2 ng2 gn2), .long (v_W_join_15 hi lw ep ng gn hi2 lw2 ep2 ng2 gn2), .int (v_W_join_16 hi lw ep ng gn hi2 lw2 ep2 ng2 gn2), .int (bI ng), .int (bI (v_W_join_17 hi lw ep ng gn hi2 lw2 ep2 ng2 gn2))]))] := hD1
          obtain ⟨hP, hD⟩ := va_join (wr := []) (w1 := [(h1, .inr (0, [.long (v_W_join_22 hi lw ep ng gn hi2 lw2 ep2 ng2 gn2), .long (v_W_join_23 hi lw ep ng gn hi2 lw2 ep2 ng2 gn2), .int (v_W_join_12 hi lw ep ng gn hi2 lw2 ep2 ng2 gn2), .int (bI ng2), .int (bI (v_W_join_24 hi lw ep ng gn hi2 lw2 ep2 ng2 gn2))])), (h0, .inr (0, [.long (v_W_join_14 hi lw ep ng gn hi2 lw2 ep2 ng2 gn2), .long (v_W_join_15 hi lw ep ng gn hi2 lw2 ep2 ng2 gn2), .int (v_W_join_16 hi lw ep ng gn hi2 lw2 ep2 ng2 gn2), .int (bI ng), .int (bI (v_W_join_17 hi lw ep ng gn hi2 lw2 ep2 ng2 gn2))]))]) hP hD [1, 0] [] rfl rfl (by decide) (by decide) hk1 hFc hP1 hD1
          have hK := (hK.sub (tys' := []) [] rfl).app hK1
          generalize H1 = H at hP hS ⊢
          have hP : va_P (dC, dI) vwCl [(h1, .inr (0, [.long (v_W_join_22 hi lw ep ng gn hi2 lw2 ep2 ng2 gn2), .long (v_W_join_23 hi lw ep ng gn hi2 lw2 ep2 ng2 gn2), .int (v_W_join_12 hi lw ep ng gn hi2 lw2 ep2 ng2 gn2), .int (bI ng2), .int (bI (v_W_join_24 hi lw ep ng gn hi2 lw2 ep2 ng2 gn2))])), (h0, .inr (0, [.long (v_W_join_14 hi lw ep ng gn hi2 lw2 ep2 ng2 gn2), .long (v_W_join_15 hi lw ep ng gn hi2 lw2 ep2 ng2 gn2), .int (v_W_join_16 hi lw ep ng gn hi2 lw2 ep2 ng2 gn2), .int (bI ng), .int (bI (v_W_join_17 hi lw ep ng gn hi2 lw2 ep2 ng2 gn2))]))] H := hP
          have hD : va_D A [(h1, .inr (0, [.long (v_W_join_22 hi lw ep ng gn hi2 lw2 ep2 ng2 gn2), .long (v_W_join_23 hi lw ep ng gn hi2 lw2 ep2 ng2 gn2), .int (v_W_join_12 hi lw ep ng gn hi2 lw2 ep2 ng2 gn2), .int (bI ng2), .int (bI (v_W_join_24 hi lw ep ng gn hi2 lw2 ep2 ng2 gn2))])), (h0, .inr (0, [.long (v_W_join_14 hi lw ep ng gn hi2 lw2 ep2 ng2 gn2), .long (v_W_join_15 hi lw ep ng gn hi2 lw2 ep2 ng2 gn2), .int (v_W_join_16 hi lw ep ng gn hi2 lw2 ep2 ng2 gn2), .int (bI ng), .int (bI (v_W_join_17 hi lw ep ng gn hi2 lw2 ep2 ng2 gn2))]))] := hD
          have hK : va_K (dC, dI) vwCl [] s := hK
          refine lv_aload_n hx hb dW_join_82 rfl (lv_at hl 1 rfl) ?_
          refine lv_aload_n hx hb dW_join_83 rfl (lv_at hl 2 rfl) ?_
          have hPc := hP.sub (ws' := [(h0, .inr (0, [.long (v_W_join_14 hi lw ep ng gn hi2 lw2 ep2 ng2 gn2), .long (v_W_join_15 hi lw ep ng gn hi2 lw2 ep2 ng2 gn2), .int (v_W_join_16 hi lw ep ng gn hi2 lw2 ep2 ng2 gn2), .int (bI ng), .int (bI (v_W_join_17 hi lw ep ng gn hi2 lw2 ep2 ng2 gn2))])), (h1, .inr (0, [.long (v_W_join_22 hi lw ep ng gn hi2 lw2 ep2 ng2 gn2), .long (v_W_join_23 hi lw ep ng gn hi2 lw2 ep2 ng2 gn2), .int (v_W_join_12 hi lw ep ng gn hi2 lw2 ep2 ng2 gn2), .int (bI ng2), .int (bI (v_W_join_24 hi lw ep ng gn hi2 lw2 ep2 ng2 gn2))]))]) [1, 0] rfl
          have hDc := hD.sub (ws' := [(h0, .inr (0, [.long (v_W_join_14 hi lw ep ng gn hi2 lw2 ep2 ng2 gn2), .long (v_W_join_15 hi lw ep ng gn hi2 lw2 ep2 ng2 gn2), .int (v_W_join_16 hi lw ep ng gn hi2 lw2 ep2 ng2 gn2), .int (bI ng), .int (bI (v_W_join_17 hi lw ep ng gn hi2 lw2 ep2 ng2 gn2))])), (h1, .inr (0, [.long (v_W_join_22 hi lw ep ng gn hi2 lw2 ep2 ng2 gn2), .long (v_W_join_23 hi lw ep ng gn hi2 lw2 ep2 ng2 gn2), .int (v_W_join_12 hi lw ep ng gn hi2 lw2 ep2 ng2 gn2), .int (bI ng2), .int (bI (v_W_join_24 hi lw ep ng gn hi2 lw2 ep2 ng2 gn2))]))]) [1, 0] (by decide) rfl
          have hKc := hK.sub (tys' := []) [] rfl
          have hFc := va_free (wc := [(h0, .inr (0, [.long (v_W_join_14 hi lw ep ng gn hi2 lw2 ep2 ng2 gn2), .long (v_W_join_15 hi lw ep ng gn hi2 lw2 ep2 ng2 gn2), .int (v_W_join_16 hi lw ep ng gn hi2 lw2 ep2 ng2 gn2), .int (bI ng), .int (bI (v_W_join_17 hi lw ep ng gn hi2 lw2 ep2 ng2 gn2))])), (h1, .inr (0, [.long (v_W_join_22 hi lw ep ng gn hi2 lw2 ep2 ng2 gn2), .long (v_W_join_23 hi lw ep ng gn hi2 lw2 ep2 ng2 gn2), .int (v_W_join_12 hi lw ep ng gn hi2 lw2 ep2 ng2 gn2), .int (bI ng2), .int (bI (v_W_join_24 hi lw ep ng gn hi2 lw2 ep2 ng2 gn2))]))]) hD hS hA [1, 0] rfl
          refine va_callv (va_runV (As := [.ref h1]) (rest := []) ⟨hx, hb, hml, hown, hts⟩ (kW_copy l dC dI h0 h1 H.size (v_W_join_14 hi lw ep ng gn hi2 lw2 ep2 ng2 gn2) (v_W_join_15 hi lw ep ng gn hi2 lw2 ep2 ng2 gn2) (v_W_join_16 hi lw ep ng gn hi2 lw2 ep2 ng2 gn2) ng (v_W_join_17 hi lw ep ng gn hi2 lw2 ep2 ng2 gn2) (v_W_join_22 hi lw ep ng gn hi2 lw2 ep2 ng2 gn2) (v_W_join_23 hi lw ep ng gn hi2 lw2 ep2 ng2 gn2) (v_W_join_12 hi lw ep ng gn hi2 lw2 ep2 ng2 gn2) ng2 (v_W_join_24 hi lw ep ng gn hi2 lw2 ep2 ng2 gn2)) (cwV 1 hts (g_call (List.forall_mem_cons.mpr ⟨m1_132, List.forall_mem_cons.mpr ⟨m1_133, List.forall_mem_cons.mpr ⟨m1_134, List.forall_mem_cons.mpr ⟨m1_2, fun _ h => absurd h List.not_mem_nil⟩⟩⟩⟩) m1_135) rfl rfl rfl (by decide +kernel) ⟨Nat.le_of_ble_eq_true rfl, Nat.le_of_ble_eq_true rfl⟩) ⟨fun a U g mk q => by obtain ⟨q0, q1, qP, qK, qD, qN⟩ := q; exact ⟨q0, q1, qP, va_K.moved (u := U) (U := U.calling g mk a) (Vm.Alike.refl U.vm) qK, qD, NW.same (u := U) rfl qN⟩, va_recv hKc hPc (ci := 0) (q0 := 0) rfl rfl, fun U hU hW => ⟨rfl, by rw [hU], by rw [hU]; exact hPc, va_K.moved hW.alike hKc, hDc.weaken (fun _ _ _ _ => trivial), NW.warm hW hN⟩⟩ rfl rfl hl.1 rfl (lv_room (Nat.le_of_ble_eq_true rfl)) dW_join_84 ⟨Nat.le_of_ble_eq_true rfl, Nat.le_of_ble_eq_true rfl⟩) hS (fun q _ h => hFc q h) hFc (fun u9 t H1 locs ht hvm hw hB hz1 hk1 hS => ?_)
          obtain ⟨hP1, hK1, hD1⟩ := hB
          rw [ht] at hP1
          have hK1 := va_K.moved hvm.symm hK1
          have hP1 : va_P (dC, dI) vwCl [(h0, .inr (0, [.long (v_W_join_25 hi lw ep ng gn hi2 lw2 ep2 ng2 gn2), .long (v_W_join_26 hi lw ep ng gn hi2 lw2 ep2 ng2 gn2), .int (v_W_join_27 hi lw ep ng gn hi2 lw2 ep2 ng2 gn2), .int (bI (v_W_join_28 hi lw ep ng gn hi2 lw2 ep2 ng2 gn2)), .int (bI (v_W_join_29 hi lw ep ng gn hi2 lw2 ep2 ng2 gn2))])), (h1, .inr (0, [.long (v_W_join_22 hi lw ep ng gn hi2 lw2 ep2 ng2 gn2), .long (v_W_join_23 hi lw ep ng gn hi2 lw2 ep2 ng2 gn2), .int (v_W_join_12 hi lw ep ng gn hi2 lw2 ep2 ng2 gn2), .int (bI ng2), .int (bI (v_W_join_24 hi lw ep ng gn hi2 lw2 ep2 ng2 gn2))]))] H1 := hP1
          have hD1 : va_D _ [(h0, .inr (0, [.long (v_W_join_25 hi lw ep ng gn hi2 lw2 ep2 ng2 gn2), .long (v_W_join_26 hi lw ep ng gn hi2 lw2 ep2 ng2 gn2), .int (v_W_join_27 hi lw ep ng gn hi2 lw2 ep2 ng2 gn2), .int (bI (v_W_join_28 hi lw ep ng gn hi2 lw2 ep2 ng2 gn2)), .int (bI (v_W_join_29 hi lw ep ng gn hi2 lw2 ep2 ng2 gn2))])), (h1, .inr (0, [.long (v_W_join_22 hi lw ep ng gn hi2 lw2 ep2 ng2 gn2), .long (v_W_join_23 hi lw ep ng gn hi2 lw2 ep2 ng2 gn2), .int (v_W_join_12 hi lw ep ng gn hi2 lw2 ep2 ng2 gn2), .int (bI ng2), .int (bI (v_W_join_24 hi lw ep ng gn hi2 lw2 ep2 ng2 gn2))]))] := hD1
          obtain ⟨hP, hD⟩ := va_join (wr := []) (w1 := [(h0, .inr (0, [.long (v_W_join_25 hi lw ep ng gn hi2 lw2 ep2 ng2 gn2), .long (v_W_join_26 hi lw ep ng gn hi2 lw2 ep2 ng2 gn2), .int (v_W_join_27 hi lw ep ng gn hi2 lw2 ep2 ng2 gn2), .int (bI (v_W_join_28 hi lw ep ng gn hi2 lw2 ep2 ng2 gn2)), .int (bI (v_W_join_29 hi lw ep ng gn hi2 lw2 ep2 ng2 gn2))])), (h1, .inr (0, [.long (v_W_join_22 hi lw ep ng gn hi2 lw2 ep2 ng2 gn2), .long (v_W_join_23 hi lw ep ng gn hi2 lw2 ep2 ng2 gn2), .int (v_W_join_12 hi lw ep ng gn hi2 lw2 ep2 ng2 gn2), .int (bI ng2), .int (bI (v_W_join_24 hi lw ep ng gn hi2 lw2 ep2 ng2 gn2))]))]) hP hD [1, 0] [] rfl rfl (by decide) (by decide) hk1 hFc hP1 hD1
          have hK := (hK.sub (tys' := []) [] rfl).app hK1
          generalize H1 = H at hP hS ⊢
          have hP : va_P (dC, dI) vwCl [(h0, .inr (0, [.long (v_W_join_25 hi lw ep ng gn hi2 lw2 ep2 ng2 gn2), .long (v_W_join_26 hi lw ep ng gn hi2 lw2 ep2 ng2 gn2), .int (v_W_join_27 hi lw ep ng gn hi2 lw2 ep2 ng2 gn2), .int (bI (v_W_join_28 hi lw ep ng gn hi2 lw2 ep2 ng2 gn2)), .int (bI (v_W_join_29 hi lw ep ng gn hi2 lw2 ep2 ng2 gn2))])), (h1, .inr (0, [.long (v_W_join_22 hi lw ep ng gn hi2 lw2 ep2 ng2 gn2), .long (v_W_join_23 hi lw ep ng gn hi2 lw2 ep2 ng2 gn2), .int (v_W_join_12 hi lw ep ng gn hi2 lw2 ep2 ng2 gn2), .int (bI ng2), .int (bI (v_W_join_24 hi lw ep ng gn hi2 lw2 ep2 ng2 gn2))]))] H := hP
          have hD : va_D A [(h0, .inr (0, [.long (v_W_join_25 hi lw ep ng gn hi2 lw2 ep2 ng2 gn2), .long (v_W_join_26 hi lw ep ng gn hi2 lw2 ep2 ng2 gn2), .int (v_W_join_27 hi lw ep ng gn hi2 lw2 ep2 ng2 gn2), .int (bI (v_W_join_28 hi lw ep ng gn hi2 lw2 ep2 ng2 gn2)), .int (bI (v_W_join_29 hi lw ep ng gn hi2 lw2 ep2 ng2 gn2))])), (h1, .inr (0, [.long (v_W_join_22 hi lw ep ng gn hi2 lw2 ep2 ng2 gn2), .long (v_W_join_23 hi lw ep ng gn hi2 lw2 ep2 ng2 gn2), .int (v_W_join_12 hi lw ep ng gn hi2 lw2 ep2 ng2 gn2), .int (bI ng2), .int (bI (v_W_join_24 hi lw ep ng gn hi2 lw2 ep2 ng2 gn2))]))] := hD
          have hK : va_K (dC, dI) vwCl [] s := hK
          refine lv_goto (tgt := 95) hx hb dW_join_87 (by decide) ?_
          exact J_1 (v_W_join_25 hi lw ep ng gn hi2 lw2 ep2 ng2 gn2) (((if_neg c_3).trans (if_pos c_4))).symm (v_W_join_26 hi lw ep ng gn hi2 lw2 ep2 ng2 gn2) (((if_neg c_3).trans (if_pos c_4))).symm (v_W_join_27 hi lw ep ng gn hi2 lw2 ep2 ng2 gn2) (((if_neg c_3).trans (if_pos c_4))).symm (v_W_join_28 hi lw ep ng gn hi2 lw2 ep2 ng2 gn2) (((if_neg c_3).trans (if_pos c_4))).symm (v_W_join_29 hi lw ep ng gn hi2 lw2 ep2 ng2 gn2) (((if_neg c_3).trans (if_pos c_4))).symm (v_W_join_22 hi lw ep ng gn hi2 lw2 ep2 ng2 gn2) (((if_neg c_3).trans (if_pos c_4))).symm (v_W_join_23 hi lw ep ng gn hi2 lw2 ep2 ng2 gn2) (((if_neg c_3).trans (if_pos c_4))).symm (v_W_join_24 hi lw ep ng gn hi2 lw2 ep2 ng2 gn2) (((if_neg c_3).trans (if_pos c_4))).symm _ _ (hK.sub [] rfl) (hP.sub [0, 1] rfl) (hD.sub [0, 1] (by decide) rfl) hS ls (lv_sub hl [] rfl)
      · refine lv_aload_n hx hb dW_join_61 rfl (lv_at hl 1 rfl) ?_
        refine lv_aload_n hx hb dW_join_62 rfl (lv_at hl 2 rfl) ?_
        have hPc := hP.sub (ws' := [(h0, .inr (0, [.long (v_W_join_14 hi lw ep ng gn hi2 lw2 ep2 ng2 gn2), .long (v_W_join_15 hi lw ep ng gn hi2 lw2 ep2 ng2 gn2), .int (v_W_join_16 hi lw ep ng gn hi2 lw2 ep2 ng2 gn2), .int (bI ng), .int (bI (v_W_join_17 hi lw ep ng gn hi2 lw2 ep2 ng2 gn2))])), (h1, .inr (0, [.long (v_W_join_10 hi lw ep ng gn hi2 lw2 ep2 ng2 gn2), .long (v_W_join_11 hi lw ep ng gn hi2 lw2 ep2 ng2 gn2), .int (v_W_join_12 hi lw ep ng gn hi2 lw2 ep2 ng2 gn2), .int (bI ng2), .int (bI (v_W_join_13 hi lw ep ng gn hi2 lw2 ep2 ng2 gn2))]))]) [1, 0] rfl
        have hDc := hD.sub (ws' := [(h0, .inr (0, [.long (v_W_join_14 hi lw ep ng gn hi2 lw2 ep2 ng2 gn2), .long (v_W_join_15 hi lw ep ng gn hi2 lw2 ep2 ng2 gn2), .int (v_W_join_16 hi lw ep ng gn hi2 lw2 ep2 ng2 gn2), .int (bI ng), .int (bI (v_W_join_17 hi lw ep ng gn hi2 lw2 ep2 ng2 gn2))])), (h1, .inr (0, [.long (v_W_join_10 hi lw ep ng gn hi2 lw2 ep2 ng2 gn2), .long (v_W_join_11 hi lw ep ng gn hi2 lw2 ep2 ng2 gn2), .int (v_W_join_12 hi lw ep ng gn hi2 lw2 ep2 ng2 gn2), .int (bI ng2), .int (bI (v_W_join_13 hi lw ep ng gn hi2 lw2 ep2 ng2 gn2))]))]) [1, 0] (by decide) rfl
        have hKc := hK.sub (tys' := []) [] rfl
        have hFc := va_free (wc := [(h0, .inr (0, [.long (v_W_join_14 hi lw ep ng gn hi2 lw2 ep2 ng2 gn2), .long (v_W_join_15 hi lw ep ng gn hi2 lw2 ep2 ng2 gn2), .int (v_W_join_16 hi lw ep ng gn hi2 lw2 ep2 ng2 gn2), .int (bI ng), .int (bI (v_W_join_17 hi lw ep ng gn hi2 lw2 ep2 ng2 gn2))])), (h1, .inr (0, [.long (v_W_join_10 hi lw ep ng gn hi2 lw2 ep2 ng2 gn2), .long (v_W_join_11 hi lw ep ng gn hi2 lw2 ep2 ng2 gn2), .int (v_W_join_12 hi lw ep ng gn hi2 lw2 ep2 ng2 gn2), .int (bI ng2), .int (bI (v_W_join_13 hi lw ep ng gn hi2 lw2 ep2 ng2 gn2))]))]) hD hS hA [1, 0] rfl
        refine va_callv (va_runV (As := [.ref h1]) (rest := []) ⟨hx, hb, hml, hown, hts⟩ (kW_raise l dC dI h0 h1 H.size (v_W_join_14 hi lw ep ng gn hi2 lw2 ep2 ng2 gn2) (v_W_join_15 hi lw ep ng gn hi2 lw2 ep2 ng2 gn2) (v_W_join_16 hi lw ep ng gn hi2 lw2 ep2 ng2 gn2) ng (v_W_join_17 hi lw ep ng gn hi2 lw2 ep2 ng2 gn2) (v_W_join_10 hi lw ep ng gn hi2 lw2 ep2 ng2 gn2) (v_W_join_11 hi lw ep ng gn hi2 lw2 ep2 ng2 gn2) (v_W_join_12 hi lw ep ng gn hi2 lw2 ep2 ng2 gn2) ng2 (v_W_join_13 hi lw ep ng gn hi2 lw2 ep2 ng2 gn2)) (cwV 1 hts (g_call (List.forall_mem_cons.mpr ⟨m1_154, List.forall_mem_cons.mpr ⟨m1_155, List.forall_mem_cons.mpr ⟨m1_156, List.forall_mem_cons.mpr ⟨m1_2, fun _ h => absurd h List.not_mem_nil⟩⟩⟩⟩) m1_157) rfl rfl rfl (by decide +kernel) ⟨Nat.le_of_ble_eq_true rfl, Nat.le_of_ble_eq_true rfl⟩) ⟨fun a U g mk q => by obtain ⟨q0, q1, qP, qK, qD, qN⟩ := q; exact ⟨q0, q1, qP, va_K.moved (u := U) (U := U.calling g mk a) (Vm.Alike.refl U.vm) qK, qD, NW.same (u := U) rfl qN⟩, va_recv hKc hPc (ci := 0) (q0 := 0) rfl rfl, fun U hU hW => ⟨rfl, by rw [hU], by rw [hU]; exact hPc, va_K.moved hW.alike hKc, hDc.weaken (fun _ _ _ _ => trivial), NW.warm hW hN⟩⟩ rfl rfl hl.1 rfl (lv_room (Nat.le_of_ble_eq_true rfl)) dW_join_63 ⟨Nat.le_of_ble_eq_true rfl, Nat.le_of_ble_eq_true rfl⟩) hS (fun q _ h => hFc q h) hFc (fun u9 t H1 locs ht hvm hw hB hz1 hk1 hS => ?_)
        obtain ⟨hP1, hK1, hD1⟩ := hB
        rw [ht] at hP1
        have hK1 := va_K.moved hvm.symm hK1
        have hP1 : va_P (dC, dI) vwCl [(h0, .inr (0, [.long (v_W_join_30 hi lw ep ng gn hi2 lw2 ep2 ng2 gn2), .long (v_W_join_31 hi lw ep ng gn hi2 lw2 ep2 ng2 gn2), .int (v_W_join_16 hi lw ep ng gn hi2 lw2 ep2 ng2 gn2), .int (bI ng), .int (bI (v_W_join_32 hi lw ep ng gn hi2 lw2 ep2 ng2 gn2))])), (h1, .inr (0, [.long (v_W_join_10 hi lw ep ng gn hi2 lw2 ep2 ng2 gn2), .long (v_W_join_11 hi lw ep ng gn hi2 lw2 ep2 ng2 gn2), .int (v_W_join_12 hi lw ep ng gn hi2 lw2 ep2 ng2 gn2), .int (bI ng2), .int (bI (v_W_join_13 hi lw ep ng gn hi2 lw2 ep2 ng2 gn2))]))] H1 := hP1
        have hD1 : va_D _ [(h0, .inr (0, [.long (v_W_join_30 hi lw ep ng gn hi2 lw2 ep2 ng2 gn2), .long (v_W_join_31 hi lw ep ng gn hi2 lw2 ep2 ng2 gn2), .int (v_W_join_16 hi lw ep ng gn hi2 lw2 ep2 ng2 gn2), .int (bI ng), .int (bI (v_W_join_32 hi lw ep ng gn hi2 lw2 ep2 ng2 gn2))])), (h1, .inr (0, [.long (v_W_join_10 hi lw ep ng gn hi2 lw2 ep2 ng2 gn2), .long (v_W_join_11 hi lw ep ng gn hi2 lw2 ep2 ng2 gn2), .int (v_W_join_12 hi lw ep ng gn hi2 lw2 ep2 ng2 gn2), .int (bI ng2), .int (bI (v_W_join_13 hi lw ep ng gn hi2 lw2 ep2 ng2 gn2))]))] := hD1
        obtain ⟨hP, hD⟩ := va_join (wr := []) (w1 := [(h0, .inr (0, [.long (v_W_join_30 hi lw ep ng gn hi2 lw2 ep2 ng2 gn2), .long (v_W_join_31 hi lw ep ng gn hi2 lw2 ep2 ng2 gn2), .int (v_W_join_16 hi lw ep ng gn hi2 lw2 ep2 ng2 gn2), .int (bI ng), .int (bI (v_W_join_32 hi lw ep ng gn hi2 lw2 ep2 ng2 gn2))])), (h1, .inr (0, [.long (v_W_join_10 hi lw ep ng gn hi2 lw2 ep2 ng2 gn2), .long (v_W_join_11 hi lw ep ng gn hi2 lw2 ep2 ng2 gn2), .int (v_W_join_12 hi lw ep ng gn hi2 lw2 ep2 ng2 gn2), .int (bI ng2), .int (bI (v_W_join_13 hi lw ep ng gn hi2 lw2 ep2 ng2 gn2))]))]) hP hD [1, 0] [] rfl rfl (by decide) (by decide) hk1 hFc hP1 hD1
        have hK := (hK.sub (tys' := []) [] rfl).app hK1
        generalize H1 = H at hP hS ⊢
        have hP : va_P (dC, dI) vwCl [(h0, .inr (0, [.long (v_W_join_30 hi lw ep ng gn hi2 lw2 ep2 ng2 gn2), .long (v_W_join_31 hi lw ep ng gn hi2 lw2 ep2 ng2 gn2), .int (v_W_join_16 hi lw ep ng gn hi2 lw2 ep2 ng2 gn2), .int (bI ng), .int (bI (v_W_join_32 hi lw ep ng gn hi2 lw2 ep2 ng2 gn2))])), (h1, .inr (0, [.long (v_W_join_10 hi lw ep ng gn hi2 lw2 ep2 ng2 gn2), .long (v_W_join_11 hi lw ep ng gn hi2 lw2 ep2 ng2 gn2), .int (v_W_join_12 hi lw ep ng gn hi2 lw2 ep2 ng2 gn2), .int (bI ng2), .int (bI (v_W_join_13 hi lw ep ng gn hi2 lw2 ep2 ng2 gn2))]))] H := hP
        have hD : va_D A [(h0, .inr (0, [.long (v_W_join_30 hi lw ep ng gn hi2 lw2 ep2 ng2 gn2), .long (v_W_join_31 hi lw ep ng gn hi2 lw2 ep2 ng2 gn2), .int (v_W_join_16 hi lw ep ng gn hi2 lw2 ep2 ng2 gn2), .int (bI ng), .int (bI (v_W_join_32 hi lw ep ng gn hi2 lw2 ep2 ng2 gn2))])), (h1, .inr (0, [.long (v_W_join_10 hi lw ep ng gn hi2 lw2 ep2 ng2 gn2), .long (v_W_join_11 hi lw ep ng gn hi2 lw2 ep2 ng2 gn2), .int (v_W_join_12 hi lw ep ng gn hi2 lw2 ep2 ng2 gn2), .int (bI ng2), .int (bI (v_W_join_13 hi lw ep ng gn hi2 lw2 ep2 ng2 gn2))]))] := hD
        have hK : va_K (dC, dI) vwCl [] s := hK
        refine lv_goto (tgt := 95) hx hb dW_join_66 (by decide) ?_
        exact J_1 (v_W_join_30 hi lw ep ng gn hi2 lw2 ep2 ng2 gn2) ((if_pos c_3)).symm (v_W_join_31 hi lw ep ng gn hi2 lw2 ep2 ng2 gn2) ((if_pos c_3)).symm (v_W_join_16 hi lw ep ng gn hi2 lw2 ep2 ng2 gn2) ((if_pos c_3)).symm ng ((if_pos c_3)).symm (v_W_join_32 hi lw ep ng gn hi2 lw2 ep2 ng2 gn2) ((if_pos c_3)).symm (v_W_join_10 hi lw ep ng gn hi2 lw2 ep2 ng2 gn2) ((if_pos c_3)).symm (v_W_join_11 hi lw ep ng gn hi2 lw2 ep2 ng2 gn2) ((if_pos c_3)).symm (v_W_join_13 hi lw ep ng gn hi2 lw2 ep2 ng2 gn2) ((if_pos c_3)).symm _ _ (hK.sub [] rfl) (hP.sub [0, 1] rfl) (hD.sub [0, 1] (by decide) rfl) hS ls (lv_sub hl [] rfl)
    · refine lv_aload_n hx hb dW_join_15 rfl (lv_at hl 0 rfl) ?_
      refine lv_aload_n hx hb dW_join_16 rfl (lv_at hl 1 rfl) ?_
      have hPc := hP.sub (ws' := [(h0, .inr (0, [.long hi, .long lw, .int ep, .int (bI ng), .int (bI gn)])), (h1, .inr (0, [.long hi2, .long lw2, .int ep2, .int (bI ng2), .int (bI gn2)]))]) [1, 0] rfl
      have hDc := hD.sub (ws' := [(h0, .inr (0, [.long hi, .long lw, .int ep, .int (bI ng), .int (bI gn)])), (h1, .inr (0, [.long hi2, .long lw2, .int ep2, .int (bI ng2), .int (bI gn2)]))]) [1, 0] (by decide) rfl
      have hKc := hK.sub (tys' := []) [] rfl
      have hFc := va_free (wc := [(h0, .inr (0, [.long hi, .long lw, .int ep, .int (bI ng), .int (bI gn)])), (h1, .inr (0, [.long hi2, .long lw2, .int ep2, .int (bI ng2), .int (bI gn2)]))]) hD hS hA [1, 0] rfl
      refine va_callv (va_runV (As := [.ref h1]) (rest := []) ⟨hx, hb, hml, hown, hts⟩ (kW_copy l dC dI h0 h1 H.size hi lw ep ng gn hi2 lw2 ep2 ng2 gn2) (cwV 1 hts (g_call (List.forall_mem_cons.mpr ⟨m1_132, List.forall_mem_cons.mpr ⟨m1_133, List.forall_mem_cons.mpr ⟨m1_134, List.forall_mem_cons.mpr ⟨m1_2, fun _ h => absurd h List.not_mem_nil⟩⟩⟩⟩) m1_135) rfl rfl rfl (by decide +kernel) ⟨Nat.le_of_ble_eq_true rfl, Nat.le_of_ble_eq_true rfl⟩) ⟨fun a U g mk q => by obtain ⟨q0, q1, qP, qK, qD, qN⟩ := q; exact ⟨q0, q1, qP, va_K.moved (u := U) (U := U.calling g mk a) (Vm.Alike.refl U.vm) qK, qD, NW.same (u := U) rfl qN⟩, va_recv hKc hPc (ci := 0) (q0 := 0) rfl rfl, fun U hU hW => ⟨rfl, by rw [hU], by rw [hU]; exact hPc, va_K.moved hW.alike hKc, hDc.weaken (fun _ _ _ _ => trivial), NW.warm hW hN⟩⟩ rfl rfl hl.1 rfl (lv_room (Nat.le_of_ble_eq_true rfl)) dW_join_17 ⟨Nat.le_of_ble_eq_true rfl, Nat.le_of_ble_eq_true rfl⟩) hS (fun q _ h => hFc q h) hFc (fun u9 t H1 locs ht hvm hw hB hz1 hk1 hS => ?_)
      obtain ⟨hP1, hK1, hD1⟩ := hB
      rw [ht] at hP1
      have hK1 := va_K.moved hvm.symm hK1
      have hP1 : va_P (dC, dI) vwCl [(h0, .inr (0, [.long (v_W_join_41 hi lw ep ng gn hi2 lw2 ep2 ng2 gn2), .long (v_W_join_42 hi lw ep ng gn hi2 lw2 ep2 ng2 gn2), .int (v_W_join_43 hi lw ep ng gn hi2 lw2 ep2 ng2 gn2), .int (bI (v_W_join_44 hi lw ep ng gn hi2 lw2 ep2 ng2 gn2)), .int (bI (v_W_join_45 hi lw ep ng gn hi2 lw2 ep2 ng2 gn2))])), (h1, .inr (0, [.long hi2, .long lw2, .int ep2, .int (bI ng2), .int (bI gn2)]))] H1 := hP1
      have hD1 : va_D _ [(h0, .inr (0, [.long (v_W_join_41 hi lw ep ng gn hi2 lw2 ep2 ng2 gn2), .long (v_W_join_42 hi lw ep ng gn hi2 lw2 ep2 ng2 gn2), .int (v_W_join_43 hi lw ep ng gn hi2 lw2 ep2 ng2 gn2), .int (bI (v_W_join_44 hi lw ep ng gn hi2 lw2 ep2 ng2 gn2)), .int (bI (v_W_join_45 hi lw ep ng gn hi2 lw2 ep2 ng2 gn2))])), (h1, .inr (0, [.long hi2, .long lw2, .int ep2, .int (bI ng2), .int (bI gn2)]))] := hD1
      obtain ⟨hP, hD⟩ := va_join (wr := []) (w1 := [(h0, .inr (0, [.long (v_W_join_41 hi lw ep ng gn hi2 lw2 ep2 ng2 gn2), .long (v_W_join_42 hi lw ep ng gn hi2 lw2 ep2 ng2 gn2), .int (v_W_join_43 hi lw ep ng gn hi2 lw2 ep2 ng2 gn2), .int (bI (v_W_join_44 hi lw ep ng gn hi2 lw2 ep2 ng2 gn2)), .int (bI (v_W_join_45 hi lw ep ng gn hi2 lw2 ep2 ng2 gn2))])), (h1, .inr (0, [.long hi2, .long lw2, .int ep2, .int (bI ng2), .int (bI gn2)]))]) hP hD [1, 0] [] rfl rfl (by decide) (by decide) hk1 hFc hP1 hD1
      have hK := (hK.sub (tys' := []) [] rfl).app hK1
      generalize H1 = H at hP hS ⊢
      have hP : va_P (dC, dI) vwCl [(h0, .inr (0, [.long (v_W_join_41 hi lw ep ng gn hi2 lw2 ep2 ng2 gn2), .long (v_W_join_42 hi lw ep ng gn hi2 lw2 ep2 ng2 gn2), .int (v_W_join_43 hi lw ep ng gn hi2 lw2 ep2 ng2 gn2), .int (bI (v_W_join_44 hi lw ep ng gn hi2 lw2 ep2 ng2 gn2)), .int (bI (v_W_join_45 hi lw ep ng gn hi2 lw2 ep2 ng2 gn2))])), (h1, .inr (0, [.long hi2, .long lw2, .int ep2, .int (bI ng2), .int (bI gn2)]))] H := hP
      have hD : va_D A [(h0, .inr (0, [.long (v_W_join_41 hi lw ep ng gn hi2 lw2 ep2 ng2 gn2), .long (v_W_join_42 hi lw ep ng gn hi2 lw2 ep2 ng2 gn2), .int (v_W_join_43 hi lw ep ng gn hi2 lw2 ep2 ng2 gn2), .int (bI (v_W_join_44 hi lw ep ng gn hi2 lw2 ep2 ng2 gn2)), .int (bI (v_W_join_45 hi lw ep ng gn hi2 lw2 ep2 ng2 gn2))])), (h1, .inr (0, [.long hi2, .long lw2, .int ep2, .int (bI ng2), .int (bI gn2)]))] := hD
      have hK : va_K (dC, dI) vwCl [] s := hK
      have e9_0 : (v_W_join_41 hi lw ep ng gn hi2 lw2 ep2 ng2 gn2) = pW_join_0 hi lw ep ng gn hi2 lw2 ep2 ng2 gn2 := (((if_neg c_1).trans (if_pos c_2))).symm
      have e9_1 : (v_W_join_42 hi lw ep ng gn hi2 lw2 ep2 ng2 gn2) = pW_join_1 hi lw ep ng gn hi2 lw2 ep2 ng2 gn2 := (((if_neg c_1).trans (if_pos c_2))).symm
      have e9_2 : (v_W_join_43 hi lw ep ng gn hi2 lw2 ep2 ng2 gn2) = pW_join_2 hi lw ep ng gn hi2 lw2 ep2 ng2 gn2 := (((if_neg c_1).trans (if_pos c_2))).symm
      have e9_3 : (v_W_join_44 hi lw ep ng gn hi2 lw2 ep2 ng2 gn2) = pW_join_3 hi lw ep ng gn hi2 lw2 ep2 ng2 gn2 := (((if_neg c_1).trans (if_pos c_2))).symm
      have e9_4 : (v_W_join_45 hi lw ep ng gn hi2 lw2 ep2 ng2 gn2) = pW_join_4 hi lw ep ng gn hi2 lw2 ep2 ng2 gn2 := (((if_neg c_1).trans (if_pos c_2))).symm
      have e9_5 : hi2 = pW_join_5 hi lw ep ng gn hi2 lw2 ep2 ng2 gn2 := (((if_neg c_1).trans (if_pos c_2))).symm
      have e9_6 : lw2 = pW_join_6 hi lw ep ng gn hi2 lw2 ep2 ng2 gn2 := (((if_neg c_1).trans (if_pos c_2))).symm
      have e9_7 : ep2 = pW_join_7 hi lw ep ng gn hi2 lw2 ep2 ng2 gn2 := (((if_neg c_1).trans (if_pos c_2))).symm
      have e9_8 : gn2 = pW_join_8 hi lw ep ng gn hi2 lw2 ep2 ng2 gn2 := (((if_neg c_1).trans (if_pos c_2))).symm
      have hP9 := hP.sub (ws' := [(h0, .inr (0, [.long (v_W_join_41 hi lw ep ng gn hi2 lw2 ep2 ng2 gn2), .long (v_W_join_42 hi lw ep ng gn hi2 lw2 ep2 ng2 gn2), .int (v_W_join_43 hi lw ep ng gn hi2 lw2 ep2 ng2 gn2), .int (bI (v_W_join_44 hi lw ep ng gn hi2 lw2 ep2 ng2 gn2)), .int (bI (v_W_join_45 hi lw ep ng gn hi2 lw2 ep2 ng2 gn2))])), (h1, .inr (0, [.long hi2, .long lw2, .int ep2, .int (bI ng2), .int (bI gn2)]))]) [0, 1] rfl
      have hD9 := hD.sub (ws' := [(h0, .inr (0, [.long (v_W_join_41 hi lw ep ng gn hi2 lw2 ep2 ng2 gn2), .long (v_W_join_42 hi lw ep ng gn hi2 lw2 ep2 ng2 gn2), .int (v_W_join_43 hi lw ep ng gn hi2 lw2 ep2 ng2 gn2), .int (bI (v_W_join_44 hi lw ep ng gn hi2 lw2 ep2 ng2 gn2)), .int (bI (v_W_join_45 hi lw ep ng gn hi2 lw2 ep2 ng2 gn2))])), (h1, .inr (0, [.long hi2, .long lw2, .int ep2, .int (bI ng2), .int (bI gn2)]))]) [0, 1] (by decide) rfl
      have hK9 := hK.sub (tys' := []) [] rfl
      have h9 := trW_join e9_0 e9_1 e9_2 e9_3 e9_4 e9_5 e9_6 e9_7 e9_8 ⟨hP9, hD9⟩
      exact W.vret hx hb hr (fun t ht hW => ⟨⟨(), rfl, trivial, by rw [ht]; exact h9.1, va_K.moved hW.alike hK9, h9.2⟩, hS.F ht⟩) hS.2.2 dW_join_20
  · have e9_0 : hi = pW_join_0 hi lw ep ng gn hi2 lw2 ep2 ng2 gn2 := ((if_pos c_1)).symm
    have e9_1 : lw = pW_join_1 hi lw ep ng gn hi2 lw2 ep2 ng2 gn2 := ((if_pos c_1)).symm
    have e9_2 : ep = pW_join_2 hi lw ep ng gn hi2 lw2 ep2 ng2 gn2 := ((if_pos c_1)).symm
    have e9_3 : ng = pW_join_3 hi lw ep ng gn hi2 lw2 ep2 ng2 gn2 := ((if_pos c_1)).symm
    have e9_4 : gn = pW_join_4 hi lw ep ng gn hi2 lw2 ep2 ng2 gn2 := ((if_pos c_1)).symm
    have e9_5 : hi2 = pW_join_5 hi lw ep ng gn hi2 lw2 ep2 ng2 gn2 := ((if_pos c_1)).symm
    have e9_6 : lw2 = pW_join_6 hi lw ep ng gn hi2 lw2 ep2 ng2 gn2 := ((if_pos c_1)).symm
    have e9_7 : ep2 = pW_join_7 hi lw ep ng gn hi2 lw2 ep2 ng2 gn2 := ((if_pos c_1)).symm
    have e9_8 : gn2 = pW_join_8 hi lw ep ng gn hi2 lw2 ep2 ng2 gn2 := ((if_pos c_1)).symm
    have hP9 := hP.sub (ws' := [(h0, .inr (0, [.long hi, .long lw, .int ep, .int (bI ng), .int (bI gn)])), (h1, .inr (0, [.long hi2, .long lw2, .int ep2, .int (bI ng2), .int (bI gn2)]))]) [0, 1] rfl
    have hD9 := hD.sub (ws' := [(h0, .inr (0, [.long hi, .long lw, .int ep, .int (bI ng), .int (bI gn)])), (h1, .inr (0, [.long hi2, .long lw2, .int ep2, .int (bI ng2), .int (bI gn2)]))]) [0, 1] (by decide) rfl
    have hK9 := hK.sub (tys' := []) [] rfl
    have h9 := trW_join e9_0 e9_1 e9_2 e9_3 e9_4 e9_5 e9_6 e9_7 e9_8 ⟨hP9, hD9⟩
    exact W.vret hx hb hr (fun t ht hW => ⟨⟨(), rfl, trivial, by rw [ht]; exact h9.1, va_K.moved hW.alike hK9, h9.2⟩, hS.F ht⟩) hS.2.2 dW_join_7
