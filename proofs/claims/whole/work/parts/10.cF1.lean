def v_I_numberOfLeadingZeros_1 (i : Int32) : Int32 := (31 : Int32) + (-16)
def v_I_numberOfLeadingZeros_2 (i : Int32) : Int32 := jiush i (16 : Int32)
def v_I_numberOfLeadingZeros_3 (i : Int32) : Int32 := (if i < (65536 : Int32) then i else (v_I_numberOfLeadingZeros_2 i))
def v_I_numberOfLeadingZeros_4 (i : Int32) : Int32 := (if i < (65536 : Int32) then (31 : Int32) else (v_I_numberOfLeadingZeros_1 i))
def v_I_numberOfLeadingZeros_5 (i : Int32) : Int32 := (v_I_numberOfLeadingZeros_4 i) + (-8)
def v_I_numberOfLeadingZeros_6 (i : Int32) : Int32 := jiush (v_I_numberOfLeadingZeros_3 i) (8 : Int32)
def v_I_numberOfLeadingZeros_7 (i : Int32) : Int32 := (if (v_I_numberOfLeadingZeros_3 i) < (256 : Int32) then (v_I_numberOfLeadingZeros_3 i) else (v_I_numberOfLeadingZeros_6 i))
def v_I_numberOfLeadingZeros_8 (i : Int32) : Int32 := (if (v_I_numberOfLeadingZeros_3 i) < (256 : Int32) then (v_I_numberOfLeadingZeros_4 i) else (v_I_numberOfLeadingZeros_5 i))
def v_I_numberOfLeadingZeros_9 (i : Int32) : Int32 := (v_I_numberOfLeadingZeros_8 i) + (-4)
def v_I_numberOfLeadingZeros_10 (i : Int32) : Int32 := jiush (v_I_numberOfLeadingZeros_7 i) (4 : Int32)
def v_I_numberOfLeadingZeros_11 (i : Int32) : Int32 := (if (v_I_numberOfLeadingZeros_7 i) < (16 : Int32) then (v_I_numberOfLeadingZeros_7 i) else (v_I_numberOfLeadingZeros_10 i))
def v_I_numberOfLeadingZeros_12 (i : Int32) : Int32 := (if (v_I_numberOfLeadingZeros_7 i) < (16 : Int32) then (v_I_numberOfLeadingZeros_8 i) else (v_I_numberOfLeadingZeros_9 i))
def v_I_numberOfLeadingZeros_13 (i : Int32) : Int32 := (v_I_numberOfLeadingZeros_12 i) + (-2)
def v_I_numberOfLeadingZeros_14 (i : Int32) : Int32 := jiush (v_I_numberOfLeadingZeros_11 i) (2 : Int32)
def v_I_numberOfLeadingZeros_15 (i : Int32) : Int32 := (if (v_I_numberOfLeadingZeros_11 i) < (4 : Int32) then (v_I_numberOfLeadingZeros_11 i) else (v_I_numberOfLeadingZeros_14 i))
def v_I_numberOfLeadingZeros_16 (i : Int32) : Int32 := (if (v_I_numberOfLeadingZeros_11 i) < (4 : Int32) then (v_I_numberOfLeadingZeros_12 i) else (v_I_numberOfLeadingZeros_13 i))
def v_I_numberOfLeadingZeros_17 (i : Int32) : Int32 := (if i = 0 then (32 : Int32) else (0 : Int32))
def pI_numberOfLeadingZeros (i : Int32) : Int32 := (if 0 < i then (v_I_numberOfLeadingZeros_16 i) - (jiush (v_I_numberOfLeadingZeros_15 i) (1 : Int32)) else (v_I_numberOfLeadingZeros_17 i))
/-- I_numberOfLeadingZeros -/
abbrev WI_numberOfLeadingZeros (p : Program) (l : Launch) (e : Env) (s : State) (m : MethodId) (below : List Frame) (meth : Method) (c : Code) (i : Int32) (H : Heap) (locs : List Loc) (g : JFrame) : Prop := W p l e (headSpec wI_numberOfLeadingZeros ({ frames := 0, cells := 0, slots := 0, locals := 0 })).room s m ([.int i] : List Value).toArray below meth c H locs 0 0 (MQ below (QR (.int (pI_numberOfLeadingZeros i))) ([.int i] : List Value).toArray s 0 0 (fun _ => False)) g
set_option maxHeartbeats 4000000 in
set_option maxRecDepth 100000 in
theorem kI_numberOfLeadingZeros (l : Launch) (i : Int32) : Met l yI_numberOfLeadingZeros wI_numberOfLeadingZeros ({ frames := 0, cells := 0, slots := 0, locals := 0 }) (fun v _ => v = ([.int i] : List Value).toArray) (QR (.int (pI_numberOfLeadingZeros i))) 0 0 (fun _ => False) := by
  refine Met.ofW (cc := cI_numberOfLeadingZeros) (maxL := 2) (ret := (some .int)) (by decide) rfl ?_
  intro p e s m args below meth c s₁ B hml hv
  have hv : args = ([.int i] : List Value).toArray := hv
  subst hv
  have hx := B.exec
  have hb := B.bytes
  have hr := B.returns
  have hts := atoms_spec (ws := wI_numberOfLeadingZeros) B.pre
  have hown : s.vm.findClass RI = some m.cls := findClass_of_methodNamed B.named
  have hlocks := B.notSynchronized
  have hl := lv_entry ([.int i]) (n := 2) (Nat.le_of_ble_eq_true rfl)
  rw [lg_entry_eq]
  generalize (lg_sl ([.int i]) ++ List.replicate (2 - (lg_sl ([.int i])).length) Slot.unset).toArray = ls at hl ⊢
  have hl : lv_has ls 2 [(0, .int i)] := hl
  refine lv_iload_n hx hb dI_numberOfLeadingZeros_0 rfl (lv_at hl 0 rfl) ?_
  refine lv_if_gt (tgt := 15) hx hb dI_numberOfLeadingZeros_1 (by decide) (fun c_1 => ?_) (fun c_1 => ?_)
  · refine lv_bipush (v := 31) hx hb dI_numberOfLeadingZeros_15 (by decide) ?_
    refine lv_istore_n (lv' := [(1, .int (31 : Int32)), (0, .int i)]) hx hb dI_numberOfLeadingZeros_17 rfl hl (by decide) rfl (fun ls hl => ?_)
    refine lv_iload_n hx hb dI_numberOfLeadingZeros_18 rfl (lv_at hl 1 rfl) ?_
    refine lv_ldcw (v := 65536) hx hb hown (hts _ (List.mem_cons_of_mem _ m1_149)) dI_numberOfLeadingZeros_19 ?_
    have J_1 : ∀ (w_0 : Int32), w_0 = (v_I_numberOfLeadingZeros_3 i) → ∀ (w_1 : Int32), w_1 = (v_I_numberOfLeadingZeros_4 i) → ∀ (ls : Array Slot), lv_has ls 2 [(0, .int w_0), (1, .int w_1)] → WI_numberOfLeadingZeros p l e s m below meth c i s.heap [] (F0 m 33 ls []) := by
      intro w_0 e_0
      rw [e_0]
      intro w_1 e_1
      rw [e_1]
      intro ls hl
      refine lv_iload_n hx hb dI_numberOfLeadingZeros_33 rfl (lv_at hl 0 rfl) ?_
      refine lv_sipush (v := 256) hx hb dI_numberOfLeadingZeros_34 (by decide) ?_
      have J_2 : ∀ (w_0 : Int32), w_0 = (v_I_numberOfLeadingZeros_7 i) → ∀ (w_1 : Int32), w_1 = (v_I_numberOfLeadingZeros_8 i) → ∀ (ls : Array Slot), lv_has ls 2 [(0, .int w_0), (1, .int w_1)] → WI_numberOfLeadingZeros p l e s m below meth c i s.heap [] (F0 m 48 ls []) := by
        intro w_0 e_0
        rw [e_0]
        intro w_1 e_1
        rw [e_1]
        intro ls hl
        refine lv_iload_n hx hb dI_numberOfLeadingZeros_48 rfl (lv_at hl 0 rfl) ?_
        refine lv_bipush (v := 16) hx hb dI_numberOfLeadingZeros_49 (by decide) ?_
        have J_3 : ∀ (w_0 : Int32), w_0 = (v_I_numberOfLeadingZeros_11 i) → ∀ (w_1 : Int32), w_1 = (v_I_numberOfLeadingZeros_12 i) → ∀ (ls : Array Slot), lv_has ls 2 [(0, .int w_0), (1, .int w_1)] → WI_numberOfLeadingZeros p l e s m below meth c i s.heap [] (F0 m 61 ls []) := by
          intro w_0 e_0
          rw [e_0]
          intro w_1 e_1
          rw [e_1]
          intro ls hl
          refine lv_iload_n hx hb dI_numberOfLeadingZeros_61 rfl (lv_at hl 0 rfl) ?_
          refine lv_iconst (v := 4) hx hb dI_numberOfLeadingZeros_62 (by decide) ?_
          have J_4 : ∀ (w_0 : Int32), w_0 = (v_I_numberOfLeadingZeros_15 i) → ∀ (w_1 : Int32), w_1 = (v_I_numberOfLeadingZeros_16 i) → ∀ (ls : Array Slot), lv_has ls 2 [(0, .int w_0), (1, .int w_1)] → WI_numberOfLeadingZeros p l e s m below meth c i s.heap [] (F0 m 73 ls []) := by
            intro w_0 e_0
            rw [e_0]
            intro w_1 e_1
            rw [e_1]
            intro ls hl
            refine lv_iload_n hx hb dI_numberOfLeadingZeros_73 rfl (lv_at hl 1 rfl) ?_
            refine lv_iload_n hx hb dI_numberOfLeadingZeros_74 rfl (lv_at hl 0 rfl) ?_
            refine lv_iconst (v := 1) hx hb dI_numberOfLeadingZeros_75 (by decide) ?_
            refine lv_iushr (v := jiush (v_I_numberOfLeadingZeros_15 i) (1 : Int32)) hx hb dI_numberOfLeadingZeros_76 rfl ?_
            refine lv_isub hx hb dI_numberOfLeadingZeros_77 ?_
            have e9 : (v_I_numberOfLeadingZeros_16 i) - (jiush (v_I_numberOfLeadingZeros_15 i) (1 : Int32)) = pI_numberOfLeadingZeros i := ((if_pos c_1)).symm
            exact W.iret (v := (v_I_numberOfLeadingZeros_16 i) - (jiush (v_I_numberOfLeadingZeros_15 i) (1 : Int32))) hx hb hr (fun t ht hW => ⟨by rw [e9], ht⟩) (fun q h => absurd h List.not_mem_nil) dI_numberOfLeadingZeros_78
          refine lv_icmp_lt (tgt := 73) hx hb dI_numberOfLeadingZeros_63 (by decide) (fun c_5 => ?_) (fun c_5 => ?_)
          · exact J_4 (v_I_numberOfLeadingZeros_11 i) ((if_pos c_5)).symm (v_I_numberOfLeadingZeros_12 i) ((if_pos c_5)).symm ls (lv_sub hl [0, 1] rfl)
          · refine lv_iinc (v := (v_I_numberOfLeadingZeros_13 i)) (lv' := [(1, .int (v_I_numberOfLeadingZeros_13 i)), (0, .int (v_I_numberOfLeadingZeros_11 i))]) hx hb dI_numberOfLeadingZeros_66 hl (k := 1) rfl rfl (by decide) rfl (fun ls hl => ?_)
            refine lv_iload_n hx hb dI_numberOfLeadingZeros_69 rfl (lv_at hl 1 rfl) ?_
            refine lv_iconst (v := 2) hx hb dI_numberOfLeadingZeros_70 (by decide) ?_
            refine lv_iushr (v := jiush (v_I_numberOfLeadingZeros_11 i) (2 : Int32)) hx hb dI_numberOfLeadingZeros_71 rfl ?_
            refine lv_topi (fun w9 e9 => ?_)
            have e9 : w9 = (v_I_numberOfLeadingZeros_14 i) := e9
            rw [e9]
            refine lv_istore_n (lv' := [(0, .int (v_I_numberOfLeadingZeros_14 i)), (1, .int (v_I_numberOfLeadingZeros_13 i))]) hx hb dI_numberOfLeadingZeros_72 rfl hl (by decide) rfl (fun ls hl => ?_)
            exact J_4 (v_I_numberOfLeadingZeros_14 i) ((if_neg c_5)).symm (v_I_numberOfLeadingZeros_13 i) ((if_neg c_5)).symm ls (lv_sub hl [0, 1] rfl)
        refine lv_icmp_lt (tgt := 61) hx hb dI_numberOfLeadingZeros_51 (by decide) (fun c_4 => ?_) (fun c_4 => ?_)
        · exact J_3 (v_I_numberOfLeadingZeros_7 i) ((if_pos c_4)).symm (v_I_numberOfLeadingZeros_8 i) ((if_pos c_4)).symm ls (lv_sub hl [0, 1] rfl)
        · refine lv_iinc (v := (v_I_numberOfLeadingZeros_9 i)) (lv' := [(1, .int (v_I_numberOfLeadingZeros_9 i)), (0, .int (v_I_numberOfLeadingZeros_7 i))]) hx hb dI_numberOfLeadingZeros_54 hl (k := 1) rfl rfl (by decide) rfl (fun ls hl => ?_)
          refine lv_iload_n hx hb dI_numberOfLeadingZeros_57 rfl (lv_at hl 1 rfl) ?_
          refine lv_iconst (v := 4) hx hb dI_numberOfLeadingZeros_58 (by decide) ?_
          refine lv_iushr (v := jiush (v_I_numberOfLeadingZeros_7 i) (4 : Int32)) hx hb dI_numberOfLeadingZeros_59 rfl ?_
          refine lv_topi (fun w9 e9 => ?_)
          have e9 : w9 = (v_I_numberOfLeadingZeros_10 i) := e9
          rw [e9]
          refine lv_istore_n (lv' := [(0, .int (v_I_numberOfLeadingZeros_10 i)), (1, .int (v_I_numberOfLeadingZeros_9 i))]) hx hb dI_numberOfLeadingZeros_60 rfl hl (by decide) rfl (fun ls hl => ?_)
          exact J_3 (v_I_numberOfLeadingZeros_10 i) ((if_neg c_4)).symm (v_I_numberOfLeadingZeros_9 i) ((if_neg c_4)).symm ls (lv_sub hl [0, 1] rfl)
      refine lv_icmp_lt (tgt := 48) hx hb dI_numberOfLeadingZeros_37 (by decide) (fun c_3 => ?_) (fun c_3 => ?_)
      · exact J_2 (v_I_numberOfLeadingZeros_3 i) ((if_pos c_3)).symm (v_I_numberOfLeadingZeros_4 i) ((if_pos c_3)).symm ls (lv_sub hl [0, 1] rfl)
      · refine lv_iinc (v := (v_I_numberOfLeadingZeros_5 i)) (lv' := [(1, .int (v_I_numberOfLeadingZeros_5 i)), (0, .int (v_I_numberOfLeadingZeros_3 i))]) hx hb dI_numberOfLeadingZeros_40 hl (k := 1) rfl rfl (by decide) rfl (fun ls hl => ?_)
        refine lv_iload_n hx hb dI_numberOfLeadingZeros_43 rfl (lv_at hl 1 rfl) ?_
        refine lv_bipush (v := 8) hx hb dI_numberOfLeadingZeros_44 (by decide) ?_
        refine lv_iushr (v := jiush (v_I_numberOfLeadingZeros_3 i) (8 : Int32)) hx hb dI_numberOfLeadingZeros_46 rfl ?_
        refine lv_topi (fun w9 e9 => ?_)
        have e9 : w9 = (v_I_numberOfLeadingZeros_6 i) := e9
        rw [e9]
        refine lv_istore_n (lv' := [(0, .int (v_I_numberOfLeadingZeros_6 i)), (1, .int (v_I_numberOfLeadingZeros_5 i))]) hx hb dI_numberOfLeadingZeros_47 rfl hl (by decide) rfl (fun ls hl => ?_)
        exact J_2 (v_I_numberOfLeadingZeros_6 i) ((if_neg c_3)).symm (v_I_numberOfLeadingZeros_5 i) ((if_neg c_3)).symm ls (lv_sub hl [0, 1] rfl)
    refine lv_icmp_lt (tgt := 33) hx hb dI_numberOfLeadingZeros_22 (by decide) (fun c_2 => ?_) (fun c_2 => ?_)
    · exact J_1 i ((if_pos c_2)).symm (31 : Int32) ((if_pos c_2)).symm ls (lv_sub hl [1, 0] rfl)
    · refine lv_iinc (v := (v_I_numberOfLeadingZeros_1 i)) (lv' := [(1, .int (v_I_numberOfLeadingZeros_1 i)), (0, .int i)]) hx hb dI_numberOfLeadingZeros_25 hl (k := 0) rfl rfl (by decide) rfl (fun ls hl => ?_)
      refine lv_iload_n hx hb dI_numberOfLeadingZeros_28 rfl (lv_at hl 1 rfl) ?_
      refine lv_bipush (v := 16) hx hb dI_numberOfLeadingZeros_29 (by decide) ?_
      refine lv_iushr (v := jiush i (16 : Int32)) hx hb dI_numberOfLeadingZeros_31 rfl ?_
      refine lv_topi (fun w9 e9 => ?_)
      have e9 : w9 = (v_I_numberOfLeadingZeros_2 i) := e9
      rw [e9]
      refine lv_istore_n (lv' := [(0, .int (v_I_numberOfLeadingZeros_2 i)), (1, .int (v_I_numberOfLeadingZeros_1 i))]) hx hb dI_numberOfLeadingZeros_32 rfl hl (by decide) rfl (fun ls hl => ?_)
      exact J_1 (v_I_numberOfLeadingZeros_2 i) ((if_neg c_2)).symm (v_I_numberOfLeadingZeros_1 i) ((if_neg c_2)).symm ls (lv_sub hl [0, 1] rfl)
  · refine lv_iload_n hx hb dI_numberOfLeadingZeros_4 rfl (lv_at hl 0 rfl) ?_
    have J_5 : ∀ (w_0 : Int32), w_0 = (v_I_numberOfLeadingZeros_17 i) → ∀ (ls : Array Slot), lv_has ls 2 [] → WI_numberOfLeadingZeros p l e s m below meth c i s.heap [] (F0 m 14 ls [.int w_0]) := by
      intro w_0 e_0
      rw [e_0]
      intro ls hl
      have e9 : (v_I_numberOfLeadingZeros_17 i) = pI_numberOfLeadingZeros i := ((if_neg c_1)).symm
      exact W.iret (v := (v_I_numberOfLeadingZeros_17 i)) hx hb hr (fun t ht hW => ⟨by rw [e9], ht⟩) (fun q h => absurd h List.not_mem_nil) dI_numberOfLeadingZeros_14
    refine lv_if_ne (tgt := 13) hx hb dI_numberOfLeadingZeros_5 (by decide) (fun c_6 => ?_) (fun c_6 => ?_)
    · refine lv_iconst (v := 0) hx hb dI_numberOfLeadingZeros_13 (by decide) ?_
      exact J_5 (0 : Int32) ((if_neg c_6)).symm ls (lv_sub hl [] rfl)
    · refine lv_bipush (v := 32) hx hb dI_numberOfLeadingZeros_8 (by decide) ?_
      refine lv_goto (tgt := 14) hx hb dI_numberOfLeadingZeros_10 (by decide) ?_
      exact J_5 (32 : Int32) ((if_pos c_6)).symm ls (lv_sub hl [] rfl)
def v_J_numberOfLeadingZeros_1 (i : Int64) : Int32 := (jlush i (32 : Int32)).toInt32
def v_J_numberOfLeadingZeros_2 (i : Int64) : Int32 := (if (v_J_numberOfLeadingZeros_1 i) = 0 then (32 : Int32) + (pI_numberOfLeadingZeros i.toInt32) else pI_numberOfLeadingZeros (v_J_numberOfLeadingZeros_1 i))
def pJ_numberOfLeadingZeros (i : Int64) : Int32 := (v_J_numberOfLeadingZeros_2 i)
/-- J_numberOfLeadingZeros -/
abbrev WJ_numberOfLeadingZeros (p : Program) (l : Launch) (e : Env) (s : State) (m : MethodId) (below : List Frame) (meth : Method) (c : Code) (i : Int64) (H : Heap) (locs : List Loc) (g : JFrame) : Prop := W p l e (headSpec wJ_numberOfLeadingZeros ({ frames := 1, cells := 0, slots := 0, locals := 21 })).room s m ([.long i] : List Value).toArray below meth c H locs 0 0 (MQ below (QR (.int (pJ_numberOfLeadingZeros i))) ([.long i] : List Value).toArray s 0 0 (fun _ => False)) g
set_option maxHeartbeats 4000000 in
set_option maxRecDepth 100000 in
theorem kJ_numberOfLeadingZeros (l : Launch) (i : Int64) : Met l yJ_numberOfLeadingZeros wJ_numberOfLeadingZeros ({ frames := 1, cells := 0, slots := 0, locals := 21 }) (fun v _ => v = ([.long i] : List Value).toArray) (QR (.int (pJ_numberOfLeadingZeros i))) 0 0 (fun _ => False) := by
  refine Met.ofW (cc := cJ_numberOfLeadingZeros) (maxL := 3) (ret := (some .int)) (by decide) rfl ?_
  intro p e s m args below meth c s₁ B hml hv
  have hv : args = ([.long i] : List Value).toArray := hv
  subst hv
  have hx := B.exec
  have hb := B.bytes
  have hr := B.returns
  have hts := atoms_spec (ws := wJ_numberOfLeadingZeros) B.pre
  have hown : s.vm.findClass RJ = some m.cls := findClass_of_methodNamed B.named
  have hlocks := B.notSynchronized
  have hl := lv_entry ([.long i]) (n := 3) (Nat.le_of_ble_eq_true rfl)
  rw [lg_entry_eq]
  generalize (lg_sl ([.long i]) ++ List.replicate (3 - (lg_sl ([.long i])).length) Slot.unset).toArray = ls at hl ⊢
  have hl : lv_has ls 3 [(0, .long i)] := hl
  refine lv_lload_n hx hb dJ_numberOfLeadingZeros_0 rfl (lv_at hl 0 rfl) ?_
  refine lv_bipush (v := 32) hx hb dJ_numberOfLeadingZeros_1 (by decide) ?_
  refine lv_lushr (v := jlush i (32 : Int32)) hx hb dJ_numberOfLeadingZeros_3 rfl ?_
  refine lv_l2i (v := (jlush i (32 : Int32)).toInt32) hx hb dJ_numberOfLeadingZeros_4 rfl ?_
  refine lv_topi (fun w9 e9 => ?_)
  have e9 : w9 = (v_J_numberOfLeadingZeros_1 i) := e9
  rw [e9]
  refine lv_istore_n (lv' := [(2, .int (v_J_numberOfLeadingZeros_1 i)), (0, .long i)]) hx hb dJ_numberOfLeadingZeros_5 rfl hl (by decide) rfl (fun ls hl => ?_)
  refine lv_iload_n hx hb dJ_numberOfLeadingZeros_6 rfl (lv_at hl 0 rfl) ?_
  have J_1 : ∀ (w_0 : Int32), w_0 = (v_J_numberOfLeadingZeros_2 i) → ∀ (ls : Array Slot), lv_has ls 3 [] → WJ_numberOfLeadingZeros p l e s m below meth c i s.heap [] (F0 m 25 ls [.int w_0]) := by
    intro w_0 e_0
    rw [e_0]
    intro ls hl
    have e9 : (v_J_numberOfLeadingZeros_2 i) = pJ_numberOfLeadingZeros i := (rfl).symm
    exact W.iret (v := (v_J_numberOfLeadingZeros_2 i)) hx hb hr (fun t ht hW => ⟨by rw [e9], ht⟩) (fun q h => absurd h List.not_mem_nil) dJ_numberOfLeadingZeros_25
  refine lv_if_ne (tgt := 21) hx hb dJ_numberOfLeadingZeros_7 (by decide) (fun c_1 => ?_) (fun c_1 => ?_)
  · refine lv_iload_n hx hb dJ_numberOfLeadingZeros_21 rfl (lv_at hl 0 rfl) ?_
    refine k_call (W.runS (As := [.int (v_J_numberOfLeadingZeros_1 i)]) (rest := []) ⟨hx, hb, hml, hown, hts⟩ (kI_numberOfLeadingZeros l (v_J_numberOfLeadingZeros_1 i)) (va_cwS 1 hts (g_call (List.forall_mem_cons.mpr ⟨m1_146, List.forall_mem_cons.mpr ⟨m1_147, List.forall_mem_cons.mpr ⟨m1_8, fun _ h => absurd h List.not_mem_nil⟩⟩⟩) m1_148) rfl rfl rfl (by decide +kernel) ⟨Nat.le_of_ble_eq_true rfl, Nat.le_of_ble_eq_true rfl⟩) preEq rfl rfl hl.1 rfl (lv_room (Nat.le_of_ble_eq_true rfl)) dJ_numberOfLeadingZeros_22 ⟨Nat.le_of_ble_eq_true rfl, Nat.le_of_ble_eq_true rfl⟩) ?_
    exact J_1 (pI_numberOfLeadingZeros (v_J_numberOfLeadingZeros_1 i)) ((if_neg c_1)).symm ls (lv_sub hl [] rfl)
  · refine lv_bipush (v := 32) hx hb dJ_numberOfLeadingZeros_10 (by decide) ?_
    refine lv_lload_n hx hb dJ_numberOfLeadingZeros_12 rfl (lv_at hl 1 rfl) ?_
    refine lv_l2i (v := i.toInt32) hx hb dJ_numberOfLeadingZeros_13 rfl ?_
    refine k_call (W.runS (As := [.int i.toInt32]) (rest := [.int (32 : Int32)]) ⟨hx, hb, hml, hown, hts⟩ (kI_numberOfLeadingZeros l i.toInt32) (va_cwS 1 hts (g_call (List.forall_mem_cons.mpr ⟨m1_146, List.forall_mem_cons.mpr ⟨m1_147, List.forall_mem_cons.mpr ⟨m1_8, fun _ h => absurd h List.not_mem_nil⟩⟩⟩) m1_148) rfl rfl rfl (by decide +kernel) ⟨Nat.le_of_ble_eq_true rfl, Nat.le_of_ble_eq_true rfl⟩) preEq rfl rfl hl.1 rfl (lv_room (Nat.le_of_ble_eq_true rfl)) dJ_numberOfLeadingZeros_14 ⟨Nat.le_of_ble_eq_true rfl, Nat.le_of_ble_eq_true rfl⟩) ?_
    refine lv_iadd hx hb dJ_numberOfLeadingZeros_17 ?_
    refine lv_goto (tgt := 25) hx hb dJ_numberOfLeadingZeros_18 (by decide) ?_
    exact J_1 ((32 : Int32) + (pI_numberOfLeadingZeros i.toInt32)) ((if_pos c_1)).symm ls (lv_sub hl [] rfl)
def v_I_numberOfTrailingZeros_1 (i : Int32) : Int32 := (i ^^^ (-1 : Int32)) &&& (i - (1 : Int32))
def v_I_numberOfTrailingZeros_2 (i : Int32) : Int32 := (1 : Int32) + 16
def v_I_numberOfTrailingZeros_3 (i : Int32) : Int32 := jiush (v_I_numberOfTrailingZeros_1 i) (16 : Int32)
def v_I_numberOfTrailingZeros_4 (i : Int32) : Int32 := (if (v_I_numberOfTrailingZeros_1 i) ≤ (65536 : Int32) then (v_I_numberOfTrailingZeros_1 i) else (v_I_numberOfTrailingZeros_3 i))
def v_I_numberOfTrailingZeros_5 (i : Int32) : Int32 := (if (v_I_numberOfTrailingZeros_1 i) ≤ (65536 : Int32) then (1 : Int32) else (v_I_numberOfTrailingZeros_2 i))
def v_I_numberOfTrailingZeros_6 (i : Int32) : Int32 := (v_I_numberOfTrailingZeros_5 i) + 8
def v_I_numberOfTrailingZeros_7 (i : Int32) : Int32 := jiush (v_I_numberOfTrailingZeros_4 i) (8 : Int32)
def v_I_numberOfTrailingZeros_8 (i : Int32) : Int32 := (if (v_I_numberOfTrailingZeros_4 i) ≤ (256 : Int32) then (v_I_numberOfTrailingZeros_4 i) else (v_I_numberOfTrailingZeros_7 i))
def v_I_numberOfTrailingZeros_9 (i : Int32) : Int32 := (if (v_I_numberOfTrailingZeros_4 i) ≤ (256 : Int32) then (v_I_numberOfTrailingZeros_5 i) else (v_I_numberOfTrailingZeros_6 i))
def v_I_numberOfTrailingZeros_10 (i : Int32) : Int32 := (v_I_numberOfTrailingZeros_9 i) + 4
def v_I_numberOfTrailingZeros_11 (i : Int32) : Int32 := jiush (v_I_numberOfTrailingZeros_8 i) (4 : Int32)
def v_I_numberOfTrailingZeros_12 (i : Int32) : Int32 := (if (v_I_numberOfTrailingZeros_8 i) ≤ (16 : Int32) then (v_I_numberOfTrailingZeros_8 i) else (v_I_numberOfTrailingZeros_11 i))
def v_I_numberOfTrailingZeros_13 (i : Int32) : Int32 := (if (v_I_numberOfTrailingZeros_8 i) ≤ (16 : Int32) then (v_I_numberOfTrailingZeros_9 i) else (v_I_numberOfTrailingZeros_10 i))
def v_I_numberOfTrailingZeros_14 (i : Int32) : Int32 := (v_I_numberOfTrailingZeros_13 i) + 2
def v_I_numberOfTrailingZeros_15 (i : Int32) : Int32 := jiush (v_I_numberOfTrailingZeros_12 i) (2 : Int32)
def v_I_numberOfTrailingZeros_16 (i : Int32) : Int32 := (if (v_I_numberOfTrailingZeros_12 i) ≤ (4 : Int32) then (v_I_numberOfTrailingZeros_12 i) else (v_I_numberOfTrailingZeros_15 i))
def v_I_numberOfTrailingZeros_17 (i : Int32) : Int32 := (if (v_I_numberOfTrailingZeros_12 i) ≤ (4 : Int32) then (v_I_numberOfTrailingZeros_13 i) else (v_I_numberOfTrailingZeros_14 i))
def pI_numberOfTrailingZeros (i : Int32) : Int32 := (if 0 < (v_I_numberOfTrailingZeros_1 i) then (v_I_numberOfTrailingZeros_17 i) + (jiush (v_I_numberOfTrailingZeros_16 i) (1 : Int32)) else (v_I_numberOfTrailingZeros_1 i) &&& (32 : Int32))
/-- I_numberOfTrailingZeros -/
abbrev WI_numberOfTrailingZeros (p : Program) (l : Launch) (e : Env) (s : State) (m : MethodId) (below : List Frame) (meth : Method) (c : Code) (i : Int32) (H : Heap) (locs : List Loc) (g : JFrame) : Prop := W p l e (headSpec wI_numberOfTrailingZeros ({ frames := 0, cells := 0, slots := 0, locals := 0 })).room s m ([.int i] : List Value).toArray below meth c H locs 0 0 (MQ below (QR (.int (pI_numberOfTrailingZeros i))) ([.int i] : List Value).toArray s 0 0 (fun _ => False)) g
set_option maxHeartbeats 4000000 in
set_option maxRecDepth 100000 in
theorem kI_numberOfTrailingZeros (l : Launch) (i : Int32) : Met l yI_numberOfTrailingZeros wI_numberOfTrailingZeros ({ frames := 0, cells := 0, slots := 0, locals := 0 }) (fun v _ => v = ([.int i] : List Value).toArray) (QR (.int (pI_numberOfTrailingZeros i))) 0 0 (fun _ => False) := by
  refine Met.ofW (cc := cI_numberOfTrailingZeros) (maxL := 2) (ret := (some .int)) (by decide) rfl ?_
  intro p e s m args below meth c s₁ B hml hv
  have hv : args = ([.int i] : List Value).toArray := hv
  subst hv
  have hx := B.exec
  have hb := B.bytes
  have hr := B.returns
  have hts := atoms_spec (ws := wI_numberOfTrailingZeros) B.pre
  have hown : s.vm.findClass RI = some m.cls := findClass_of_methodNamed B.named
  have hlocks := B.notSynchronized
  have hl := lv_entry ([.int i]) (n := 2) (Nat.le_of_ble_eq_true rfl)
  rw [lg_entry_eq]
  generalize (lg_sl ([.int i]) ++ List.replicate (2 - (lg_sl ([.int i])).length) Slot.unset).toArray = ls at hl ⊢
  have hl : lv_has ls 2 [(0, .int i)] := hl
  refine lv_iload_n hx hb dI_numberOfTrailingZeros_0 rfl (lv_at hl 0 rfl) ?_
  refine lv_iconst (v := -1) hx hb dI_numberOfTrailingZeros_1 (by decide) ?_
  refine lv_ixor hx hb dI_numberOfTrailingZeros_2 ?_
  refine lv_iload_n hx hb dI_numberOfTrailingZeros_3 rfl (lv_at hl 0 rfl) ?_
  refine lv_iconst (v := 1) hx hb dI_numberOfTrailingZeros_4 (by decide) ?_
  refine lv_isub hx hb dI_numberOfTrailingZeros_5 ?_
  refine lv_iand hx hb dI_numberOfTrailingZeros_6 ?_
  refine lv_topi (fun w9 e9 => ?_)
  have e9 : w9 = (v_I_numberOfTrailingZeros_1 i) := e9
  rw [e9]
  refine lv_istore_n (lv' := [(0, .int (v_I_numberOfTrailingZeros_1 i))]) hx hb dI_numberOfTrailingZeros_7 rfl hl (by decide) rfl (fun ls hl => ?_)
  refine lv_iload_n hx hb dI_numberOfTrailingZeros_8 rfl (lv_at hl 0 rfl) ?_
  refine lv_if_gt (tgt := 17) hx hb dI_numberOfTrailingZeros_9 (by decide) (fun c_1 => ?_) (fun c_1 => ?_)
  · refine lv_iconst (v := 1) hx hb dI_numberOfTrailingZeros_17 (by decide) ?_
    refine lv_istore_n (lv' := [(1, .int (1 : Int32)), (0, .int (v_I_numberOfTrailingZeros_1 i))]) hx hb dI_numberOfTrailingZeros_18 rfl hl (by decide) rfl (fun ls hl => ?_)
    refine lv_iload_n hx hb dI_numberOfTrailingZeros_19 rfl (lv_at hl 1 rfl) ?_
    refine lv_ldcw (v := 65536) hx hb hown (hts _ (List.mem_cons_of_mem _ m1_149)) dI_numberOfTrailingZeros_20 ?_
    have J_1 : ∀ (w_0 : Int32), w_0 = (v_I_numberOfTrailingZeros_4 i) → ∀ (w_1 : Int32), w_1 = (v_I_numberOfTrailingZeros_5 i) → ∀ (ls : Array Slot), lv_has ls 2 [(0, .int w_0), (1, .int w_1)] → WI_numberOfTrailingZeros p l e s m below meth c i s.heap [] (F0 m 34 ls []) := by
      intro w_0 e_0
      rw [e_0]
      intro w_1 e_1
      rw [e_1]
      intro ls hl
      refine lv_iload_n hx hb dI_numberOfTrailingZeros_34 rfl (lv_at hl 0 rfl) ?_
      refine lv_sipush (v := 256) hx hb dI_numberOfTrailingZeros_35 (by decide) ?_
      have J_2 : ∀ (w_0 : Int32), w_0 = (v_I_numberOfTrailingZeros_8 i) → ∀ (w_1 : Int32), w_1 = (v_I_numberOfTrailingZeros_9 i) → ∀ (ls : Array Slot), lv_has ls 2 [(0, .int w_0), (1, .int w_1)] → WI_numberOfTrailingZeros p l e s m below meth c i s.heap [] (F0 m 49 ls []) := by
        intro w_0 e_0
        rw [e_0]
        intro w_1 e_1
        rw [e_1]
        intro ls hl
        refine lv_iload_n hx hb dI_numberOfTrailingZeros_49 rfl (lv_at hl 0 rfl) ?_
        refine lv_bipush (v := 16) hx hb dI_numberOfTrailingZeros_50 (by decide) ?_
        have J_3 : ∀ (w_0 : Int32), w_0 = (v_I_numberOfTrailingZeros_12 i) → ∀ (w_1 : Int32), w_1 = (v_I_numberOfTrailingZeros_13 i) → ∀ (ls : Array Slot), lv_has ls 2 [(0, .int w_0), (1, .int w_1)] → WI_numberOfTrailingZeros p l e s m below meth c i s.heap [] (F0 m 62 ls []) := by
          intro w_0 e_0
          rw [e_0]
          intro w_1 e_1
          rw [e_1]
          intro ls hl
          refine lv_iload_n hx hb dI_numberOfTrailingZeros_62 rfl (lv_at hl 0 rfl) ?_
          refine lv_iconst (v := 4) hx hb dI_numberOfTrailingZeros_63 (by decide) ?_
          have J_4 : ∀ (w_0 : Int32), w_0 = (v_I_numberOfTrailingZeros_16 i) → ∀ (w_1 : Int32), w_1 = (v_I_numberOfTrailingZeros_17 i) → ∀ (ls : Array Slot), lv_has ls 2 [(0, .int w_0), (1, .int w_1)] → WI_numberOfTrailingZeros p l e s m below meth c i s.heap [] (F0 m 74 ls []) := by
            intro w_0 e_0
            rw [e_0]
            intro w_1 e_1
            rw [e_1]
            intro ls hl
            refine lv_iload_n hx hb dI_numberOfTrailingZeros_74 rfl (lv_at hl 1 rfl) ?_
            refine lv_iload_n hx hb dI_numberOfTrailingZeros_75 rfl (lv_at hl 0 rfl) ?_
            refine lv_iconst (v := 1) hx hb dI_numberOfTrailingZeros_76 (by decide) ?_
            refine lv_iushr (v := jiush (v_I_numberOfTrailingZeros_16 i) (1 : Int32)) hx hb dI_numberOfTrailingZeros_77 rfl ?_
            refine lv_iadd hx hb dI_numberOfTrailingZeros_78 ?_
            have e9 : (v_I_numberOfTrailingZeros_17 i) + (jiush (v_I_numberOfTrailingZeros_16 i) (1 : Int32)) = pI_numberOfTrailingZeros i := ((if_pos c_1)).symm
            exact W.iret (v := (v_I_numberOfTrailingZeros_17 i) + (jiush (v_I_numberOfTrailingZeros_16 i) (1 : Int32))) hx hb hr (fun t ht hW => ⟨by rw [e9], ht⟩) (fun q h => absurd h List.not_mem_nil) dI_numberOfTrailingZeros_79
          refine lv_icmp_le (tgt := 74) hx hb dI_numberOfTrailingZeros_64 (by decide) (fun c_5 => ?_) (fun c_5 => ?_)
          · exact J_4 (v_I_numberOfTrailingZeros_12 i) ((if_pos c_5)).symm (v_I_numberOfTrailingZeros_13 i) ((if_pos c_5)).symm ls (lv_sub hl [0, 1] rfl)
          · refine lv_iinc (v := (v_I_numberOfTrailingZeros_14 i)) (lv' := [(1, .int (v_I_numberOfTrailingZeros_14 i)), (0, .int (v_I_numberOfTrailingZeros_12 i))]) hx hb dI_numberOfTrailingZeros_67 hl (k := 1) rfl rfl (by decide) rfl (fun ls hl => ?_)
            refine lv_iload_n hx hb dI_numberOfTrailingZeros_70 rfl (lv_at hl 1 rfl) ?_
            refine lv_iconst (v := 2) hx hb dI_numberOfTrailingZeros_71 (by decide) ?_
            refine lv_iushr (v := jiush (v_I_numberOfTrailingZeros_12 i) (2 : Int32)) hx hb dI_numberOfTrailingZeros_72 rfl ?_
            refine lv_topi (fun w9 e9 => ?_)
            have e9 : w9 = (v_I_numberOfTrailingZeros_15 i) := e9
            rw [e9]
            refine lv_istore_n (lv' := [(0, .int (v_I_numberOfTrailingZeros_15 i)), (1, .int (v_I_numberOfTrailingZeros_14 i))]) hx hb dI_numberOfTrailingZeros_73 rfl hl (by decide) rfl (fun ls hl => ?_)
            exact J_4 (v_I_numberOfTrailingZeros_15 i) ((if_neg c_5)).symm (v_I_numberOfTrailingZeros_14 i) ((if_neg c_5)).symm ls (lv_sub hl [0, 1] rfl)
        refine lv_icmp_le (tgt := 62) hx hb dI_numberOfTrailingZeros_52 (by decide) (fun c_4 => ?_) (fun c_4 => ?_)
        · exact J_3 (v_I_numberOfTrailingZeros_8 i) ((if_pos c_4)).symm (v_I_numberOfTrailingZeros_9 i) ((if_pos c_4)).symm ls (lv_sub hl [0, 1] rfl)
        · refine lv_iinc (v := (v_I_numberOfTrailingZeros_10 i)) (lv' := [(1, .int (v_I_numberOfTrailingZeros_10 i)), (0, .int (v_I_numberOfTrailingZeros_8 i))]) hx hb dI_numberOfTrailingZeros_55 hl (k := 1) rfl rfl (by decide) rfl (fun ls hl => ?_)
          refine lv_iload_n hx hb dI_numberOfTrailingZeros_58 rfl (lv_at hl 1 rfl) ?_
          refine lv_iconst (v := 4) hx hb dI_numberOfTrailingZeros_59 (by decide) ?_
          refine lv_iushr (v := jiush (v_I_numberOfTrailingZeros_8 i) (4 : Int32)) hx hb dI_numberOfTrailingZeros_60 rfl ?_
          refine lv_topi (fun w9 e9 => ?_)
          have e9 : w9 = (v_I_numberOfTrailingZeros_11 i) := e9
          rw [e9]
          refine lv_istore_n (lv' := [(0, .int (v_I_numberOfTrailingZeros_11 i)), (1, .int (v_I_numberOfTrailingZeros_10 i))]) hx hb dI_numberOfTrailingZeros_61 rfl hl (by decide) rfl (fun ls hl => ?_)
          exact J_3 (v_I_numberOfTrailingZeros_11 i) ((if_neg c_4)).symm (v_I_numberOfTrailingZeros_10 i) ((if_neg c_4)).symm ls (lv_sub hl [0, 1] rfl)
      refine lv_icmp_le (tgt := 49) hx hb dI_numberOfTrailingZeros_38 (by decide) (fun c_3 => ?_) (fun c_3 => ?_)
      · exact J_2 (v_I_numberOfTrailingZeros_4 i) ((if_pos c_3)).symm (v_I_numberOfTrailingZeros_5 i) ((if_pos c_3)).symm ls (lv_sub hl [0, 1] rfl)
      · refine lv_iinc (v := (v_I_numberOfTrailingZeros_6 i)) (lv' := [(1, .int (v_I_numberOfTrailingZeros_6 i)), (0, .int (v_I_numberOfTrailingZeros_4 i))]) hx hb dI_numberOfTrailingZeros_41 hl (k := 1) rfl rfl (by decide) rfl (fun ls hl => ?_)
        refine lv_iload_n hx hb dI_numberOfTrailingZeros_44 rfl (lv_at hl 1 rfl) ?_
        refine lv_bipush (v := 8) hx hb dI_numberOfTrailingZeros_45 (by decide) ?_
        refine lv_iushr (v := jiush (v_I_numberOfTrailingZeros_4 i) (8 : Int32)) hx hb dI_numberOfTrailingZeros_47 rfl ?_
        refine lv_topi (fun w9 e9 => ?_)
        have e9 : w9 = (v_I_numberOfTrailingZeros_7 i) := e9
        rw [e9]
        refine lv_istore_n (lv' := [(0, .int (v_I_numberOfTrailingZeros_7 i)), (1, .int (v_I_numberOfTrailingZeros_6 i))]) hx hb dI_numberOfTrailingZeros_48 rfl hl (by decide) rfl (fun ls hl => ?_)
        exact J_2 (v_I_numberOfTrailingZeros_7 i) ((if_neg c_3)).symm (v_I_numberOfTrailingZeros_6 i) ((if_neg c_3)).symm ls (lv_sub hl [0, 1] rfl)
    refine lv_icmp_le (tgt := 34) hx hb dI_numberOfTrailingZeros_23 (by decide) (fun c_2 => ?_) (fun c_2 => ?_)
    · exact J_1 (v_I_numberOfTrailingZeros_1 i) ((if_pos c_2)).symm (1 : Int32) ((if_pos c_2)).symm ls (lv_sub hl [1, 0] rfl)
    · refine lv_iinc (v := (v_I_numberOfTrailingZeros_2 i)) (lv' := [(1, .int (v_I_numberOfTrailingZeros_2 i)), (0, .int (v_I_numberOfTrailingZeros_1 i))]) hx hb dI_numberOfTrailingZeros_26 hl (k := 0) rfl rfl (by decide) rfl (fun ls hl => ?_)
      refine lv_iload_n hx hb dI_numberOfTrailingZeros_29 rfl (lv_at hl 1 rfl) ?_
      refine lv_bipush (v := 16) hx hb dI_numberOfTrailingZeros_30 (by decide) ?_
      refine lv_iushr (v := jiush (v_I_numberOfTrailingZeros_1 i) (16 : Int32)) hx hb dI_numberOfTrailingZeros_32 rfl ?_
      refine lv_topi (fun w9 e9 => ?_)
      have e9 : w9 = (v_I_numberOfTrailingZeros_3 i) := e9
      rw [e9]
      refine lv_istore_n (lv' := [(0, .int (v_I_numberOfTrailingZeros_3 i)), (1, .int (v_I_numberOfTrailingZeros_2 i))]) hx hb dI_numberOfTrailingZeros_33 rfl hl (by decide) rfl (fun ls hl => ?_)
      exact J_1 (v_I_numberOfTrailingZeros_3 i) ((if_neg c_2)).symm (v_I_numberOfTrailingZeros_2 i) ((if_neg c_2)).symm ls (lv_sub hl [0, 1] rfl)
  · refine lv_iload_n hx hb dI_numberOfTrailingZeros_12 rfl (lv_at hl 0 rfl) ?_
    refine lv_bipush (v := 32) hx hb dI_numberOfTrailingZeros_13 (by decide) ?_
    refine lv_iand hx hb dI_numberOfTrailingZeros_15 ?_
    have e9 : (v_I_numberOfTrailingZeros_1 i) &&& (32 : Int32) = pI_numberOfTrailingZeros i := ((if_neg c_1)).symm
    exact W.iret (v := (v_I_numberOfTrailingZeros_1 i) &&& (32 : Int32)) hx hb hr (fun t ht hW => ⟨by rw [e9], ht⟩) (fun q h => absurd h List.not_mem_nil) dI_numberOfTrailingZeros_16
def v_J_numberOfTrailingZeros_1 (i : Int64) : Int32 := (if i.toInt32 = 0 then (32 : Int32) + (pI_numberOfTrailingZeros ((jlush i (32 : Int32)).toInt32)) else pI_numberOfTrailingZeros i.toInt32)
def pJ_numberOfTrailingZeros (i : Int64) : Int32 := (v_J_numberOfTrailingZeros_1 i)
/-- J_numberOfTrailingZeros -/
abbrev WJ_numberOfTrailingZeros (p : Program) (l : Launch) (e : Env) (s : State) (m : MethodId) (below : List Frame) (meth : Method) (c : Code) (i : Int64) (H : Heap) (locs : List Loc) (g : JFrame) : Prop := W p l e (headSpec wJ_numberOfTrailingZeros ({ frames := 1, cells := 0, slots := 0, locals := 21 })).room s m ([.long i] : List Value).toArray below meth c H locs 0 0 (MQ below (QR (.int (pJ_numberOfTrailingZeros i))) ([.long i] : List Value).toArray s 0 0 (fun _ => False)) g
set_option maxHeartbeats 4000000 in
set_option maxRecDepth 100000 in
theorem kJ_numberOfTrailingZeros (l : Launch) (i : Int64) : Met l yJ_numberOfTrailingZeros wJ_numberOfTrailingZeros ({ frames := 1, cells := 0, slots := 0, locals := 21 }) (fun v _ => v = ([.long i] : List Value).toArray) (QR (.int (pJ_numberOfTrailingZeros i))) 0 0 (fun _ => False) := by
  refine Met.ofW (cc := cJ_numberOfTrailingZeros) (maxL := 3) (ret := (some .int)) (by decide) rfl ?_
  intro p e s m args below meth c s₁ B hml hv
  have hv : args = ([.long i] : List Value).toArray := hv
  subst hv
  have hx := B.exec
  have hb := B.bytes
  have hr := B.returns
  have hts := atoms_spec (ws := wJ_numberOfTrailingZeros) B.pre
  have hown : s.vm.findClass RJ = some m.cls := findClass_of_methodNamed B.named
  have hlocks := B.notSynchronized
  have hl := lv_entry ([.long i]) (n := 3) (Nat.le_of_ble_eq_true rfl)
  rw [lg_entry_eq]
  generalize (lg_sl ([.long i]) ++ List.replicate (3 - (lg_sl ([.long i])).length) Slot.unset).toArray = ls at hl ⊢
  have hl : lv_has ls 3 [(0, .long i)] := hl
  refine lv_lload_n hx hb dJ_numberOfTrailingZeros_0 rfl (lv_at hl 0 rfl) ?_
  refine lv_l2i (v := i.toInt32) hx hb dJ_numberOfTrailingZeros_1 rfl ?_
  refine lv_istore_n (lv' := [(2, .int i.toInt32), (0, .long i)]) hx hb dJ_numberOfTrailingZeros_2 rfl hl (by decide) rfl (fun ls hl => ?_)
  refine lv_iload_n hx hb dJ_numberOfTrailingZeros_3 rfl (lv_at hl 0 rfl) ?_
  have J_1 : ∀ (w_0 : Int32), w_0 = (v_J_numberOfTrailingZeros_1 i) → ∀ (ls : Array Slot), lv_has ls 3 [] → WJ_numberOfTrailingZeros p l e s m below meth c i s.heap [] (F0 m 25 ls [.int w_0]) := by
    intro w_0 e_0
    rw [e_0]
    intro ls hl
    have e9 : (v_J_numberOfTrailingZeros_1 i) = pJ_numberOfTrailingZeros i := (rfl).symm
    exact W.iret (v := (v_J_numberOfTrailingZeros_1 i)) hx hb hr (fun t ht hW => ⟨by rw [e9], ht⟩) (fun q h => absurd h List.not_mem_nil) dJ_numberOfTrailingZeros_25
  refine lv_if_ne (tgt := 21) hx hb dJ_numberOfTrailingZeros_4 (by decide) (fun c_1 => ?_) (fun c_1 => ?_)
  · refine lv_iload_n hx hb dJ_numberOfTrailingZeros_21 rfl (lv_at hl 0 rfl) ?_
    refine k_call (W.runS (As := [.int i.toInt32]) (rest := []) ⟨hx, hb, hml, hown, hts⟩ (kI_numberOfTrailingZeros l i.toInt32) (va_cwS 1 hts (g_call (List.forall_mem_cons.mpr ⟨m1_224, List.forall_mem_cons.mpr ⟨m1_225, List.forall_mem_cons.mpr ⟨m1_8, fun _ h => absurd h List.not_mem_nil⟩⟩⟩) m1_226) rfl rfl rfl (by decide +kernel) ⟨Nat.le_of_ble_eq_true rfl, Nat.le_of_ble_eq_true rfl⟩) preEq rfl rfl hl.1 rfl (lv_room (Nat.le_of_ble_eq_true rfl)) dJ_numberOfTrailingZeros_22 ⟨Nat.le_of_ble_eq_true rfl, Nat.le_of_ble_eq_true rfl⟩) ?_
    exact J_1 (pI_numberOfTrailingZeros i.toInt32) ((if_neg c_1)).symm ls (lv_sub hl [] rfl)
  · refine lv_bipush (v := 32) hx hb dJ_numberOfTrailingZeros_7 (by decide) ?_
    refine lv_lload_n hx hb dJ_numberOfTrailingZeros_9 rfl (lv_at hl 1 rfl) ?_
    refine lv_bipush (v := 32) hx hb dJ_numberOfTrailingZeros_10 (by decide) ?_
    refine lv_lushr (v := jlush i (32 : Int32)) hx hb dJ_numberOfTrailingZeros_12 rfl ?_
    refine lv_l2i (v := (jlush i (32 : Int32)).toInt32) hx hb dJ_numberOfTrailingZeros_13 rfl ?_
    refine k_call (W.runS (As := [.int ((jlush i (32 : Int32)).toInt32)]) (rest := [.int (32 : Int32)]) ⟨hx, hb, hml, hown, hts⟩ (kI_numberOfTrailingZeros l ((jlush i (32 : Int32)).toInt32)) (va_cwS 1 hts (g_call (List.forall_mem_cons.mpr ⟨m1_224, List.forall_mem_cons.mpr ⟨m1_225, List.forall_mem_cons.mpr ⟨m1_8, fun _ h => absurd h List.not_mem_nil⟩⟩⟩) m1_226) rfl rfl rfl (by decide +kernel) ⟨Nat.le_of_ble_eq_true rfl, Nat.le_of_ble_eq_true rfl⟩) preEq rfl rfl hl.1 rfl (lv_room (Nat.le_of_ble_eq_true rfl)) dJ_numberOfTrailingZeros_14 ⟨Nat.le_of_ble_eq_true rfl, Nat.le_of_ble_eq_true rfl⟩) ?_
    refine lv_iadd hx hb dJ_numberOfTrailingZeros_17 ?_
    refine lv_goto (tgt := 25) hx hb dJ_numberOfTrailingZeros_18 (by decide) ?_
    exact J_1 ((32 : Int32) + (pI_numberOfTrailingZeros ((jlush i (32 : Int32)).toInt32))) ((if_pos c_1)).symm ls (lv_sub hl [] rfl)
def v_F_isNaN_1 (x : Int64) : Bool := (if (x &&& (9223372036854775807 : Int64)) ≤ (9218868437227405312 : Int64) then false else true)
def pF_isNaN (x : Int64) : Bool := (v_F_isNaN_1 x)
/-- F_isNaN -/
abbrev WF_isNaN (p : Program) (l : Launch) (e : Env) (s : State) (m : MethodId) (below : List Frame) (meth : Method) (c : Code) (x : Int64) (H : Heap) (locs : List Loc) (g : JFrame) : Prop := W p l e (headSpec wF_isNaN ({ frames := 0, cells := 0, slots := 0, locals := 0 })).room s m ([.long x] : List Value).toArray below meth c H locs 0 0 (MQ below (QR (.int (bI (pF_isNaN x)))) ([.long x] : List Value).toArray s 0 0 (fun _ => False)) g
set_option maxHeartbeats 4000000 in
set_option maxRecDepth 100000 in
theorem kF_isNaN (l : Launch) (x : Int64) : Met l yF_isNaN wF_isNaN ({ frames := 0, cells := 0, slots := 0, locals := 0 }) (fun v _ => v = ([.long x] : List Value).toArray) (QR (.int (bI (pF_isNaN x)))) 0 0 (fun _ => False) := by
  refine Met.ofW (cc := cF_isNaN) (maxL := 2) (ret := (some .boolean)) (by decide) rfl ?_
  intro p e s m args below meth c s₁ B hml hv
  have hv : args = ([.long x] : List Value).toArray := hv
  subst hv
  have hx := B.exec
  have hb := B.bytes
  have hr := B.returns
  have hts := atoms_spec (ws := wF_isNaN) B.pre
  have hown : s.vm.findClass RF = some m.cls := findClass_of_methodNamed B.named
  have hlocks := B.notSynchronized
  have hl := lv_entry ([.long x]) (n := 2) (Nat.le_of_ble_eq_true rfl)
  rw [lg_entry_eq]
  generalize (lg_sl ([.long x]) ++ List.replicate (2 - (lg_sl ([.long x])).length) Slot.unset).toArray = ls at hl ⊢
  have hl : lv_has ls 2 [(0, .long x)] := hl
  refine lv_lload_n hx hb dF_isNaN_0 rfl (lv_at hl 0 rfl) ?_
  refine lv_ldc2 (v := 9223372036854775807) hx hb hown (hts _ (List.mem_cons_of_mem _ m1_84)) dF_isNaN_1 ?_
  refine lv_land hx hb dF_isNaN_4 ?_
  refine lv_ldc2 (v := 9218868437227405312) hx hb hown (hts _ (List.mem_cons_of_mem _ m1_85)) dF_isNaN_5 ?_
  refine W.lcmp hx hb dF_isNaN_8 ?_
  have J_1 : ∀ (w_0 : Bool), w_0 = (v_F_isNaN_1 x) → ∀ (ls : Array Slot), lv_has ls 2 [] → WF_isNaN p l e s m below meth c x s.heap [] (F0 m 17 ls [.int (bI w_0)]) := by
    intro w_0 e_0
    rw [e_0]
    intro ls hl
    have e9 : (v_F_isNaN_1 x) = pF_isNaN x := (rfl).symm
    exact W.zret (v := bI (v_F_isNaN_1 x)) hx hb hr (nb_z _) (fun t ht hW => ⟨by rw [e9], ht⟩) (fun q h => absurd h List.not_mem_nil) dF_isNaN_17
  refine lv_if_le (tgt := 16) hx hb dF_isNaN_9 (by decide) (fun c_1 => ?_) (fun c_1 => ?_)
  · have c_1 : (x &&& (9223372036854775807 : Int64)) ≤ (9218868437227405312 : Int64) := (lg_cmp_le _ _).mp c_1
    refine lv_iconst (v := 0) hx hb dF_isNaN_16 (by decide) ?_
    exact J_1 false ((if_pos c_1)).symm ls (lv_sub hl [] rfl)
  · have c_1 : ¬ ((x &&& (9223372036854775807 : Int64)) ≤ (9218868437227405312 : Int64)) := fun h => c_1 ((lg_cmp_le _ _).mpr h)
    refine lv_iconst (v := 1) hx hb dF_isNaN_12 (by decide) ?_
    refine lv_goto (tgt := 17) hx hb dF_isNaN_13 (by decide) ?_
    exact J_1 true ((if_neg c_1)).symm ls (lv_sub hl [] rfl)
def v_F_isInfinite_1 (x : Int64) : Bool := (if (x &&& (9223372036854775807 : Int64)) = (9218868437227405312 : Int64) then true else false)
def pF_isInfinite (x : Int64) : Bool := (v_F_isInfinite_1 x)
/-- F_isInfinite -/
abbrev WF_isInfinite (p : Program) (l : Launch) (e : Env) (s : State) (m : MethodId) (below : List Frame) (meth : Method) (c : Code) (x : Int64) (H : Heap) (locs : List Loc) (g : JFrame) : Prop := W p l e (headSpec wF_isInfinite ({ frames := 0, cells := 0, slots := 0, locals := 0 })).room s m ([.long x] : List Value).toArray below meth c H locs 0 0 (MQ below (QR (.int (bI (pF_isInfinite x)))) ([.long x] : List Value).toArray s 0 0 (fun _ => False)) g
set_option maxHeartbeats 4000000 in
set_option maxRecDepth 100000 in
theorem kF_isInfinite (l : Launch) (x : Int64) : Met l yF_isInfinite wF_isInfinite ({ frames := 0, cells := 0, slots := 0, locals := 0 }) (fun v _ => v = ([.long x] : List Value).toArray) (QR (.int (bI (pF_isInfinite x)))) 0 0 (fun _ => False) := by
  refine Met.ofW (cc := cF_isInfinite) (maxL := 2) (ret := (some .boolean)) (by decide) rfl ?_
  intro p e s m args below meth c s₁ B hml hv
  have hv : args = ([.long x] : List Value).toArray := hv
  subst hv
  have hx := B.exec
  have hb := B.bytes
  have hr := B.returns
  have hts := atoms_spec (ws := wF_isInfinite) B.pre
  have hown : s.vm.findClass RF = some m.cls := findClass_of_methodNamed B.named
  have hlocks := B.notSynchronized
  have hl := lv_entry ([.long x]) (n := 2) (Nat.le_of_ble_eq_true rfl)
  rw [lg_entry_eq]
  generalize (lg_sl ([.long x]) ++ List.replicate (2 - (lg_sl ([.long x])).length) Slot.unset).toArray = ls at hl ⊢
  have hl : lv_has ls 2 [(0, .long x)] := hl
  refine lv_lload_n hx hb dF_isInfinite_0 rfl (lv_at hl 0 rfl) ?_
  refine lv_ldc2 (v := 9223372036854775807) hx hb hown (hts _ (List.mem_cons_of_mem _ m1_84)) dF_isInfinite_1 ?_
  refine lv_land hx hb dF_isInfinite_4 ?_
  refine lv_ldc2 (v := 9218868437227405312) hx hb hown (hts _ (List.mem_cons_of_mem _ m1_85)) dF_isInfinite_5 ?_
  refine W.lcmp hx hb dF_isInfinite_8 ?_
  have J_1 : ∀ (w_0 : Bool), w_0 = (v_F_isInfinite_1 x) → ∀ (ls : Array Slot), lv_has ls 2 [] → WF_isInfinite p l e s m below meth c x s.heap [] (F0 m 17 ls [.int (bI w_0)]) := by
    intro w_0 e_0
    rw [e_0]
    intro ls hl
    have e9 : (v_F_isInfinite_1 x) = pF_isInfinite x := (rfl).symm
    exact W.zret (v := bI (v_F_isInfinite_1 x)) hx hb hr (nb_z _) (fun t ht hW => ⟨by rw [e9], ht⟩) (fun q h => absurd h List.not_mem_nil) dF_isInfinite_17
  refine lv_if_ne (tgt := 16) hx hb dF_isInfinite_9 (by decide) (fun c_1 => ?_) (fun c_1 => ?_)
  · have c_1 : ¬ ((x &&& (9223372036854775807 : Int64)) = (9218868437227405312 : Int64)) := fun h => c_1 ((lg_cmp_eq _ _).mpr h)
    refine lv_iconst (v := 0) hx hb dF_isInfinite_16 (by decide) ?_
    exact J_1 false ((if_neg c_1)).symm ls (lv_sub hl [] rfl)
  · have c_1 : (x &&& (9223372036854775807 : Int64)) = (9218868437227405312 : Int64) := (lg_cmp_eq _ _).mp c_1
    refine lv_iconst (v := 1) hx hb dF_isInfinite_12 (by decide) ?_
    refine lv_goto (tgt := 17) hx hb dF_isInfinite_13 (by decide) ?_
    exact J_1 true ((if_pos c_1)).symm ls (lv_sub hl [] rfl)
def v_F_isFinite_1 (x : Int64) : Bool := (if (9218868437227405312 : Int64) ≤ (x &&& (9223372036854775807 : Int64)) then false else true)
def pF_isFinite (x : Int64) : Bool := (v_F_isFinite_1 x)
/-- F_isFinite -/
abbrev WF_isFinite (p : Program) (l : Launch) (e : Env) (s : State) (m : MethodId) (below : List Frame) (meth : Method) (c : Code) (x : Int64) (H : Heap) (locs : List Loc) (g : JFrame) : Prop := W p l e (headSpec wF_isFinite ({ frames := 0, cells := 0, slots := 0, locals := 0 })).room s m ([.long x] : List Value).toArray below meth c H locs 0 0 (MQ below (QR (.int (bI (pF_isFinite x)))) ([.long x] : List Value).toArray s 0 0 (fun _ => False)) g
set_option maxHeartbeats 4000000 in
set_option maxRecDepth 100000 in
theorem kF_isFinite (l : Launch) (x : Int64) : Met l yF_isFinite wF_isFinite ({ frames := 0, cells := 0, slots := 0, locals := 0 }) (fun v _ => v = ([.long x] : List Value).toArray) (QR (.int (bI (pF_isFinite x)))) 0 0 (fun _ => False) := by
  refine Met.ofW (cc := cF_isFinite) (maxL := 2) (ret := (some .boolean)) (by decide) rfl ?_
  intro p e s m args below meth c s₁ B hml hv
  have hv : args = ([.long x] : List Value).toArray := hv
  subst hv
  have hx := B.exec
  have hb := B.bytes
  have hr := B.returns
  have hts := atoms_spec (ws := wF_isFinite) B.pre
  have hown : s.vm.findClass RF = some m.cls := findClass_of_methodNamed B.named
  have hlocks := B.notSynchronized
  have hl := lv_entry ([.long x]) (n := 2) (Nat.le_of_ble_eq_true rfl)
  rw [lg_entry_eq]
  generalize (lg_sl ([.long x]) ++ List.replicate (2 - (lg_sl ([.long x])).length) Slot.unset).toArray = ls at hl ⊢
  have hl : lv_has ls 2 [(0, .long x)] := hl
  refine lv_lload_n hx hb dF_isFinite_0 rfl (lv_at hl 0 rfl) ?_
  refine lv_ldc2 (v := 9223372036854775807) hx hb hown (hts _ (List.mem_cons_of_mem _ m1_84)) dF_isFinite_1 ?_
  refine lv_land hx hb dF_isFinite_4 ?_
  refine lv_ldc2 (v := 9218868437227405312) hx hb hown (hts _ (List.mem_cons_of_mem _ m1_85)) dF_isFinite_5 ?_
  refine W.lcmp hx hb dF_isFinite_8 ?_
  have J_1 : ∀ (w_0 : Bool), w_0 = (v_F_isFinite_1 x) → ∀ (ls : Array Slot), lv_has ls 2 [] → WF_isFinite p l e s m below meth c x s.heap [] (F0 m 17 ls [.int (bI w_0)]) := by
    intro w_0 e_0
    rw [e_0]
    intro ls hl
    have e9 : (v_F_isFinite_1 x) = pF_isFinite x := (rfl).symm
    exact W.zret (v := bI (v_F_isFinite_1 x)) hx hb hr (nb_z _) (fun t ht hW => ⟨by rw [e9], ht⟩) (fun q h => absurd h List.not_mem_nil) dF_isFinite_17
  refine lv_if_ge (tgt := 16) hx hb dF_isFinite_9 (by decide) (fun c_1 => ?_) (fun c_1 => ?_)
  · have c_1 : (9218868437227405312 : Int64) ≤ (x &&& (9223372036854775807 : Int64)) := (lg_cmp_ge _ _).mp c_1
    refine lv_iconst (v := 0) hx hb dF_isFinite_16 (by decide) ?_
    exact J_1 false ((if_pos c_1)).symm ls (lv_sub hl [] rfl)
  · have c_1 : ¬ ((9218868437227405312 : Int64) ≤ (x &&& (9223372036854775807 : Int64))) := fun h => c_1 ((lg_cmp_ge _ _).mpr h)
    refine lv_iconst (v := 1) hx hb dF_isFinite_12 (by decide) ?_
    refine lv_goto (tgt := 17) hx hb dF_isFinite_13 (by decide) ?_
    exact J_1 true ((if_neg c_1)).symm ls (lv_sub hl [] rfl)
def v_F_isZero_1 (x : Int64) : Bool := (if (x &&& (9223372036854775807 : Int64)) = (0 : Int64) then true else false)
def pF_isZero (x : Int64) : Bool := (v_F_isZero_1 x)
/-- F_isZero -/
abbrev WF_isZero (p : Program) (l : Launch) (e : Env) (s : State) (m : MethodId) (below : List Frame) (meth : Method) (c : Code) (x : Int64) (H : Heap) (locs : List Loc) (g : JFrame) : Prop := W p l e (headSpec wF_isZero ({ frames := 0, cells := 0, slots := 0, locals := 0 })).room s m ([.long x] : List Value).toArray below meth c H locs 0 0 (MQ below (QR (.int (bI (pF_isZero x)))) ([.long x] : List Value).toArray s 0 0 (fun _ => False)) g
set_option maxHeartbeats 4000000 in
set_option maxRecDepth 100000 in
theorem kF_isZero (l : Launch) (x : Int64) : Met l yF_isZero wF_isZero ({ frames := 0, cells := 0, slots := 0, locals := 0 }) (fun v _ => v = ([.long x] : List Value).toArray) (QR (.int (bI (pF_isZero x)))) 0 0 (fun _ => False) := by
  refine Met.ofW (cc := cF_isZero) (maxL := 2) (ret := (some .boolean)) (by decide) rfl ?_
  intro p e s m args below meth c s₁ B hml hv
  have hv : args = ([.long x] : List Value).toArray := hv
  subst hv
  have hx := B.exec
  have hb := B.bytes
  have hr := B.returns
  have hts := atoms_spec (ws := wF_isZero) B.pre
  have hown : s.vm.findClass RF = some m.cls := findClass_of_methodNamed B.named
  have hlocks := B.notSynchronized
  have hl := lv_entry ([.long x]) (n := 2) (Nat.le_of_ble_eq_true rfl)
  rw [lg_entry_eq]
  generalize (lg_sl ([.long x]) ++ List.replicate (2 - (lg_sl ([.long x])).length) Slot.unset).toArray = ls at hl ⊢
  have hl : lv_has ls 2 [(0, .long x)] := hl
  refine lv_lload_n hx hb dF_isZero_0 rfl (lv_at hl 0 rfl) ?_
  refine lv_ldc2 (v := 9223372036854775807) hx hb hown (hts _ (List.mem_cons_of_mem _ m1_84)) dF_isZero_1 ?_
  refine lv_land hx hb dF_isZero_4 ?_
  refine lv_lconst (v := 0) hx hb dF_isZero_5 (by decide) ?_
  refine W.lcmp hx hb dF_isZero_6 ?_
  have J_1 : ∀ (w_0 : Bool), w_0 = (v_F_isZero_1 x) → ∀ (ls : Array Slot), lv_has ls 2 [] → WF_isZero p l e s m below meth c x s.heap [] (F0 m 15 ls [.int (bI w_0)]) := by
    intro w_0 e_0
    rw [e_0]
    intro ls hl
    have e9 : (v_F_isZero_1 x) = pF_isZero x := (rfl).symm
    exact W.zret (v := bI (v_F_isZero_1 x)) hx hb hr (nb_z _) (fun t ht hW => ⟨by rw [e9], ht⟩) (fun q h => absurd h List.not_mem_nil) dF_isZero_15
  refine lv_if_ne (tgt := 14) hx hb dF_isZero_7 (by decide) (fun c_1 => ?_) (fun c_1 => ?_)
  · have c_1 : ¬ ((x &&& (9223372036854775807 : Int64)) = (0 : Int64)) := fun h => c_1 ((lg_cmp_eq _ _).mpr h)
    refine lv_iconst (v := 0) hx hb dF_isZero_14 (by decide) ?_
    exact J_1 false ((if_neg c_1)).symm ls (lv_sub hl [] rfl)
  · have c_1 : (x &&& (9223372036854775807 : Int64)) = (0 : Int64) := (lg_cmp_eq _ _).mp c_1
    refine lv_iconst (v := 1) hx hb dF_isZero_10 (by decide) ?_
    refine lv_goto (tgt := 15) hx hb dF_isZero_11 (by decide) ?_
    exact J_1 true ((if_pos c_1)).symm ls (lv_sub hl [] rfl)
def v_F_isInfiniteProduct_1 (x : Int64) (y : Int64) : Bool := (if (pF_isInfinite x) = true then (if (pF_isZero x) = true then false else (if (pF_isZero y) = true then false else true)) else (if (pF_isInfinite y) = true then (if (pF_isZero x) = true then false else (if (pF_isZero y) = true then false else true)) else false))
def pF_isInfiniteProduct (x : Int64) (y : Int64) : Bool := (v_F_isInfiniteProduct_1 x y)
/-- F_isInfiniteProduct -/
abbrev WF_isInfiniteProduct (p : Program) (l : Launch) (e : Env) (s : State) (m : MethodId) (below : List Frame) (meth : Method) (c : Code) (x : Int64) (y : Int64) (H : Heap) (locs : List Loc) (g : JFrame) : Prop := W p l e (headSpec wF_isInfiniteProduct ({ frames := 1, cells := 0, slots := 0, locals := 21 })).room s m ([.long x, .long y] : List Value).toArray below meth c H locs 0 0 (MQ below (QR (.int (bI (pF_isInfiniteProduct x y)))) ([.long x, .long y] : List Value).toArray s 0 0 (fun _ => False)) g
set_option maxHeartbeats 4000000 in
set_option maxRecDepth 100000 in
theorem kF_isInfiniteProduct (l : Launch) (x : Int64) (y : Int64) : Met l yF_isInfiniteProduct wF_isInfiniteProduct ({ frames := 1, cells := 0, slots := 0, locals := 21 }) (fun v _ => v = ([.long x, .long y] : List Value).toArray) (QR (.int (bI (pF_isInfiniteProduct x y)))) 0 0 (fun _ => False) := by
  refine Met.ofW (cc := cF_isInfiniteProduct) (maxL := 4) (ret := (some .boolean)) (by decide) rfl ?_
  intro p e s m args below meth c s₁ B hml hv
  have hv : args = ([.long x, .long y] : List Value).toArray := hv
  subst hv
  have hx := B.exec
  have hb := B.bytes
  have hr := B.returns
  have hts := atoms_spec (ws := wF_isInfiniteProduct) B.pre
  have hown : s.vm.findClass RF = some m.cls := findClass_of_methodNamed B.named
  have hlocks := B.notSynchronized
  have hl := lv_entry ([.long x, .long y]) (n := 4) (Nat.le_of_ble_eq_true rfl)
  rw [lg_entry_eq]
  generalize (lg_sl ([.long x, .long y]) ++ List.replicate (4 - (lg_sl ([.long x, .long y])).length) Slot.unset).toArray = ls at hl ⊢
  have hl : lv_has ls 4 [(0, .long x), (2, .long y)] := hl
  refine lv_lload_n hx hb dF_isInfiniteProduct_0 rfl (lv_at hl 0 rfl) ?_
  refine k_call (W.runS (As := [.long x]) (rest := []) ⟨hx, hb, hml, hown, hts⟩ (kF_isInfinite l x) (cwS 1 hts (g_call (List.forall_mem_cons.mpr ⟨m1_90, List.forall_mem_cons.mpr ⟨m1_91, List.forall_mem_cons.mpr ⟨m1_1, fun _ h => absurd h List.not_mem_nil⟩⟩⟩) m1_92) rfl rfl rfl (by decide +kernel) ⟨Nat.le_of_ble_eq_true rfl, Nat.le_of_ble_eq_true rfl⟩) preEq rfl rfl hl.1 rfl (lv_room (Nat.le_of_ble_eq_true rfl)) dF_isInfiniteProduct_1 ⟨Nat.le_of_ble_eq_true rfl, Nat.le_of_ble_eq_true rfl⟩) ?_
  have J_1 : ∀ (w_0 : Bool), w_0 = (v_F_isInfiniteProduct_1 x y) → ∀ (ls : Array Slot), lv_has ls 4 [] → WF_isInfiniteProduct p l e s m below meth c x y s.heap [] (F0 m 33 ls [.int (bI w_0)]) := by
    intro w_0 e_0
    rw [e_0]
    intro ls hl
    have e9 : (v_F_isInfiniteProduct_1 x y) = pF_isInfiniteProduct x y := (rfl).symm
    exact W.zret (v := bI (v_F_isInfiniteProduct_1 x y)) hx hb hr (nb_z _) (fun t ht hW => ⟨by rw [e9], ht⟩) (fun q h => absurd h List.not_mem_nil) dF_isInfiniteProduct_33
  refine kb_ne (tgt := 14) hx hb dF_isInfiniteProduct_4 (by decide) (fun c_1 => ?_) (fun c_1 => ?_)
  · refine lv_lload_n hx hb dF_isInfiniteProduct_14 rfl (lv_at hl 0 rfl) ?_
    refine k_call (W.runS (As := [.long x]) (rest := []) ⟨hx, hb, hml, hown, hts⟩ (kF_isZero l x) (cwS 1 hts (g_call (List.forall_mem_cons.mpr ⟨m1_93, List.forall_mem_cons.mpr ⟨m1_94, List.forall_mem_cons.mpr ⟨m1_1, fun _ h => absurd h List.not_mem_nil⟩⟩⟩) m1_95) rfl rfl rfl (by decide +kernel) ⟨Nat.le_of_ble_eq_true rfl, Nat.le_of_ble_eq_true rfl⟩) preEq rfl rfl hl.1 rfl (lv_room (Nat.le_of_ble_eq_true rfl)) dF_isInfiniteProduct_15 ⟨Nat.le_of_ble_eq_true rfl, Nat.le_of_ble_eq_true rfl⟩) ?_
    refine kb_ne (tgt := 32) hx hb dF_isInfiniteProduct_18 (by decide) (fun c_2 => ?_) (fun c_2 => ?_)
    · refine lv_iconst (v := 0) hx hb dF_isInfiniteProduct_32 (by decide) ?_
      exact J_1 false (((if_pos c_1).trans (if_pos c_2))).symm ls (lv_sub hl [] rfl)
    · refine lv_lload_n hx hb dF_isInfiniteProduct_21 rfl (lv_at hl 1 rfl) ?_
      refine k_call (W.runS (As := [.long y]) (rest := []) ⟨hx, hb, hml, hown, hts⟩ (kF_isZero l y) (cwS 1 hts (g_call (List.forall_mem_cons.mpr ⟨m1_93, List.forall_mem_cons.mpr ⟨m1_94, List.forall_mem_cons.mpr ⟨m1_1, fun _ h => absurd h List.not_mem_nil⟩⟩⟩) m1_95) rfl rfl rfl (by decide +kernel) ⟨Nat.le_of_ble_eq_true rfl, Nat.le_of_ble_eq_true rfl⟩) preEq rfl rfl hl.1 rfl (lv_room (Nat.le_of_ble_eq_true rfl)) dF_isInfiniteProduct_22 ⟨Nat.le_of_ble_eq_true rfl, Nat.le_of_ble_eq_true rfl⟩) ?_
      refine kb_ne (tgt := 32) hx hb dF_isInfiniteProduct_25 (by decide) (fun c_3 => ?_) (fun c_3 => ?_)
      · refine lv_iconst (v := 0) hx hb dF_isInfiniteProduct_32 (by decide) ?_
        exact J_1 false ((((if_pos c_1).trans (if_neg c_2)).trans (if_pos c_3))).symm ls (lv_sub hl [] rfl)
      · refine lv_iconst (v := 1) hx hb dF_isInfiniteProduct_28 (by decide) ?_
        refine lv_goto (tgt := 33) hx hb dF_isInfiniteProduct_29 (by decide) ?_
        exact J_1 true ((((if_pos c_1).trans (if_neg c_2)).trans (if_neg c_3))).symm ls (lv_sub hl [] rfl)
  · refine lv_lload_n hx hb dF_isInfiniteProduct_7 rfl (lv_at hl 1 rfl) ?_
    refine k_call (W.runS (As := [.long y]) (rest := []) ⟨hx, hb, hml, hown, hts⟩ (kF_isInfinite l y) (cwS 1 hts (g_call (List.forall_mem_cons.mpr ⟨m1_90, List.forall_mem_cons.mpr ⟨m1_91, List.forall_mem_cons.mpr ⟨m1_1, fun _ h => absurd h List.not_mem_nil⟩⟩⟩) m1_92) rfl rfl rfl (by decide +kernel) ⟨Nat.le_of_ble_eq_true rfl, Nat.le_of_ble_eq_true rfl⟩) preEq rfl rfl hl.1 rfl (lv_room (Nat.le_of_ble_eq_true rfl)) dF_isInfiniteProduct_8 ⟨Nat.le_of_ble_eq_true rfl, Nat.le_of_ble_eq_true rfl⟩) ?_
    refine kb_eq (tgt := 32) hx hb dF_isInfiniteProduct_11 (by decide) (fun c_4 => ?_) (fun c_4 => ?_)
    · refine lv_iconst (v := 0) hx hb dF_isInfiniteProduct_32 (by decide) ?_
      exact J_1 false (((if_neg c_1).trans (if_neg c_4))).symm ls (lv_sub hl [] rfl)
    · refine lv_lload_n hx hb dF_isInfiniteProduct_14 rfl (lv_at hl 0 rfl) ?_
      refine k_call (W.runS (As := [.long x]) (rest := []) ⟨hx, hb, hml, hown, hts⟩ (kF_isZero l x) (cwS 1 hts (g_call (List.forall_mem_cons.mpr ⟨m1_93, List.forall_mem_cons.mpr ⟨m1_94, List.forall_mem_cons.mpr ⟨m1_1, fun _ h => absurd h List.not_mem_nil⟩⟩⟩) m1_95) rfl rfl rfl (by decide +kernel) ⟨Nat.le_of_ble_eq_true rfl, Nat.le_of_ble_eq_true rfl⟩) preEq rfl rfl hl.1 rfl (lv_room (Nat.le_of_ble_eq_true rfl)) dF_isInfiniteProduct_15 ⟨Nat.le_of_ble_eq_true rfl, Nat.le_of_ble_eq_true rfl⟩) ?_
      refine kb_ne (tgt := 32) hx hb dF_isInfiniteProduct_18 (by decide) (fun c_5 => ?_) (fun c_5 => ?_)
      · refine lv_iconst (v := 0) hx hb dF_isInfiniteProduct_32 (by decide) ?_
        exact J_1 false ((((if_neg c_1).trans (if_pos c_4)).trans (if_pos c_5))).symm ls (lv_sub hl [] rfl)
      · refine lv_lload_n hx hb dF_isInfiniteProduct_21 rfl (lv_at hl 1 rfl) ?_
        refine k_call (W.runS (As := [.long y]) (rest := []) ⟨hx, hb, hml, hown, hts⟩ (kF_isZero l y) (cwS 1 hts (g_call (List.forall_mem_cons.mpr ⟨m1_93, List.forall_mem_cons.mpr ⟨m1_94, List.forall_mem_cons.mpr ⟨m1_1, fun _ h => absurd h List.not_mem_nil⟩⟩⟩) m1_95) rfl rfl rfl (by decide +kernel) ⟨Nat.le_of_ble_eq_true rfl, Nat.le_of_ble_eq_true rfl⟩) preEq rfl rfl hl.1 rfl (lv_room (Nat.le_of_ble_eq_true rfl)) dF_isInfiniteProduct_22 ⟨Nat.le_of_ble_eq_true rfl, Nat.le_of_ble_eq_true rfl⟩) ?_
        refine kb_ne (tgt := 32) hx hb dF_isInfiniteProduct_25 (by decide) (fun c_6 => ?_) (fun c_6 => ?_)
        · refine lv_iconst (v := 0) hx hb dF_isInfiniteProduct_32 (by decide) ?_
          exact J_1 false (((((if_neg c_1).trans (if_pos c_4)).trans (if_neg c_5)).trans (if_pos c_6))).symm ls (lv_sub hl [] rfl)
        · refine lv_iconst (v := 1) hx hb dF_isInfiniteProduct_28 (by decide) ?_
          refine lv_goto (tgt := 33) hx hb dF_isInfiniteProduct_29 (by decide) ?_
          exact J_1 true (((((if_neg c_1).trans (if_pos c_4)).trans (if_neg c_5)).trans (if_neg c_6))).symm ls (lv_sub hl [] rfl)
def pF_fieldOf (x : Int64) : Int32 := ((jlush x (52 : Int32)) &&& (2047 : Int64)).toInt32
/-- F_fieldOf -/
abbrev WF_fieldOf (p : Program) (l : Launch) (e : Env) (s : State) (m : MethodId) (below : List Frame) (meth : Method) (c : Code) (x : Int64) (H : Heap) (locs : List Loc) (g : JFrame) : Prop := W p l e (headSpec wF_fieldOf ({ frames := 0, cells := 0, slots := 0, locals := 0 })).room s m ([.long x] : List Value).toArray below meth c H locs 0 0 (MQ below (QR (.int (pF_fieldOf x))) ([.long x] : List Value).toArray s 0 0 (fun _ => False)) g
set_option maxHeartbeats 4000000 in
set_option maxRecDepth 100000 in
theorem kF_fieldOf (l : Launch) (x : Int64) : Met l yF_fieldOf wF_fieldOf ({ frames := 0, cells := 0, slots := 0, locals := 0 }) (fun v _ => v = ([.long x] : List Value).toArray) (QR (.int (pF_fieldOf x))) 0 0 (fun _ => False) := by
  refine Met.ofW (cc := cF_fieldOf) (maxL := 2) (ret := (some .int)) (by decide) rfl ?_
  intro p e s m args below meth c s₁ B hml hv
  have hv : args = ([.long x] : List Value).toArray := hv
  subst hv
  have hx := B.exec
  have hb := B.bytes
  have hr := B.returns
  have hts := atoms_spec (ws := wF_fieldOf) B.pre
  have hown : s.vm.findClass RF = some m.cls := findClass_of_methodNamed B.named
  have hlocks := B.notSynchronized
  have hl := lv_entry ([.long x]) (n := 2) (Nat.le_of_ble_eq_true rfl)
  rw [lg_entry_eq]
  generalize (lg_sl ([.long x]) ++ List.replicate (2 - (lg_sl ([.long x])).length) Slot.unset).toArray = ls at hl ⊢
  have hl : lv_has ls 2 [(0, .long x)] := hl
  refine lv_lload_n hx hb dF_fieldOf_0 rfl (lv_at hl 0 rfl) ?_
  refine lv_bipush (v := 52) hx hb dF_fieldOf_1 (by decide) ?_
  refine lv_lushr (v := jlush x (52 : Int32)) hx hb dF_fieldOf_3 rfl ?_
  refine lv_ldc2 (v := 2047) hx hb hown (hts _ (List.mem_cons_of_mem _ m1_117)) dF_fieldOf_4 ?_
  refine lv_land hx hb dF_fieldOf_7 ?_
  refine lv_l2i (v := ((jlush x (52 : Int32)) &&& (2047 : Int64)).toInt32) hx hb dF_fieldOf_8 rfl ?_
  have e9 : ((jlush x (52 : Int32)) &&& (2047 : Int64)).toInt32 = pF_fieldOf x := (rfl).symm
  exact W.iret (v := ((jlush x (52 : Int32)) &&& (2047 : Int64)).toInt32) hx hb hr (fun t ht hW => ⟨by rw [e9], ht⟩) (fun q h => absurd h List.not_mem_nil) dF_fieldOf_9
def v_F_significandOf_1 (x : Int64) : Int64 := (if (pF_fieldOf x) = 0 then x &&& (4503599627370495 : Int64) else (x &&& (4503599627370495 : Int64)) ||| (4503599627370496 : Int64))
def pF_significandOf (x : Int64) : Int64 := (v_F_significandOf_1 x)
/-- F_significandOf -/
abbrev WF_significandOf (p : Program) (l : Launch) (e : Env) (s : State) (m : MethodId) (below : List Frame) (meth : Method) (c : Code) (x : Int64) (H : Heap) (locs : List Loc) (g : JFrame) : Prop := W p l e (headSpec wF_significandOf ({ frames := 1, cells := 0, slots := 0, locals := 21 })).room s m ([.long x] : List Value).toArray below meth c H locs 0 0 (MQ below (QR (.long (pF_significandOf x))) ([.long x] : List Value).toArray s 0 0 (fun _ => False)) g
set_option maxHeartbeats 4000000 in
set_option maxRecDepth 100000 in
theorem kF_significandOf (l : Launch) (x : Int64) : Met l yF_significandOf wF_significandOf ({ frames := 1, cells := 0, slots := 0, locals := 21 }) (fun v _ => v = ([.long x] : List Value).toArray) (QR (.long (pF_significandOf x))) 0 0 (fun _ => False) := by
  refine Met.ofW (cc := cF_significandOf) (maxL := 2) (ret := (some .long)) (by decide) rfl ?_
  intro p e s m args below meth c s₁ B hml hv
  have hv : args = ([.long x] : List Value).toArray := hv
  subst hv
  have hx := B.exec
  have hb := B.bytes
  have hr := B.returns
  have hts := atoms_spec (ws := wF_significandOf) B.pre
  have hown : s.vm.findClass RF = some m.cls := findClass_of_methodNamed B.named
  have hlocks := B.notSynchronized
  have hl := lv_entry ([.long x]) (n := 2) (Nat.le_of_ble_eq_true rfl)
  rw [lg_entry_eq]
  generalize (lg_sl ([.long x]) ++ List.replicate (2 - (lg_sl ([.long x])).length) Slot.unset).toArray = ls at hl ⊢
  have hl : lv_has ls 2 [(0, .long x)] := hl
  refine lv_lload_n hx hb dF_significandOf_0 rfl (lv_at hl 0 rfl) ?_
  refine k_call (W.runS (As := [.long x]) (rest := []) ⟨hx, hb, hml, hown, hts⟩ (kF_fieldOf l x) (cwS 1 hts (g_call (List.forall_mem_cons.mpr ⟨m1_114, List.forall_mem_cons.mpr ⟨m1_115, List.forall_mem_cons.mpr ⟨m1_1, fun _ h => absurd h List.not_mem_nil⟩⟩⟩) m1_116) rfl rfl rfl (by decide +kernel) ⟨Nat.le_of_ble_eq_true rfl, Nat.le_of_ble_eq_true rfl⟩) preEq rfl rfl hl.1 rfl (lv_room (Nat.le_of_ble_eq_true rfl)) dF_significandOf_1 ⟨Nat.le_of_ble_eq_true rfl, Nat.le_of_ble_eq_true rfl⟩) ?_
  have J_1 : ∀ (w_0 : Int64), w_0 = (v_F_significandOf_1 x) → ∀ (ls : Array Slot), lv_has ls 2 [] → WF_significandOf p l e s m below meth c x s.heap [] (F0 m 24 ls [.long w_0]) := by
    intro w_0 e_0
    rw [e_0]
    intro ls hl
    have e9 : (v_F_significandOf_1 x) = pF_significandOf x := (rfl).symm
    exact W.lret (v := (v_F_significandOf_1 x)) hx hb hr (fun t ht hW => ⟨by rw [e9], ht⟩) (fun q h => absurd h List.not_mem_nil) dF_significandOf_24
  refine lv_if_ne (tgt := 15) hx hb dF_significandOf_4 (by decide) (fun c_1 => ?_) (fun c_1 => ?_)
  · refine lv_lload_n hx hb dF_significandOf_15 rfl (lv_at hl 0 rfl) ?_
    refine lv_ldc2 (v := 4503599627370495) hx hb hown (hts _ (List.mem_cons_of_mem _ m1_118)) dF_significandOf_16 ?_
    refine lv_land hx hb dF_significandOf_19 ?_
    refine lv_ldc2 (v := 4503599627370496) hx hb hown (hts _ (List.mem_cons_of_mem _ m1_119)) dF_significandOf_20 ?_
    refine lv_lor hx hb dF_significandOf_23 ?_
    exact J_1 ((x &&& (4503599627370495 : Int64)) ||| (4503599627370496 : Int64)) ((if_neg c_1)).symm ls (lv_sub hl [] rfl)
  · refine lv_lload_n hx hb dF_significandOf_7 rfl (lv_at hl 0 rfl) ?_
    refine lv_ldc2 (v := 4503599627370495) hx hb hown (hts _ (List.mem_cons_of_mem _ m1_118)) dF_significandOf_8 ?_
    refine lv_land hx hb dF_significandOf_11 ?_
    refine lv_goto (tgt := 24) hx hb dF_significandOf_12 (by decide) ?_
    exact J_1 (x &&& (4503599627370495 : Int64)) ((if_pos c_1)).symm ls (lv_sub hl [] rfl)
def v_F_exponentOf_1 (x : Int64) : Int32 := pF_fieldOf x
def v_F_exponentOf_2 (x : Int64) : Int32 := (if (v_F_exponentOf_1 x) = 0 then (-1074 : Int32) else ((v_F_exponentOf_1 x) - (1 : Int32)) + (-1074 : Int32))
def pF_exponentOf (x : Int64) : Int32 := (v_F_exponentOf_2 x)
/-- F_exponentOf -/
abbrev WF_exponentOf (p : Program) (l : Launch) (e : Env) (s : State) (m : MethodId) (below : List Frame) (meth : Method) (c : Code) (x : Int64) (H : Heap) (locs : List Loc) (g : JFrame) : Prop := W p l e (headSpec wF_exponentOf ({ frames := 1, cells := 0, slots := 0, locals := 21 })).room s m ([.long x] : List Value).toArray below meth c H locs 0 0 (MQ below (QR (.int (pF_exponentOf x))) ([.long x] : List Value).toArray s 0 0 (fun _ => False)) g
set_option maxHeartbeats 4000000 in
set_option maxRecDepth 100000 in
theorem kF_exponentOf (l : Launch) (x : Int64) : Met l yF_exponentOf wF_exponentOf ({ frames := 1, cells := 0, slots := 0, locals := 21 }) (fun v _ => v = ([.long x] : List Value).toArray) (QR (.int (pF_exponentOf x))) 0 0 (fun _ => False) := by
  refine Met.ofW (cc := cF_exponentOf) (maxL := 3) (ret := (some .int)) (by decide) rfl ?_
  intro p e s m args below meth c s₁ B hml hv
  have hv : args = ([.long x] : List Value).toArray := hv
  subst hv
  have hx := B.exec
  have hb := B.bytes
  have hr := B.returns
  have hts := atoms_spec (ws := wF_exponentOf) B.pre
  have hown : s.vm.findClass RF = some m.cls := findClass_of_methodNamed B.named
  have hlocks := B.notSynchronized
  have hl := lv_entry ([.long x]) (n := 3) (Nat.le_of_ble_eq_true rfl)
  rw [lg_entry_eq]
  generalize (lg_sl ([.long x]) ++ List.replicate (3 - (lg_sl ([.long x])).length) Slot.unset).toArray = ls at hl ⊢
  have hl : lv_has ls 3 [(0, .long x)] := hl
  refine lv_lload_n hx hb dF_exponentOf_0 rfl (lv_at hl 0 rfl) ?_
  refine k_call (W.runS (As := [.long x]) (rest := []) ⟨hx, hb, hml, hown, hts⟩ (kF_fieldOf l x) (cwS 1 hts (g_call (List.forall_mem_cons.mpr ⟨m1_114, List.forall_mem_cons.mpr ⟨m1_115, List.forall_mem_cons.mpr ⟨m1_1, fun _ h => absurd h List.not_mem_nil⟩⟩⟩) m1_116) rfl rfl rfl (by decide +kernel) ⟨Nat.le_of_ble_eq_true rfl, Nat.le_of_ble_eq_true rfl⟩) preEq rfl rfl hl.1 rfl (lv_room (Nat.le_of_ble_eq_true rfl)) dF_exponentOf_1 ⟨Nat.le_of_ble_eq_true rfl, Nat.le_of_ble_eq_true rfl⟩) ?_
  refine lv_topi (fun w9 e9 => ?_)
  have e9 : w9 = (v_F_exponentOf_1 x) := e9
  rw [e9]
  refine lv_istore_n (lv' := [(2, .int (v_F_exponentOf_1 x)), (0, .long x)]) hx hb dF_exponentOf_4 rfl hl (by decide) rfl (fun ls hl => ?_)
  refine lv_iload_n hx hb dF_exponentOf_5 rfl (lv_at hl 0 rfl) ?_
  have J_1 : ∀ (w_0 : Int32), w_0 = (v_F_exponentOf_2 x) → ∀ (ls : Array Slot), lv_has ls 3 [] → WF_exponentOf p l e s m below meth c x s.heap [] (F0 m 22 ls [.int w_0]) := by
    intro w_0 e_0
    rw [e_0]
    intro ls hl
    have e9 : (v_F_exponentOf_2 x) = pF_exponentOf x := (rfl).symm
    exact W.iret (v := (v_F_exponentOf_2 x)) hx hb hr (fun t ht hW => ⟨by rw [e9], ht⟩) (fun q h => absurd h List.not_mem_nil) dF_exponentOf_22
  refine lv_if_ne (tgt := 15) hx hb dF_exponentOf_6 (by decide) (fun c_1 => ?_) (fun c_1 => ?_)
  · refine lv_iload_n hx hb dF_exponentOf_15 rfl (lv_at hl 0 rfl) ?_
    refine lv_iconst (v := 1) hx hb dF_exponentOf_16 (by decide) ?_
    refine lv_isub hx hb dF_exponentOf_17 ?_
    refine lv_sipush (v := -1074) hx hb dF_exponentOf_18 (by decide) ?_
    refine lv_iadd hx hb dF_exponentOf_21 ?_
    exact J_1 (((v_F_exponentOf_1 x) - (1 : Int32)) + (-1074 : Int32)) ((if_neg c_1)).symm ls (lv_sub hl [] rfl)
  · refine lv_sipush (v := -1074) hx hb dF_exponentOf_9 (by decide) ?_
    refine lv_goto (tgt := 22) hx hb dF_exponentOf_12 (by decide) ?_
    exact J_1 (-1074 : Int32) ((if_pos c_1)).symm ls (lv_sub hl [] rfl)
def pF_lengthOf (b : Int64) : Int32 := (64 : Int32) - (pJ_numberOfLeadingZeros b)
/-- F_lengthOf -/
abbrev WF_lengthOf (p : Program) (l : Launch) (e : Env) (s : State) (m : MethodId) (below : List Frame) (meth : Method) (c : Code) (b : Int64) (H : Heap) (locs : List Loc) (g : JFrame) : Prop := W p l e (headSpec wF_lengthOf ({ frames := 2, cells := 0, slots := 0, locals := 43 })).room s m ([.long b] : List Value).toArray below meth c H locs 0 0 (MQ below (QR (.int (pF_lengthOf b))) ([.long b] : List Value).toArray s 0 0 (fun _ => False)) g
set_option maxHeartbeats 4000000 in
set_option maxRecDepth 100000 in
theorem kF_lengthOf (l : Launch) (b : Int64) : Met l yF_lengthOf wF_lengthOf ({ frames := 2, cells := 0, slots := 0, locals := 43 }) (fun v _ => v = ([.long b] : List Value).toArray) (QR (.int (pF_lengthOf b))) 0 0 (fun _ => False) := by
  refine Met.ofW (cc := cF_lengthOf) (maxL := 2) (ret := (some .int)) (by decide) rfl ?_
  intro p e s m args below meth c s₁ B hml hv
  have hv : args = ([.long b] : List Value).toArray := hv
  subst hv
  have hx := B.exec
  have hb := B.bytes
  have hr := B.returns
  have hts := atoms_spec (ws := wF_lengthOf) B.pre
  have hown : s.vm.findClass RF = some m.cls := findClass_of_methodNamed B.named
  have hlocks := B.notSynchronized
  have hl := lv_entry ([.long b]) (n := 2) (Nat.le_of_ble_eq_true rfl)
  rw [lg_entry_eq]
  generalize (lg_sl ([.long b]) ++ List.replicate (2 - (lg_sl ([.long b])).length) Slot.unset).toArray = ls at hl ⊢
  have hl : lv_has ls 2 [(0, .long b)] := hl
  refine lv_bipush (v := 64) hx hb dF_lengthOf_0 (by decide) ?_
  refine lv_lload_n hx hb dF_lengthOf_2 rfl (lv_at hl 0 rfl) ?_
  refine k_call (W.runS (As := [.long b]) (rest := [.int (64 : Int32)]) ⟨hx, hb, hml, hown, hts⟩ (kJ_numberOfLeadingZeros l b) (va_cwS 1 hts (g_call (List.forall_mem_cons.mpr ⟨m1_143, List.forall_mem_cons.mpr ⟨m1_144, List.forall_mem_cons.mpr ⟨m1_7, fun _ h => absurd h List.not_mem_nil⟩⟩⟩) m1_145) rfl rfl rfl (by decide +kernel) ⟨Nat.le_of_ble_eq_true rfl, Nat.le_of_ble_eq_true rfl⟩) preEq rfl rfl hl.1 rfl (lv_room (Nat.le_of_ble_eq_true rfl)) dF_lengthOf_3 ⟨Nat.le_of_ble_eq_true rfl, Nat.le_of_ble_eq_true rfl⟩) ?_
  refine lv_isub hx hb dF_lengthOf_6 ?_
  have e9 : (64 : Int32) - (pJ_numberOfLeadingZeros b) = pF_lengthOf b := (rfl).symm
  exact W.iret (v := (64 : Int32) - (pJ_numberOfLeadingZeros b)) hx hb hr (fun t ht hW => ⟨by rw [e9], ht⟩) (fun q h => absurd h List.not_mem_nil) dF_lengthOf_7
def pF_slackOf (x : Int64) : Int32 := (53 : Int32) - (pF_lengthOf (pF_significandOf x))
/-- F_slackOf -/
abbrev WF_slackOf (p : Program) (l : Launch) (e : Env) (s : State) (m : MethodId) (below : List Frame) (meth : Method) (c : Code) (x : Int64) (H : Heap) (locs : List Loc) (g : JFrame) : Prop := W p l e (headSpec wF_slackOf ({ frames := 3, cells := 0, slots := 0, locals := 64 })).room s m ([.long x] : List Value).toArray below meth c H locs 0 0 (MQ below (QR (.int (pF_slackOf x))) ([.long x] : List Value).toArray s 0 0 (fun _ => False)) g
set_option maxHeartbeats 4000000 in
set_option maxRecDepth 100000 in
theorem kF_slackOf (l : Launch) (x : Int64) : Met l yF_slackOf wF_slackOf ({ frames := 3, cells := 0, slots := 0, locals := 64 }) (fun v _ => v = ([.long x] : List Value).toArray) (QR (.int (pF_slackOf x))) 0 0 (fun _ => False) := by
  refine Met.ofW (cc := cF_slackOf) (maxL := 2) (ret := (some .int)) (by decide) rfl ?_
  intro p e s m args below meth c s₁ B hml hv
  have hv : args = ([.long x] : List Value).toArray := hv
  subst hv
  have hx := B.exec
  have hb := B.bytes
  have hr := B.returns
  have hts := atoms_spec (ws := wF_slackOf) B.pre
  have hown : s.vm.findClass RF = some m.cls := findClass_of_methodNamed B.named
  have hlocks := B.notSynchronized
  have hl := lv_entry ([.long x]) (n := 2) (Nat.le_of_ble_eq_true rfl)
  rw [lg_entry_eq]
  generalize (lg_sl ([.long x]) ++ List.replicate (2 - (lg_sl ([.long x])).length) Slot.unset).toArray = ls at hl ⊢
  have hl : lv_has ls 2 [(0, .long x)] := hl
  refine lv_bipush (v := 53) hx hb dF_slackOf_0 (by decide) ?_
  refine lv_lload_n hx hb dF_slackOf_2 rfl (lv_at hl 0 rfl) ?_
  refine k_call (W.runS (As := [.long x]) (rest := [.int (53 : Int32)]) ⟨hx, hb, hml, hown, hts⟩ (kF_significandOf l x) (cwS 1 hts (g_call (List.forall_mem_cons.mpr ⟨m1_199, List.forall_mem_cons.mpr ⟨m1_112, List.forall_mem_cons.mpr ⟨m1_1, fun _ h => absurd h List.not_mem_nil⟩⟩⟩) m1_113) rfl rfl rfl (by decide +kernel) ⟨Nat.le_of_ble_eq_true rfl, Nat.le_of_ble_eq_true rfl⟩) preEq rfl rfl hl.1 rfl (lv_room (Nat.le_of_ble_eq_true rfl)) dF_slackOf_3 ⟨Nat.le_of_ble_eq_true rfl, Nat.le_of_ble_eq_true rfl⟩) ?_
  refine k_call (W.runS (As := [.long (pF_significandOf x)]) (rest := [.int (53 : Int32)]) ⟨hx, hb, hml, hown, hts⟩ (kF_lengthOf l (pF_significandOf x)) (cwS 1 hts (g_call (List.forall_mem_cons.mpr ⟨m1_174, List.forall_mem_cons.mpr ⟨m1_141, List.forall_mem_cons.mpr ⟨m1_1, fun _ h => absurd h List.not_mem_nil⟩⟩⟩) m1_142) rfl rfl rfl (by decide +kernel) ⟨Nat.le_of_ble_eq_true rfl, Nat.le_of_ble_eq_true rfl⟩) preEq rfl rfl hl.1 rfl (lv_room (Nat.le_of_ble_eq_true rfl)) dF_slackOf_6 ⟨Nat.le_of_ble_eq_true rfl, Nat.le_of_ble_eq_true rfl⟩) ?_
  refine lv_isub hx hb dF_slackOf_9 ?_
  have e9 : (53 : Int32) - (pF_lengthOf (pF_significandOf x)) = pF_slackOf x := (rfl).symm
  exact W.iret (v := (53 : Int32) - (pF_lengthOf (pF_significandOf x))) hx hb hr (fun t ht hW => ⟨by rw [e9], ht⟩) (fun q h => absurd h List.not_mem_nil) dF_slackOf_10
def v_F_withSign_1 (mg : Int64) (ng : Bool) : Int64 := (if ng = true then mg ||| (-9223372036854775808 : Int64) else mg)
def pF_withSign (mg : Int64) (ng : Bool) : Int64 := (v_F_withSign_1 mg ng)
/-- F_withSign -/
abbrev WF_withSign (p : Program) (l : Launch) (e : Env) (s : State) (m : MethodId) (below : List Frame) (meth : Method) (c : Code) (mg : Int64) (ng : Bool) (H : Heap) (locs : List Loc) (g : JFrame) : Prop := W p l e (headSpec wF_withSign ({ frames := 0, cells := 0, slots := 0, locals := 0 })).room s m ([.long mg, .int (bI ng)] : List Value).toArray below meth c H locs 0 0 (MQ below (QR (.long (pF_withSign mg ng))) ([.long mg, .int (bI ng)] : List Value).toArray s 0 0 (fun _ => False)) g
set_option maxHeartbeats 4000000 in
set_option maxRecDepth 100000 in
theorem kF_withSign (l : Launch) (mg : Int64) (ng : Bool) : Met l yF_withSign wF_withSign ({ frames := 0, cells := 0, slots := 0, locals := 0 }) (fun v _ => v = ([.long mg, .int (bI ng)] : List Value).toArray) (QR (.long (pF_withSign mg ng))) 0 0 (fun _ => False) := by
  refine Met.ofW (cc := cF_withSign) (maxL := 3) (ret := (some .long)) (by decide) rfl ?_
  intro p e s m args below meth c s₁ B hml hv
  have hv : args = ([.long mg, .int (bI ng)] : List Value).toArray := hv
  subst hv
  have hx := B.exec
  have hb := B.bytes
  have hr := B.returns
  have hts := atoms_spec (ws := wF_withSign) B.pre
  have hown : s.vm.findClass RF = some m.cls := findClass_of_methodNamed B.named
  have hlocks := B.notSynchronized
  have hl := lv_entry ([.long mg, .int (bI ng)]) (n := 3) (Nat.le_of_ble_eq_true rfl)
  rw [lg_entry_eq]
  generalize (lg_sl ([.long mg, .int (bI ng)]) ++ List.replicate (3 - (lg_sl ([.long mg, .int (bI ng)])).length) Slot.unset).toArray = ls at hl ⊢
  have hl : lv_has ls 3 [(0, .long mg), (2, .int (bI ng))] := hl
  refine lv_iload_n hx hb dF_withSign_0 rfl (lv_at hl 1 rfl) ?_
  have J_1 : ∀ (w_0 : Int64), w_0 = (v_F_withSign_1 mg ng) → ∀ (ls : Array Slot), lv_has ls 3 [] → WF_withSign p l e s m below meth c mg ng s.heap [] (F0 m 13 ls [.long w_0]) := by
    intro w_0 e_0
    rw [e_0]
    intro ls hl
    have e9 : (v_F_withSign_1 mg ng) = pF_withSign mg ng := (rfl).symm
    exact W.lret (v := (v_F_withSign_1 mg ng)) hx hb hr (fun t ht hW => ⟨by rw [e9], ht⟩) (fun q h => absurd h List.not_mem_nil) dF_withSign_13
  refine kb_eq (tgt := 12) hx hb dF_withSign_1 (by decide) (fun c_1 => ?_) (fun c_1 => ?_)
  · refine lv_lload_n hx hb dF_withSign_12 rfl (lv_at hl 0 rfl) ?_
    exact J_1 mg ((if_neg c_1)).symm ls (lv_sub hl [] rfl)
  · refine lv_lload_n hx hb dF_withSign_4 rfl (lv_at hl 0 rfl) ?_
    refine lv_ldc2 (v := -9223372036854775808) hx hb hown (hts _ (List.mem_cons_of_mem _ m1_99)) dF_withSign_5 ?_
    refine lv_lor hx hb dF_withSign_8 ?_
    refine lv_goto (tgt := 13) hx hb dF_withSign_9 (by decide) ?_
    exact J_1 (mg ||| (-9223372036854775808 : Int64)) ((if_pos c_1)).symm ls (lv_sub hl [] rfl)
def v_F_rank_1 (x : Int64) : Int64 := (if (0 : Int64) ≤ x then x else (-(x &&& (9223372036854775807 : Int64))))
def pF_rank (x : Int64) : Int64 := (v_F_rank_1 x)
/-- F_rank -/
abbrev WF_rank (p : Program) (l : Launch) (e : Env) (s : State) (m : MethodId) (below : List Frame) (meth : Method) (c : Code) (x : Int64) (H : Heap) (locs : List Loc) (g : JFrame) : Prop := W p l e (headSpec wF_rank ({ frames := 0, cells := 0, slots := 0, locals := 0 })).room s m ([.long x] : List Value).toArray below meth c H locs 0 0 (MQ below (QR (.long (pF_rank x))) ([.long x] : List Value).toArray s 0 0 (fun _ => False)) g
set_option maxHeartbeats 4000000 in
set_option maxRecDepth 100000 in
theorem kF_rank (l : Launch) (x : Int64) : Met l yF_rank wF_rank ({ frames := 0, cells := 0, slots := 0, locals := 0 }) (fun v _ => v = ([.long x] : List Value).toArray) (QR (.long (pF_rank x))) 0 0 (fun _ => False) := by
  refine Met.ofW (cc := cF_rank) (maxL := 2) (ret := (some .long)) (by decide) rfl ?_
  intro p e s m args below meth c s₁ B hml hv
  have hv : args = ([.long x] : List Value).toArray := hv
  subst hv
  have hx := B.exec
  have hb := B.bytes
  have hr := B.returns
  have hts := atoms_spec (ws := wF_rank) B.pre
  have hown : s.vm.findClass RF = some m.cls := findClass_of_methodNamed B.named
  have hlocks := B.notSynchronized
  have hl := lv_entry ([.long x]) (n := 2) (Nat.le_of_ble_eq_true rfl)
  rw [lg_entry_eq]
  generalize (lg_sl ([.long x]) ++ List.replicate (2 - (lg_sl ([.long x])).length) Slot.unset).toArray = ls at hl ⊢
  have hl : lv_has ls 2 [(0, .long x)] := hl
  refine lv_lload_n hx hb dF_rank_0 rfl (lv_at hl 0 rfl) ?_
  refine lv_lconst (v := 0) hx hb dF_rank_1 (by decide) ?_
  refine W.lcmp hx hb dF_rank_2 ?_
  have J_1 : ∀ (w_0 : Int64), w_0 = (v_F_rank_1 x) → ∀ (ls : Array Slot), lv_has ls 2 [] → WF_rank p l e s m below meth c x s.heap [] (F0 m 16 ls [.long w_0]) := by
    intro w_0 e_0
    rw [e_0]
    intro ls hl
    have e9 : (v_F_rank_1 x) = pF_rank x := (rfl).symm
    exact W.lret (v := (v_F_rank_1 x)) hx hb hr (fun t ht hW => ⟨by rw [e9], ht⟩) (fun q h => absurd h List.not_mem_nil) dF_rank_16
  refine lv_if_ge (tgt := 15) hx hb dF_rank_3 (by decide) (fun c_1 => ?_) (fun c_1 => ?_)
  · have c_1 : (0 : Int64) ≤ x := (lg_cmp_ge _ _).mp c_1
    refine lv_lload_n hx hb dF_rank_15 rfl (lv_at hl 0 rfl) ?_
    exact J_1 x ((if_pos c_1)).symm ls (lv_sub hl [] rfl)
  · have c_1 : ¬ ((0 : Int64) ≤ x) := fun h => c_1 ((lg_cmp_ge _ _).mpr h)
    refine lv_lload_n hx hb dF_rank_6 rfl (lv_at hl 0 rfl) ?_
    refine lv_ldc2 (v := 9223372036854775807) hx hb hown (hts _ (List.mem_cons_of_mem _ m1_84)) dF_rank_7 ?_
    refine lv_land hx hb dF_rank_10 ?_
    refine lv_lneg hx hb dF_rank_11 ?_
    refine lv_goto (tgt := 16) hx hb dF_rank_12 (by decide) ?_
    exact J_1 (-(x &&& (9223372036854775807 : Int64))) ((if_neg c_1)).symm ls (lv_sub hl [] rfl)
def v_F_direction_1 (up : Bool) : Bool := (if up = true then false else true)
def pF_direction (up : Bool) : Int32 := (bI (v_F_direction_1 up))
/-- F_direction -/
abbrev WF_direction (p : Program) (l : Launch) (e : Env) (s : State) (m : MethodId) (below : List Frame) (meth : Method) (c : Code) (up : Bool) (H : Heap) (locs : List Loc) (g : JFrame) : Prop := W p l e (headSpec wF_direction ({ frames := 0, cells := 0, slots := 0, locals := 0 })).room s m ([.int (bI up)] : List Value).toArray below meth c H locs 0 0 (MQ below (QR (.int (pF_direction up))) ([.int (bI up)] : List Value).toArray s 0 0 (fun _ => False)) g
set_option maxHeartbeats 4000000 in
set_option maxRecDepth 100000 in
theorem kF_direction (l : Launch) (up : Bool) : Met l yF_direction wF_direction ({ frames := 0, cells := 0, slots := 0, locals := 0 }) (fun v _ => v = ([.int (bI up)] : List Value).toArray) (QR (.int (pF_direction up))) 0 0 (fun _ => False) := by
  refine Met.ofW (cc := cF_direction) (maxL := 1) (ret := (some .int)) (by decide) rfl ?_
  intro p e s m args below meth c s₁ B hml hv
  have hv : args = ([.int (bI up)] : List Value).toArray := hv
  subst hv
  have hx := B.exec
  have hb := B.bytes
  have hr := B.returns
  have hts := atoms_spec (ws := wF_direction) B.pre
  have hown : s.vm.findClass RF = some m.cls := findClass_of_methodNamed B.named
  have hlocks := B.notSynchronized
  have hl := lv_entry ([.int (bI up)]) (n := 1) (Nat.le_of_ble_eq_true rfl)
  rw [lg_entry_eq]
  generalize (lg_sl ([.int (bI up)]) ++ List.replicate (1 - (lg_sl ([.int (bI up)])).length) Slot.unset).toArray = ls at hl ⊢
  have hl : lv_has ls 1 [(0, .int (bI up))] := hl
  refine lv_iload_n hx hb dF_direction_0 rfl (lv_at hl 0 rfl) ?_
  have J_1 : ∀ (w_0 : Bool), w_0 = (v_F_direction_1 up) → ∀ (ls : Array Slot), lv_has ls 1 [] → WF_direction p l e s m below meth c up s.heap [] (F0 m 9 ls [.int (bI w_0)]) := by
    intro w_0 e_0
    rw [e_0]
    intro ls hl
    have e9 : (bI (v_F_direction_1 up)) = pF_direction up := (rfl).symm
    exact W.iret (v := (bI (v_F_direction_1 up))) hx hb hr (fun t ht hW => ⟨by rw [e9], ht⟩) (fun q h => absurd h List.not_mem_nil) dF_direction_9
  refine kb_eq (tgt := 8) hx hb dF_direction_1 (by decide) (fun c_1 => ?_) (fun c_1 => ?_)
  · refine lv_iconst (v := 1) hx hb dF_direction_8 (by decide) ?_
    exact J_1 true ((if_neg c_1)).symm ls (lv_sub hl [] rfl)
  · refine lv_iconst (v := 0) hx hb dF_direction_4 (by decide) ?_
    refine lv_goto (tgt := 9) hx hb dF_direction_5 (by decide) ?_
    exact J_1 false ((if_pos c_1)).symm ls (lv_sub hl [] rfl)
def v_F_pastGreatest_1 (ng : Bool) (how : Int32) : Bool := (if ng = true then false else true)
def v_F_pastGreatest_2 (ng : Bool) (how : Int32) : Bool := (if how = (2 : Int32) then true else (if how = (bI (v_F_pastGreatest_1 ng how)) then true else false))
def v_F_pastGreatest_3 (ng : Bool) (how : Int32) : Int64 := (if (v_F_pastGreatest_2 ng how) = true then (9218868437227405311 : Int64) else (9218868437227405312 : Int64))
def pF_pastGreatest (ng : Bool) (how : Int32) : Int64 := (v_F_pastGreatest_3 ng how)
/-- F_pastGreatest -/
abbrev WF_pastGreatest (p : Program) (l : Launch) (e : Env) (s : State) (m : MethodId) (below : List Frame) (meth : Method) (c : Code) (ng : Bool) (how : Int32) (H : Heap) (locs : List Loc) (g : JFrame) : Prop := W p l e (headSpec wF_pastGreatest ({ frames := 0, cells := 0, slots := 0, locals := 0 })).room s m ([.int (bI ng), .int how] : List Value).toArray below meth c H locs 0 0 (MQ below (QR (.long (pF_pastGreatest ng how))) ([.int (bI ng), .int how] : List Value).toArray s 0 0 (fun _ => False)) g
set_option maxHeartbeats 4000000 in
set_option maxRecDepth 100000 in
theorem kF_pastGreatest (l : Launch) (ng : Bool) (how : Int32) : Met l yF_pastGreatest wF_pastGreatest ({ frames := 0, cells := 0, slots := 0, locals := 0 }) (fun v _ => v = ([.int (bI ng), .int how] : List Value).toArray) (QR (.long (pF_pastGreatest ng how))) 0 0 (fun _ => False) := by
  refine Met.ofW (cc := cF_pastGreatest) (maxL := 3) (ret := (some .long)) (by decide) rfl ?_
  intro p e s m args below meth c s₁ B hml hv
  have hv : args = ([.int (bI ng), .int how] : List Value).toArray := hv
  subst hv
  have hx := B.exec
  have hb := B.bytes
  have hr := B.returns
  have hts := atoms_spec (ws := wF_pastGreatest) B.pre
  have hown : s.vm.findClass RF = some m.cls := findClass_of_methodNamed B.named
  have hlocks := B.notSynchronized
  have hl := lv_entry ([.int (bI ng), .int how]) (n := 3) (Nat.le_of_ble_eq_true rfl)
  rw [lg_entry_eq]
  generalize (lg_sl ([.int (bI ng), .int how]) ++ List.replicate (3 - (lg_sl ([.int (bI ng), .int how])).length) Slot.unset).toArray = ls at hl ⊢
  have hl : lv_has ls 3 [(0, .int (bI ng)), (1, .int how)] := hl
  refine lv_iload_n hx hb dF_pastGreatest_0 rfl (lv_at hl 1 rfl) ?_
  refine lv_iconst (v := 2) hx hb dF_pastGreatest_1 (by decide) ?_
  have J_2 : ∀ (w_0 : Bool), w_0 = (v_F_pastGreatest_2 ng how) → ∀ (ls : Array Slot), lv_has ls 3 [] → WF_pastGreatest p l e s m below meth c ng how s.heap [] (F0 m 23 ls [.int (bI w_0)]) := by
    intro w_0 e_0
    rw [e_0]
    intro ls hl
    refine lv_istore_n (lv' := [(2, .int (bI (v_F_pastGreatest_2 ng how)))]) hx hb dF_pastGreatest_23 rfl hl (by decide) rfl (fun ls hl => ?_)
    refine lv_iload_n hx hb dF_pastGreatest_24 rfl (lv_at hl 0 rfl) ?_
    have J_3 : ∀ (w_0 : Int64), w_0 = (v_F_pastGreatest_3 ng how) → ∀ (ls : Array Slot), lv_has ls 3 [] → WF_pastGreatest p l e s m below meth c ng how s.heap [] (F0 m 37 ls [.long w_0]) := by
      intro w_0 e_0
      rw [e_0]
      intro ls hl
      have e9 : (v_F_pastGreatest_3 ng how) = pF_pastGreatest ng how := (rfl).symm
      exact W.lret (v := (v_F_pastGreatest_3 ng how)) hx hb hr (fun t ht hW => ⟨by rw [e9], ht⟩) (fun q h => absurd h List.not_mem_nil) dF_pastGreatest_37
    refine kb_eq (tgt := 34) hx hb dF_pastGreatest_25 (by decide) (fun c_4 => ?_) (fun c_4 => ?_)
    · refine lv_ldc2 (v := 9218868437227405312) hx hb hown (hts _ (List.mem_cons_of_mem _ m1_85)) dF_pastGreatest_34 ?_
      exact J_3 (9218868437227405312 : Int64) ((if_neg c_4)).symm ls (lv_sub hl [] rfl)
    · refine lv_ldc2 (v := 9218868437227405311) hx hb hown (hts _ (List.mem_cons_of_mem _ m1_181)) dF_pastGreatest_28 ?_
      refine lv_goto (tgt := 37) hx hb dF_pastGreatest_31 (by decide) ?_
      exact J_3 (9218868437227405311 : Int64) ((if_pos c_4)).symm ls (lv_sub hl [] rfl)
  refine lv_icmp_eq (tgt := 18) hx hb dF_pastGreatest_2 (by decide) (fun c_1 => ?_) (fun c_1 => ?_)
  · refine lv_iconst (v := 1) hx hb dF_pastGreatest_18 (by decide) ?_
    refine lv_goto (tgt := 23) hx hb dF_pastGreatest_19 (by decide) ?_
    exact J_2 true ((if_pos c_1)).symm ls (lv_sub hl [] rfl)
  · refine lv_iload_n hx hb dF_pastGreatest_5 rfl (lv_at hl 1 rfl) ?_
    refine lv_iload_n hx hb dF_pastGreatest_6 rfl (lv_at hl 0 rfl) ?_
    have J_1 : ∀ (w_0 : Bool), w_0 = (v_F_pastGreatest_1 ng how) → ∀ (ls : Array Slot), lv_has ls 3 [] → WF_pastGreatest p l e s m below meth c ng how s.heap [] (F0 m 15 ls [.int (bI w_0), .int how]) := by
      intro w_0 e_0
      rw [e_0]
      intro ls hl
      refine lv_icmp_ne (tgt := 22) hx hb dF_pastGreatest_15 (by decide) (fun c_3 => ?_) (fun c_3 => ?_)
      · refine lv_iconst (v := 0) hx hb dF_pastGreatest_22 (by decide) ?_
        exact J_2 false (((if_neg c_1).trans (if_neg c_3))).symm ls (lv_sub hl [] rfl)
      · refine lv_iconst (v := 1) hx hb dF_pastGreatest_18 (by decide) ?_
        refine lv_goto (tgt := 23) hx hb dF_pastGreatest_19 (by decide) ?_
        exact J_2 true (((if_neg c_1).trans (if_pos c_3))).symm ls (lv_sub hl [] rfl)
    refine kb_eq (tgt := 14) hx hb dF_pastGreatest_7 (by decide) (fun c_2 => ?_) (fun c_2 => ?_)
    · refine lv_iconst (v := 1) hx hb dF_pastGreatest_14 (by decide) ?_
      exact J_1 true ((if_neg c_2)).symm ls (lv_sub hl [] rfl)
    · refine lv_iconst (v := 0) hx hb dF_pastGreatest_10 (by decide) ?_
      refine lv_goto (tgt := 15) hx hb dF_pastGreatest_11 (by decide) ?_
      exact J_1 false ((if_pos c_2)).symm ls (lv_sub hl [] rfl)
