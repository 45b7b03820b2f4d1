def v_F_isNearerAbove_1 (sg : Int64) (sh : Int32) (lo : Bool) : Int64 := jlshl (1 : Int64) (sh - (1 : Int32))
def v_F_isNearerAbove_2 (sg : Int64) (sh : Int32) (lo : Bool) : Int64 := sg &&& ((v_F_isNearerAbove_1 sg sh lo) ||| ((v_F_isNearerAbove_1 sg sh lo) - (1 : Int64)))
def v_F_isNearerAbove_3 (sg : Int64) (sh : Int32) (lo : Bool) : Bool := (if lo = true then true else (if ((jlush sg sh) &&& (1 : Int64)) = (0 : Int64) then false else true))
def v_F_isNearerAbove_4 (sg : Int64) (sh : Int32) (lo : Bool) : Bool := (if (v_F_isNearerAbove_2 sg sh lo) ≤ (v_F_isNearerAbove_1 sg sh lo) then false else true)
def pF_isNearerAbove (sg : Int64) (sh : Int32) (lo : Bool) : Bool := (if sh < (1 : Int32) then false else (if sh ≤ (63 : Int32) then (if (v_F_isNearerAbove_2 sg sh lo) = (v_F_isNearerAbove_1 sg sh lo) then (v_F_isNearerAbove_3 sg sh lo) else (v_F_isNearerAbove_4 sg sh lo)) else false))
/-- F_isNearerAbove -/
abbrev WF_isNearerAbove (p : Program) (l : Launch) (e : Env) (s : State) (m : MethodId) (below : List Frame) (meth : Method) (c : Code) (sg : Int64) (sh : Int32) (lo : Bool) (H : Heap) (locs : List Loc) (g : JFrame) : Prop := W p l e (headSpec wF_isNearerAbove ({ frames := 0, cells := 0, slots := 0, locals := 0 })).room s m ([.long sg, .int sh, .int (bI lo)] : List Value).toArray below meth c H locs 0 0 (MQ below (QR (.int (bI (pF_isNearerAbove sg sh lo)))) ([.long sg, .int sh, .int (bI lo)] : List Value).toArray s 0 0 (fun _ => False)) g
set_option maxHeartbeats 4000000 in
set_option maxRecDepth 100000 in
theorem kF_isNearerAbove (l : Launch) (sg : Int64) (sh : Int32) (lo : Bool) : Met l yF_isNearerAbove wF_isNearerAbove ({ frames := 0, cells := 0, slots := 0, locals := 0 }) (fun v _ => v = ([.long sg, .int sh, .int (bI lo)] : List Value).toArray) (QR (.int (bI (pF_isNearerAbove sg sh lo)))) 0 0 (fun _ => False) := by
  refine Met.ofW (cc := cF_isNearerAbove) (maxL := 8) (ret := (some .boolean)) (by decide) rfl ?_
  intro p e s m args below meth c s₁ B hml hv
  have hv : args = ([.long sg, .int sh, .int (bI lo)] : List Value).toArray := hv
  subst hv
  have hx := B.exec
  have hb := B.bytes
  have hr := B.returns
  have hts := atoms_spec (ws := wF_isNearerAbove) B.pre
  have hown : s.vm.findClass RF = some m.cls := findClass_of_methodNamed B.named
  have hlocks := B.notSynchronized
  have hl := lv_entry ([.long sg, .int sh, .int (bI lo)]) (n := 8) (Nat.le_of_ble_eq_true rfl)
  rw [lg_entry_eq]
  generalize (lg_sl ([.long sg, .int sh, .int (bI lo)]) ++ List.replicate (8 - (lg_sl ([.long sg, .int sh, .int (bI lo)])).length) Slot.unset).toArray = ls at hl ⊢
  have hl : lv_has ls 8 [(0, .long sg), (2, .int sh), (3, .int (bI lo))] := hl
  refine lv_iload_n hx hb dF_isNearerAbove_0 rfl (lv_at hl 1 rfl) ?_
  refine lv_iconst (v := 1) hx hb dF_isNearerAbove_1 (by decide) ?_
  refine lv_icmp_lt (tgt := 11) hx hb dF_isNearerAbove_2 (by decide) (fun c_1 => ?_) (fun c_1 => ?_)
  · refine lv_iconst (v := 0) hx hb dF_isNearerAbove_11 (by decide) ?_
    have e9 : false = pF_isNearerAbove sg sh lo := ((if_pos c_1)).symm
    exact W.zret (v := bI false) hx hb hr (nb_z _) (fun t ht hW => ⟨by rw [e9], ht⟩) (fun q h => absurd h List.not_mem_nil) dF_isNearerAbove_12
  · refine lv_iload_n hx hb dF_isNearerAbove_5 rfl (lv_at hl 1 rfl) ?_
    refine lv_bipush (v := 63) hx hb dF_isNearerAbove_6 (by decide) ?_
    refine lv_icmp_le (tgt := 13) hx hb dF_isNearerAbove_8 (by decide) (fun c_2 => ?_) (fun c_2 => ?_)
    · refine lv_lconst (v := 1) hx hb dF_isNearerAbove_13 (by decide) ?_
      refine lv_iload_n hx hb dF_isNearerAbove_14 rfl (lv_at hl 1 rfl) ?_
      refine lv_iconst (v := 1) hx hb dF_isNearerAbove_15 (by decide) ?_
      refine lv_isub hx hb dF_isNearerAbove_16 ?_
      refine lv_lshl (v := jlshl (1 : Int64) (sh - (1 : Int32))) hx hb dF_isNearerAbove_17 rfl ?_
      refine lv_topl (fun w9 e9 => ?_)
      have e9 : w9 = (v_F_isNearerAbove_1 sg sh lo) := e9
      rw [e9]
      refine lv_lstore (lv' := [(4, .long (v_F_isNearerAbove_1 sg sh lo)), (0, .long sg), (2, .int sh), (3, .int (bI lo))]) hx hb dF_isNearerAbove_18 hl (by decide) rfl (fun ls hl => ?_)
      refine lv_lload_n hx hb dF_isNearerAbove_20 rfl (lv_at hl 1 rfl) ?_
      refine lv_lload hx hb dF_isNearerAbove_21 (lv_at hl 0 rfl) ?_
      refine lv_lload hx hb dF_isNearerAbove_23 (lv_at hl 0 rfl) ?_
      refine lv_lconst (v := 1) hx hb dF_isNearerAbove_25 (by decide) ?_
      refine lv_lsub hx hb dF_isNearerAbove_26 ?_
      refine lv_lor hx hb dF_isNearerAbove_27 ?_
      refine lv_land hx hb dF_isNearerAbove_28 ?_
      refine lv_topl (fun w9 e9 => ?_)
      have e9 : w9 = (v_F_isNearerAbove_2 sg sh lo) := e9
      rw [e9]
      refine lv_lstore (lv' := [(6, .long (v_F_isNearerAbove_2 sg sh lo)), (4, .long (v_F_isNearerAbove_1 sg sh lo)), (0, .long sg), (2, .int sh), (3, .int (bI lo))]) hx hb dF_isNearerAbove_29 hl (by decide) rfl (fun ls hl => ?_)
      refine lv_lload hx hb dF_isNearerAbove_31 (lv_at hl 0 rfl) ?_
      refine lv_lload hx hb dF_isNearerAbove_33 (lv_at hl 1 rfl) ?_
      refine W.lcmp hx hb dF_isNearerAbove_35 ?_
      refine lv_if_eq (tgt := 53) hx hb dF_isNearerAbove_36 (by decide) (fun c_3 => ?_) (fun c_3 => ?_)
      · have c_3 : (v_F_isNearerAbove_2 sg sh lo) = (v_F_isNearerAbove_1 sg sh lo) := (lg_cmp_eq _ _).mp c_3
        refine lv_iload_n hx hb dF_isNearerAbove_53 rfl (lv_at hl 4 rfl) ?_
        have J_1 : ∀ (w_0 : Bool), w_0 = (v_F_isNearerAbove_3 sg sh lo) → ∀ (ls : Array Slot), lv_has ls 8 [] → WF_isNearerAbove p l e s m below meth c sg sh lo s.heap [] (F0 m 72 ls [.int (bI w_0)]) := by
          intro w_0 e_0
          rw [e_0]
          intro ls hl
          have e9 : (v_F_isNearerAbove_3 sg sh lo) = pF_isNearerAbove sg sh lo := ((((if_neg c_1).trans (if_pos c_2)).trans (if_pos c_3))).symm
          exact W.zret (v := bI (v_F_isNearerAbove_3 sg sh lo)) hx hb hr (nb_z _) (fun t ht hW => ⟨by rw [e9], ht⟩) (fun q h => absurd h List.not_mem_nil) dF_isNearerAbove_72
        refine kb_ne (tgt := 67) hx hb dF_isNearerAbove_54 (by decide) (fun c_4 => ?_) (fun c_4 => ?_)
        · refine lv_iconst (v := 1) hx hb dF_isNearerAbove_67 (by decide) ?_
          refine lv_goto (tgt := 72) hx hb dF_isNearerAbove_68 (by decide) ?_
          exact J_1 true ((if_pos c_4)).symm ls (lv_sub hl [] rfl)
        · refine lv_lload_n hx hb dF_isNearerAbove_57 rfl (lv_at hl 2 rfl) ?_
          refine lv_iload_n hx hb dF_isNearerAbove_58 rfl (lv_at hl 3 rfl) ?_
          refine lv_lushr (v := jlush sg sh) hx hb dF_isNearerAbove_59 rfl ?_
          refine lv_lconst (v := 1) hx hb dF_isNearerAbove_60 (by decide) ?_
          refine lv_land hx hb dF_isNearerAbove_61 ?_
          refine lv_lconst (v := 0) hx hb dF_isNearerAbove_62 (by decide) ?_
          refine W.lcmp hx hb dF_isNearerAbove_63 ?_
          refine lv_if_eq (tgt := 71) hx hb dF_isNearerAbove_64 (by decide) (fun c_5 => ?_) (fun c_5 => ?_)
          · have c_5 : ((jlush sg sh) &&& (1 : Int64)) = (0 : Int64) := (lg_cmp_eq _ _).mp c_5
            refine lv_iconst (v := 0) hx hb dF_isNearerAbove_71 (by decide) ?_
            exact J_1 false (((if_neg c_4).trans (if_pos c_5))).symm ls (lv_sub hl [] rfl)
          · have c_5 : ¬ (((jlush sg sh) &&& (1 : Int64)) = (0 : Int64)) := fun h => c_5 ((lg_cmp_eq _ _).mpr h)
            refine lv_iconst (v := 1) hx hb dF_isNearerAbove_67 (by decide) ?_
            refine lv_goto (tgt := 72) hx hb dF_isNearerAbove_68 (by decide) ?_
            exact J_1 true (((if_neg c_4).trans (if_neg c_5))).symm ls (lv_sub hl [] rfl)
      · have c_3 : ¬ ((v_F_isNearerAbove_2 sg sh lo) = (v_F_isNearerAbove_1 sg sh lo)) := fun h => c_3 ((lg_cmp_eq _ _).mpr h)
        refine lv_lload hx hb dF_isNearerAbove_39 (lv_at hl 0 rfl) ?_
        refine lv_lload hx hb dF_isNearerAbove_41 (lv_at hl 1 rfl) ?_
        refine W.lcmp hx hb dF_isNearerAbove_43 ?_
        have J_2 : ∀ (w_0 : Bool), w_0 = (v_F_isNearerAbove_4 sg sh lo) → ∀ (ls : Array Slot), lv_has ls 8 [] → WF_isNearerAbove p l e s m below meth c sg sh lo s.heap [] (F0 m 52 ls [.int (bI w_0)]) := by
          intro w_0 e_0
          rw [e_0]
          intro ls hl
          have e9 : (v_F_isNearerAbove_4 sg sh lo) = pF_isNearerAbove sg sh lo := ((((if_neg c_1).trans (if_pos c_2)).trans (if_neg c_3))).symm
          exact W.zret (v := bI (v_F_isNearerAbove_4 sg sh lo)) hx hb hr (nb_z _) (fun t ht hW => ⟨by rw [e9], ht⟩) (fun q h => absurd h List.not_mem_nil) dF_isNearerAbove_52
        refine lv_if_le (tgt := 51) hx hb dF_isNearerAbove_44 (by decide) (fun c_6 => ?_) (fun c_6 => ?_)
        · have c_6 : (v_F_isNearerAbove_2 sg sh lo) ≤ (v_F_isNearerAbove_1 sg sh lo) := (lg_cmp_le _ _).mp c_6
          refine lv_iconst (v := 0) hx hb dF_isNearerAbove_51 (by decide) ?_
          exact J_2 false ((if_pos c_6)).symm ls (lv_sub hl [] rfl)
        · have c_6 : ¬ ((v_F_isNearerAbove_2 sg sh lo) ≤ (v_F_isNearerAbove_1 sg sh lo)) := fun h => c_6 ((lg_cmp_le _ _).mpr h)
          refine lv_iconst (v := 1) hx hb dF_isNearerAbove_47 (by decide) ?_
          refine lv_goto (tgt := 52) hx hb dF_isNearerAbove_48 (by decide) ?_
          exact J_2 true ((if_neg c_6)).symm ls (lv_sub hl [] rfl)
    · refine lv_iconst (v := 0) hx hb dF_isNearerAbove_11 (by decide) ?_
      have e9 : false = pF_isNearerAbove sg sh lo := (((if_neg c_1).trans (if_neg c_2))).symm
      exact W.zret (v := bI false) hx hb hr (nb_z _) (fun t ht hW => ⟨by rw [e9], ht⟩) (fun q h => absurd h List.not_mem_nil) dF_isNearerAbove_12
def v_F_cut_1 (sg : Int64) (sh : Int32) (lo : Bool) (ng : Bool) (how : Int32) : Int64 := (if (64 : Int32) ≤ sh then (0 : Int64) else jlush sg sh)
def v_F_cut_2 (sg : Int64) (sh : Int32) (lo : Bool) (ng : Bool) (how : Int32) : Bool := (if lo = true then false else (if (64 : Int32) ≤ sh then (if sg = (0 : Int64) then true else false) else (if (jlshl (v_F_cut_1 sg sh lo ng how) sh) = sg then true else false)))
def v_F_cut_3 (sg : Int64) (sh : Int32) (lo : Bool) (ng : Bool) (how : Int32) : Bool := (if ng = true then true else false)
def v_F_cut_4 (sg : Int64) (sh : Int32) (lo : Bool) (ng : Bool) (how : Int32) : Bool := (if how = (3 : Int32) then pF_isNearerAbove sg sh lo else (if how = (bI (v_F_cut_3 sg sh lo ng how)) then true else false))
def v_F_cut_5 (sg : Int64) (sh : Int32) (lo : Bool) (ng : Bool) (how : Int32) : Int64 := (if (v_F_cut_4 sg sh lo ng how) = true then (v_F_cut_1 sg sh lo ng how) + (1 : Int64) else (v_F_cut_1 sg sh lo ng how))
def pF_cut (sg : Int64) (sh : Int32) (lo : Bool) (ng : Bool) (how : Int32) : Int64 := (if (v_F_cut_2 sg sh lo ng how) = true then (v_F_cut_1 sg sh lo ng how) else (if how = (2 : Int32) then (v_F_cut_1 sg sh lo ng how) else (v_F_cut_5 sg sh lo ng how)))
/-- F_cut -/
abbrev WF_cut (p : Program) (l : Launch) (e : Env) (s : State) (m : MethodId) (below : List Frame) (meth : Method) (c : Code) (sg : Int64) (sh : Int32) (lo : Bool) (ng : Bool) (how : Int32) (H : Heap) (locs : List Loc) (g : JFrame) : Prop := W p l e (headSpec wF_cut ({ frames := 1, cells := 0, slots := 0, locals := 27 })).room s m ([.long sg, .int sh, .int (bI lo), .int (bI ng), .int how] : List Value).toArray below meth c H locs 0 0 (MQ below (QR (.long (pF_cut sg sh lo ng how))) ([.long sg, .int sh, .int (bI lo), .int (bI ng), .int how] : List Value).toArray s 0 0 (fun _ => False)) g
set_option maxHeartbeats 4000000 in
set_option maxRecDepth 100000 in
theorem kF_cut (l : Launch) (sg : Int64) (sh : Int32) (lo : Bool) (ng : Bool) (how : Int32) : Met l yF_cut wF_cut ({ frames := 1, cells := 0, slots := 0, locals := 27 }) (fun v _ => v = ([.long sg, .int sh, .int (bI lo), .int (bI ng), .int how] : List Value).toArray) (QR (.long (pF_cut sg sh lo ng how))) 0 0 (fun _ => False) := by
  refine Met.ofW (cc := cF_cut) (maxL := 10) (ret := (some .long)) (by decide) rfl ?_
  intro p e s m args below meth c s₁ B hml hv
  have hv : args = ([.long sg, .int sh, .int (bI lo), .int (bI ng), .int how] : List Value).toArray := hv
  subst hv
  have hx := B.exec
  have hb := B.bytes
  have hr := B.returns
  have hts := atoms_spec (ws := wF_cut) B.pre
  have hown : s.vm.findClass RF = some m.cls := findClass_of_methodNamed B.named
  have hlocks := B.notSynchronized
  have hl := lv_entry ([.long sg, .int sh, .int (bI lo), .int (bI ng), .int how]) (n := 10) (Nat.le_of_ble_eq_true rfl)
  rw [lg_entry_eq]
  generalize (lg_sl ([.long sg, .int sh, .int (bI lo), .int (bI ng), .int how]) ++ List.replicate (10 - (lg_sl ([.long sg, .int sh, .int (bI lo), .int (bI ng), .int how])).length) Slot.unset).toArray = ls at hl ⊢
  have hl : lv_has ls 10 [(0, .long sg), (2, .int sh), (3, .int (bI lo)), (4, .int (bI ng)), (5, .int how)] := hl
  refine lv_iload_n hx hb dF_cut_0 rfl (lv_at hl 1 rfl) ?_
  refine lv_bipush (v := 64) hx hb dF_cut_1 (by decide) ?_
  have J_1 : ∀ (w_0 : Int64), w_0 = (v_F_cut_1 sg sh lo ng how) → ∀ (ls : Array Slot), lv_has ls 10 [(0, .long sg), (2, .int sh), (3, .int (bI lo)), (4, .int (bI ng)), (5, .int how)] → WF_cut p l e s m below meth c sg sh lo ng how s.heap [] (F0 m 13 ls [.long w_0]) := by
    intro w_0 e_0
    rw [e_0]
    intro ls hl
    refine lv_lstore (lv' := [(6, .long (v_F_cut_1 sg sh lo ng how)), (0, .long sg), (2, .int sh), (3, .int (bI lo)), (4, .int (bI ng)), (5, .int how)]) hx hb dF_cut_13 hl (by decide) rfl (fun ls hl => ?_)
    refine lv_iload_n hx hb dF_cut_15 rfl (lv_at hl 3 rfl) ?_
    have J_2 : ∀ (w_0 : Bool), w_0 = (v_F_cut_2 sg sh lo ng how) → ∀ (ls : Array Slot), lv_has ls 10 [(0, .long sg), (2, .int sh), (3, .int (bI lo)), (4, .int (bI ng)), (5, .int how), (6, .long (v_F_cut_1 sg sh lo ng how))] → WF_cut p l e s m below meth c sg sh lo ng how s.heap [] (F0 m 48 ls [.int (bI w_0)]) := by
      intro w_0 e_0
      rw [e_0]
      intro ls hl
      refine lv_istore (lv' := [(8, .int (bI (v_F_cut_2 sg sh lo ng how))), (0, .long sg), (2, .int sh), (3, .int (bI lo)), (4, .int (bI ng)), (5, .int how), (6, .long (v_F_cut_1 sg sh lo ng how))]) hx hb dF_cut_48 hl (by decide) rfl (fun ls hl => ?_)
      refine lv_iload hx hb dF_cut_50 (lv_at hl 0 rfl) ?_
      refine kb_ne (tgt := 61) hx hb dF_cut_52 (by decide) (fun c_6 => ?_) (fun c_6 => ?_)
      · refine lv_lload hx hb dF_cut_61 (lv_at hl 6 rfl) ?_
        have e9 : (v_F_cut_1 sg sh lo ng how) = pF_cut sg sh lo ng how := ((if_pos c_6)).symm
        exact W.lret (v := (v_F_cut_1 sg sh lo ng how)) hx hb hr (fun t ht hW => ⟨by rw [e9], ht⟩) (fun q h => absurd h List.not_mem_nil) dF_cut_63
      · refine lv_iload hx hb dF_cut_55 (lv_at hl 5 rfl) ?_
        refine lv_iconst (v := 2) hx hb dF_cut_57 (by decide) ?_
        refine lv_icmp_ne (tgt := 64) hx hb dF_cut_58 (by decide) (fun c_7 => ?_) (fun c_7 => ?_)
        · refine lv_iload hx hb dF_cut_64 (lv_at hl 5 rfl) ?_
          refine lv_iconst (v := 3) hx hb dF_cut_66 (by decide) ?_
          have J_4 : ∀ (w_0 : Bool), w_0 = (v_F_cut_4 sg sh lo ng how) → ∀ (ls : Array Slot), lv_has ls 10 [(6, .long (v_F_cut_1 sg sh lo ng how))] → WF_cut p l e s m below meth c sg sh lo ng how s.heap [] (F0 m 99 ls [.int (bI w_0)]) := by
            intro w_0 e_0
            rw [e_0]
            intro ls hl
            refine lv_istore (lv' := [(9, .int (bI (v_F_cut_4 sg sh lo ng how))), (6, .long (v_F_cut_1 sg sh lo ng how))]) hx hb dF_cut_99 hl (by decide) rfl (fun ls hl => ?_)
            refine lv_iload hx hb dF_cut_101 (lv_at hl 0 rfl) ?_
            have J_5 : ∀ (w_0 : Int64), w_0 = (v_F_cut_5 sg sh lo ng how) → ∀ (ls : Array Slot), lv_has ls 10 [] → WF_cut p l e s m below meth c sg sh lo ng how s.heap [] (F0 m 115 ls [.long w_0]) := by
              intro w_0 e_0
              rw [e_0]
              intro ls hl
              have e9 : (v_F_cut_5 sg sh lo ng how) = pF_cut sg sh lo ng how := (((if_neg c_6).trans (if_neg c_7))).symm
              exact W.lret (v := (v_F_cut_5 sg sh lo ng how)) hx hb hr (fun t ht hW => ⟨by rw [e9], ht⟩) (fun q h => absurd h List.not_mem_nil) dF_cut_115
            refine kb_eq (tgt := 113) hx hb dF_cut_103 (by decide) (fun c_11 => ?_) (fun c_11 => ?_)
            · refine lv_lload hx hb dF_cut_113 (lv_at hl 1 rfl) ?_
              exact J_5 (v_F_cut_1 sg sh lo ng how) ((if_neg c_11)).symm ls (lv_sub hl [] rfl)
            · refine lv_lload hx hb dF_cut_106 (lv_at hl 1 rfl) ?_
              refine lv_lconst (v := 1) hx hb dF_cut_108 (by decide) ?_
              refine lv_ladd hx hb dF_cut_109 ?_
              refine lv_goto (tgt := 115) hx hb dF_cut_110 (by decide) ?_
              exact J_5 ((v_F_cut_1 sg sh lo ng how) + (1 : Int64)) ((if_pos c_11)).symm ls (lv_sub hl [] rfl)
          refine lv_icmp_ne (tgt := 79) hx hb dF_cut_67 (by decide) (fun c_8 => ?_) (fun c_8 => ?_)
          · refine lv_iload hx hb dF_cut_79 (lv_at hl 5 rfl) ?_
            refine lv_iload hx hb dF_cut_81 (lv_at hl 4 rfl) ?_
            have J_3 : ∀ (w_0 : Bool), w_0 = (v_F_cut_3 sg sh lo ng how) → ∀ (ls : Array Slot), lv_has ls 10 [(6, .long (v_F_cut_1 sg sh lo ng how))] → WF_cut p l e s m below meth c sg sh lo ng how s.heap [] (F0 m 91 ls [.int (bI w_0), .int how]) := by
              intro w_0 e_0
              rw [e_0]
              intro ls hl
              refine lv_icmp_ne (tgt := 98) hx hb dF_cut_91 (by decide) (fun c_10 => ?_) (fun c_10 => ?_)
              · refine lv_iconst (v := 0) hx hb dF_cut_98 (by decide) ?_
                exact J_4 false (((if_neg c_8).trans (if_neg c_10))).symm ls (lv_sub hl [0] rfl)
              · refine lv_iconst (v := 1) hx hb dF_cut_94 (by decide) ?_
                refine lv_goto (tgt := 99) hx hb dF_cut_95 (by decide) ?_
                exact J_4 true (((if_neg c_8).trans (if_pos c_10))).symm ls (lv_sub hl [0] rfl)
            refine kb_eq (tgt := 90) hx hb dF_cut_83 (by decide) (fun c_9 => ?_) (fun c_9 => ?_)
            · refine lv_iconst (v := 0) hx hb dF_cut_90 (by decide) ?_
              exact J_3 false ((if_neg c_9)).symm ls (lv_sub hl [6] rfl)
            · refine lv_iconst (v := 1) hx hb dF_cut_86 (by decide) ?_
              refine lv_goto (tgt := 91) hx hb dF_cut_87 (by decide) ?_
              exact J_3 true ((if_pos c_9)).symm ls (lv_sub hl [6] rfl)
          · refine lv_lload_n hx hb dF_cut_70 rfl (lv_at hl 1 rfl) ?_
            refine lv_iload_n hx hb dF_cut_71 rfl (lv_at hl 2 rfl) ?_
            refine lv_iload_n hx hb dF_cut_72 rfl (lv_at hl 3 rfl) ?_
            refine k_call (W.runS (As := [.long sg, .int sh, .int (bI lo)]) (rest := []) ⟨hx, hb, hml, hown, hts⟩ (kF_isNearerAbove l sg sh lo) (cwS 3 hts (g_call (List.forall_mem_cons.mpr ⟨m1_185, List.forall_mem_cons.mpr ⟨m1_186, List.forall_mem_cons.mpr ⟨m1_1, fun _ h => absurd h List.not_mem_nil⟩⟩⟩) m1_187) rfl rfl rfl (by decide +kernel) ⟨Nat.le_of_ble_eq_true rfl, Nat.le_of_ble_eq_true rfl⟩) preEq rfl rfl hl.1 rfl (lv_room (Nat.le_of_ble_eq_true rfl)) dF_cut_73 ⟨Nat.le_of_ble_eq_true rfl, Nat.le_of_ble_eq_true rfl⟩) ?_
            refine lv_goto (tgt := 99) hx hb dF_cut_76 (by decide) ?_
            exact J_4 (pF_isNearerAbove sg sh lo) ((if_pos c_8)).symm ls (lv_sub hl [6] rfl)
        · refine lv_lload hx hb dF_cut_61 (lv_at hl 6 rfl) ?_
          have e9 : (v_F_cut_1 sg sh lo ng how) = pF_cut sg sh lo ng how := (((if_neg c_6).trans (if_pos c_7))).symm
          exact W.lret (v := (v_F_cut_1 sg sh lo ng how)) hx hb hr (fun t ht hW => ⟨by rw [e9], ht⟩) (fun q h => absurd h List.not_mem_nil) dF_cut_63
    refine kb_ne (tgt := 47) hx hb dF_cut_16 (by decide) (fun c_2 => ?_) (fun c_2 => ?_)
    · refine lv_iconst (v := 0) hx hb dF_cut_47 (by decide) ?_
      exact J_2 false ((if_pos c_2)).symm ls (lv_sub hl [1, 2, 3, 4, 5, 0] rfl)
    · refine lv_iload_n hx hb dF_cut_19 rfl (lv_at hl 2 rfl) ?_
      refine lv_bipush (v := 64) hx hb dF_cut_20 (by decide) ?_
      refine lv_icmp_ge (tgt := 37) hx hb dF_cut_22 (by decide) (fun c_3 => ?_) (fun c_3 => ?_)
      · refine lv_lload_n hx hb dF_cut_37 rfl (lv_at hl 1 rfl) ?_
        refine lv_lconst (v := 0) hx hb dF_cut_38 (by decide) ?_
        refine W.lcmp hx hb dF_cut_39 ?_
        refine lv_if_ne (tgt := 47) hx hb dF_cut_40 (by decide) (fun c_4 => ?_) (fun c_4 => ?_)
        · have c_4 : ¬ (sg = (0 : Int64)) := fun h => c_4 ((lg_cmp_eq _ _).mpr h)
          refine lv_iconst (v := 0) hx hb dF_cut_47 (by decide) ?_
          exact J_2 false ((((if_neg c_2).trans (if_pos c_3)).trans (if_neg c_4))).symm ls (lv_sub hl [1, 2, 3, 4, 5, 0] rfl)
        · have c_4 : sg = (0 : Int64) := (lg_cmp_eq _ _).mp c_4
          refine lv_iconst (v := 1) hx hb dF_cut_43 (by decide) ?_
          refine lv_goto (tgt := 48) hx hb dF_cut_44 (by decide) ?_
          exact J_2 true ((((if_neg c_2).trans (if_pos c_3)).trans (if_pos c_4))).symm ls (lv_sub hl [1, 2, 3, 4, 5, 0] rfl)
      · refine lv_lload hx hb dF_cut_25 (lv_at hl 0 rfl) ?_
        refine lv_iload_n hx hb dF_cut_27 rfl (lv_at hl 2 rfl) ?_
        refine lv_lshl (v := jlshl (v_F_cut_1 sg sh lo ng how) sh) hx hb dF_cut_28 rfl ?_
        refine lv_lload_n hx hb dF_cut_29 rfl (lv_at hl 1 rfl) ?_
        refine W.lcmp hx hb dF_cut_30 ?_
        refine lv_if_ne (tgt := 47) hx hb dF_cut_31 (by decide) (fun c_5 => ?_) (fun c_5 => ?_)
        · have c_5 : ¬ ((jlshl (v_F_cut_1 sg sh lo ng how) sh) = sg) := fun h => c_5 ((lg_cmp_eq _ _).mpr h)
          refine lv_iconst (v := 0) hx hb dF_cut_47 (by decide) ?_
          exact J_2 false ((((if_neg c_2).trans (if_neg c_3)).trans (if_neg c_5))).symm ls (lv_sub hl [1, 2, 3, 4, 5, 0] rfl)
        · have c_5 : (jlshl (v_F_cut_1 sg sh lo ng how) sh) = sg := (lg_cmp_eq _ _).mp c_5
          refine lv_goto (tgt := 43) hx hb dF_cut_34 (by decide) ?_
          refine lv_iconst (v := 1) hx hb dF_cut_43 (by decide) ?_
          refine lv_goto (tgt := 48) hx hb dF_cut_44 (by decide) ?_
          exact J_2 true ((((if_neg c_2).trans (if_neg c_3)).trans (if_pos c_5))).symm ls (lv_sub hl [1, 2, 3, 4, 5, 0] rfl)
  refine lv_icmp_ge (tgt := 12) hx hb dF_cut_3 (by decide) (fun c_1 => ?_) (fun c_1 => ?_)
  · refine lv_lconst (v := 0) hx hb dF_cut_12 (by decide) ?_
    exact J_1 (0 : Int64) ((if_pos c_1)).symm ls (lv_sub hl [0, 1, 2, 3, 4] rfl)
  · refine lv_lload_n hx hb dF_cut_6 rfl (lv_at hl 0 rfl) ?_
    refine lv_iload_n hx hb dF_cut_7 rfl (lv_at hl 1 rfl) ?_
    refine lv_lushr (v := jlush sg sh) hx hb dF_cut_8 rfl ?_
    refine lv_goto (tgt := 13) hx hb dF_cut_9 (by decide) ?_
    exact J_1 (jlush sg sh) ((if_neg c_1)).symm ls (lv_sub hl [0, 1, 2, 3, 4] rfl)
def v_F_rounded_1 (sg : Int64) (ex : Int32) (lo : Bool) (ng : Bool) (how : Int32) : Int32 := if (((ex + (pF_lengthOf sg)) - (1 : Int32)) - (52 : Int32)) < (-1074 : Int32) then (-1074 : Int32) else (((ex + (pF_lengthOf sg)) - (1 : Int32)) - (52 : Int32))
def v_F_rounded_2 (sg : Int64) (ex : Int32) (lo : Bool) (ng : Bool) (how : Int32) : Int32 := (v_F_rounded_1 sg ex lo ng how) - ex
def v_F_rounded_3 (sg : Int64) (ex : Int32) (lo : Bool) (ng : Bool) (how : Int32) : Int64 := (if (v_F_rounded_2 sg ex lo ng how) ≤ 0 then jlshl sg (-(v_F_rounded_2 sg ex lo ng how)) else pF_cut sg (v_F_rounded_2 sg ex lo ng how) lo ng how)
def v_F_rounded_4 (sg : Int64) (ex : Int32) (lo : Bool) (ng : Bool) (how : Int32) : Int64 := (jlshl (((v_F_rounded_1 sg ex lo ng how) - (-1074 : Int32)).toInt64) (52 : Int32)) + (v_F_rounded_3 sg ex lo ng how)
def v_F_rounded_5 (sg : Int64) (ex : Int32) (lo : Bool) (ng : Bool) (how : Int32) : Int64 := (if (v_F_rounded_4 sg ex lo ng how) = (0 : Int64) then (0 : Int64) else pF_withSign (v_F_rounded_4 sg ex lo ng how) ng)
def pF_rounded (sg : Int64) (ex : Int32) (lo : Bool) (ng : Bool) (how : Int32) : Int64 := (if sg = (0 : Int64) then (0 : Int64) else (if (v_F_rounded_1 sg ex lo ng how) ≤ (971 : Int32) then (v_F_rounded_5 sg ex lo ng how) else pF_withSign (pF_pastGreatest ng how) ng))
/-- F_rounded -/
abbrev WF_rounded (p : Program) (l : Launch) (e : Env) (s : State) (m : MethodId) (below : List Frame) (meth : Method) (c : Code) (sg : Int64) (ex : Int32) (lo : Bool) (ng : Bool) (how : Int32) (H : Heap) (locs : List Loc) (g : JFrame) : Prop := W p l e (headSpec wF_rounded ({ frames := 3, cells := 0, slots := 0, locals := 64 })).room s m ([.long sg, .int ex, .int (bI lo), .int (bI ng), .int how] : List Value).toArray below meth c H locs 0 0 (MQ below (QR (.long (pF_rounded sg ex lo ng how))) ([.long sg, .int ex, .int (bI lo), .int (bI ng), .int how] : List Value).toArray s 0 0 (fun _ => False)) g
set_option maxHeartbeats 4000000 in
set_option maxRecDepth 100000 in
theorem kF_rounded (l : Launch) (sg : Int64) (ex : Int32) (lo : Bool) (ng : Bool) (how : Int32) : Met l yF_rounded wF_rounded ({ frames := 3, cells := 0, slots := 0, locals := 64 }) (fun v _ => v = ([.long sg, .int ex, .int (bI lo), .int (bI ng), .int how] : List Value).toArray) (QR (.long (pF_rounded sg ex lo ng how))) 0 0 (fun _ => False) := by
  refine Met.ofW (cc := cF_rounded) (maxL := 12) (ret := (some .long)) (by decide) rfl ?_
  intro p e s m args below meth c s₁ B hml hv
  have hv : args = ([.long sg, .int ex, .int (bI lo), .int (bI ng), .int how] : List Value).toArray := hv
  subst hv
  have hx := B.exec
  have hb := B.bytes
  have hr := B.returns
  have hts := atoms_spec (ws := wF_rounded) B.pre
  have hown : s.vm.findClass RF = some m.cls := findClass_of_methodNamed B.named
  have hlocks := B.notSynchronized
  have hl := lv_entry ([.long sg, .int ex, .int (bI lo), .int (bI ng), .int how]) (n := 12) (Nat.le_of_ble_eq_true rfl)
  rw [lg_entry_eq]
  generalize (lg_sl ([.long sg, .int ex, .int (bI lo), .int (bI ng), .int how]) ++ List.replicate (12 - (lg_sl ([.long sg, .int ex, .int (bI lo), .int (bI ng), .int how])).length) Slot.unset).toArray = ls at hl ⊢
  have hl : lv_has ls 12 [(0, .long sg), (2, .int ex), (3, .int (bI lo)), (4, .int (bI ng)), (5, .int how)] := hl
  refine lv_lload_n hx hb dF_rounded_0 rfl (lv_at hl 0 rfl) ?_
  refine lv_lconst (v := 0) hx hb dF_rounded_1 (by decide) ?_
  refine W.lcmp hx hb dF_rounded_2 ?_
  refine lv_if_ne (tgt := 8) hx hb dF_rounded_3 (by decide) (fun c_1 => ?_) (fun c_1 => ?_)
  · have c_1 : ¬ (sg = (0 : Int64)) := fun h => c_1 ((lg_cmp_eq _ _).mpr h)
    refine lv_iload_n hx hb dF_rounded_8 rfl (lv_at hl 1 rfl) ?_
    refine lv_lload_n hx hb dF_rounded_9 rfl (lv_at hl 0 rfl) ?_
    refine k_call (W.runS (As := [.long sg]) (rest := [.int ex]) ⟨hx, hb, hml, hown, hts⟩ (kF_lengthOf l sg) (cwS 1 hts (g_call (List.forall_mem_cons.mpr ⟨m1_174, List.forall_mem_cons.mpr ⟨m1_141, List.forall_mem_cons.mpr ⟨m1_1, fun _ h => absurd h List.not_mem_nil⟩⟩⟩) m1_142) rfl rfl rfl (by decide +kernel) ⟨Nat.le_of_ble_eq_true rfl, Nat.le_of_ble_eq_true rfl⟩) preEq rfl rfl hl.1 rfl (lv_room (Nat.le_of_ble_eq_true rfl)) dF_rounded_10 ⟨Nat.le_of_ble_eq_true rfl, Nat.le_of_ble_eq_true rfl⟩) ?_
    refine lv_iadd hx hb dF_rounded_13 ?_
    refine lv_iconst (v := 1) hx hb dF_rounded_14 (by decide) ?_
    refine lv_isub hx hb dF_rounded_15 ?_
    refine lv_bipush (v := 52) hx hb dF_rounded_16 (by decide) ?_
    refine lv_isub hx hb dF_rounded_18 ?_
    refine lv_sipush (v := -1074) hx hb dF_rounded_19 (by decide) ?_
    refine va_mmax hx hb (hml.trans hl.1.symm) hown (hts _ (List.mem_cons_of_mem _ m1_175)) (hts _ (List.mem_cons_of_mem _ m1_176)) (hts _ (List.mem_cons_of_mem _ m1_9)) (hts _ (List.mem_cons_of_mem _ m1_177)) (Nat.le_of_ble_eq_true rfl) (Nat.le_of_ble_eq_true rfl) (Nat.le_of_ble_eq_true rfl) (Nat.le_of_ble_eq_true rfl) dF_rounded_22 ?_
    refine lv_topi (fun w9 e9 => ?_)
    have e9 : w9 = (v_F_rounded_1 sg ex lo ng how) := e9
    rw [e9]
    refine lv_istore (lv' := [(6, .int (v_F_rounded_1 sg ex lo ng how)), (0, .long sg), (2, .int ex), (3, .int (bI lo)), (4, .int (bI ng)), (5, .int how)]) hx hb dF_rounded_25 hl (by decide) rfl (fun ls hl => ?_)
    refine lv_iload hx hb dF_rounded_27 (lv_at hl 0 rfl) ?_
    refine lv_sipush (v := 971) hx hb dF_rounded_29 (by decide) ?_
    refine lv_icmp_le (tgt := 48) hx hb dF_rounded_32 (by decide) (fun c_2 => ?_) (fun c_2 => ?_)
    · refine lv_iload hx hb dF_rounded_48 (lv_at hl 0 rfl) ?_
      refine lv_iload_n hx hb dF_rounded_50 rfl (lv_at hl 2 rfl) ?_
      refine lv_isub hx hb dF_rounded_51 ?_
      refine lv_topi (fun w9 e9 => ?_)
      have e9 : w9 = (v_F_rounded_2 sg ex lo ng how) := e9
      rw [e9]
      refine lv_istore (lv' := [(7, .int (v_F_rounded_2 sg ex lo ng how)), (6, .int (v_F_rounded_1 sg ex lo ng how)), (0, .long sg), (2, .int ex), (3, .int (bI lo)), (4, .int (bI ng)), (5, .int how)]) hx hb dF_rounded_52 hl (by decide) rfl (fun ls hl => ?_)
      refine lv_iload hx hb dF_rounded_54 (lv_at hl 0 rfl) ?_
      have J_1 : ∀ (w_0 : Int64), w_0 = (v_F_rounded_3 sg ex lo ng how) → ∀ (ls : Array Slot), lv_has ls 12 [(4, .int (bI ng)), (6, .int (v_F_rounded_1 sg ex lo ng how))] → WF_rounded p l e s m below meth c sg ex lo ng how s.heap [] (F0 m 78 ls [.long w_0]) := by
        intro w_0 e_0
        rw [e_0]
        intro ls hl
        refine lv_lstore (lv' := [(8, .long (v_F_rounded_3 sg ex lo ng how)), (4, .int (bI ng)), (6, .int (v_F_rounded_1 sg ex lo ng how))]) hx hb dF_rounded_78 hl (by decide) rfl (fun ls hl => ?_)
        refine lv_iload hx hb dF_rounded_80 (lv_at hl 2 rfl) ?_
        refine lv_sipush (v := -1074) hx hb dF_rounded_82 (by decide) ?_
        refine lv_isub hx hb dF_rounded_85 ?_
        refine lv_i2l (v := ((v_F_rounded_1 sg ex lo ng how) - (-1074 : Int32)).toInt64) hx hb dF_rounded_86 rfl ?_
        refine lv_bipush (v := 52) hx hb dF_rounded_87 (by decide) ?_
        refine lv_lshl (v := jlshl (((v_F_rounded_1 sg ex lo ng how) - (-1074 : Int32)).toInt64) (52 : Int32)) hx hb dF_rounded_89 rfl ?_
        refine lv_lload hx hb dF_rounded_90 (lv_at hl 0 rfl) ?_
        refine lv_ladd hx hb dF_rounded_92 ?_
        refine lv_topl (fun w9 e9 => ?_)
        have e9 : w9 = (v_F_rounded_4 sg ex lo ng how) := e9
        rw [e9]
        refine lv_lstore (lv' := [(10, .long (v_F_rounded_4 sg ex lo ng how)), (8, .long (v_F_rounded_3 sg ex lo ng how)), (4, .int (bI ng)), (6, .int (v_F_rounded_1 sg ex lo ng how))]) hx hb dF_rounded_93 hl (by decide) rfl (fun ls hl => ?_)
        refine lv_lload hx hb dF_rounded_95 (lv_at hl 0 rfl) ?_
        refine lv_lconst (v := 0) hx hb dF_rounded_97 (by decide) ?_
        refine W.lcmp hx hb dF_rounded_98 ?_
        have J_2 : ∀ (w_0 : Int64), w_0 = (v_F_rounded_5 sg ex lo ng how) → ∀ (ls : Array Slot), lv_has ls 12 [] → WF_rounded p l e s m below meth c sg ex lo ng how s.heap [] (F0 m 113 ls [.long w_0]) := by
          intro w_0 e_0
          rw [e_0]
          intro ls hl
          have e9 : (v_F_rounded_5 sg ex lo ng how) = pF_rounded sg ex lo ng how := (((if_neg c_1).trans (if_pos c_2))).symm
          exact W.lret (v := (v_F_rounded_5 sg ex lo ng how)) hx hb hr (fun t ht hW => ⟨by rw [e9], ht⟩) (fun q h => absurd h List.not_mem_nil) dF_rounded_113
        refine lv_if_ne (tgt := 106) hx hb dF_rounded_99 (by decide) (fun c_4 => ?_) (fun c_4 => ?_)
        · have c_4 : ¬ ((v_F_rounded_4 sg ex lo ng how) = (0 : Int64)) := fun h => c_4 ((lg_cmp_eq _ _).mpr h)
          refine lv_lload hx hb dF_rounded_106 (lv_at hl 0 rfl) ?_
          refine lv_iload hx hb dF_rounded_108 (lv_at hl 2 rfl) ?_
          refine k_call (W.runS (As := [.long (v_F_rounded_4 sg ex lo ng how), .int (bI ng)]) (rest := []) ⟨hx, hb, hml, hown, hts⟩ (kF_withSign l (v_F_rounded_4 sg ex lo ng how) ng) (cwS 2 hts (g_call (List.forall_mem_cons.mpr ⟨m1_96, List.forall_mem_cons.mpr ⟨m1_97, List.forall_mem_cons.mpr ⟨m1_1, fun _ h => absurd h List.not_mem_nil⟩⟩⟩) m1_98) rfl rfl rfl (by decide +kernel) ⟨Nat.le_of_ble_eq_true rfl, Nat.le_of_ble_eq_true rfl⟩) preEq rfl rfl hl.1 rfl (lv_room (Nat.le_of_ble_eq_true rfl)) dF_rounded_110 ⟨Nat.le_of_ble_eq_true rfl, Nat.le_of_ble_eq_true rfl⟩) ?_
          exact J_2 (pF_withSign (v_F_rounded_4 sg ex lo ng how) ng) ((if_neg c_4)).symm ls (lv_sub hl [] rfl)
        · have c_4 : (v_F_rounded_4 sg ex lo ng how) = (0 : Int64) := (lg_cmp_eq _ _).mp c_4
          refine lv_lconst (v := 0) hx hb dF_rounded_102 (by decide) ?_
          refine lv_goto (tgt := 113) hx hb dF_rounded_103 (by decide) ?_
          exact J_2 (0 : Int64) ((if_pos c_4)).symm ls (lv_sub hl [] rfl)
      refine lv_if_le (tgt := 73) hx hb dF_rounded_56 (by decide) (fun c_3 => ?_) (fun c_3 => ?_)
      · refine lv_lload_n hx hb dF_rounded_73 rfl (lv_at hl 2 rfl) ?_
        refine lv_iload hx hb dF_rounded_74 (lv_at hl 0 rfl) ?_
        refine lv_ineg hx hb dF_rounded_76 ?_
        refine lv_lshl (v := jlshl sg (-(v_F_rounded_2 sg ex lo ng how))) hx hb dF_rounded_77 rfl ?_
        exact J_1 (jlshl sg (-(v_F_rounded_2 sg ex lo ng how))) ((if_pos c_3)).symm ls (lv_sub hl [5, 1] rfl)
      · refine lv_lload_n hx hb dF_rounded_59 rfl (lv_at hl 2 rfl) ?_
        refine lv_iload hx hb dF_rounded_60 (lv_at hl 0 rfl) ?_
        refine lv_iload_n hx hb dF_rounded_62 rfl (lv_at hl 4 rfl) ?_
        refine lv_iload hx hb dF_rounded_63 (lv_at hl 5 rfl) ?_
        refine lv_iload hx hb dF_rounded_65 (lv_at hl 6 rfl) ?_
        refine k_call (W.runS (As := [.long sg, .int (v_F_rounded_2 sg ex lo ng how), .int (bI lo), .int (bI ng), .int how]) (rest := []) ⟨hx, hb, hml, hown, hts⟩ (kF_cut l sg (v_F_rounded_2 sg ex lo ng how) lo ng how) (cwS 5 hts (g_call (List.forall_mem_cons.mpr ⟨m1_182, List.forall_mem_cons.mpr ⟨m1_183, List.forall_mem_cons.mpr ⟨m1_1, fun _ h => absurd h List.not_mem_nil⟩⟩⟩) m1_184) rfl rfl rfl (by decide +kernel) ⟨Nat.le_of_ble_eq_true rfl, Nat.le_of_ble_eq_true rfl⟩) preEq rfl rfl hl.1 rfl (lv_room (Nat.le_of_ble_eq_true rfl)) dF_rounded_67 ⟨Nat.le_of_ble_eq_true rfl, Nat.le_of_ble_eq_true rfl⟩) ?_
        refine lv_goto (tgt := 78) hx hb dF_rounded_70 (by decide) ?_
        exact J_1 (pF_cut sg (v_F_rounded_2 sg ex lo ng how) lo ng how) ((if_neg c_3)).symm ls (lv_sub hl [5, 1] rfl)
    · refine lv_iload hx hb dF_rounded_35 (lv_at hl 4 rfl) ?_
      refine lv_iload hx hb dF_rounded_37 (lv_at hl 5 rfl) ?_
      refine k_call (W.runS (As := [.int (bI ng), .int how]) (rest := []) ⟨hx, hb, hml, hown, hts⟩ (kF_pastGreatest l ng how) (cwS 2 hts (g_call (List.forall_mem_cons.mpr ⟨m1_178, List.forall_mem_cons.mpr ⟨m1_179, List.forall_mem_cons.mpr ⟨m1_1, fun _ h => absurd h List.not_mem_nil⟩⟩⟩) m1_180) rfl rfl rfl (by decide +kernel) ⟨Nat.le_of_ble_eq_true rfl, Nat.le_of_ble_eq_true rfl⟩) preEq rfl rfl hl.1 rfl (lv_room (Nat.le_of_ble_eq_true rfl)) dF_rounded_39 ⟨Nat.le_of_ble_eq_true rfl, Nat.le_of_ble_eq_true rfl⟩) ?_
      refine lv_iload hx hb dF_rounded_42 (lv_at hl 4 rfl) ?_
      refine k_call (W.runS (As := [.long (pF_pastGreatest ng how), .int (bI ng)]) (rest := []) ⟨hx, hb, hml, hown, hts⟩ (kF_withSign l (pF_pastGreatest ng how) ng) (cwS 2 hts (g_call (List.forall_mem_cons.mpr ⟨m1_96, List.forall_mem_cons.mpr ⟨m1_97, List.forall_mem_cons.mpr ⟨m1_1, fun _ h => absurd h List.not_mem_nil⟩⟩⟩) m1_98) rfl rfl rfl (by decide +kernel) ⟨Nat.le_of_ble_eq_true rfl, Nat.le_of_ble_eq_true rfl⟩) preEq rfl rfl hl.1 rfl (lv_room (Nat.le_of_ble_eq_true rfl)) dF_rounded_44 ⟨Nat.le_of_ble_eq_true rfl, Nat.le_of_ble_eq_true rfl⟩) ?_
      have e9 : pF_withSign (pF_pastGreatest ng how) ng = pF_rounded sg ex lo ng how := (((if_neg c_1).trans (if_neg c_2))).symm
      exact W.lret (v := pF_withSign (pF_pastGreatest ng how) ng) hx hb hr (fun t ht hW => ⟨by rw [e9], ht⟩) (fun q h => absurd h List.not_mem_nil) dF_rounded_47
  · have c_1 : sg = (0 : Int64) := (lg_cmp_eq _ _).mp c_1
    refine lv_lconst (v := 0) hx hb dF_rounded_6 (by decide) ?_
    have e9 : (0 : Int64) = pF_rounded sg ex lo ng how := ((if_pos c_1)).symm
    exact W.lret (v := (0 : Int64)) hx hb hr (fun t ht hW => ⟨by rw [e9], ht⟩) (fun q h => absurd h List.not_mem_nil) dF_rounded_7
def v_F_quotient_1 (x : Int64) (y : Int64) (how : Int32) : Int64 := jlshl (pF_significandOf y) (pF_slackOf y)
def v_F_quotient_2 (x : Int64) (y : Int64) (how : Int32) : Int64 := jlshl (pF_significandOf x) (pF_slackOf x)
def v_F_quotient_3 (x : Int64) (y : Int64) (how : Int32) : Int32 := (((pF_exponentOf x) - (pF_slackOf x)) - (pF_exponentOf y)) + (pF_slackOf y)
def v_F_quotient_7 (x : Int64) (y : Int64) (how : Int32) : Bool := (if (0 : Int64) ≤ (x ^^^ y) then false else true)
def v_F_quotient_8 (x_1 : Int64) (j1 : Nat) (y1_0 : Int64) (y1_1 : Int64) : Int64 := jlshl y1_0 (1 : Int32)
def v_F_quotient_9 (x_1 : Int64) (j1 : Nat) (y1_0 : Int64) (y1_1 : Int64) : Int64 := y1_1 - x_1
def v_F_quotient_10 (x_1 : Int64) (j1 : Nat) (y1_0 : Int64) (y1_1 : Int64) : Int64 := (v_F_quotient_8 x_1 j1 y1_0 y1_1) ||| (1 : Int64)
def v_F_quotient_11 (x_1 : Int64) (j1 : Nat) (y1_0 : Int64) (y1_1 : Int64) : Int64 := (if y1_1 < x_1 then y1_1 else (v_F_quotient_9 x_1 j1 y1_0 y1_1))
def v_F_quotient_12 (x_1 : Int64) (j1 : Nat) (y1_0 : Int64) (y1_1 : Int64) : Int64 := (if y1_1 < x_1 then (v_F_quotient_8 x_1 j1 y1_0 y1_1) else (v_F_quotient_10 x_1 j1 y1_0 y1_1))
def v_F_quotient_13 (x_1 : Int64) (j1 : Nat) (y1_0 : Int64) (y1_1 : Int64) : Int64 := jlshl (v_F_quotient_11 x_1 j1 y1_0 y1_1) (1 : Int32)
def qF_quotient_49 (x_1 : Int64) : Nat → Nat → Int64 → Int64 → Int64 × Int64
  | 0, j1, y1_0, y1_1 => (y1_0, y1_1)
  | n1 + 1, j1, y1_0, y1_1 => qF_quotient_49 x_1 n1 (j1 + 1) (v_F_quotient_12 x_1 j1 y1_0 y1_1) (v_F_quotient_13 x_1 j1 y1_0 y1_1)
def v_F_quotient_4 (x : Int64) (y : Int64) (how : Int32) : Int64 := (qF_quotient_49 (v_F_quotient_1 x y how) 56 0 (0 : Int64) (v_F_quotient_2 x y how)).1
def v_F_quotient_5 (x : Int64) (y : Int64) (how : Int32) : Int64 := (qF_quotient_49 (v_F_quotient_1 x y how) 56 0 (0 : Int64) (v_F_quotient_2 x y how)).2
def v_F_quotient_6 (x : Int64) (y : Int64) (how : Int32) : Bool := (if (v_F_quotient_5 x y how) = (0 : Int64) then false else true)
def pF_quotient (x : Int64) (y : Int64) (how : Int32) : Int64 := pF_rounded (v_F_quotient_4 x y how) ((v_F_quotient_3 x y how) - (55 : Int32)) (v_F_quotient_6 x y how) (v_F_quotient_7 x y how) how
/-- F_quotient -/
abbrev WF_quotient (p : Program) (l : Launch) (e : Env) (s : State) (m : MethodId) (below : List Frame) (meth : Method) (c : Code) (x : Int64) (y : Int64) (how : Int32) (H : Heap) (locs : List Loc) (g : JFrame) : Prop := W p l e (headSpec wF_quotient ({ frames := 4, cells := 0, slots := 0, locals := 95 })).room s m ([.long x, .long y, .int how] : List Value).toArray below meth c H locs 0 0 (MQ below (QR (.long (pF_quotient x y how))) ([.long x, .long y, .int how] : List Value).toArray s 0 0 (fun _ => False)) g
set_option maxHeartbeats 4000000 in
set_option maxRecDepth 100000 in
theorem kF_quotient (l : Launch) (x : Int64) (y : Int64) (how : Int32) : Met l yF_quotient wF_quotient ({ frames := 4, cells := 0, slots := 0, locals := 95 }) (fun v _ => v = ([.long x, .long y, .int how] : List Value).toArray) (QR (.long (pF_quotient x y how))) 0 0 (fun _ => False) := by
  refine Met.ofW (cc := cF_quotient) (maxL := 13) (ret := (some .long)) (by decide) rfl ?_
  intro p e s m args below meth c s₁ B hml hv
  have hv : args = ([.long x, .long y, .int how] : List Value).toArray := hv
  subst hv
  have hx := B.exec
  have hb := B.bytes
  have hr := B.returns
  have hts := atoms_spec (ws := wF_quotient) B.pre
  have hown : s.vm.findClass RF = some m.cls := findClass_of_methodNamed B.named
  have hlocks := B.notSynchronized
  have hl := lv_entry ([.long x, .long y, .int how]) (n := 13) (Nat.le_of_ble_eq_true rfl)
  rw [lg_entry_eq]
  generalize (lg_sl ([.long x, .long y, .int how]) ++ List.replicate (13 - (lg_sl ([.long x, .long y, .int how])).length) Slot.unset).toArray = ls at hl ⊢
  have hl : lv_has ls 13 [(0, .long x), (2, .long y), (4, .int how)] := hl
  refine lv_lload_n hx hb dF_quotient_0 rfl (lv_at hl 1 rfl) ?_
  refine k_call (W.runS (As := [.long y]) (rest := []) ⟨hx, hb, hml, hown, hts⟩ (kF_significandOf l y) (cwS 1 hts (g_call (List.forall_mem_cons.mpr ⟨m1_199, List.forall_mem_cons.mpr ⟨m1_112, List.forall_mem_cons.mpr ⟨m1_1, fun _ h => absurd h List.not_mem_nil⟩⟩⟩) m1_113) rfl rfl rfl (by decide +kernel) ⟨Nat.le_of_ble_eq_true rfl, Nat.le_of_ble_eq_true rfl⟩) preEq rfl rfl hl.1 rfl (lv_room (Nat.le_of_ble_eq_true rfl)) dF_quotient_1 ⟨Nat.le_of_ble_eq_true rfl, Nat.le_of_ble_eq_true rfl⟩) ?_
  refine lv_lload_n hx hb dF_quotient_4 rfl (lv_at hl 1 rfl) ?_
  refine k_call (W.runS (As := [.long y]) (rest := [.long (pF_significandOf y)]) ⟨hx, hb, hml, hown, hts⟩ (kF_slackOf l y) (cwS 1 hts (g_call (List.forall_mem_cons.mpr ⟨m1_200, List.forall_mem_cons.mpr ⟨m1_201, List.forall_mem_cons.mpr ⟨m1_1, fun _ h => absurd h List.not_mem_nil⟩⟩⟩) m1_202) rfl rfl rfl (by decide +kernel) ⟨Nat.le_of_ble_eq_true rfl, Nat.le_of_ble_eq_true rfl⟩) preEq rfl rfl hl.1 rfl (lv_room (Nat.le_of_ble_eq_true rfl)) dF_quotient_5 ⟨Nat.le_of_ble_eq_true rfl, Nat.le_of_ble_eq_true rfl⟩) ?_
  refine lv_lshl (v := jlshl (pF_significandOf y) (pF_slackOf y)) hx hb dF_quotient_8 rfl ?_
  refine lv_topl (fun w9 e9 => ?_)
  have e9 : w9 = (v_F_quotient_1 x y how) := e9
  rw [e9]
  refine lv_lstore (lv' := [(5, .long (v_F_quotient_1 x y how)), (0, .long x), (2, .long y), (4, .int how)]) hx hb dF_quotient_9 hl (by decide) rfl (fun ls hl => ?_)
  refine lv_lload_n hx hb dF_quotient_11 rfl (lv_at hl 1 rfl) ?_
  refine k_call (W.runS (As := [.long x]) (rest := []) ⟨hx, hb, hml, hown, hts⟩ (kF_significandOf l x) (cwS 1 hts (g_call (List.forall_mem_cons.mpr ⟨m1_199, List.forall_mem_cons.mpr ⟨m1_112, List.forall_mem_cons.mpr ⟨m1_1, fun _ h => absurd h List.not_mem_nil⟩⟩⟩) m1_113) rfl rfl rfl (by decide +kernel) ⟨Nat.le_of_ble_eq_true rfl, Nat.le_of_ble_eq_true rfl⟩) preEq rfl rfl hl.1 rfl (lv_room (Nat.le_of_ble_eq_true rfl)) dF_quotient_12 ⟨Nat.le_of_ble_eq_true rfl, Nat.le_of_ble_eq_true rfl⟩) ?_
  refine lv_lload_n hx hb dF_quotient_15 rfl (lv_at hl 1 rfl) ?_
  refine k_call (W.runS (As := [.long x]) (rest := [.long (pF_significandOf x)]) ⟨hx, hb, hml, hown, hts⟩ (kF_slackOf l x) (cwS 1 hts (g_call (List.forall_mem_cons.mpr ⟨m1_200, List.forall_mem_cons.mpr ⟨m1_201, List.forall_mem_cons.mpr ⟨m1_1, fun _ h => absurd h List.not_mem_nil⟩⟩⟩) m1_202) rfl rfl rfl (by decide +kernel) ⟨Nat.le_of_ble_eq_true rfl, Nat.le_of_ble_eq_true rfl⟩) preEq rfl rfl hl.1 rfl (lv_room (Nat.le_of_ble_eq_true rfl)) dF_quotient_16 ⟨Nat.le_of_ble_eq_true rfl, Nat.le_of_ble_eq_true rfl⟩) ?_
  refine lv_lshl (v := jlshl (pF_significandOf x) (pF_slackOf x)) hx hb dF_quotient_19 rfl ?_
  refine lv_topl (fun w9 e9 => ?_)
  have e9 : w9 = (v_F_quotient_2 x y how) := e9
  rw [e9]
  refine lv_lstore (lv' := [(7, .long (v_F_quotient_2 x y how)), (5, .long (v_F_quotient_1 x y how)), (0, .long x), (2, .long y), (4, .int how)]) hx hb dF_quotient_20 hl (by decide) rfl (fun ls hl => ?_)
  refine lv_lload_n hx hb dF_quotient_22 rfl (lv_at hl 2 rfl) ?_
  refine k_call (W.runS (As := [.long x]) (rest := []) ⟨hx, hb, hml, hown, hts⟩ (kF_exponentOf l x) (cwS 1 hts (g_call (List.forall_mem_cons.mpr ⟨m1_203, List.forall_mem_cons.mpr ⟨m1_122, List.forall_mem_cons.mpr ⟨m1_1, fun _ h => absurd h List.not_mem_nil⟩⟩⟩) m1_123) rfl rfl rfl (by decide +kernel) ⟨Nat.le_of_ble_eq_true rfl, Nat.le_of_ble_eq_true rfl⟩) preEq rfl rfl hl.1 rfl (lv_room (Nat.le_of_ble_eq_true rfl)) dF_quotient_23 ⟨Nat.le_of_ble_eq_true rfl, Nat.le_of_ble_eq_true rfl⟩) ?_
  refine lv_lload_n hx hb dF_quotient_26 rfl (lv_at hl 2 rfl) ?_
  refine k_call (W.runS (As := [.long x]) (rest := [.int (pF_exponentOf x)]) ⟨hx, hb, hml, hown, hts⟩ (kF_slackOf l x) (cwS 1 hts (g_call (List.forall_mem_cons.mpr ⟨m1_200, List.forall_mem_cons.mpr ⟨m1_201, List.forall_mem_cons.mpr ⟨m1_1, fun _ h => absurd h List.not_mem_nil⟩⟩⟩) m1_202) rfl rfl rfl (by decide +kernel) ⟨Nat.le_of_ble_eq_true rfl, Nat.le_of_ble_eq_true rfl⟩) preEq rfl rfl hl.1 rfl (lv_room (Nat.le_of_ble_eq_true rfl)) dF_quotient_27 ⟨Nat.le_of_ble_eq_true rfl, Nat.le_of_ble_eq_true rfl⟩) ?_
  refine lv_isub hx hb dF_quotient_30 ?_
  refine lv_lload_n hx hb dF_quotient_31 rfl (lv_at hl 3 rfl) ?_
  refine k_call (W.runS (As := [.long y]) (rest := [.int ((pF_exponentOf x) - (pF_slackOf x))]) ⟨hx, hb, hml, hown, hts⟩ (kF_exponentOf l y) (cwS 1 hts (g_call (List.forall_mem_cons.mpr ⟨m1_203, List.forall_mem_cons.mpr ⟨m1_122, List.forall_mem_cons.mpr ⟨m1_1, fun _ h => absurd h List.not_mem_nil⟩⟩⟩) m1_123) rfl rfl rfl (by decide +kernel) ⟨Nat.le_of_ble_eq_true rfl, Nat.le_of_ble_eq_true rfl⟩) preEq rfl rfl hl.1 rfl (lv_room (Nat.le_of_ble_eq_true rfl)) dF_quotient_32 ⟨Nat.le_of_ble_eq_true rfl, Nat.le_of_ble_eq_true rfl⟩) ?_
  refine lv_isub hx hb dF_quotient_35 ?_
  refine lv_lload_n hx hb dF_quotient_36 rfl (lv_at hl 3 rfl) ?_
  refine k_call (W.runS (As := [.long y]) (rest := [.int (((pF_exponentOf x) - (pF_slackOf x)) - (pF_exponentOf y))]) ⟨hx, hb, hml, hown, hts⟩ (kF_slackOf l y) (cwS 1 hts (g_call (List.forall_mem_cons.mpr ⟨m1_200, List.forall_mem_cons.mpr ⟨m1_201, List.forall_mem_cons.mpr ⟨m1_1, fun _ h => absurd h List.not_mem_nil⟩⟩⟩) m1_202) rfl rfl rfl (by decide +kernel) ⟨Nat.le_of_ble_eq_true rfl, Nat.le_of_ble_eq_true rfl⟩) preEq rfl rfl hl.1 rfl (lv_room (Nat.le_of_ble_eq_true rfl)) dF_quotient_37 ⟨Nat.le_of_ble_eq_true rfl, Nat.le_of_ble_eq_true rfl⟩) ?_
  refine lv_iadd hx hb dF_quotient_40 ?_
  refine lv_topi (fun w9 e9 => ?_)
  have e9 : w9 = (v_F_quotient_3 x y how) := e9
  rw [e9]
  refine lv_istore (lv' := [(9, .int (v_F_quotient_3 x y how)), (7, .long (v_F_quotient_2 x y how)), (5, .long (v_F_quotient_1 x y how)), (0, .long x), (2, .long y), (4, .int how)]) hx hb dF_quotient_41 hl (by decide) rfl (fun ls hl => ?_)
  refine lv_lconst (v := 0) hx hb dF_quotient_43 (by decide) ?_
  refine lv_lstore (lv' := [(10, .long (0 : Int64)), (9, .int (v_F_quotient_3 x y how)), (7, .long (v_F_quotient_2 x y how)), (5, .long (v_F_quotient_1 x y how)), (0, .long x), (2, .long y), (4, .int how)]) hx hb dF_quotient_44 hl (by decide) rfl (fun ls hl => ?_)
  refine lv_iconst (v := 0) hx hb dF_quotient_46 (by decide) ?_
  refine lv_istore (lv' := [(12, .int (0 : Int32)), (10, .long (0 : Int64)), (9, .int (v_F_quotient_3 x y how)), (7, .long (v_F_quotient_2 x y how)), (5, .long (v_F_quotient_1 x y how)), (0, .long x), (2, .long y), (4, .int how)]) hx hb dF_quotient_47 hl (by decide) rfl (fun ls hl => ?_)
  have K_1 : ∀ (w_0 : Int64) (w_1 : Int64), (w_0, w_1) = qF_quotient_49 (v_F_quotient_1 x y how) 56 0 (0 : Int64) (v_F_quotient_2 x y how) → ∀ (ls : Array Slot), lv_has ls 13 [(0, .long x), (2, .long y), (4, .int how), (7, .long w_1), (9, .int (v_F_quotient_3 x y how)), (10, .long w_0)] → WF_quotient p l e s m below meth c x y how s.heap [] (F0 m 95 ls []) := by
    intro w_0 w_1 hz
    have e_0 : w_0 = (v_F_quotient_4 x y how) := (congrArg (fun q => q.1) hz)
    have e_1 : w_1 = (v_F_quotient_5 x y how) := (congrArg (fun q => q.2) hz)
    rw [e_0, e_1]
    intro ls hl
    refine lv_lload hx hb dF_quotient_95 (lv_at hl 5 rfl) ?_
    refine lv_iload hx hb dF_quotient_97 (lv_at hl 4 rfl) ?_
    refine lv_bipush (v := 55) hx hb dF_quotient_99 (by decide) ?_
    refine lv_isub hx hb dF_quotient_101 ?_
    refine lv_lload hx hb dF_quotient_102 (lv_at hl 3 rfl) ?_
    refine lv_lconst (v := 0) hx hb dF_quotient_104 (by decide) ?_
    refine W.lcmp hx hb dF_quotient_105 ?_
    have J_1 : ∀ (w_0 : Bool), w_0 = (v_F_quotient_6 x y how) → ∀ (ls : Array Slot), lv_has ls 13 [(0, .long x), (2, .long y), (4, .int how)] → WF_quotient p l e s m below meth c x y how s.heap [] (F0 m 114 ls [.int (bI w_0), .int ((v_F_quotient_3 x y how) - (55 : Int32)), .long (v_F_quotient_4 x y how)]) := by
      intro w_0 e_0
      rw [e_0]
      intro ls hl
      refine lv_lload_n hx hb dF_quotient_114 rfl (lv_at hl 0 rfl) ?_
      refine lv_lload_n hx hb dF_quotient_115 rfl (lv_at hl 1 rfl) ?_
      refine lv_lxor hx hb dF_quotient_116 ?_
      refine lv_lconst (v := 0) hx hb dF_quotient_117 (by decide) ?_
      refine W.lcmp hx hb dF_quotient_118 ?_
      have J_2 : ∀ (w_0 : Bool), w_0 = (v_F_quotient_7 x y how) → ∀ (ls : Array Slot), lv_has ls 13 [(4, .int how)] → WF_quotient p l e s m below meth c x y how s.heap [] (F0 m 127 ls [.int (bI w_0), .int (bI (v_F_quotient_6 x y how)), .int ((v_F_quotient_3 x y how) - (55 : Int32)), .long (v_F_quotient_4 x y how)]) := by
        intro w_0 e_0
        rw [e_0]
        intro ls hl
        refine lv_iload hx hb dF_quotient_127 (lv_at hl 0 rfl) ?_
        refine k_call (W.runS (As := [.long (v_F_quotient_4 x y how), .int ((v_F_quotient_3 x y how) - (55 : Int32)), .int (bI (v_F_quotient_6 x y how)), .int (bI (v_F_quotient_7 x y how)), .int how]) (rest := []) ⟨hx, hb, hml, hown, hts⟩ (kF_rounded l (v_F_quotient_4 x y how) ((v_F_quotient_3 x y how) - (55 : Int32)) (v_F_quotient_6 x y how) (v_F_quotient_7 x y how) how) (cwS 5 hts (g_call (List.forall_mem_cons.mpr ⟨m1_171, List.forall_mem_cons.mpr ⟨m1_172, List.forall_mem_cons.mpr ⟨m1_1, fun _ h => absurd h List.not_mem_nil⟩⟩⟩) m1_173) rfl rfl rfl (by decide +kernel) ⟨Nat.le_of_ble_eq_true rfl, Nat.le_of_ble_eq_true rfl⟩) preEq rfl rfl hl.1 rfl (lv_room (Nat.le_of_ble_eq_true rfl)) dF_quotient_129 ⟨Nat.le_of_ble_eq_true rfl, Nat.le_of_ble_eq_true rfl⟩) ?_
        have e9 : pF_rounded (v_F_quotient_4 x y how) ((v_F_quotient_3 x y how) - (55 : Int32)) (v_F_quotient_6 x y how) (v_F_quotient_7 x y how) how = pF_quotient x y how := (rfl).symm
        exact W.lret (v := pF_rounded (v_F_quotient_4 x y how) ((v_F_quotient_3 x y how) - (55 : Int32)) (v_F_quotient_6 x y how) (v_F_quotient_7 x y how) how) hx hb hr (fun t ht hW => ⟨by rw [e9], ht⟩) (fun q h => absurd h List.not_mem_nil) dF_quotient_132
      refine lv_if_ge (tgt := 126) hx hb dF_quotient_119 (by decide) (fun c_2 => ?_) (fun c_2 => ?_)
      · have c_2 : (0 : Int64) ≤ (x ^^^ y) := (lg_cmp_ge _ _).mp c_2
        refine lv_iconst (v := 0) hx hb dF_quotient_126 (by decide) ?_
        exact J_2 false ((if_pos c_2)).symm ls (lv_sub hl [2] rfl)
      · have c_2 : ¬ ((0 : Int64) ≤ (x ^^^ y)) := fun h => c_2 ((lg_cmp_ge _ _).mpr h)
        refine lv_iconst (v := 1) hx hb dF_quotient_122 (by decide) ?_
        refine lv_goto (tgt := 127) hx hb dF_quotient_123 (by decide) ?_
        exact J_2 true ((if_neg c_2)).symm ls (lv_sub hl [2] rfl)
    refine lv_if_eq (tgt := 113) hx hb dF_quotient_106 (by decide) (fun c_1 => ?_) (fun c_1 => ?_)
    · have c_1 : (v_F_quotient_5 x y how) = (0 : Int64) := (lg_cmp_eq _ _).mp c_1
      refine lv_iconst (v := 0) hx hb dF_quotient_113 (by decide) ?_
      exact J_1 false ((if_pos c_1)).symm ls (lv_sub hl [0, 1, 2] rfl)
    · have c_1 : ¬ ((v_F_quotient_5 x y how) = (0 : Int64)) := fun h => c_1 ((lg_cmp_eq _ _).mpr h)
      refine lv_iconst (v := 1) hx hb dF_quotient_109 (by decide) ?_
      refine lv_goto (tgt := 114) hx hb dF_quotient_110 (by decide) ?_
      exact J_1 true ((if_neg c_1)).symm ls (lv_sub hl [0, 1, 2] rfl)
  have L_1 : ∀ (n1 j1 : Nat) (y1_0 : Int64) (y1_1 : Int64), j1 + n1 = 56 → qF_quotient_49 (v_F_quotient_1 x y how) n1 j1 y1_0 y1_1 = qF_quotient_49 (v_F_quotient_1 x y how) 56 0 (0 : Int64) (v_F_quotient_2 x y how) → ∀ (ls : Array Slot), lv_has ls 13 [(0, .long x), (2, .long y), (4, .int how), (5, .long (v_F_quotient_1 x y how)), (7, .long y1_1), (9, .int (v_F_quotient_3 x y how)), (10, .long y1_0), (12, .int (nI j1))] → WF_quotient p l e s m below meth c x y how s.heap [] (F0 m 49 ls []) := by
    intro n1
    induction n1 with
    | zero =>
      intro j1 y1_0 y1_1 hj hq ls hl
      refine lv_iload hx hb dF_quotient_49 (lv_at hl 7 rfl) ?_
      refine lv_bipush (v := 55) hx hb dF_quotient_51 (by decide) ?_
      refine lv_icmp_gt (tgt := 95) hx hb dF_quotient_53 (by decide) (fun c_3 => ?_) (fun c_3 => ?_)
      rotate_left
      · exact absurd ((nI_ltI (a := 55) (b := j1) (by omega) (by omega)).mpr (by omega)) c_3
      exact K_1 y1_0 y1_1 (by exact hq) ls (lv_sub hl [0, 1, 2, 4, 5, 6] rfl)
    | succ n1 ih =>
      intro j1 y1_0 y1_1 hj hq ls hl
      refine lv_iload hx hb dF_quotient_49 (lv_at hl 7 rfl) ?_
      refine lv_bipush (v := 55) hx hb dF_quotient_51 (by decide) ?_
      refine lv_icmp_gt (tgt := 95) hx hb dF_quotient_53 (by decide) (fun c_4 => ?_) (fun c_4 => ?_)
      · exact absurd ((nI_ltI (a := 55) (b := j1) (by omega) (by omega)).mp c_4) (by omega)
      refine lv_lload hx hb dF_quotient_56 (lv_at hl 6 rfl) ?_
      refine lv_iconst (v := 1) hx hb dF_quotient_58 (by decide) ?_
      refine lv_lshl (v := jlshl y1_0 (1 : Int32)) hx hb dF_quotient_59 rfl ?_
      refine lv_topl (fun w9 e9 => ?_)
      have e9 : w9 = (v_F_quotient_8 (v_F_quotient_1 x y how) j1 y1_0 y1_1) := e9
      rw [e9]
      refine lv_lstore (lv' := [(10, .long (v_F_quotient_8 (v_F_quotient_1 x y how) j1 y1_0 y1_1)), (0, .long x), (2, .long y), (4, .int how), (5, .long (v_F_quotient_1 x y how)), (7, .long y1_1), (9, .int (v_F_quotient_3 x y how)), (12, .int (nI j1))]) hx hb dF_quotient_60 hl (by decide) rfl (fun ls hl => ?_)
      refine lv_lload hx hb dF_quotient_62 (lv_at hl 5 rfl) ?_
      refine lv_lload hx hb dF_quotient_64 (lv_at hl 4 rfl) ?_
      refine W.lcmp hx hb dF_quotient_66 ?_
      have J_3 : ∀ (w_0 : Int64), w_0 = (v_F_quotient_11 (v_F_quotient_1 x y how) j1 y1_0 y1_1) → ∀ (w_1 : Int64), w_1 = (v_F_quotient_12 (v_F_quotient_1 x y how) j1 y1_0 y1_1) → ∀ (ls : Array Slot), lv_has ls 13 [(0, .long x), (2, .long y), (4, .int how), (5, .long (v_F_quotient_1 x y how)), (7, .long w_0), (9, .int (v_F_quotient_3 x y how)), (10, .long w_1), (12, .int (nI j1))] → WF_quotient p l e s m below meth c x y how s.heap [] (F0 m 83 ls []) := by
        intro w_0 e_0
        rw [e_0]
        intro w_1 e_1
        rw [e_1]
        intro ls hl
        refine lv_lload hx hb dF_quotient_83 (lv_at hl 4 rfl) ?_
        refine lv_iconst (v := 1) hx hb dF_quotient_85 (by decide) ?_
        refine lv_lshl (v := jlshl (v_F_quotient_11 (v_F_quotient_1 x y how) j1 y1_0 y1_1) (1 : Int32)) hx hb dF_quotient_86 rfl ?_
        refine lv_topl (fun w9 e9 => ?_)
        have e9 : w9 = (v_F_quotient_13 (v_F_quotient_1 x y how) j1 y1_0 y1_1) := e9
        rw [e9]
        refine lv_lstore (lv' := [(7, .long (v_F_quotient_13 (v_F_quotient_1 x y how) j1 y1_0 y1_1)), (0, .long x), (2, .long y), (4, .int how), (5, .long (v_F_quotient_1 x y how)), (9, .int (v_F_quotient_3 x y how)), (10, .long (v_F_quotient_12 (v_F_quotient_1 x y how) j1 y1_0 y1_1)), (12, .int (nI j1))]) hx hb dF_quotient_87 hl (by decide) rfl (fun ls hl => ?_)
        refine lv_iinc (v := (nI (j1 + 1))) (lv' := [(12, .int (nI (j1 + 1))), (7, .long (v_F_quotient_13 (v_F_quotient_1 x y how) j1 y1_0 y1_1)), (0, .long x), (2, .long y), (4, .int how), (5, .long (v_F_quotient_1 x y how)), (9, .int (v_F_quotient_3 x y how)), (10, .long (v_F_quotient_12 (v_F_quotient_1 x y how) j1 y1_0 y1_1))]) hx hb dF_quotient_89 hl (k := 7) rfl (nI_1 _) (by decide) rfl (fun ls hl => ?_)
        refine lv_goto (tgt := 49) hx hb dF_quotient_92 (by decide) ?_
        exact ih (j1 + 1) (v_F_quotient_12 (v_F_quotient_1 x y how) j1 y1_0 y1_1) (v_F_quotient_13 (v_F_quotient_1 x y how) j1 y1_0 y1_1) (by omega) (by exact hq) ls (lv_sub hl [2, 3, 4, 5, 1, 6, 7, 0] rfl)
      refine lv_if_lt (tgt := 83) hx hb dF_quotient_67 (by decide) (fun c_5 => ?_) (fun c_5 => ?_)
      · have c_5 : y1_1 < (v_F_quotient_1 x y how) := (lg_cmp_lt _ _).mp c_5
        exact J_3 y1_1 ((if_pos c_5)).symm (v_F_quotient_8 (v_F_quotient_1 x y how) j1 y1_0 y1_1) ((if_pos c_5)).symm ls (lv_sub hl [1, 2, 3, 4, 5, 6, 0, 7] rfl)
      · have c_5 : ¬ (y1_1 < (v_F_quotient_1 x y how)) := fun h => c_5 ((lg_cmp_lt _ _).mpr h)
        refine lv_lload hx hb dF_quotient_70 (lv_at hl 5 rfl) ?_
        refine lv_lload hx hb dF_quotient_72 (lv_at hl 4 rfl) ?_
        refine lv_lsub hx hb dF_quotient_74 ?_
        refine lv_topl (fun w9 e9 => ?_)
        have e9 : w9 = (v_F_quotient_9 (v_F_quotient_1 x y how) j1 y1_0 y1_1) := e9
        rw [e9]
        refine lv_lstore (lv' := [(7, .long (v_F_quotient_9 (v_F_quotient_1 x y how) j1 y1_0 y1_1)), (10, .long (v_F_quotient_8 (v_F_quotient_1 x y how) j1 y1_0 y1_1)), (0, .long x), (2, .long y), (4, .int how), (5, .long (v_F_quotient_1 x y how)), (9, .int (v_F_quotient_3 x y how)), (12, .int (nI j1))]) hx hb dF_quotient_75 hl (by decide) rfl (fun ls hl => ?_)
        refine lv_lload hx hb dF_quotient_77 (lv_at hl 1 rfl) ?_
        refine lv_lconst (v := 1) hx hb dF_quotient_79 (by decide) ?_
        refine lv_lor hx hb dF_quotient_80 ?_
        refine lv_topl (fun w9 e9 => ?_)
        have e9 : w9 = (v_F_quotient_10 (v_F_quotient_1 x y how) j1 y1_0 y1_1) := e9
        rw [e9]
        refine lv_lstore (lv' := [(10, .long (v_F_quotient_10 (v_F_quotient_1 x y how) j1 y1_0 y1_1)), (7, .long (v_F_quotient_9 (v_F_quotient_1 x y how) j1 y1_0 y1_1)), (0, .long x), (2, .long y), (4, .int how), (5, .long (v_F_quotient_1 x y how)), (9, .int (v_F_quotient_3 x y how)), (12, .int (nI j1))]) hx hb dF_quotient_81 hl (by decide) rfl (fun ls hl => ?_)
        exact J_3 (v_F_quotient_9 (v_F_quotient_1 x y how) j1 y1_0 y1_1) ((if_neg c_5)).symm (v_F_quotient_10 (v_F_quotient_1 x y how) j1 y1_0 y1_1) ((if_neg c_5)).symm ls (lv_sub hl [2, 3, 4, 5, 1, 6, 0, 7] rfl)
  exact L_1 56 0 (0 : Int64) (v_F_quotient_2 x y how) (by omega) rfl ls (lv_sub hl [5, 6, 7, 4, 3, 2, 1, 0] rfl)
def v_F_rootOfFinite_1 (x : Int64) (how : Int32) : Int64 := jlshl (pF_significandOf x) (pF_slackOf x)
def v_F_rootOfFinite_2 (x : Int64) (how : Int32) : Int32 := (pF_exponentOf x) - (pF_slackOf x)
def v_F_rootOfFinite_3 (x : Int64) (how : Int32) : Int64 := jlshl (v_F_rootOfFinite_1 x how) (1 : Int32)
def v_F_rootOfFinite_4 (x : Int64) (how : Int32) : Int32 := (v_F_rootOfFinite_2 x how) + (-1)
def v_F_rootOfFinite_5 (x : Int64) (how : Int32) : Int64 := (if ((v_F_rootOfFinite_2 x how) &&& (1 : Int32)) = 0 then (v_F_rootOfFinite_1 x how) else (v_F_rootOfFinite_3 x how))
def v_F_rootOfFinite_6 (x : Int64) (how : Int32) : Int32 := (if ((v_F_rootOfFinite_2 x how) &&& (1 : Int32)) = 0 then (v_F_rootOfFinite_2 x how) else (v_F_rootOfFinite_4 x how))
def v_F_rootOfFinite_10 (x_5 : Int64) (j1 : Nat) (y1_0 : Int64) (y1_1 : Int64) : Int64 := (if (27 : Int32) < (nI j1) then (0 : Int64) else (jlush x_5 ((2 : Int32) * ((27 : Int32) - (nI j1)))) &&& (3 : Int64))
def v_F_rootOfFinite_11 (x_5 : Int64) (j1 : Nat) (y1_0 : Int64) (y1_1 : Int64) : Int64 := (jlshl y1_1 (2 : Int32)) ||| (v_F_rootOfFinite_10 x_5 j1 y1_0 y1_1)
def v_F_rootOfFinite_12 (x_5 : Int64) (j1 : Nat) (y1_0 : Int64) (y1_1 : Int64) : Int64 := (jlshl y1_0 (2 : Int32)) ||| (1 : Int64)
def v_F_rootOfFinite_13 (x_5 : Int64) (j1 : Nat) (y1_0 : Int64) (y1_1 : Int64) : Int64 := jlshl y1_0 (1 : Int32)
def v_F_rootOfFinite_14 (x_5 : Int64) (j1 : Nat) (y1_0 : Int64) (y1_1 : Int64) : Int64 := (v_F_rootOfFinite_11 x_5 j1 y1_0 y1_1) - (v_F_rootOfFinite_12 x_5 j1 y1_0 y1_1)
def v_F_rootOfFinite_15 (x_5 : Int64) (j1 : Nat) (y1_0 : Int64) (y1_1 : Int64) : Int64 := (v_F_rootOfFinite_13 x_5 j1 y1_0 y1_1) ||| (1 : Int64)
def v_F_rootOfFinite_16 (x_5 : Int64) (j1 : Nat) (y1_0 : Int64) (y1_1 : Int64) : Int64 := (if (v_F_rootOfFinite_11 x_5 j1 y1_0 y1_1) < (v_F_rootOfFinite_12 x_5 j1 y1_0 y1_1) then (v_F_rootOfFinite_13 x_5 j1 y1_0 y1_1) else (v_F_rootOfFinite_15 x_5 j1 y1_0 y1_1))
def v_F_rootOfFinite_17 (x_5 : Int64) (j1 : Nat) (y1_0 : Int64) (y1_1 : Int64) : Int64 := (if (v_F_rootOfFinite_11 x_5 j1 y1_0 y1_1) < (v_F_rootOfFinite_12 x_5 j1 y1_0 y1_1) then (v_F_rootOfFinite_11 x_5 j1 y1_0 y1_1) else (v_F_rootOfFinite_14 x_5 j1 y1_0 y1_1))
def qF_rootOfFinite_44 (x_5 : Int64) : Nat → Nat → Int64 → Int64 → Int64 × Int64
  | 0, j1, y1_0, y1_1 => (y1_0, y1_1)
  | n1 + 1, j1, y1_0, y1_1 => qF_rootOfFinite_44 x_5 n1 (j1 + 1) (v_F_rootOfFinite_16 x_5 j1 y1_0 y1_1) (v_F_rootOfFinite_17 x_5 j1 y1_0 y1_1)
def v_F_rootOfFinite_7 (x : Int64) (how : Int32) : Int64 := (qF_rootOfFinite_44 (v_F_rootOfFinite_5 x how) 55 1 (0 : Int64) (0 : Int64)).1
def v_F_rootOfFinite_8 (x : Int64) (how : Int32) : Int64 := (qF_rootOfFinite_44 (v_F_rootOfFinite_5 x how) 55 1 (0 : Int64) (0 : Int64)).2
def v_F_rootOfFinite_9 (x : Int64) (how : Int32) : Bool := (if (v_F_rootOfFinite_8 x how) = (0 : Int64) then false else true)
def pF_rootOfFinite (x : Int64) (how : Int32) : Int64 := pF_rounded (v_F_rootOfFinite_7 x how) (((v_F_rootOfFinite_6 x how) / (2 : Int32)) - (28 : Int32)) (v_F_rootOfFinite_9 x how) false how
/-- F_rootOfFinite -/
abbrev WF_rootOfFinite (p : Program) (l : Launch) (e : Env) (s : State) (m : MethodId) (below : List Frame) (meth : Method) (c : Code) (x : Int64) (how : Int32) (H : Heap) (locs : List Loc) (g : JFrame) : Prop := W p l e (headSpec wF_rootOfFinite ({ frames := 4, cells := 0, slots := 0, locals := 95 })).room s m ([.long x, .int how] : List Value).toArray below meth c H locs 0 0 (MQ below (QR (.long (pF_rootOfFinite x how))) ([.long x, .int how] : List Value).toArray s 0 0 (fun _ => False)) g
set_option maxHeartbeats 4000000 in
set_option maxRecDepth 100000 in
theorem kF_rootOfFinite (l : Launch) (x : Int64) (how : Int32) : Met l yF_rootOfFinite wF_rootOfFinite ({ frames := 4, cells := 0, slots := 0, locals := 95 }) (fun v _ => v = ([.long x, .int how] : List Value).toArray) (QR (.long (pF_rootOfFinite x how))) 0 0 (fun _ => False) := by
  refine Met.ofW (cc := cF_rootOfFinite) (maxL := 15) (ret := (some .long)) (by decide) rfl ?_
  intro p e s m args below meth c s₁ B hml hv
  have hv : args = ([.long x, .int how] : List Value).toArray := hv
  subst hv
  have hx := B.exec
  have hb := B.bytes
  have hr := B.returns
  have hts := atoms_spec (ws := wF_rootOfFinite) B.pre
  have hown : s.vm.findClass RF = some m.cls := findClass_of_methodNamed B.named
  have hlocks := B.notSynchronized
  have hl := lv_entry ([.long x, .int how]) (n := 15) (Nat.le_of_ble_eq_true rfl)
  rw [lg_entry_eq]
  generalize (lg_sl ([.long x, .int how]) ++ List.replicate (15 - (lg_sl ([.long x, .int how])).length) Slot.unset).toArray = ls at hl ⊢
  have hl : lv_has ls 15 [(0, .long x), (2, .int how)] := hl
  refine lv_lload_n hx hb dF_rootOfFinite_0 rfl (lv_at hl 0 rfl) ?_
  refine k_call (W.runS (As := [.long x]) (rest := []) ⟨hx, hb, hml, hown, hts⟩ (kF_significandOf l x) (cwS 1 hts (g_call (List.forall_mem_cons.mpr ⟨m1_199, List.forall_mem_cons.mpr ⟨m1_112, List.forall_mem_cons.mpr ⟨m1_1, fun _ h => absurd h List.not_mem_nil⟩⟩⟩) m1_113) rfl rfl rfl (by decide +kernel) ⟨Nat.le_of_ble_eq_true rfl, Nat.le_of_ble_eq_true rfl⟩) preEq rfl rfl hl.1 rfl (lv_room (Nat.le_of_ble_eq_true rfl)) dF_rootOfFinite_1 ⟨Nat.le_of_ble_eq_true rfl, Nat.le_of_ble_eq_true rfl⟩) ?_
  refine lv_lload_n hx hb dF_rootOfFinite_4 rfl (lv_at hl 0 rfl) ?_
  refine k_call (W.runS (As := [.long x]) (rest := [.long (pF_significandOf x)]) ⟨hx, hb, hml, hown, hts⟩ (kF_slackOf l x) (cwS 1 hts (g_call (List.forall_mem_cons.mpr ⟨m1_200, List.forall_mem_cons.mpr ⟨m1_201, List.forall_mem_cons.mpr ⟨m1_1, fun _ h => absurd h List.not_mem_nil⟩⟩⟩) m1_202) rfl rfl rfl (by decide +kernel) ⟨Nat.le_of_ble_eq_true rfl, Nat.le_of_ble_eq_true rfl⟩) preEq rfl rfl hl.1 rfl (lv_room (Nat.le_of_ble_eq_true rfl)) dF_rootOfFinite_5 ⟨Nat.le_of_ble_eq_true rfl, Nat.le_of_ble_eq_true rfl⟩) ?_
  refine lv_lshl (v := jlshl (pF_significandOf x) (pF_slackOf x)) hx hb dF_rootOfFinite_8 rfl ?_
  refine lv_topl (fun w9 e9 => ?_)
  have e9 : w9 = (v_F_rootOfFinite_1 x how) := e9
  rw [e9]
  refine lv_lstore_n (lv' := [(3, .long (v_F_rootOfFinite_1 x how)), (0, .long x), (2, .int how)]) hx hb dF_rootOfFinite_9 rfl hl (by decide) rfl (fun ls hl => ?_)
  refine lv_lload_n hx hb dF_rootOfFinite_10 rfl (lv_at hl 1 rfl) ?_
  refine k_call (W.runS (As := [.long x]) (rest := []) ⟨hx, hb, hml, hown, hts⟩ (kF_exponentOf l x) (cwS 1 hts (g_call (List.forall_mem_cons.mpr ⟨m1_203, List.forall_mem_cons.mpr ⟨m1_122, List.forall_mem_cons.mpr ⟨m1_1, fun _ h => absurd h List.not_mem_nil⟩⟩⟩) m1_123) rfl rfl rfl (by decide +kernel) ⟨Nat.le_of_ble_eq_true rfl, Nat.le_of_ble_eq_true rfl⟩) preEq rfl rfl hl.1 rfl (lv_room (Nat.le_of_ble_eq_true rfl)) dF_rootOfFinite_11 ⟨Nat.le_of_ble_eq_true rfl, Nat.le_of_ble_eq_true rfl⟩) ?_
  refine lv_lload_n hx hb dF_rootOfFinite_14 rfl (lv_at hl 1 rfl) ?_
  refine k_call (W.runS (As := [.long x]) (rest := [.int (pF_exponentOf x)]) ⟨hx, hb, hml, hown, hts⟩ (kF_slackOf l x) (cwS 1 hts (g_call (List.forall_mem_cons.mpr ⟨m1_200, List.forall_mem_cons.mpr ⟨m1_201, List.forall_mem_cons.mpr ⟨m1_1, fun _ h => absurd h List.not_mem_nil⟩⟩⟩) m1_202) rfl rfl rfl (by decide +kernel) ⟨Nat.le_of_ble_eq_true rfl, Nat.le_of_ble_eq_true rfl⟩) preEq rfl rfl hl.1 rfl (lv_room (Nat.le_of_ble_eq_true rfl)) dF_rootOfFinite_15 ⟨Nat.le_of_ble_eq_true rfl, Nat.le_of_ble_eq_true rfl⟩) ?_
  refine lv_isub hx hb dF_rootOfFinite_18 ?_
  refine lv_topi (fun w9 e9 => ?_)
  have e9 : w9 = (v_F_rootOfFinite_2 x how) := e9
  rw [e9]
  refine lv_istore (lv' := [(5, .int (v_F_rootOfFinite_2 x how)), (3, .long (v_F_rootOfFinite_1 x how)), (0, .long x), (2, .int how)]) hx hb dF_rootOfFinite_19 hl (by decide) rfl (fun ls hl => ?_)
  refine lv_iload hx hb dF_rootOfFinite_21 (lv_at hl 0 rfl) ?_
  refine lv_iconst (v := 1) hx hb dF_rootOfFinite_23 (by decide) ?_
  refine lv_iand hx hb dF_rootOfFinite_24 ?_
  have J_1 : ∀ (w_0 : Int64), w_0 = (v_F_rootOfFinite_5 x how) → ∀ (w_1 : Int32), w_1 = (v_F_rootOfFinite_6 x how) → ∀ (ls : Array Slot), lv_has ls 15 [(2, .int how), (3, .long w_0), (5, .int w_1)] → WF_rootOfFinite p l e s m below meth c x how s.heap [] (F0 m 35 ls []) := by
    intro w_0 e_0
    rw [e_0]
    intro w_1 e_1
    rw [e_1]
    intro ls hl
    refine lv_lconst (v := 0) hx hb dF_rootOfFinite_35 (by decide) ?_
    refine lv_lstore (lv' := [(6, .long (0 : Int64)), (2, .int how), (3, .long (v_F_rootOfFinite_5 x how)), (5, .int (v_F_rootOfFinite_6 x how))]) hx hb dF_rootOfFinite_36 hl (by decide) rfl (fun ls hl => ?_)
    refine lv_lconst (v := 0) hx hb dF_rootOfFinite_38 (by decide) ?_
    refine lv_lstore (lv' := [(8, .long (0 : Int64)), (6, .long (0 : Int64)), (2, .int how), (3, .long (v_F_rootOfFinite_5 x how)), (5, .int (v_F_rootOfFinite_6 x how))]) hx hb dF_rootOfFinite_39 hl (by decide) rfl (fun ls hl => ?_)
    refine lv_iconst (v := 1) hx hb dF_rootOfFinite_41 (by decide) ?_
    refine lv_istore (lv' := [(10, .int (1 : Int32)), (8, .long (0 : Int64)), (6, .long (0 : Int64)), (2, .int how), (3, .long (v_F_rootOfFinite_5 x how)), (5, .int (v_F_rootOfFinite_6 x how))]) hx hb dF_rootOfFinite_42 hl (by decide) rfl (fun ls hl => ?_)
    have K_1 : ∀ (w_0 : Int64) (w_1 : Int64), (w_0, w_1) = qF_rootOfFinite_44 (v_F_rootOfFinite_5 x how) 55 1 (0 : Int64) (0 : Int64) → ∀ (ls : Array Slot), lv_has ls 15 [(2, .int how), (5, .int (v_F_rootOfFinite_6 x how)), (6, .long w_0), (8, .long w_1)] → WF_rootOfFinite p l e s m below meth c x how s.heap [] (F0 m 127 ls []) := by
      intro w_0 w_1 hz
      have e_0 : w_0 = (v_F_rootOfFinite_7 x how) := (congrArg (fun q => q.1) hz)
      have e_1 : w_1 = (v_F_rootOfFinite_8 x how) := (congrArg (fun q => q.2) hz)
      rw [e_0, e_1]
      intro ls hl
      refine lv_lload hx hb dF_rootOfFinite_127 (lv_at hl 2 rfl) ?_
      refine lv_iload hx hb dF_rootOfFinite_129 (lv_at hl 1 rfl) ?_
      refine lv_iconst (v := 2) hx hb dF_rootOfFinite_131 (by decide) ?_
      refine lv_idiv hx hb dF_rootOfFinite_132 (by decide) ?_
      refine lv_bipush (v := 28) hx hb dF_rootOfFinite_133 (by decide) ?_
      refine lv_isub hx hb dF_rootOfFinite_135 ?_
      refine lv_lload hx hb dF_rootOfFinite_136 (lv_at hl 3 rfl) ?_
      refine lv_lconst (v := 0) hx hb dF_rootOfFinite_138 (by decide) ?_
      refine W.lcmp hx hb dF_rootOfFinite_139 ?_
      have J_2 : ∀ (w_0 : Bool), w_0 = (v_F_rootOfFinite_9 x how) → ∀ (ls : Array Slot), lv_has ls 15 [(2, .int how)] → WF_rootOfFinite p l e s m below meth c x how s.heap [] (F0 m 148 ls [.int (bI w_0), .int (((v_F_rootOfFinite_6 x how) / (2 : Int32)) - (28 : Int32)), .long (v_F_rootOfFinite_7 x how)]) := by
        intro w_0 e_0
        rw [e_0]
        intro ls hl
        refine lv_iconst (v := 0) hx hb dF_rootOfFinite_148 (by decide) ?_
        refine lv_iload_n hx hb dF_rootOfFinite_149 rfl (lv_at hl 0 rfl) ?_
        refine k_call (W.runS (As := [.long (v_F_rootOfFinite_7 x how), .int (((v_F_rootOfFinite_6 x how) / (2 : Int32)) - (28 : Int32)), .int (bI (v_F_rootOfFinite_9 x how)), .int (bI false), .int how]) (rest := []) ⟨hx, hb, hml, hown, hts⟩ (kF_rounded l (v_F_rootOfFinite_7 x how) (((v_F_rootOfFinite_6 x how) / (2 : Int32)) - (28 : Int32)) (v_F_rootOfFinite_9 x how) false how) (cwS 5 hts (g_call (List.forall_mem_cons.mpr ⟨m1_171, List.forall_mem_cons.mpr ⟨m1_172, List.forall_mem_cons.mpr ⟨m1_1, fun _ h => absurd h List.not_mem_nil⟩⟩⟩) m1_173) rfl rfl rfl (by decide +kernel) ⟨Nat.le_of_ble_eq_true rfl, Nat.le_of_ble_eq_true rfl⟩) preEq rfl rfl hl.1 rfl (lv_room (Nat.le_of_ble_eq_true rfl)) dF_rootOfFinite_150 ⟨Nat.le_of_ble_eq_true rfl, Nat.le_of_ble_eq_true rfl⟩) ?_
        have e9 : pF_rounded (v_F_rootOfFinite_7 x how) (((v_F_rootOfFinite_6 x how) / (2 : Int32)) - (28 : Int32)) (v_F_rootOfFinite_9 x how) false how = pF_rootOfFinite x how := (rfl).symm
        exact W.lret (v := pF_rounded (v_F_rootOfFinite_7 x how) (((v_F_rootOfFinite_6 x how) / (2 : Int32)) - (28 : Int32)) (v_F_rootOfFinite_9 x how) false how) hx hb hr (fun t ht hW => ⟨by rw [e9], ht⟩) (fun q h => absurd h List.not_mem_nil) dF_rootOfFinite_153
      refine lv_if_eq (tgt := 147) hx hb dF_rootOfFinite_140 (by decide) (fun c_2 => ?_) (fun c_2 => ?_)
      · have c_2 : (v_F_rootOfFinite_8 x how) = (0 : Int64) := (lg_cmp_eq _ _).mp c_2
        refine lv_iconst (v := 0) hx hb dF_rootOfFinite_147 (by decide) ?_
        exact J_2 false ((if_pos c_2)).symm ls (lv_sub hl [0] rfl)
      · have c_2 : ¬ ((v_F_rootOfFinite_8 x how) = (0 : Int64)) := fun h => c_2 ((lg_cmp_eq _ _).mpr h)
        refine lv_iconst (v := 1) hx hb dF_rootOfFinite_143 (by decide) ?_
        refine lv_goto (tgt := 148) hx hb dF_rootOfFinite_144 (by decide) ?_
        exact J_2 true ((if_neg c_2)).symm ls (lv_sub hl [0] rfl)
    have L_1 : ∀ (n1 j1 : Nat) (y1_0 : Int64) (y1_1 : Int64), j1 + n1 = 56 → qF_rootOfFinite_44 (v_F_rootOfFinite_5 x how) n1 j1 y1_0 y1_1 = qF_rootOfFinite_44 (v_F_rootOfFinite_5 x how) 55 1 (0 : Int64) (0 : Int64) → ∀ (ls : Array Slot), lv_has ls 15 [(2, .int how), (3, .long (v_F_rootOfFinite_5 x how)), (5, .int (v_F_rootOfFinite_6 x how)), (6, .long y1_0), (8, .long y1_1), (10, .int (nI j1))] → WF_rootOfFinite p l e s m below meth c x how s.heap [] (F0 m 44 ls []) := by
      intro n1
      induction n1 with
      | zero =>
        intro j1 y1_0 y1_1 hj hq ls hl
        refine lv_iload hx hb dF_rootOfFinite_44 (lv_at hl 5 rfl) ?_
        refine lv_bipush (v := 55) hx hb dF_rootOfFinite_46 (by decide) ?_
        refine lv_icmp_gt (tgt := 127) hx hb dF_rootOfFinite_48 (by decide) (fun c_3 => ?_) (fun c_3 => ?_)
        rotate_left
        · exact absurd ((nI_ltI (a := 55) (b := j1) (by omega) (by omega)).mpr (by omega)) c_3
        exact K_1 y1_0 y1_1 (by exact hq) ls (lv_sub hl [0, 2, 3, 4] rfl)
      | succ n1 ih =>
        intro j1 y1_0 y1_1 hj hq ls hl
        refine lv_iload hx hb dF_rootOfFinite_44 (lv_at hl 5 rfl) ?_
        refine lv_bipush (v := 55) hx hb dF_rootOfFinite_46 (by decide) ?_
        refine lv_icmp_gt (tgt := 127) hx hb dF_rootOfFinite_48 (by decide) (fun c_4 => ?_) (fun c_4 => ?_)
        · exact absurd ((nI_ltI (a := 55) (b := j1) (by omega) (by omega)).mp c_4) (by omega)
        refine lv_iload hx hb dF_rootOfFinite_51 (lv_at hl 5 rfl) ?_
        refine lv_bipush (v := 27) hx hb dF_rootOfFinite_53 (by decide) ?_
        have J_3 : ∀ (w_0 : Int64), w_0 = (v_F_rootOfFinite_10 (v_F_rootOfFinite_5 x how) j1 y1_0 y1_1) → ∀ (ls : Array Slot), lv_has ls 15 [(2, .int how), (3, .long (v_F_rootOfFinite_5 x how)), (5, .int (v_F_rootOfFinite_6 x how)), (6, .long y1_0), (8, .long y1_1), (10, .int (nI j1))] → WF_rootOfFinite p l e s m below meth c x how s.heap [] (F0 m 75 ls [.long w_0]) := by
          intro w_0 e_0
          rw [e_0]
          intro ls hl
          refine lv_lstore (lv' := [(11, .long (v_F_rootOfFinite_10 (v_F_rootOfFinite_5 x how) j1 y1_0 y1_1)), (2, .int how), (3, .long (v_F_rootOfFinite_5 x how)), (5, .int (v_F_rootOfFinite_6 x how)), (6, .long y1_0), (8, .long y1_1), (10, .int (nI j1))]) hx hb dF_rootOfFinite_75 hl (by decide) rfl (fun ls hl => ?_)
          refine lv_lload hx hb dF_rootOfFinite_77 (lv_at hl 5 rfl) ?_
          refine lv_iconst (v := 2) hx hb dF_rootOfFinite_79 (by decide) ?_
          refine lv_lshl (v := jlshl y1_1 (2 : Int32)) hx hb dF_rootOfFinite_80 rfl ?_
          refine lv_lload hx hb dF_rootOfFinite_81 (lv_at hl 0 rfl) ?_
          refine lv_lor hx hb dF_rootOfFinite_83 ?_
          refine lv_topl (fun w9 e9 => ?_)
          have e9 : w9 = (v_F_rootOfFinite_11 (v_F_rootOfFinite_5 x how) j1 y1_0 y1_1) := e9
          rw [e9]
          refine lv_lstore (lv' := [(8, .long (v_F_rootOfFinite_11 (v_F_rootOfFinite_5 x how) j1 y1_0 y1_1)), (11, .long (v_F_rootOfFinite_10 (v_F_rootOfFinite_5 x how) j1 y1_0 y1_1)), (2, .int how), (3, .long (v_F_rootOfFinite_5 x how)), (5, .int (v_F_rootOfFinite_6 x how)), (6, .long y1_0), (10, .int (nI j1))]) hx hb dF_rootOfFinite_84 hl (by decide) rfl (fun ls hl => ?_)
          refine lv_lload hx hb dF_rootOfFinite_86 (lv_at hl 5 rfl) ?_
          refine lv_iconst (v := 2) hx hb dF_rootOfFinite_88 (by decide) ?_
          refine lv_lshl (v := jlshl y1_0 (2 : Int32)) hx hb dF_rootOfFinite_89 rfl ?_
          refine lv_lconst (v := 1) hx hb dF_rootOfFinite_90 (by decide) ?_
          refine lv_lor hx hb dF_rootOfFinite_91 ?_
          refine lv_topl (fun w9 e9 => ?_)
          have e9 : w9 = (v_F_rootOfFinite_12 (v_F_rootOfFinite_5 x how) j1 y1_0 y1_1) := e9
          rw [e9]
          refine lv_lstore (lv' := [(13, .long (v_F_rootOfFinite_12 (v_F_rootOfFinite_5 x how) j1 y1_0 y1_1)), (8, .long (v_F_rootOfFinite_11 (v_F_rootOfFinite_5 x how) j1 y1_0 y1_1)), (11, .long (v_F_rootOfFinite_10 (v_F_rootOfFinite_5 x how) j1 y1_0 y1_1)), (2, .int how), (3, .long (v_F_rootOfFinite_5 x how)), (5, .int (v_F_rootOfFinite_6 x how)), (6, .long y1_0), (10, .int (nI j1))]) hx hb dF_rootOfFinite_92 hl (by decide) rfl (fun ls hl => ?_)
          refine lv_lload hx hb dF_rootOfFinite_94 (lv_at hl 6 rfl) ?_
          refine lv_iconst (v := 1) hx hb dF_rootOfFinite_96 (by decide) ?_
          refine lv_lshl (v := jlshl y1_0 (1 : Int32)) hx hb dF_rootOfFinite_97 rfl ?_
          refine lv_topl (fun w9 e9 => ?_)
          have e9 : w9 = (v_F_rootOfFinite_13 (v_F_rootOfFinite_5 x how) j1 y1_0 y1_1) := e9
          rw [e9]
          refine lv_lstore (lv' := [(6, .long (v_F_rootOfFinite_13 (v_F_rootOfFinite_5 x how) j1 y1_0 y1_1)), (13, .long (v_F_rootOfFinite_12 (v_F_rootOfFinite_5 x how) j1 y1_0 y1_1)), (8, .long (v_F_rootOfFinite_11 (v_F_rootOfFinite_5 x how) j1 y1_0 y1_1)), (11, .long (v_F_rootOfFinite_10 (v_F_rootOfFinite_5 x how) j1 y1_0 y1_1)), (2, .int how), (3, .long (v_F_rootOfFinite_5 x how)), (5, .int (v_F_rootOfFinite_6 x how)), (10, .int (nI j1))]) hx hb dF_rootOfFinite_98 hl (by decide) rfl (fun ls hl => ?_)
          refine lv_lload hx hb dF_rootOfFinite_100 (lv_at hl 2 rfl) ?_
          refine lv_lload hx hb dF_rootOfFinite_102 (lv_at hl 1 rfl) ?_
          refine W.lcmp hx hb dF_rootOfFinite_104 ?_
          have J_4 : ∀ (w_0 : Int64), w_0 = (v_F_rootOfFinite_16 (v_F_rootOfFinite_5 x how) j1 y1_0 y1_1) → ∀ (w_1 : Int64), w_1 = (v_F_rootOfFinite_17 (v_F_rootOfFinite_5 x how) j1 y1_0 y1_1) → ∀ (ls : Array Slot), lv_has ls 15 [(2, .int how), (3, .long (v_F_rootOfFinite_5 x how)), (5, .int (v_F_rootOfFinite_6 x how)), (6, .long w_0), (8, .long w_1), (10, .int (nI j1))] → WF_rootOfFinite p l e s m below meth c x how s.heap [] (F0 m 121 ls []) := by
            intro w_0 e_0
            rw [e_0]
            intro w_1 e_1
            rw [e_1]
            intro ls hl
            refine lv_iinc (v := (nI (j1 + 1))) (lv' := [(10, .int (nI (j1 + 1))), (2, .int how), (3, .long (v_F_rootOfFinite_5 x how)), (5, .int (v_F_rootOfFinite_6 x how)), (6, .long (v_F_rootOfFinite_16 (v_F_rootOfFinite_5 x how) j1 y1_0 y1_1)), (8, .long (v_F_rootOfFinite_17 (v_F_rootOfFinite_5 x how) j1 y1_0 y1_1))]) hx hb dF_rootOfFinite_121 hl (k := 5) rfl (nI_1 _) (by decide) rfl (fun ls hl => ?_)
            refine lv_goto (tgt := 44) hx hb dF_rootOfFinite_124 (by decide) ?_
            exact ih (j1 + 1) (v_F_rootOfFinite_16 (v_F_rootOfFinite_5 x how) j1 y1_0 y1_1) (v_F_rootOfFinite_17 (v_F_rootOfFinite_5 x how) j1 y1_0 y1_1) (by omega) (by exact hq) ls (lv_sub hl [1, 2, 3, 4, 5, 0] rfl)
          refine lv_if_lt (tgt := 121) hx hb dF_rootOfFinite_105 (by decide) (fun c_6 => ?_) (fun c_6 => ?_)
          · have c_6 : (v_F_rootOfFinite_11 (v_F_rootOfFinite_5 x how) j1 y1_0 y1_1) < (v_F_rootOfFinite_12 (v_F_rootOfFinite_5 x how) j1 y1_0 y1_1) := (lg_cmp_lt _ _).mp c_6
            exact J_4 (v_F_rootOfFinite_13 (v_F_rootOfFinite_5 x how) j1 y1_0 y1_1) ((if_pos c_6)).symm (v_F_rootOfFinite_11 (v_F_rootOfFinite_5 x how) j1 y1_0 y1_1) ((if_pos c_6)).symm ls (lv_sub hl [4, 5, 6, 0, 2, 7] rfl)
          · have c_6 : ¬ ((v_F_rootOfFinite_11 (v_F_rootOfFinite_5 x how) j1 y1_0 y1_1) < (v_F_rootOfFinite_12 (v_F_rootOfFinite_5 x how) j1 y1_0 y1_1)) := fun h => c_6 ((lg_cmp_lt _ _).mpr h)
            refine lv_lload hx hb dF_rootOfFinite_108 (lv_at hl 2 rfl) ?_
            refine lv_lload hx hb dF_rootOfFinite_110 (lv_at hl 1 rfl) ?_
            refine lv_lsub hx hb dF_rootOfFinite_112 ?_
            refine lv_topl (fun w9 e9 => ?_)
            have e9 : w9 = (v_F_rootOfFinite_14 (v_F_rootOfFinite_5 x how) j1 y1_0 y1_1) := e9
            rw [e9]
            refine lv_lstore (lv' := [(8, .long (v_F_rootOfFinite_14 (v_F_rootOfFinite_5 x how) j1 y1_0 y1_1)), (6, .long (v_F_rootOfFinite_13 (v_F_rootOfFinite_5 x how) j1 y1_0 y1_1)), (13, .long (v_F_rootOfFinite_12 (v_F_rootOfFinite_5 x how) j1 y1_0 y1_1)), (11, .long (v_F_rootOfFinite_10 (v_F_rootOfFinite_5 x how) j1 y1_0 y1_1)), (2, .int how), (3, .long (v_F_rootOfFinite_5 x how)), (5, .int (v_F_rootOfFinite_6 x how)), (10, .int (nI j1))]) hx hb dF_rootOfFinite_113 hl (by decide) rfl (fun ls hl => ?_)
            refine lv_lload hx hb dF_rootOfFinite_115 (lv_at hl 1 rfl) ?_
            refine lv_lconst (v := 1) hx hb dF_rootOfFinite_117 (by decide) ?_
            refine lv_lor hx hb dF_rootOfFinite_118 ?_
            refine lv_topl (fun w9 e9 => ?_)
            have e9 : w9 = (v_F_rootOfFinite_15 (v_F_rootOfFinite_5 x how) j1 y1_0 y1_1) := e9
            rw [e9]
            refine lv_lstore (lv' := [(6, .long (v_F_rootOfFinite_15 (v_F_rootOfFinite_5 x how) j1 y1_0 y1_1)), (8, .long (v_F_rootOfFinite_14 (v_F_rootOfFinite_5 x how) j1 y1_0 y1_1)), (13, .long (v_F_rootOfFinite_12 (v_F_rootOfFinite_5 x how) j1 y1_0 y1_1)), (11, .long (v_F_rootOfFinite_10 (v_F_rootOfFinite_5 x how) j1 y1_0 y1_1)), (2, .int how), (3, .long (v_F_rootOfFinite_5 x how)), (5, .int (v_F_rootOfFinite_6 x how)), (10, .int (nI j1))]) hx hb dF_rootOfFinite_119 hl (by decide) rfl (fun ls hl => ?_)
            exact J_4 (v_F_rootOfFinite_15 (v_F_rootOfFinite_5 x how) j1 y1_0 y1_1) ((if_neg c_6)).symm (v_F_rootOfFinite_14 (v_F_rootOfFinite_5 x how) j1 y1_0 y1_1) ((if_neg c_6)).symm ls (lv_sub hl [4, 5, 6, 0, 1, 7] rfl)
        refine lv_icmp_gt (tgt := 74) hx hb dF_rootOfFinite_55 (by decide) (fun c_5 => ?_) (fun c_5 => ?_)
        · refine lv_lconst (v := 0) hx hb dF_rootOfFinite_74 (by decide) ?_
          exact J_3 (0 : Int64) ((if_pos c_5)).symm ls (lv_sub hl [0, 1, 2, 3, 4, 5] rfl)
        · refine lv_lload_n hx hb dF_rootOfFinite_58 rfl (lv_at hl 1 rfl) ?_
          refine lv_iconst (v := 2) hx hb dF_rootOfFinite_59 (by decide) ?_
          refine lv_bipush (v := 27) hx hb dF_rootOfFinite_60 (by decide) ?_
          refine lv_iload hx hb dF_rootOfFinite_62 (lv_at hl 5 rfl) ?_
          refine lv_isub hx hb dF_rootOfFinite_64 ?_
          refine lv_imul hx hb dF_rootOfFinite_65 ?_
          refine lv_lushr (v := jlush (v_F_rootOfFinite_5 x how) ((2 : Int32) * ((27 : Int32) - (nI j1)))) hx hb dF_rootOfFinite_66 rfl ?_
          refine lv_ldc2 (v := 3) hx hb hown (hts _ (List.mem_cons_of_mem _ m1_211)) dF_rootOfFinite_67 ?_
          refine lv_land hx hb dF_rootOfFinite_70 ?_
          refine lv_goto (tgt := 75) hx hb dF_rootOfFinite_71 (by decide) ?_
          exact J_3 ((jlush (v_F_rootOfFinite_5 x how) ((2 : Int32) * ((27 : Int32) - (nI j1)))) &&& (3 : Int64)) ((if_neg c_5)).symm ls (lv_sub hl [0, 1, 2, 3, 4, 5] rfl)
    exact L_1 55 1 (0 : Int64) (0 : Int64) (by omega) rfl ls (lv_sub hl [3, 4, 5, 2, 1, 0] rfl)
  refine lv_if_eq (tgt := 35) hx hb dF_rootOfFinite_25 (by decide) (fun c_1 => ?_) (fun c_1 => ?_)
  · exact J_1 (v_F_rootOfFinite_1 x how) ((if_pos c_1)).symm (v_F_rootOfFinite_2 x how) ((if_pos c_1)).symm ls (lv_sub hl [3, 1, 0] rfl)
  · refine lv_lload_n hx hb dF_rootOfFinite_28 rfl (lv_at hl 1 rfl) ?_
    refine lv_iconst (v := 1) hx hb dF_rootOfFinite_29 (by decide) ?_
    refine lv_lshl (v := jlshl (v_F_rootOfFinite_1 x how) (1 : Int32)) hx hb dF_rootOfFinite_30 rfl ?_
    refine lv_topl (fun w9 e9 => ?_)
    have e9 : w9 = (v_F_rootOfFinite_3 x how) := e9
    rw [e9]
    refine lv_lstore_n (lv' := [(3, .long (v_F_rootOfFinite_3 x how)), (5, .int (v_F_rootOfFinite_2 x how)), (0, .long x), (2, .int how)]) hx hb dF_rootOfFinite_31 rfl hl (by decide) rfl (fun ls hl => ?_)
    refine lv_iinc (v := (v_F_rootOfFinite_4 x how)) (lv' := [(5, .int (v_F_rootOfFinite_4 x how)), (3, .long (v_F_rootOfFinite_3 x how)), (0, .long x), (2, .int how)]) hx hb dF_rootOfFinite_32 hl (k := 1) rfl rfl (by decide) rfl (fun ls hl => ?_)
    exact J_1 (v_F_rootOfFinite_3 x how) ((if_neg c_1)).symm (v_F_rootOfFinite_4 x how) ((if_neg c_1)).symm ls (lv_sub hl [3, 1, 0] rfl)
