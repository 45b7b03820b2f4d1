def v_M_ofWhole_1 (w : Int64) : Int64 := (if (0 : Int64) ≤ w then w else (-w))
def v_M_ofWhole_8 (w : Int64) : Int64 := (if (0 : Int64) ≤ w then (0 : Int64) else (-9223372036854775808 : Int64))
def v_M_ofWhole_9 (n1 : Nat) (y1_0 : Int64) (y1_1 : Int32) : Int64 := jlshl y1_0 (1 : Int32)
def v_M_ofWhole_10 (n1 : Nat) (y1_0 : Int64) (y1_1 : Int32) : Int32 := y1_1 + 1
def qM_ofWhole_24 : Nat → Int64 → Int32 → Int64 × Int32
  | 0, y1_0, y1_1 => (y1_0, y1_1)
  | n1 + 1, y1_0, y1_1 => (if (jlush y1_0 (52 : Int32)) = (0 : Int64) then qM_ofWhole_24 n1 (v_M_ofWhole_9 n1 y1_0 y1_1) (v_M_ofWhole_10 n1 y1_0 y1_1) else (y1_0, y1_1))
def v_M_ofWhole_2 (w : Int64) : Int64 := (qM_ofWhole_24 52 (v_M_ofWhole_1 w) (0 : Int32)).1
def v_M_ofWhole_3 (w : Int64) : Int32 := (qM_ofWhole_24 52 (v_M_ofWhole_1 w) (0 : Int32)).2
def v_M_ofWhole_4 (w : Int64) : Int64 := jlush (v_M_ofWhole_2 w) (1 : Int32)
def v_M_ofWhole_5 (w : Int64) : Int32 := (v_M_ofWhole_3 w) + (-1)
def v_M_ofWhole_6 (w : Int64) : Int64 := (if (jlush (v_M_ofWhole_2 w) (53 : Int32)) = (0 : Int64) then (v_M_ofWhole_2 w) else (v_M_ofWhole_4 w))
def v_M_ofWhole_7 (w : Int64) : Int32 := (if (jlush (v_M_ofWhole_2 w) (53 : Int32)) = (0 : Int64) then (v_M_ofWhole_3 w) else (v_M_ofWhole_5 w))
def pM_ofWhole (w : Int64) : Int64 := (if (v_M_ofWhole_1 w) = (0 : Int64) then (0 : Int64) else ((jlshl ((1075 : Int64) - (v_M_ofWhole_7 w).toInt64) (52 : Int32)) + ((v_M_ofWhole_6 w) &&& (4503599627370495 : Int64))) ||| (v_M_ofWhole_8 w))
/-- M_ofWhole -/
abbrev WM_ofWhole (p : Program) (l : Launch) (e : Env) (s : State) (m : MethodId) (below : List Frame) (meth : Method) (c : Code) (w : Int64) (H : Heap) (locs : List Loc) (g : JFrame) : Prop := W p l e (headSpec wM_ofWhole ({ frames := 0, cells := 0, slots := 0, locals := 0 })).room s m ([.long w] : List Value).toArray below meth c H locs 0 0 (MQ below (QR (.long (pM_ofWhole w))) ([.long w] : List Value).toArray s 0 0 (fun _ => False)) g
set_option maxHeartbeats 4000000 in
set_option maxRecDepth 100000 in
theorem kM_ofWhole (l : Launch) (w : Int64) : Met l yM_ofWhole wM_ofWhole ({ frames := 0, cells := 0, slots := 0, locals := 0 }) (fun v _ => v = ([.long w] : List Value).toArray) (QR (.long (pM_ofWhole w))) 0 0 (fun _ => False) := by
  refine Met.ofW (cc := cM_ofWhole) (maxL := 5) (ret := (some .long)) (by decide) rfl ?_
  intro p e s m args below meth c s₁ B hml hv
  have hv : args = ([.long w] : List Value).toArray := hv
  subst hv
  have hx := B.exec
  have hb := B.bytes
  have hr := B.returns
  have hts := atoms_spec (ws := wM_ofWhole) B.pre
  have hown : s.vm.findClass RM = some m.cls := findClass_of_methodNamed B.named
  have hlocks := B.notSynchronized
  have hl := lv_entry ([.long w]) (n := 5) (Nat.le_of_ble_eq_true rfl)
  rw [lg_entry_eq]
  generalize (lg_sl ([.long w]) ++ List.replicate (5 - (lg_sl ([.long w])).length) Slot.unset).toArray = ls at hl ⊢
  have hl : lv_has ls 5 [(0, .long w)] := hl
  refine lv_lload_n hx hb dM_ofWhole_0 rfl (lv_at hl 0 rfl) ?_
  refine lv_lconst (v := 0) hx hb dM_ofWhole_1 (by decide) ?_
  refine W.lcmp hx hb dM_ofWhole_2 ?_
  have J_1 : ∀ (w_0 : Int64), w_0 = (v_M_ofWhole_1 w) → ∀ (ls : Array Slot), lv_has ls 5 [(0, .long w)] → WM_ofWhole p l e s m below meth c w s.heap [] (F0 m 12 ls [.long w_0]) := by
    intro w_0 e_0
    rw [e_0]
    intro ls hl
    refine lv_lstore_n (lv' := [(2, .long (v_M_ofWhole_1 w)), (0, .long w)]) hx hb dM_ofWhole_12 rfl hl (by decide) rfl (fun ls hl => ?_)
    refine lv_lload_n hx hb dM_ofWhole_13 rfl (lv_at hl 0 rfl) ?_
    refine lv_lconst (v := 0) hx hb dM_ofWhole_14 (by decide) ?_
    refine W.lcmp hx hb dM_ofWhole_15 ?_
    refine lv_if_ne (tgt := 21) hx hb dM_ofWhole_16 (by decide) (fun c_2 => ?_) (fun c_2 => ?_)
    · have c_2 : ¬ ((v_M_ofWhole_1 w) = (0 : Int64)) := fun h => c_2 ((lg_cmp_eq _ _).mpr h)
      refine lv_iconst (v := 0) hx hb dM_ofWhole_21 (by decide) ?_
      refine lv_istore (lv' := [(4, .int (0 : Int32)), (2, .long (v_M_ofWhole_1 w)), (0, .long w)]) hx hb dM_ofWhole_22 hl (by decide) rfl (fun ls hl => ?_)
      have K_1 : ∀ (w_0 : Int64) (w_1 : Int32), (w_0, w_1) = qM_ofWhole_24 52 (v_M_ofWhole_1 w) (0 : Int32) → ∀ (ls : Array Slot), lv_has ls 5 [(0, .long w), (2, .long w_0), (4, .int w_1)] → WM_ofWhole p l e s m below meth c w s.heap [] (F0 m 43 ls []) := by
        intro w_0 w_1 hz
        have e_0 : w_0 = (v_M_ofWhole_2 w) := (congrArg (fun q => q.1) hz)
        have e_1 : w_1 = (v_M_ofWhole_3 w) := (congrArg (fun q => q.2) hz)
        rw [e_0, e_1]
        intro ls hl
        refine lv_lload_n hx hb dM_ofWhole_43 rfl (lv_at hl 1 rfl) ?_
        refine lv_bipush (v := 53) hx hb dM_ofWhole_44 (by decide) ?_
        refine lv_lushr (v := jlush (v_M_ofWhole_2 w) (53 : Int32)) hx hb dM_ofWhole_46 rfl ?_
        refine lv_lconst (v := 0) hx hb dM_ofWhole_47 (by decide) ?_
        refine W.lcmp hx hb dM_ofWhole_48 ?_
        have J_2 : ∀ (w_0 : Int64), w_0 = (v_M_ofWhole_6 w) → ∀ (w_1 : Int32), w_1 = (v_M_ofWhole_7 w) → ∀ (ls : Array Slot), lv_has ls 5 [(0, .long w), (2, .long w_0), (4, .int w_1)] → WM_ofWhole p l e s m below meth c w s.heap [] (F0 m 59 ls []) := by
          intro w_0 e_0
          rw [e_0]
          intro w_1 e_1
          rw [e_1]
          intro ls hl
          refine lv_ldc2 (v := 1075) hx hb hown (hts _ (List.mem_cons_of_mem _ m3_88)) dM_ofWhole_59 ?_
          refine lv_iload hx hb dM_ofWhole_62 (lv_at hl 2 rfl) ?_
          refine lv_i2l (v := (v_M_ofWhole_7 w).toInt64) hx hb dM_ofWhole_64 rfl ?_
          refine lv_lsub hx hb dM_ofWhole_65 ?_
          refine lv_bipush (v := 52) hx hb dM_ofWhole_66 (by decide) ?_
          refine lv_lshl (v := jlshl ((1075 : Int64) - (v_M_ofWhole_7 w).toInt64) (52 : Int32)) hx hb dM_ofWhole_68 rfl ?_
          refine lv_lload_n hx hb dM_ofWhole_69 rfl (lv_at hl 1 rfl) ?_
          refine lv_ldc2 (v := 4503599627370495) hx hb hown (hts _ (List.mem_cons_of_mem _ m3_85)) dM_ofWhole_70 ?_
          refine lv_land hx hb dM_ofWhole_73 ?_
          refine lv_ladd hx hb dM_ofWhole_74 ?_
          refine lv_lload_n hx hb dM_ofWhole_75 rfl (lv_at hl 0 rfl) ?_
          refine lv_lconst (v := 0) hx hb dM_ofWhole_76 (by decide) ?_
          refine W.lcmp hx hb dM_ofWhole_77 ?_
          have J_3 : ∀ (w_0 : Int64), w_0 = (v_M_ofWhole_8 w) → ∀ (ls : Array Slot), lv_has ls 5 [] → WM_ofWhole p l e s m below meth c w s.heap [] (F0 m 88 ls [.long w_0, .long ((jlshl ((1075 : Int64) - (v_M_ofWhole_7 w).toInt64) (52 : Int32)) + ((v_M_ofWhole_6 w) &&& (4503599627370495 : Int64)))]) := by
            intro w_0 e_0
            rw [e_0]
            intro ls hl
            refine lv_lor hx hb dM_ofWhole_88 ?_
            have e9 : ((jlshl ((1075 : Int64) - (v_M_ofWhole_7 w).toInt64) (52 : Int32)) + ((v_M_ofWhole_6 w) &&& (4503599627370495 : Int64))) ||| (v_M_ofWhole_8 w) = pM_ofWhole w := ((if_neg c_2)).symm
            exact W.lret (v := ((jlshl ((1075 : Int64) - (v_M_ofWhole_7 w).toInt64) (52 : Int32)) + ((v_M_ofWhole_6 w) &&& (4503599627370495 : Int64))) ||| (v_M_ofWhole_8 w)) hx hb hr (fun t ht hW => ⟨by rw [e9], ht⟩) (fun q h => absurd h List.not_mem_nil) dM_ofWhole_89
          refine lv_if_ge (tgt := 87) hx hb dM_ofWhole_78 (by decide) (fun c_4 => ?_) (fun c_4 => ?_)
          · have c_4 : (0 : Int64) ≤ w := (lg_cmp_ge _ _).mp c_4
            refine lv_lconst (v := 0) hx hb dM_ofWhole_87 (by decide) ?_
            exact J_3 (0 : Int64) ((if_pos c_4)).symm ls (lv_sub hl [] rfl)
          · have c_4 : ¬ ((0 : Int64) ≤ w) := fun h => c_4 ((lg_cmp_ge _ _).mpr h)
            refine lv_ldc2 (v := -9223372036854775808) hx hb hown (hts _ (List.mem_cons_of_mem _ m2_222)) dM_ofWhole_81 ?_
            refine lv_goto (tgt := 88) hx hb dM_ofWhole_84 (by decide) ?_
            exact J_3 (-9223372036854775808 : Int64) ((if_neg c_4)).symm ls (lv_sub hl [] rfl)
        refine lv_if_eq (tgt := 59) hx hb dM_ofWhole_49 (by decide) (fun c_3 => ?_) (fun c_3 => ?_)
        · have c_3 : (jlush (v_M_ofWhole_2 w) (53 : Int32)) = (0 : Int64) := (lg_cmp_eq _ _).mp c_3
          exact J_2 (v_M_ofWhole_2 w) ((if_pos c_3)).symm (v_M_ofWhole_3 w) ((if_pos c_3)).symm ls (lv_sub hl [0, 1, 2] rfl)
        · have c_3 : ¬ ((jlush (v_M_ofWhole_2 w) (53 : Int32)) = (0 : Int64)) := fun h => c_3 ((lg_cmp_eq _ _).mpr h)
          refine lv_lload_n hx hb dM_ofWhole_52 rfl (lv_at hl 1 rfl) ?_
          refine lv_iconst (v := 1) hx hb dM_ofWhole_53 (by decide) ?_
          refine lv_lushr (v := jlush (v_M_ofWhole_2 w) (1 : Int32)) hx hb dM_ofWhole_54 rfl ?_
          refine lv_topl (fun w9 e9 => ?_)
          have e9 : w9 = (v_M_ofWhole_4 w) := e9
          rw [e9]
          refine lv_lstore_n (lv' := [(2, .long (v_M_ofWhole_4 w)), (0, .long w), (4, .int (v_M_ofWhole_3 w))]) hx hb dM_ofWhole_55 rfl hl (by decide) rfl (fun ls hl => ?_)
          refine lv_iinc (v := (v_M_ofWhole_5 w)) (lv' := [(4, .int (v_M_ofWhole_5 w)), (2, .long (v_M_ofWhole_4 w)), (0, .long w)]) hx hb dM_ofWhole_56 hl (k := 2) rfl rfl (by decide) rfl (fun ls hl => ?_)
          exact J_2 (v_M_ofWhole_4 w) ((if_neg c_3)).symm (v_M_ofWhole_5 w) ((if_neg c_3)).symm ls (lv_sub hl [2, 1, 0] rfl)
      have L_1 : ∀ (n1 : Nat) (y1_0 : Int64) (y1_1 : Int32), n1 ≤ 52 → ofw y1_0 n1 → qM_ofWhole_24 n1 y1_0 y1_1 = qM_ofWhole_24 52 (v_M_ofWhole_1 w) (0 : Int32) → ∀ (ls : Array Slot), lv_has ls 5 [(0, .long w), (2, .long y1_0), (4, .int y1_1)] → WM_ofWhole p l e s m below meth c w s.heap [] (F0 m 24 ls []) := by
        intro n1
        induction n1 with
        | zero =>
          intro y1_0 y1_1 hj hw hq ls hl
          refine lv_lload_n hx hb dM_ofWhole_24 rfl (lv_at hl 1 rfl) ?_
          refine lv_bipush (v := 52) hx hb dM_ofWhole_25 (by decide) ?_
          refine lv_lushr (v := jlush y1_0 (52 : Int32)) hx hb dM_ofWhole_27 rfl ?_
          refine lv_lconst (v := 0) hx hb dM_ofWhole_28 (by decide) ?_
          refine W.lcmp hx hb dM_ofWhole_29 ?_
          refine lv_if_ne (tgt := 43) hx hb dM_ofWhole_30 (by decide) (fun c_5 => ?_) (fun c_5 => ?_)
          rotate_left
          · exact absurd ((lg_cmp_eq _ _).mp c_5) (ofw_0 hw)
          exact K_1 y1_0 y1_1 (by exact hq) ls (lv_sub hl [0, 1, 2] rfl)
        | succ n1 ih =>
          intro y1_0 y1_1 hj hw hq ls hl
          refine lv_lload_n hx hb dM_ofWhole_24 rfl (lv_at hl 1 rfl) ?_
          refine lv_bipush (v := 52) hx hb dM_ofWhole_25 (by decide) ?_
          refine lv_lushr (v := jlush y1_0 (52 : Int32)) hx hb dM_ofWhole_27 rfl ?_
          refine lv_lconst (v := 0) hx hb dM_ofWhole_28 (by decide) ?_
          refine W.lcmp hx hb dM_ofWhole_29 ?_
          refine lv_if_ne (tgt := 43) hx hb dM_ofWhole_30 (by decide) (fun c_6 => ?_) (fun c_6 => ?_)
          · have c_6 : ¬ ((jlush y1_0 (52 : Int32)) = (0 : Int64)) := fun h => c_6 ((lg_cmp_eq _ _).mpr h)
            exact K_1 y1_0 y1_1 (by exact (Eq.trans ((if_neg c_6)).symm hq)) ls (lv_sub hl [0, 1, 2] rfl)
          · have c_6 : (jlush y1_0 (52 : Int32)) = (0 : Int64) := (lg_cmp_eq _ _).mp c_6
            refine lv_lload_n hx hb dM_ofWhole_33 rfl (lv_at hl 1 rfl) ?_
            refine lv_iconst (v := 1) hx hb dM_ofWhole_34 (by decide) ?_
            refine lv_lshl (v := jlshl y1_0 (1 : Int32)) hx hb dM_ofWhole_35 rfl ?_
            refine lv_topl (fun w9 e9 => ?_)
            have e9 : w9 = (v_M_ofWhole_9 n1 y1_0 y1_1) := e9
            rw [e9]
            refine lv_lstore_n (lv' := [(2, .long (v_M_ofWhole_9 n1 y1_0 y1_1)), (0, .long w), (4, .int y1_1)]) hx hb dM_ofWhole_36 rfl hl (by decide) rfl (fun ls hl => ?_)
            refine lv_iinc (v := (v_M_ofWhole_10 n1 y1_0 y1_1)) (lv' := [(4, .int (v_M_ofWhole_10 n1 y1_0 y1_1)), (2, .long (v_M_ofWhole_9 n1 y1_0 y1_1)), (0, .long w)]) hx hb dM_ofWhole_37 hl (k := 2) rfl rfl (by decide) rfl (fun ls hl => ?_)
            refine lv_goto (tgt := 24) hx hb dM_ofWhole_40 (by decide) ?_
            exact ih (v_M_ofWhole_9 n1 y1_0 y1_1) (v_M_ofWhole_10 n1 y1_0 y1_1) (by omega) (ofw_s hw hj c_6) (by exact (Eq.trans ((if_pos c_6)).symm hq)) ls (lv_sub hl [2, 1, 0] rfl)
      exact L_1 52 (v_M_ofWhole_1 w) (0 : Int32) (by omega) (ofw_i c_2) rfl ls (lv_sub hl [2, 1, 0] rfl)
    · have c_2 : (v_M_ofWhole_1 w) = (0 : Int64) := (lg_cmp_eq _ _).mp c_2
      refine lv_lconst (v := 0) hx hb dM_ofWhole_19 (by decide) ?_
      have e9 : (0 : Int64) = pM_ofWhole w := ((if_pos c_2)).symm
      exact W.lret (v := (0 : Int64)) hx hb hr (fun t ht hW => ⟨by rw [e9], ht⟩) (fun q h => absurd h List.not_mem_nil) dM_ofWhole_20
  refine lv_if_ge (tgt := 11) hx hb dM_ofWhole_3 (by decide) (fun c_1 => ?_) (fun c_1 => ?_)
  · have c_1 : (0 : Int64) ≤ w := (lg_cmp_ge _ _).mp c_1
    refine lv_lload_n hx hb dM_ofWhole_11 rfl (lv_at hl 0 rfl) ?_
    exact J_1 w ((if_pos c_1)).symm ls (lv_sub hl [0] rfl)
  · have c_1 : ¬ ((0 : Int64) ≤ w) := fun h => c_1 ((lg_cmp_ge _ _).mpr h)
    refine lv_lload_n hx hb dM_ofWhole_6 rfl (lv_at hl 0 rfl) ?_
    refine lv_lneg hx hb dM_ofWhole_7 ?_
    refine lv_goto (tgt := 12) hx hb dM_ofWhole_8 (by decide) ?_
    exact J_1 (-w) ((if_neg c_1)).symm ls (lv_sub hl [0] rfl)
def v_M_wholeOf_1 (x : Int64) (how : Int32) : Int64 := (jlush x (52 : Int32)) &&& (2047 : Int64)
def v_M_wholeOf_2 (x : Int64) (how : Int32) : Int64 := (x &&& (4503599627370495 : Int64)) ||| (4503599627370496 : Int64)
def v_M_wholeOf_3 (x : Int64) (how : Int32) : Int32 := ((1075 : Int64) - (v_M_wholeOf_1 x how)).toInt32
def v_M_wholeOf_4 (x : Int64) (how : Int32) : Bool := (if (0 : Int64) ≤ x then false else true)
def v_M_wholeOf_5 (x : Int64) (how : Int32) : Int64 := (if (v_M_wholeOf_1 x how) = (0 : Int64) then (0 : Int64) else (if (v_M_wholeOf_3 x how) ≤ (53 : Int32) then jlshr (v_M_wholeOf_2 x how) (v_M_wholeOf_3 x how) else (0 : Int64)))
def v_M_wholeOf_6 (x : Int64) (how : Int32) : Bool := (if how = 0 then (v_M_wholeOf_4 x how) else (if how = (1 : Int32) then (if (v_M_wholeOf_4 x how) = true then false else true) else false))
def v_M_wholeOf_7 (x : Int64) (how : Int32) : Int64 := (v_M_wholeOf_2 x how) &&& ((jlshl (1 : Int64) (v_M_wholeOf_3 x how)) - (1 : Int64))
def v_M_wholeOf_8 (x : Int64) (how : Int32) : Int64 := jlshl (1 : Int64) ((v_M_wholeOf_3 x how) - (1 : Int32))
def v_M_wholeOf_9 (x : Int64) (how : Int32) : Bool := (if (v_M_wholeOf_8 x how) < (v_M_wholeOf_7 x how) then true else (if (v_M_wholeOf_7 x how) = (v_M_wholeOf_8 x how) then (if ((v_M_wholeOf_5 x how) - (v_M_wholeOf_5 x how) / (2 : Int64) * (2 : Int64)) = (1 : Int64) then true else false) else false))
def v_M_wholeOf_10 (x : Int64) (how : Int32) : Bool := (if how = (3 : Int32) then (if (v_M_wholeOf_1 x how) ≤ (0 : Int64) then (v_M_wholeOf_6 x how) else (if (54 : Int32) ≤ (v_M_wholeOf_3 x how) then (v_M_wholeOf_6 x how) else (v_M_wholeOf_9 x how))) else (v_M_wholeOf_6 x how))
def v_M_wholeOf_11 (x : Int64) (how : Int32) : Int64 := (if (v_M_wholeOf_10 x how) = true then (v_M_wholeOf_5 x how) + (1 : Int64) else (v_M_wholeOf_5 x how))
def v_M_wholeOf_12 (x : Int64) (how : Int32) : Int64 := (if (v_M_wholeOf_4 x how) = true then (-(v_M_wholeOf_11 x how)) else (v_M_wholeOf_11 x how))
def pM_wholeOf (x : Int64) (how : Int32) : Int64 := (if (pM_isInfinite x) = true then pM_plainZero x else (if (pM_isWhole x) = true then pM_plainZero x else pM_ofWhole (v_M_wholeOf_12 x how)))
/-- M_wholeOf -/
abbrev WM_wholeOf (p : Program) (l : Launch) (e : Env) (s : State) (m : MethodId) (below : List Frame) (meth : Method) (c : Code) (x : Int64) (how : Int32) (H : Heap) (locs : List Loc) (g : JFrame) : Prop := W p l e (headSpec wM_wholeOf ({ frames := 2, cells := 0, slots := 0, locals := 42 })).room s m ([.long x, .int how] : List Value).toArray below meth c H locs 0 0 (MQ below (QR (.long (pM_wholeOf x how))) ([.long x, .int how] : List Value).toArray s 0 0 (fun _ => False)) g
set_option maxHeartbeats 4000000 in
set_option maxRecDepth 100000 in
theorem kM_wholeOf (l : Launch) (x : Int64) (how : Int32) : Met l yM_wholeOf wM_wholeOf ({ frames := 2, cells := 0, slots := 0, locals := 42 }) (fun v _ => v = ([.long x, .int how] : List Value).toArray) (QR (.long (pM_wholeOf x how))) 0 0 (fun _ => False) := by
  refine Met.ofW (cc := cM_wholeOf) (maxL := 16) (ret := (some .long)) (by decide) rfl ?_
  intro p e s m args below meth c s₁ B hml hv
  have hv : args = ([.long x, .int how] : List Value).toArray := hv
  subst hv
  have hx := B.exec
  have hb := B.bytes
  have hr := B.returns
  have hts := atoms_spec (ws := wM_wholeOf) B.pre
  have hown : s.vm.findClass RM = some m.cls := findClass_of_methodNamed B.named
  have hlocks := B.notSynchronized
  have hl := lv_entry ([.long x, .int how]) (n := 16) (Nat.le_of_ble_eq_true rfl)
  rw [lg_entry_eq]
  generalize (lg_sl ([.long x, .int how]) ++ List.replicate (16 - (lg_sl ([.long x, .int how])).length) Slot.unset).toArray = ls at hl ⊢
  have hl : lv_has ls 16 [(0, .long x), (2, .int how)] := hl
  refine lv_lload_n hx hb dM_wholeOf_0 rfl (lv_at hl 0 rfl) ?_
  refine k_call (W.runS (As := [.long x]) (rest := []) ⟨hx, hb, hml, hown, hts⟩ (kM_isInfinite l x) (cwS 1 hts (g_call (List.forall_mem_cons.mpr ⟨m2_149, List.forall_mem_cons.mpr ⟨m2_150, List.forall_mem_cons.mpr ⟨m1_4, fun _ h => absurd h List.not_mem_nil⟩⟩⟩) m2_151) rfl rfl rfl (by decide +kernel) ⟨Nat.le_of_ble_eq_true rfl, Nat.le_of_ble_eq_true rfl⟩) preEq rfl rfl hl.1 rfl (lv_room (Nat.le_of_ble_eq_true rfl)) dM_wholeOf_1 ⟨Nat.le_of_ble_eq_true rfl, Nat.le_of_ble_eq_true rfl⟩) ?_
  refine kb_ne (tgt := 14) hx hb dM_wholeOf_4 (by decide) (fun c_1 => ?_) (fun c_1 => ?_)
  · refine lv_lload_n hx hb dM_wholeOf_14 rfl (lv_at hl 0 rfl) ?_
    refine k_call (W.runS (As := [.long x]) (rest := []) ⟨hx, hb, hml, hown, hts⟩ (kM_plainZero l x) (cwS 1 hts (g_call (List.forall_mem_cons.mpr ⟨m3_38, List.forall_mem_cons.mpr ⟨m3_39, List.forall_mem_cons.mpr ⟨m1_4, fun _ h => absurd h List.not_mem_nil⟩⟩⟩) m3_40) rfl rfl rfl (by decide +kernel) ⟨Nat.le_of_ble_eq_true rfl, Nat.le_of_ble_eq_true rfl⟩) preEq rfl rfl hl.1 rfl (lv_room (Nat.le_of_ble_eq_true rfl)) dM_wholeOf_15 ⟨Nat.le_of_ble_eq_true rfl, Nat.le_of_ble_eq_true rfl⟩) ?_
    have e9 : pM_plainZero x = pM_wholeOf x how := ((if_pos c_1)).symm
    exact W.lret (v := pM_plainZero x) hx hb hr (fun t ht hW => ⟨by rw [e9], ht⟩) (fun q h => absurd h List.not_mem_nil) dM_wholeOf_18
  · refine lv_lload_n hx hb dM_wholeOf_7 rfl (lv_at hl 0 rfl) ?_
    refine k_call (W.runS (As := [.long x]) (rest := []) ⟨hx, hb, hml, hown, hts⟩ (kM_isWhole l x) (cwS 1 hts (g_call (List.forall_mem_cons.mpr ⟨m3_81, List.forall_mem_cons.mpr ⟨m3_82, List.forall_mem_cons.mpr ⟨m1_4, fun _ h => absurd h List.not_mem_nil⟩⟩⟩) m3_83) rfl rfl rfl (by decide +kernel) ⟨Nat.le_of_ble_eq_true rfl, Nat.le_of_ble_eq_true rfl⟩) preEq rfl rfl hl.1 rfl (lv_room (Nat.le_of_ble_eq_true rfl)) dM_wholeOf_8 ⟨Nat.le_of_ble_eq_true rfl, Nat.le_of_ble_eq_true rfl⟩) ?_
    refine kb_eq (tgt := 19) hx hb dM_wholeOf_11 (by decide) (fun c_2 => ?_) (fun c_2 => ?_)
    · refine lv_lload_n hx hb dM_wholeOf_19 rfl (lv_at hl 0 rfl) ?_
      refine lv_bipush (v := 52) hx hb dM_wholeOf_20 (by decide) ?_
      refine lv_lushr (v := jlush x (52 : Int32)) hx hb dM_wholeOf_22 rfl ?_
      refine lv_ldc2 (v := 2047) hx hb hown (hts _ (List.mem_cons_of_mem _ m3_84)) dM_wholeOf_23 ?_
      refine lv_land hx hb dM_wholeOf_26 ?_
      refine lv_topl (fun w9 e9 => ?_)
      have e9 : w9 = (v_M_wholeOf_1 x how) := e9
      rw [e9]
      refine lv_lstore_n (lv' := [(3, .long (v_M_wholeOf_1 x how)), (0, .long x), (2, .int how)]) hx hb dM_wholeOf_27 rfl hl (by decide) rfl (fun ls hl => ?_)
      refine lv_lload_n hx hb dM_wholeOf_28 rfl (lv_at hl 1 rfl) ?_
      refine lv_ldc2 (v := 4503599627370495) hx hb hown (hts _ (List.mem_cons_of_mem _ m3_85)) dM_wholeOf_29 ?_
      refine lv_land hx hb dM_wholeOf_32 ?_
      refine lv_ldc2 (v := 4503599627370496) hx hb hown (hts _ (List.mem_cons_of_mem _ m3_86)) dM_wholeOf_33 ?_
      refine lv_lor hx hb dM_wholeOf_36 ?_
      refine lv_topl (fun w9 e9 => ?_)
      have e9 : w9 = (v_M_wholeOf_2 x how) := e9
      rw [e9]
      refine lv_lstore (lv' := [(5, .long (v_M_wholeOf_2 x how)), (3, .long (v_M_wholeOf_1 x how)), (0, .long x), (2, .int how)]) hx hb dM_wholeOf_37 hl (by decide) rfl (fun ls hl => ?_)
      refine lv_ldc2 (v := 1075) hx hb hown (hts _ (List.mem_cons_of_mem _ m3_88)) dM_wholeOf_39 ?_
      refine lv_lload_n hx hb dM_wholeOf_42 rfl (lv_at hl 1 rfl) ?_
      refine lv_lsub hx hb dM_wholeOf_43 ?_
      refine lv_l2i (v := ((1075 : Int64) - (v_M_wholeOf_1 x how)).toInt32) hx hb dM_wholeOf_44 rfl ?_
      refine lv_topi (fun w9 e9 => ?_)
      have e9 : w9 = (v_M_wholeOf_3 x how) := e9
      rw [e9]
      refine lv_istore (lv' := [(7, .int (v_M_wholeOf_3 x how)), (5, .long (v_M_wholeOf_2 x how)), (3, .long (v_M_wholeOf_1 x how)), (0, .long x), (2, .int how)]) hx hb dM_wholeOf_45 hl (by decide) rfl (fun ls hl => ?_)
      refine lv_lload_n hx hb dM_wholeOf_47 rfl (lv_at hl 3 rfl) ?_
      refine lv_lconst (v := 0) hx hb dM_wholeOf_48 (by decide) ?_
      refine W.lcmp hx hb dM_wholeOf_49 ?_
      have J_1 : ∀ (w_0 : Bool), w_0 = (v_M_wholeOf_4 x how) → ∀ (ls : Array Slot), lv_has ls 16 [(2, .int how), (3, .long (v_M_wholeOf_1 x how)), (5, .long (v_M_wholeOf_2 x how)), (7, .int (v_M_wholeOf_3 x how))] → WM_wholeOf p l e s m below meth c x how s.heap [] (F0 m 58 ls [.int (bI w_0)]) := by
        intro w_0 e_0
        rw [e_0]
        intro ls hl
        refine lv_istore (lv' := [(8, .int (bI (v_M_wholeOf_4 x how))), (2, .int how), (3, .long (v_M_wholeOf_1 x how)), (5, .long (v_M_wholeOf_2 x how)), (7, .int (v_M_wholeOf_3 x how))]) hx hb dM_wholeOf_58 hl (by decide) rfl (fun ls hl => ?_)
        refine lv_lload_n hx hb dM_wholeOf_60 rfl (lv_at hl 2 rfl) ?_
        refine lv_lconst (v := 0) hx hb dM_wholeOf_61 (by decide) ?_
        refine W.lcmp hx hb dM_wholeOf_62 ?_
        have J_2 : ∀ (w_0 : Int64), w_0 = (v_M_wholeOf_5 x how) → ∀ (ls : Array Slot), lv_has ls 16 [(2, .int how), (3, .long (v_M_wholeOf_1 x how)), (5, .long (v_M_wholeOf_2 x how)), (7, .int (v_M_wholeOf_3 x how)), (8, .int (bI (v_M_wholeOf_4 x how)))] → WM_wholeOf p l e s m below meth c x how s.heap [] (F0 m 82 ls [.long w_0]) := by
          intro w_0 e_0
          rw [e_0]
          intro ls hl
          refine lv_lstore (lv' := [(9, .long (v_M_wholeOf_5 x how)), (2, .int how), (3, .long (v_M_wholeOf_1 x how)), (5, .long (v_M_wholeOf_2 x how)), (7, .int (v_M_wholeOf_3 x how)), (8, .int (bI (v_M_wholeOf_4 x how)))]) hx hb dM_wholeOf_82 hl (by decide) rfl (fun ls hl => ?_)
          refine lv_iload_n hx hb dM_wholeOf_84 rfl (lv_at hl 1 rfl) ?_
          have J_3 : ∀ (w_0 : Bool), w_0 = (v_M_wholeOf_6 x how) → ∀ (ls : Array Slot), lv_has ls 16 [(2, .int how), (3, .long (v_M_wholeOf_1 x how)), (5, .long (v_M_wholeOf_2 x how)), (7, .int (v_M_wholeOf_3 x how)), (8, .int (bI (v_M_wholeOf_4 x how))), (9, .long (v_M_wholeOf_5 x how))] → WM_wholeOf p l e s m below meth c x how s.heap [] (F0 m 112 ls [.int (bI w_0)]) := by
            intro w_0 e_0
            rw [e_0]
            intro ls hl
            refine lv_istore (lv' := [(11, .int (bI (v_M_wholeOf_6 x how))), (2, .int how), (3, .long (v_M_wholeOf_1 x how)), (5, .long (v_M_wholeOf_2 x how)), (7, .int (v_M_wholeOf_3 x how)), (8, .int (bI (v_M_wholeOf_4 x how))), (9, .long (v_M_wholeOf_5 x how))]) hx hb dM_wholeOf_112 hl (by decide) rfl (fun ls hl => ?_)
            refine lv_iload_n hx hb dM_wholeOf_114 rfl (lv_at hl 1 rfl) ?_
            refine lv_iconst (v := 3) hx hb dM_wholeOf_115 (by decide) ?_
            have J_5 : ∀ (w_0 : Bool), w_0 = (v_M_wholeOf_10 x how) → ∀ (ls : Array Slot), lv_has ls 16 [(8, .int (bI (v_M_wholeOf_4 x how))), (9, .long (v_M_wholeOf_5 x how)), (11, .int (bI w_0))] → WM_wholeOf p l e s m below meth c x how s.heap [] (F0 m 185 ls []) := by
              intro w_0 e_0
              rw [e_0]
              intro ls hl
              refine lv_iload hx hb dM_wholeOf_185 (lv_at hl 2 rfl) ?_
              have J_6 : ∀ (w_0 : Int64), w_0 = (v_M_wholeOf_11 x how) → ∀ (ls : Array Slot), lv_has ls 16 [(8, .int (bI (v_M_wholeOf_4 x how)))] → WM_wholeOf p l e s m below meth c x how s.heap [] (F0 m 199 ls [.long w_0]) := by
                intro w_0 e_0
                rw [e_0]
                intro ls hl
                refine lv_lstore (lv' := [(9, .long (v_M_wholeOf_11 x how)), (8, .int (bI (v_M_wholeOf_4 x how)))]) hx hb dM_wholeOf_199 hl (by decide) rfl (fun ls hl => ?_)
                refine lv_iload hx hb dM_wholeOf_201 (lv_at hl 1 rfl) ?_
                have J_7 : ∀ (w_0 : Int64), w_0 = (v_M_wholeOf_12 x how) → ∀ (ls : Array Slot), lv_has ls 16 [] → WM_wholeOf p l e s m below meth c x how s.heap [] (F0 m 214 ls [.long w_0]) := by
                  intro w_0 e_0
                  rw [e_0]
                  intro ls hl
                  refine k_call (W.runS (As := [.long (v_M_wholeOf_12 x how)]) (rest := []) ⟨hx, hb, hml, hown, hts⟩ (kM_ofWhole l (v_M_wholeOf_12 x how)) (cwS 1 hts (g_call (List.forall_mem_cons.mpr ⟨m3_89, List.forall_mem_cons.mpr ⟨m3_90, List.forall_mem_cons.mpr ⟨m1_4, fun _ h => absurd h List.not_mem_nil⟩⟩⟩) m3_91) rfl rfl rfl (by decide +kernel) ⟨Nat.le_of_ble_eq_true rfl, Nat.le_of_ble_eq_true rfl⟩) preEq rfl rfl hl.1 rfl (lv_room (Nat.le_of_ble_eq_true rfl)) dM_wholeOf_214 ⟨Nat.le_of_ble_eq_true rfl, Nat.le_of_ble_eq_true rfl⟩) ?_
                  have e9 : pM_ofWhole (v_M_wholeOf_12 x how) = pM_wholeOf x how := (((if_neg c_1).trans (if_neg c_2))).symm
                  exact W.lret (v := pM_ofWhole (v_M_wholeOf_12 x how)) hx hb hr (fun t ht hW => ⟨by rw [e9], ht⟩) (fun q h => absurd h List.not_mem_nil) dM_wholeOf_217
                refine kb_eq (tgt := 212) hx hb dM_wholeOf_203 (by decide) (fun c_16 => ?_) (fun c_16 => ?_)
                · refine lv_lload hx hb dM_wholeOf_212 (lv_at hl 0 rfl) ?_
                  exact J_7 (v_M_wholeOf_11 x how) ((if_neg c_16)).symm ls (lv_sub hl [] rfl)
                · refine lv_lload hx hb dM_wholeOf_206 (lv_at hl 0 rfl) ?_
                  refine lv_lneg hx hb dM_wholeOf_208 ?_
                  refine lv_goto (tgt := 214) hx hb dM_wholeOf_209 (by decide) ?_
                  exact J_7 (-(v_M_wholeOf_11 x how)) ((if_pos c_16)).symm ls (lv_sub hl [] rfl)
              refine kb_eq (tgt := 197) hx hb dM_wholeOf_187 (by decide) (fun c_15 => ?_) (fun c_15 => ?_)
              · refine lv_lload hx hb dM_wholeOf_197 (lv_at hl 1 rfl) ?_
                exact J_6 (v_M_wholeOf_5 x how) ((if_neg c_15)).symm ls (lv_sub hl [0] rfl)
              · refine lv_lload hx hb dM_wholeOf_190 (lv_at hl 1 rfl) ?_
                refine lv_lconst (v := 1) hx hb dM_wholeOf_192 (by decide) ?_
                refine lv_ladd hx hb dM_wholeOf_193 ?_
                refine lv_goto (tgt := 199) hx hb dM_wholeOf_194 (by decide) ?_
                exact J_6 ((v_M_wholeOf_5 x how) + (1 : Int64)) ((if_pos c_15)).symm ls (lv_sub hl [0] rfl)
            refine lv_icmp_ne (tgt := 185) hx hb dM_wholeOf_116 (by decide) (fun c_9 => ?_) (fun c_9 => ?_)
            · exact J_5 (v_M_wholeOf_6 x how) ((if_neg c_9)).symm ls (lv_sub hl [5, 6, 0] rfl)
            · refine lv_lload_n hx hb dM_wholeOf_119 rfl (lv_at hl 2 rfl) ?_
              refine lv_lconst (v := 0) hx hb dM_wholeOf_120 (by decide) ?_
              refine W.lcmp hx hb dM_wholeOf_121 ?_
              refine lv_if_le (tgt := 185) hx hb dM_wholeOf_122 (by decide) (fun c_10 => ?_) (fun c_10 => ?_)
              · have c_10 : (v_M_wholeOf_1 x how) ≤ (0 : Int64) := (lg_cmp_le _ _).mp c_10
                exact J_5 (v_M_wholeOf_6 x how) (((if_pos c_9).trans (if_pos c_10))).symm ls (lv_sub hl [5, 6, 0] rfl)
              · have c_10 : ¬ ((v_M_wholeOf_1 x how) ≤ (0 : Int64)) := fun h => c_10 ((lg_cmp_le _ _).mpr h)
                refine lv_iload hx hb dM_wholeOf_125 (lv_at hl 4 rfl) ?_
                refine lv_bipush (v := 54) hx hb dM_wholeOf_127 (by decide) ?_
                refine lv_icmp_ge (tgt := 185) hx hb dM_wholeOf_129 (by decide) (fun c_11 => ?_) (fun c_11 => ?_)
                · exact J_5 (v_M_wholeOf_6 x how) ((((if_pos c_9).trans (if_neg c_10)).trans (if_pos c_11))).symm ls (lv_sub hl [5, 6, 0] rfl)
                · refine lv_lload hx hb dM_wholeOf_132 (lv_at hl 3 rfl) ?_
                  refine lv_lconst (v := 1) hx hb dM_wholeOf_134 (by decide) ?_
                  refine lv_iload hx hb dM_wholeOf_135 (lv_at hl 4 rfl) ?_
                  refine lv_lshl (v := jlshl (1 : Int64) (v_M_wholeOf_3 x how)) hx hb dM_wholeOf_137 rfl ?_
                  refine lv_lconst (v := 1) hx hb dM_wholeOf_138 (by decide) ?_
                  refine lv_lsub hx hb dM_wholeOf_139 ?_
                  refine lv_land hx hb dM_wholeOf_140 ?_
                  refine lv_topl (fun w9 e9 => ?_)
                  have e9 : w9 = (v_M_wholeOf_7 x how) := e9
                  rw [e9]
                  refine lv_lstore (lv' := [(12, .long (v_M_wholeOf_7 x how)), (11, .int (bI (v_M_wholeOf_6 x how))), (2, .int how), (3, .long (v_M_wholeOf_1 x how)), (5, .long (v_M_wholeOf_2 x how)), (7, .int (v_M_wholeOf_3 x how)), (8, .int (bI (v_M_wholeOf_4 x how))), (9, .long (v_M_wholeOf_5 x how))]) hx hb dM_wholeOf_141 hl (by decide) rfl (fun ls hl => ?_)
                  refine lv_lconst (v := 1) hx hb dM_wholeOf_143 (by decide) ?_
                  refine lv_iload hx hb dM_wholeOf_144 (lv_at hl 5 rfl) ?_
                  refine lv_iconst (v := 1) hx hb dM_wholeOf_146 (by decide) ?_
                  refine lv_isub hx hb dM_wholeOf_147 ?_
                  refine lv_lshl (v := jlshl (1 : Int64) ((v_M_wholeOf_3 x how) - (1 : Int32))) hx hb dM_wholeOf_148 rfl ?_
                  refine lv_topl (fun w9 e9 => ?_)
                  have e9 : w9 = (v_M_wholeOf_8 x how) := e9
                  rw [e9]
                  refine lv_lstore (lv' := [(14, .long (v_M_wholeOf_8 x how)), (12, .long (v_M_wholeOf_7 x how)), (11, .int (bI (v_M_wholeOf_6 x how))), (2, .int how), (3, .long (v_M_wholeOf_1 x how)), (5, .long (v_M_wholeOf_2 x how)), (7, .int (v_M_wholeOf_3 x how)), (8, .int (bI (v_M_wholeOf_4 x how))), (9, .long (v_M_wholeOf_5 x how))]) hx hb dM_wholeOf_149 hl (by decide) rfl (fun ls hl => ?_)
                  refine lv_lload hx hb dM_wholeOf_151 (lv_at hl 1 rfl) ?_
                  refine lv_lload hx hb dM_wholeOf_153 (lv_at hl 0 rfl) ?_
                  refine W.lcmp hx hb dM_wholeOf_155 ?_
                  have J_4 : ∀ (w_0 : Bool), w_0 = (v_M_wholeOf_9 x how) → ∀ (ls : Array Slot), lv_has ls 16 [(8, .int (bI (v_M_wholeOf_4 x how))), (9, .long (v_M_wholeOf_5 x how))] → WM_wholeOf p l e s m below meth c x how s.heap [] (F0 m 183 ls [.int (bI w_0)]) := by
                    intro w_0 e_0
                    rw [e_0]
                    intro ls hl
                    refine lv_istore (lv' := [(11, .int (bI (v_M_wholeOf_9 x how))), (8, .int (bI (v_M_wholeOf_4 x how))), (9, .long (v_M_wholeOf_5 x how))]) hx hb dM_wholeOf_183 hl (by decide) rfl (fun ls hl => ?_)
                    exact J_5 (v_M_wholeOf_9 x how) ((((if_pos c_9).trans (if_neg c_10)).trans (if_neg c_11))).symm ls (lv_sub hl [1, 2, 0] rfl)
                  refine lv_if_gt (tgt := 178) hx hb dM_wholeOf_156 (by decide) (fun c_12 => ?_) (fun c_12 => ?_)
                  · have c_12 : (v_M_wholeOf_8 x how) < (v_M_wholeOf_7 x how) := (lg_cmp_gt _ _).mp c_12
                    refine lv_iconst (v := 1) hx hb dM_wholeOf_178 (by decide) ?_
                    refine lv_goto (tgt := 183) hx hb dM_wholeOf_179 (by decide) ?_
                    exact J_4 true ((if_pos c_12)).symm ls (lv_sub hl [7, 8] rfl)
                  · have c_12 : ¬ ((v_M_wholeOf_8 x how) < (v_M_wholeOf_7 x how)) := fun h => c_12 ((lg_cmp_gt _ _).mpr h)
                    refine lv_lload hx hb dM_wholeOf_159 (lv_at hl 1 rfl) ?_
                    refine lv_lload hx hb dM_wholeOf_161 (lv_at hl 0 rfl) ?_
                    refine W.lcmp hx hb dM_wholeOf_163 ?_
                    refine lv_if_ne (tgt := 182) hx hb dM_wholeOf_164 (by decide) (fun c_13 => ?_) (fun c_13 => ?_)
                    · have c_13 : ¬ ((v_M_wholeOf_7 x how) = (v_M_wholeOf_8 x how)) := fun h => c_13 ((lg_cmp_eq _ _).mpr h)
                      refine lv_iconst (v := 0) hx hb dM_wholeOf_182 (by decide) ?_
                      exact J_4 false (((if_neg c_12).trans (if_neg c_13))).symm ls (lv_sub hl [7, 8] rfl)
                    · have c_13 : (v_M_wholeOf_7 x how) = (v_M_wholeOf_8 x how) := (lg_cmp_eq _ _).mp c_13
                      refine lv_lload hx hb dM_wholeOf_167 (lv_at hl 8 rfl) ?_
                      refine lv_ldc2 (v := 2) hx hb hown (hts _ (List.mem_cons_of_mem _ m3_7)) dM_wholeOf_169 ?_
                      refine lv_lrem hx hb dM_wholeOf_172 (by decide) ?_
                      refine lv_lconst (v := 1) hx hb dM_wholeOf_173 (by decide) ?_
                      refine W.lcmp hx hb dM_wholeOf_174 ?_
                      refine lv_if_ne (tgt := 182) hx hb dM_wholeOf_175 (by decide) (fun c_14 => ?_) (fun c_14 => ?_)
                      · have c_14 : ¬ (((v_M_wholeOf_5 x how) - (v_M_wholeOf_5 x how) / (2 : Int64) * (2 : Int64)) = (1 : Int64)) := fun h => c_14 ((lg_cmp_eq _ _).mpr h)
                        refine lv_iconst (v := 0) hx hb dM_wholeOf_182 (by decide) ?_
                        exact J_4 false ((((if_neg c_12).trans (if_pos c_13)).trans (if_neg c_14))).symm ls (lv_sub hl [7, 8] rfl)
                      · have c_14 : ((v_M_wholeOf_5 x how) - (v_M_wholeOf_5 x how) / (2 : Int64) * (2 : Int64)) = (1 : Int64) := (lg_cmp_eq _ _).mp c_14
                        refine lv_iconst (v := 1) hx hb dM_wholeOf_178 (by decide) ?_
                        refine lv_goto (tgt := 183) hx hb dM_wholeOf_179 (by decide) ?_
                        exact J_4 true ((((if_neg c_12).trans (if_pos c_13)).trans (if_pos c_14))).symm ls (lv_sub hl [7, 8] rfl)
          refine lv_if_ne (tgt := 93) hx hb dM_wholeOf_85 (by decide) (fun c_6 => ?_) (fun c_6 => ?_)
          · refine lv_iload_n hx hb dM_wholeOf_93 rfl (lv_at hl 1 rfl) ?_
            refine lv_iconst (v := 1) hx hb dM_wholeOf_94 (by decide) ?_
            refine lv_icmp_ne (tgt := 111) hx hb dM_wholeOf_95 (by decide) (fun c_7 => ?_) (fun c_7 => ?_)
            · refine lv_iconst (v := 0) hx hb dM_wholeOf_111 (by decide) ?_
              exact J_3 false (((if_neg c_6).trans (if_neg c_7))).symm ls (lv_sub hl [1, 2, 3, 4, 5, 0] rfl)
            · refine lv_iload hx hb dM_wholeOf_98 (lv_at hl 5 rfl) ?_
              refine kb_ne (tgt := 107) hx hb dM_wholeOf_100 (by decide) (fun c_8 => ?_) (fun c_8 => ?_)
              · refine lv_iconst (v := 0) hx hb dM_wholeOf_107 (by decide) ?_
                refine lv_goto (tgt := 112) hx hb dM_wholeOf_108 (by decide) ?_
                exact J_3 false ((((if_neg c_6).trans (if_pos c_7)).trans (if_pos c_8))).symm ls (lv_sub hl [1, 2, 3, 4, 5, 0] rfl)
              · refine lv_iconst (v := 1) hx hb dM_wholeOf_103 (by decide) ?_
                refine lv_goto (tgt := 112) hx hb dM_wholeOf_104 (by decide) ?_
                exact J_3 true ((((if_neg c_6).trans (if_pos c_7)).trans (if_neg c_8))).symm ls (lv_sub hl [1, 2, 3, 4, 5, 0] rfl)
          · refine lv_iload hx hb dM_wholeOf_88 (lv_at hl 5 rfl) ?_
            refine lv_goto (tgt := 112) hx hb dM_wholeOf_90 (by decide) ?_
            exact J_3 (v_M_wholeOf_4 x how) ((if_pos c_6)).symm ls (lv_sub hl [1, 2, 3, 4, 5, 0] rfl)
        refine lv_if_eq (tgt := 73) hx hb dM_wholeOf_63 (by decide) (fun c_4 => ?_) (fun c_4 => ?_)
        · have c_4 : (v_M_wholeOf_1 x how) = (0 : Int64) := (lg_cmp_eq _ _).mp c_4
          refine lv_lconst (v := 0) hx hb dM_wholeOf_73 (by decide) ?_
          refine lv_goto (tgt := 82) hx hb dM_wholeOf_74 (by decide) ?_
          exact J_2 (0 : Int64) ((if_pos c_4)).symm ls (lv_sub hl [1, 2, 3, 4, 0] rfl)
        · have c_4 : ¬ ((v_M_wholeOf_1 x how) = (0 : Int64)) := fun h => c_4 ((lg_cmp_eq _ _).mpr h)
          refine lv_iload hx hb dM_wholeOf_66 (lv_at hl 4 rfl) ?_
          refine lv_bipush (v := 53) hx hb dM_wholeOf_68 (by decide) ?_
          refine lv_icmp_le (tgt := 77) hx hb dM_wholeOf_70 (by decide) (fun c_5 => ?_) (fun c_5 => ?_)
          · refine lv_lload hx hb dM_wholeOf_77 (lv_at hl 3 rfl) ?_
            refine lv_iload hx hb dM_wholeOf_79 (lv_at hl 4 rfl) ?_
            refine lv_lshr (v := jlshr (v_M_wholeOf_2 x how) (v_M_wholeOf_3 x how)) hx hb dM_wholeOf_81 rfl ?_
            exact J_2 (jlshr (v_M_wholeOf_2 x how) (v_M_wholeOf_3 x how)) (((if_neg c_4).trans (if_pos c_5))).symm ls (lv_sub hl [1, 2, 3, 4, 0] rfl)
          · refine lv_lconst (v := 0) hx hb dM_wholeOf_73 (by decide) ?_
            refine lv_goto (tgt := 82) hx hb dM_wholeOf_74 (by decide) ?_
            exact J_2 (0 : Int64) (((if_neg c_4).trans (if_neg c_5))).symm ls (lv_sub hl [1, 2, 3, 4, 0] rfl)
      refine lv_if_ge (tgt := 57) hx hb dM_wholeOf_50 (by decide) (fun c_3 => ?_) (fun c_3 => ?_)
      · have c_3 : (0 : Int64) ≤ x := (lg_cmp_ge _ _).mp c_3
        refine lv_iconst (v := 0) hx hb dM_wholeOf_57 (by decide) ?_
        exact J_1 false ((if_pos c_3)).symm ls (lv_sub hl [4, 2, 1, 0] rfl)
      · have c_3 : ¬ ((0 : Int64) ≤ x) := fun h => c_3 ((lg_cmp_ge _ _).mpr h)
        refine lv_iconst (v := 1) hx hb dM_wholeOf_53 (by decide) ?_
        refine lv_goto (tgt := 58) hx hb dM_wholeOf_54 (by decide) ?_
        exact J_1 true ((if_neg c_3)).symm ls (lv_sub hl [4, 2, 1, 0] rfl)
    · refine lv_lload_n hx hb dM_wholeOf_14 rfl (lv_at hl 0 rfl) ?_
      refine k_call (W.runS (As := [.long x]) (rest := []) ⟨hx, hb, hml, hown, hts⟩ (kM_plainZero l x) (cwS 1 hts (g_call (List.forall_mem_cons.mpr ⟨m3_38, List.forall_mem_cons.mpr ⟨m3_39, List.forall_mem_cons.mpr ⟨m1_4, fun _ h => absurd h List.not_mem_nil⟩⟩⟩) m3_40) rfl rfl rfl (by decide +kernel) ⟨Nat.le_of_ble_eq_true rfl, Nat.le_of_ble_eq_true rfl⟩) preEq rfl rfl hl.1 rfl (lv_room (Nat.le_of_ble_eq_true rfl)) dM_wholeOf_15 ⟨Nat.le_of_ble_eq_true rfl, Nat.le_of_ble_eq_true rfl⟩) ?_
      have e9 : pM_plainZero x = pM_wholeOf x how := (((if_neg c_1).trans (if_pos c_2))).symm
      exact W.lret (v := pM_plainZero x) hx hb hr (fun t ht hW => ⟨by rw [e9], ht⟩) (fun q h => absurd h List.not_mem_nil) dM_wholeOf_18
def v_M_whole_1 (x : Int64) (how : Int32) : Int32 := (if how = 0 then (1 : Int32) else (if how = (1 : Int32) then (0 : Int32) else how))
def pM_whole (x : Int64) (how : Int32) : Int64 := (if (pM_isNan x) = true then (9221120237041090560 : Int64) else (if how < 0 then (9221120237041090560 : Int64) else (if how ≤ (3 : Int32) then pM_wholeOf (pM_plainZero x) (v_M_whole_1 x how) else (9221120237041090560 : Int64))))
/-- M_whole -/
abbrev atM_whole (dC : Nat → ClassId) (dI : Nat → Nat → Nat) (h0 r1 r2 r3 r4 r5 r6 r7 r8 r9 : Nat) (x : Int64) (how : Int32) (A : Nat → Prop) (t : State) : Prop := va_P (dC, dI) vwCl [(h0, .inr (5, [.ref r1, .ref r2, .ref r3, .ref r4, .ref r5, .ref r6, .ref r7, .ref r8, .ref r9]))] t.heap ∧ va_K (dC, dI) vwCl [] t ∧ va_D A [(h0, .inr (5, [.ref r1, .ref r2, .ref r3, .ref r4, .ref r5, .ref r6, .ref r7, .ref r8, .ref r9]))]
abbrev WM_whole (p : Program) (l : Launch) (e : Env) (s : State) (m : MethodId) (below : List Frame) (meth : Method) (c : Code) (dC : Nat → ClassId) (dI : Nat → Nat → Nat) (h0 r1 r2 r3 r4 r5 r6 r7 r8 r9 : Nat) (x : Int64) (how : Int32) (A : Nat → Prop) (H : Heap) (locs : List Loc) (g : JFrame) : Prop := W p l e (headSpec wM_whole ({ frames := 3, cells := 0, slots := 0, locals := 77 })).room s m ([.ref h0, .long x, .int how] : List Value).toArray below meth c H locs 0 0 (MQ below (va_Ql (fun (r : Int64) (_ : Unit) => r = pM_whole x how) (fun _ => atM_whole dC dI h0 r1 r2 r3 r4 r5 r6 r7 r8 r9 x how A) A) ([.ref h0, .long x, .int how] : List Value).toArray s 0 0 A) g
set_option maxHeartbeats 4000000 in
set_option maxRecDepth 100000 in
theorem kM_whole (l : Launch) (dC : Nat → ClassId) (dI : Nat → Nat → Nat) (h0 r1 r2 r3 r4 r5 r6 r7 r8 r9 : Nat) (sz : Nat) (x : Int64) (how : Int32) : Met l yM_whole wM_whole ({ frames := 3, cells := 0, slots := 0, locals := 77 }) (va_Pc [.ref h0, .long x, .int how] (fun U => U.heap.size = sz ∧ va_P (dC, dI) vwCl [(h0, .inr (5, [.ref r1, .ref r2, .ref r3, .ref r4, .ref r5, .ref r6, .ref r7, .ref r8, .ref r9]))] U.heap ∧ va_K (dC, dI) vwCl [] U ∧ va_D (fun _ => True) [(h0, .inr (5, [.ref r1, .ref r2, .ref r3, .ref r4, .ref r5, .ref r6, .ref r7, .ref r8, .ref r9]))] ∧ NW U)) (va_Ql (fun (r : Int64) (_ : Unit) => r = pM_whole x how) (fun _ => atM_whole dC dI h0 r1 r2 r3 r4 r5 r6 r7 r8 r9 x how (va_A [(h0, .inr (5, [.ref r1, .ref r2, .ref r3, .ref r4, .ref r5, .ref r6, .ref r7, .ref r8, .ref r9]))] sz)) (va_A [(h0, .inr (5, [.ref r1, .ref r2, .ref r3, .ref r4, .ref r5, .ref r6, .ref r7, .ref r8, .ref r9]))] sz)) 0 0 (va_A [(h0, .inr (5, [.ref r1, .ref r2, .ref r3, .ref r4, .ref r5, .ref r6, .ref r7, .ref r8, .ref r9]))] sz) := by
  refine Met.ofW (cc := cM_whole) (maxL := 4) (ret := (some .long)) (by decide) rfl ?_
  intro p e s m args below meth c s₁ B hml hv
  obtain ⟨rfl, hsz, hP, hK, hD0, hN⟩ := hv
  have hx := B.exec
  have hb := B.bytes
  have hr := B.returns
  have hts := atoms_spec (ws := wM_whole) B.pre
  have hown : s.vm.findClass RM = some m.cls := findClass_of_methodNamed B.named
  have hlocks := B.notSynchronized
  subst hsz
  have hD := hD0.self (sz := s.heap.size)
  generalize hAe : va_A [(h0, .inr (5, [.ref r1, .ref r2, .ref r3, .ref r4, .ref r5, .ref r6, .ref r7, .ref r8, .ref r9]))] s.heap.size = A at hD ⊢
  have hA : ∀ q : Nat, s.heap.size ≤ q → A q := fun q h => by rw [← hAe]; exact Or.inr h
  have hS : va_S A s.heap s.heap [] := va_S.rf
  have hP : va_P (dC, dI) vwCl [(h0, .inr (5, [.ref r1, .ref r2, .ref r3, .ref r4, .ref r5, .ref r6, .ref r7, .ref r8, .ref r9]))] s.heap := hP
  have hl := lv_entry ([.ref h0, .long x, .int how]) (n := 4) (Nat.le_of_ble_eq_true rfl)
  rw [lg_entry_eq]
  generalize (lg_sl ([.ref h0, .long x, .int how]) ++ List.replicate (4 - (lg_sl ([.ref h0, .long x, .int how])).length) Slot.unset).toArray = ls at hl ⊢
  have hl : lv_has ls 4 [(0, .ref h0), (1, .long x), (3, .int how)] := hl
  refine lv_lload_n hx hb dM_whole_0 rfl (lv_at hl 1 rfl) ?_
  refine k_call (W.runS (As := [.long x]) (rest := []) ⟨hx, hb, hml, hown, hts⟩ (kM_isNan l x) (cwS 1 hts (g_call (List.forall_mem_cons.mpr ⟨m2_143, List.forall_mem_cons.mpr ⟨m2_144, List.forall_mem_cons.mpr ⟨m1_4, fun _ h => absurd h List.not_mem_nil⟩⟩⟩) m2_145) rfl rfl rfl (by decide +kernel) ⟨Nat.le_of_ble_eq_true rfl, Nat.le_of_ble_eq_true rfl⟩) preEq rfl rfl hl.1 rfl (lv_room (Nat.le_of_ble_eq_true rfl)) dM_whole_1 ⟨Nat.le_of_ble_eq_true rfl, Nat.le_of_ble_eq_true rfl⟩) ?_
  refine kb_ne (tgt := 16) hx hb dM_whole_4 (by decide) (fun c_1 => ?_) (fun c_1 => ?_)
  · refine lv_ldc2 (v := 9221120237041090560) hx hb hown (hts _ (List.mem_cons_of_mem _ m2_148)) dM_whole_16 ?_
    have e9 : (9221120237041090560 : Int64) = pM_whole x how := ((if_pos c_1)).symm
    have hP9 := hP.sub (ws' := [(h0, .inr (5, [.ref r1, .ref r2, .ref r3, .ref r4, .ref r5, .ref r6, .ref r7, .ref r8, .ref r9]))]) [0] rfl
    have hD9 := hD.sub (ws' := [(h0, .inr (5, [.ref r1, .ref r2, .ref r3, .ref r4, .ref r5, .ref r6, .ref r7, .ref r8, .ref r9]))]) [0] (by decide) rfl
    have hK9 := hK.sub (tys' := []) [] rfl
    have h9 := And.intro hP9 hD9
    exact W.lret (v := (9221120237041090560 : Int64)) hx hb hr (fun t ht hW => ⟨⟨(9221120237041090560 : Int64), (), rfl, e9, by rw [ht]; exact h9.1, va_K.moved hW.alike hK9, h9.2⟩, hS.F ht⟩) hS.2.2 dM_whole_19
  · refine lv_iload_n hx hb dM_whole_7 rfl (lv_at hl 2 rfl) ?_
    refine lv_if_lt (tgt := 16) hx hb dM_whole_8 (by decide) (fun c_2 => ?_) (fun c_2 => ?_)
    · refine lv_ldc2 (v := 9221120237041090560) hx hb hown (hts _ (List.mem_cons_of_mem _ m2_148)) dM_whole_16 ?_
      have e9 : (9221120237041090560 : Int64) = pM_whole x how := (((if_neg c_1).trans (if_pos c_2))).symm
      have hP9 := hP.sub (ws' := [(h0, .inr (5, [.ref r1, .ref r2, .ref r3, .ref r4, .ref r5, .ref r6, .ref r7, .ref r8, .ref r9]))]) [0] rfl
      have hD9 := hD.sub (ws' := [(h0, .inr (5, [.ref r1, .ref r2, .ref r3, .ref r4, .ref r5, .ref r6, .ref r7, .ref r8, .ref r9]))]) [0] (by decide) rfl
      have hK9 := hK.sub (tys' := []) [] rfl
      have h9 := And.intro hP9 hD9
      exact W.lret (v := (9221120237041090560 : Int64)) hx hb hr (fun t ht hW => ⟨⟨(9221120237041090560 : Int64), (), rfl, e9, by rw [ht]; exact h9.1, va_K.moved hW.alike hK9, h9.2⟩, hS.F ht⟩) hS.2.2 dM_whole_19
    · refine lv_iload_n hx hb dM_whole_11 rfl (lv_at hl 2 rfl) ?_
      refine lv_iconst (v := 3) hx hb dM_whole_12 (by decide) ?_
      refine lv_icmp_le (tgt := 20) hx hb dM_whole_13 (by decide) (fun c_3 => ?_) (fun c_3 => ?_)
      · refine lv_lload_n hx hb dM_whole_20 rfl (lv_at hl 1 rfl) ?_
        refine k_call (W.runS (As := [.long x]) (rest := []) ⟨hx, hb, hml, hown, hts⟩ (kM_plainZero l x) (cwS 1 hts (g_call (List.forall_mem_cons.mpr ⟨m3_38, List.forall_mem_cons.mpr ⟨m3_39, List.forall_mem_cons.mpr ⟨m1_4, fun _ h => absurd h List.not_mem_nil⟩⟩⟩) m3_40) rfl rfl rfl (by decide +kernel) ⟨Nat.le_of_ble_eq_true rfl, Nat.le_of_ble_eq_true rfl⟩) preEq rfl rfl hl.1 rfl (lv_room (Nat.le_of_ble_eq_true rfl)) dM_whole_21 ⟨Nat.le_of_ble_eq_true rfl, Nat.le_of_ble_eq_true rfl⟩) ?_
        refine lv_iload_n hx hb dM_whole_24 rfl (lv_at hl 2 rfl) ?_
        have J_1 : ∀ (w_0 : Int32), w_0 = (v_M_whole_1 x how) → ∀ (H : Heap) (locs : List Loc), va_K (dC, dI) vwCl [] s → va_P (dC, dI) vwCl [(h0, .inr (5, [.ref r1, .ref r2, .ref r3, .ref r4, .ref r5, .ref r6, .ref r7, .ref r8, .ref r9]))] H → va_D A [(h0, .inr (5, [.ref r1, .ref r2, .ref r3, .ref r4, .ref r5, .ref r6, .ref r7, .ref r8, .ref r9]))] → va_S A s.heap H locs → ∀ (ls : Array Slot), lv_has ls 4 [] → WM_whole p l e s m below meth c dC dI h0 r1 r2 r3 r4 r5 r6 r7 r8 r9 x how A H locs (F0 m 42 ls [.int w_0, .long (pM_plainZero x)]) := by
          intro w_0 e_0
          rw [e_0]
          intro H locs hK hP hD hS ls hl
          refine k_call (W.runS (As := [.long (pM_plainZero x), .int (v_M_whole_1 x how)]) (rest := []) ⟨hx, hb, hml, hown, hts⟩ (kM_wholeOf l (pM_plainZero x) (v_M_whole_1 x how)) (cwS 2 hts (g_call (List.forall_mem_cons.mpr ⟨m3_78, List.forall_mem_cons.mpr ⟨m3_79, List.forall_mem_cons.mpr ⟨m1_4, fun _ h => absurd h List.not_mem_nil⟩⟩⟩) m3_80) rfl rfl rfl (by decide +kernel) ⟨Nat.le_of_ble_eq_true rfl, Nat.le_of_ble_eq_true rfl⟩) preEq rfl rfl hl.1 rfl (lv_room (Nat.le_of_ble_eq_true rfl)) dM_whole_42 ⟨Nat.le_of_ble_eq_true rfl, Nat.le_of_ble_eq_true rfl⟩) ?_
          have e9 : pM_wholeOf (pM_plainZero x) (v_M_whole_1 x how) = pM_whole x how := ((((if_neg c_1).trans (if_neg c_2)).trans (if_pos c_3))).symm
          have hP9 := hP.sub (ws' := [(h0, .inr (5, [.ref r1, .ref r2, .ref r3, .ref r4, .ref r5, .ref r6, .ref r7, .ref r8, .ref r9]))]) [0] rfl
          have hD9 := hD.sub (ws' := [(h0, .inr (5, [.ref r1, .ref r2, .ref r3, .ref r4, .ref r5, .ref r6, .ref r7, .ref r8, .ref r9]))]) [0] (by decide) rfl
          have hK9 := hK.sub (tys' := []) [] rfl
          have h9 := And.intro hP9 hD9
          exact W.lret (v := pM_wholeOf (pM_plainZero x) (v_M_whole_1 x how)) hx hb hr (fun t ht hW => ⟨⟨pM_wholeOf (pM_plainZero x) (v_M_whole_1 x how), (), rfl, e9, by rw [ht]; exact h9.1, va_K.moved hW.alike hK9, h9.2⟩, hS.F ht⟩) hS.2.2 dM_whole_45
        refine lv_if_ne (tgt := 32) hx hb dM_whole_25 (by decide) (fun c_4 => ?_) (fun c_4 => ?_)
        · refine lv_iload_n hx hb dM_whole_32 rfl (lv_at hl 2 rfl) ?_
          refine lv_iconst (v := 1) hx hb dM_whole_33 (by decide) ?_
          refine lv_icmp_ne (tgt := 41) hx hb dM_whole_34 (by decide) (fun c_5 => ?_) (fun c_5 => ?_)
          · refine lv_iload_n hx hb dM_whole_41 rfl (lv_at hl 2 rfl) ?_
            exact J_1 how (((if_neg c_4).trans (if_neg c_5))).symm _ _ (hK.sub [] rfl) (hP.sub [0] rfl) (hD.sub [0] (by decide) rfl) hS ls (lv_sub hl [] rfl)
          · refine lv_iconst (v := 0) hx hb dM_whole_37 (by decide) ?_
            refine lv_goto (tgt := 42) hx hb dM_whole_38 (by decide) ?_
            exact J_1 (0 : Int32) (((if_neg c_4).trans (if_pos c_5))).symm _ _ (hK.sub [] rfl) (hP.sub [0] rfl) (hD.sub [0] (by decide) rfl) hS ls (lv_sub hl [] rfl)
        · refine lv_iconst (v := 1) hx hb dM_whole_28 (by decide) ?_
          refine lv_goto (tgt := 42) hx hb dM_whole_29 (by decide) ?_
          exact J_1 (1 : Int32) ((if_pos c_4)).symm _ _ (hK.sub [] rfl) (hP.sub [0] rfl) (hD.sub [0] (by decide) rfl) hS ls (lv_sub hl [] rfl)
      · refine lv_ldc2 (v := 9221120237041090560) hx hb hown (hts _ (List.mem_cons_of_mem _ m2_148)) dM_whole_16 ?_
        have e9 : (9221120237041090560 : Int64) = pM_whole x how := ((((if_neg c_1).trans (if_neg c_2)).trans (if_neg c_3))).symm
        have hP9 := hP.sub (ws' := [(h0, .inr (5, [.ref r1, .ref r2, .ref r3, .ref r4, .ref r5, .ref r6, .ref r7, .ref r8, .ref r9]))]) [0] rfl
        have hD9 := hD.sub (ws' := [(h0, .inr (5, [.ref r1, .ref r2, .ref r3, .ref r4, .ref r5, .ref r6, .ref r7, .ref r8, .ref r9]))]) [0] (by decide) rfl
        have hK9 := hK.sub (tys' := []) [] rfl
        have h9 := And.intro hP9 hD9
        exact W.lret (v := (9221120237041090560 : Int64)) hx hb hr (fun t ht hW => ⟨⟨(9221120237041090560 : Int64), (), rfl, e9, by rw [ht]; exact h9.1, va_K.moved hW.alike hK9, h9.2⟩, hS.F ht⟩) hS.2.2 dM_whole_19
def v_M_order_1 (x : Int64) (y : Int64) : Int64 := pM_keyOf x
def v_M_order_2 (x : Int64) (y : Int64) : Int64 := pM_keyOf y
def v_M_order_3 (x : Int64) (y : Int64) : Int32 := (if (v_M_order_2 x y) ≤ (v_M_order_1 x y) then (if (v_M_order_1 x y) ≤ (v_M_order_2 x y) then (0 : Int32) else (1 : Int32)) else (-1 : Int32))
def pM_order (x : Int64) (y : Int64) : Int32 := (if (pM_isNan x) = true then (2 : Int32) else (if (pM_isNan y) = true then (2 : Int32) else (v_M_order_3 x y)))
/-- M_order -/
abbrev atM_order (dC : Nat → ClassId) (dI : Nat → Nat → Nat) (h0 r1 r2 r3 r4 r5 r6 r7 r8 r9 : Nat) (x : Int64) (y : Int64) (A : Nat → Prop) (t : State) : Prop := va_P (dC, dI) vwCl [(h0, .inr (5, [.ref r1, .ref r2, .ref r3, .ref r4, .ref r5, .ref r6, .ref r7, .ref r8, .ref r9]))] t.heap ∧ va_K (dC, dI) vwCl [] t ∧ va_D A [(h0, .inr (5, [.ref r1, .ref r2, .ref r3, .ref r4, .ref r5, .ref r6, .ref r7, .ref r8, .ref r9]))]
abbrev WM_order (p : Program) (l : Launch) (e : Env) (s : State) (m : MethodId) (below : List Frame) (meth : Method) (c : Code) (dC : Nat → ClassId) (dI : Nat → Nat → Nat) (h0 r1 r2 r3 r4 r5 r6 r7 r8 r9 : Nat) (x : Int64) (y : Int64) (A : Nat → Prop) (H : Heap) (locs : List Loc) (g : JFrame) : Prop := W p l e (headSpec wM_order ({ frames := 1, cells := 0, slots := 0, locals := 21 })).room s m ([.ref h0, .long x, .long y] : List Value).toArray below meth c H locs 0 0 (MQ below (va_Qi (fun (r : Int32) (_ : Unit) => r = pM_order x y) (fun _ => atM_order dC dI h0 r1 r2 r3 r4 r5 r6 r7 r8 r9 x y A) A) ([.ref h0, .long x, .long y] : List Value).toArray s 0 0 A) g
set_option maxHeartbeats 4000000 in
set_option maxRecDepth 100000 in
theorem kM_order (l : Launch) (dC : Nat → ClassId) (dI : Nat → Nat → Nat) (h0 r1 r2 r3 r4 r5 r6 r7 r8 r9 : Nat) (sz : Nat) (x : Int64) (y : Int64) : Met l yM_order wM_order ({ frames := 1, cells := 0, slots := 0, locals := 21 }) (va_Pc [.ref h0, .long x, .long y] (fun U => U.heap.size = sz ∧ va_P (dC, dI) vwCl [(h0, .inr (5, [.ref r1, .ref r2, .ref r3, .ref r4, .ref r5, .ref r6, .ref r7, .ref r8, .ref r9]))] U.heap ∧ va_K (dC, dI) vwCl [] U ∧ va_D (fun _ => True) [(h0, .inr (5, [.ref r1, .ref r2, .ref r3, .ref r4, .ref r5, .ref r6, .ref r7, .ref r8, .ref r9]))] ∧ NW U)) (va_Qi (fun (r : Int32) (_ : Unit) => r = pM_order x y) (fun _ => atM_order dC dI h0 r1 r2 r3 r4 r5 r6 r7 r8 r9 x y (va_A [(h0, .inr (5, [.ref r1, .ref r2, .ref r3, .ref r4, .ref r5, .ref r6, .ref r7, .ref r8, .ref r9]))] sz)) (va_A [(h0, .inr (5, [.ref r1, .ref r2, .ref r3, .ref r4, .ref r5, .ref r6, .ref r7, .ref r8, .ref r9]))] sz)) 0 0 (va_A [(h0, .inr (5, [.ref r1, .ref r2, .ref r3, .ref r4, .ref r5, .ref r6, .ref r7, .ref r8, .ref r9]))] sz) := by
  refine Met.ofW (cc := cM_order) (maxL := 9) (ret := (some .int)) (by decide) rfl ?_
  intro p e s m args below meth c s₁ B hml hv
  obtain ⟨rfl, hsz, hP, hK, hD0, hN⟩ := hv
  have hx := B.exec
  have hb := B.bytes
  have hr := B.returns
  have hts := atoms_spec (ws := wM_order) B.pre
  have hown : s.vm.findClass RM = some m.cls := findClass_of_methodNamed B.named
  have hlocks := B.notSynchronized
  subst hsz
  have hD := hD0.self (sz := s.heap.size)
  generalize hAe : va_A [(h0, .inr (5, [.ref r1, .ref r2, .ref r3, .ref r4, .ref r5, .ref r6, .ref r7, .ref r8, .ref r9]))] s.heap.size = A at hD ⊢
  have hA : ∀ q : Nat, s.heap.size ≤ q → A q := fun q h => by rw [← hAe]; exact Or.inr h
  have hS : va_S A s.heap s.heap [] := va_S.rf
  have hP : va_P (dC, dI) vwCl [(h0, .inr (5, [.ref r1, .ref r2, .ref r3, .ref r4, .ref r5, .ref r6, .ref r7, .ref r8, .ref r9]))] s.heap := hP
  have hl := lv_entry ([.ref h0, .long x, .long y]) (n := 9) (Nat.le_of_ble_eq_true rfl)
  rw [lg_entry_eq]
  generalize (lg_sl ([.ref h0, .long x, .long y]) ++ List.replicate (9 - (lg_sl ([.ref h0, .long x, .long y])).length) Slot.unset).toArray = ls at hl ⊢
  have hl : lv_has ls 9 [(0, .ref h0), (1, .long x), (3, .long y)] := hl
  refine lv_lload_n hx hb dM_order_0 rfl (lv_at hl 1 rfl) ?_
  refine k_call (W.runS (As := [.long x]) (rest := []) ⟨hx, hb, hml, hown, hts⟩ (kM_isNan l x) (cwS 1 hts (g_call (List.forall_mem_cons.mpr ⟨m2_143, List.forall_mem_cons.mpr ⟨m2_144, List.forall_mem_cons.mpr ⟨m1_4, fun _ h => absurd h List.not_mem_nil⟩⟩⟩) m2_145) rfl rfl rfl (by decide +kernel) ⟨Nat.le_of_ble_eq_true rfl, Nat.le_of_ble_eq_true rfl⟩) preEq rfl rfl hl.1 rfl (lv_room (Nat.le_of_ble_eq_true rfl)) dM_order_1 ⟨Nat.le_of_ble_eq_true rfl, Nat.le_of_ble_eq_true rfl⟩) ?_
  refine kb_ne (tgt := 14) hx hb dM_order_4 (by decide) (fun c_1 => ?_) (fun c_1 => ?_)
  · refine lv_iconst (v := 2) hx hb dM_order_14 (by decide) ?_
    have e9 : (2 : Int32) = pM_order x y := ((if_pos c_1)).symm
    have hP9 := hP.sub (ws' := [(h0, .inr (5, [.ref r1, .ref r2, .ref r3, .ref r4, .ref r5, .ref r6, .ref r7, .ref r8, .ref r9]))]) [0] rfl
    have hD9 := hD.sub (ws' := [(h0, .inr (5, [.ref r1, .ref r2, .ref r3, .ref r4, .ref r5, .ref r6, .ref r7, .ref r8, .ref r9]))]) [0] (by decide) rfl
    have hK9 := hK.sub (tys' := []) [] rfl
    have h9 := And.intro hP9 hD9
    exact W.iret (v := (2 : Int32)) hx hb hr (fun t ht hW => ⟨⟨(2 : Int32), (), rfl, e9, by rw [ht]; exact h9.1, va_K.moved hW.alike hK9, h9.2⟩, hS.F ht⟩) hS.2.2 dM_order_15
  · refine lv_lload_n hx hb dM_order_7 rfl (lv_at hl 2 rfl) ?_
    refine k_call (W.runS (As := [.long y]) (rest := []) ⟨hx, hb, hml, hown, hts⟩ (kM_isNan l y) (cwS 1 hts (g_call (List.forall_mem_cons.mpr ⟨m2_143, List.forall_mem_cons.mpr ⟨m2_144, List.forall_mem_cons.mpr ⟨m1_4, fun _ h => absurd h List.not_mem_nil⟩⟩⟩) m2_145) rfl rfl rfl (by decide +kernel) ⟨Nat.le_of_ble_eq_true rfl, Nat.le_of_ble_eq_true rfl⟩) preEq rfl rfl hl.1 rfl (lv_room (Nat.le_of_ble_eq_true rfl)) dM_order_8 ⟨Nat.le_of_ble_eq_true rfl, Nat.le_of_ble_eq_true rfl⟩) ?_
    refine kb_eq (tgt := 16) hx hb dM_order_11 (by decide) (fun c_2 => ?_) (fun c_2 => ?_)
    · refine lv_lload_n hx hb dM_order_16 rfl (lv_at hl 1 rfl) ?_
      refine k_call (W.runS (As := [.long x]) (rest := []) ⟨hx, hb, hml, hown, hts⟩ (kM_keyOf l x) (cwS 1 hts (g_call (List.forall_mem_cons.mpr ⟨m3_96, List.forall_mem_cons.mpr ⟨m3_97, List.forall_mem_cons.mpr ⟨m1_4, fun _ h => absurd h List.not_mem_nil⟩⟩⟩) m3_98) rfl rfl rfl (by decide +kernel) ⟨Nat.le_of_ble_eq_true rfl, Nat.le_of_ble_eq_true rfl⟩) preEq rfl rfl hl.1 rfl (lv_room (Nat.le_of_ble_eq_true rfl)) dM_order_17 ⟨Nat.le_of_ble_eq_true rfl, Nat.le_of_ble_eq_true rfl⟩) ?_
      refine lv_topl (fun w9 e9 => ?_)
      have e9 : w9 = (v_M_order_1 x y) := e9
      rw [e9]
      refine lv_lstore (lv' := [(5, .long (v_M_order_1 x y)), (0, .ref h0), (1, .long x), (3, .long y)]) hx hb dM_order_20 hl (by decide) rfl (fun ls hl => ?_)
      refine lv_lload_n hx hb dM_order_22 rfl (lv_at hl 3 rfl) ?_
      refine k_call (W.runS (As := [.long y]) (rest := []) ⟨hx, hb, hml, hown, hts⟩ (kM_keyOf l y) (cwS 1 hts (g_call (List.forall_mem_cons.mpr ⟨m3_96, List.forall_mem_cons.mpr ⟨m3_97, List.forall_mem_cons.mpr ⟨m1_4, fun _ h => absurd h List.not_mem_nil⟩⟩⟩) m3_98) rfl rfl rfl (by decide +kernel) ⟨Nat.le_of_ble_eq_true rfl, Nat.le_of_ble_eq_true rfl⟩) preEq rfl rfl hl.1 rfl (lv_room (Nat.le_of_ble_eq_true rfl)) dM_order_23 ⟨Nat.le_of_ble_eq_true rfl, Nat.le_of_ble_eq_true rfl⟩) ?_
      refine lv_topl (fun w9 e9 => ?_)
      have e9 : w9 = (v_M_order_2 x y) := e9
      rw [e9]
      refine lv_lstore (lv' := [(7, .long (v_M_order_2 x y)), (5, .long (v_M_order_1 x y)), (0, .ref h0), (1, .long x), (3, .long y)]) hx hb dM_order_26 hl (by decide) rfl (fun ls hl => ?_)
      refine lv_lload hx hb dM_order_28 (lv_at hl 1 rfl) ?_
      refine lv_lload hx hb dM_order_30 (lv_at hl 0 rfl) ?_
      refine W.lcmp hx hb dM_order_32 ?_
      have J_1 : ∀ (w_0 : Int32), w_0 = (v_M_order_3 x y) → ∀ (H : Heap) (locs : List Loc), va_K (dC, dI) vwCl [] s → va_P (dC, dI) vwCl [(h0, .inr (5, [.ref r1, .ref r2, .ref r3, .ref r4, .ref r5, .ref r6, .ref r7, .ref r8, .ref r9]))] H → va_D A [(h0, .inr (5, [.ref r1, .ref r2, .ref r3, .ref r4, .ref r5, .ref r6, .ref r7, .ref r8, .ref r9]))] → va_S A s.heap H locs → ∀ (ls : Array Slot), lv_has ls 9 [] → WM_order p l e s m below meth c dC dI h0 r1 r2 r3 r4 r5 r6 r7 r8 r9 x y A H locs (F0 m 53 ls [.int w_0]) := by
        intro w_0 e_0
        rw [e_0]
        intro H locs hK hP hD hS ls hl
        have e9 : (v_M_order_3 x y) = pM_order x y := (((if_neg c_1).trans (if_neg c_2))).symm
        have hP9 := hP.sub (ws' := [(h0, .inr (5, [.ref r1, .ref r2, .ref r3, .ref r4, .ref r5, .ref r6, .ref r7, .ref r8, .ref r9]))]) [0] rfl
        have hD9 := hD.sub (ws' := [(h0, .inr (5, [.ref r1, .ref r2, .ref r3, .ref r4, .ref r5, .ref r6, .ref r7, .ref r8, .ref r9]))]) [0] (by decide) rfl
        have hK9 := hK.sub (tys' := []) [] rfl
        have h9 := And.intro hP9 hD9
        exact W.iret (v := (v_M_order_3 x y)) hx hb hr (fun t ht hW => ⟨⟨(v_M_order_3 x y), (), rfl, e9, by rw [ht]; exact h9.1, va_K.moved hW.alike hK9, h9.2⟩, hS.F ht⟩) hS.2.2 dM_order_53
      refine lv_if_ge (tgt := 40) hx hb dM_order_33 (by decide) (fun c_3 => ?_) (fun c_3 => ?_)
      · have c_3 : (v_M_order_2 x y) ≤ (v_M_order_1 x y) := (lg_cmp_ge _ _).mp c_3
        refine lv_lload hx hb dM_order_40 (lv_at hl 1 rfl) ?_
        refine lv_lload hx hb dM_order_42 (lv_at hl 0 rfl) ?_
        refine W.lcmp hx hb dM_order_44 ?_
        refine lv_if_le (tgt := 52) hx hb dM_order_45 (by decide) (fun c_4 => ?_) (fun c_4 => ?_)
        · have c_4 : (v_M_order_1 x y) ≤ (v_M_order_2 x y) := (lg_cmp_le _ _).mp c_4
          refine lv_iconst (v := 0) hx hb dM_order_52 (by decide) ?_
          exact J_1 (0 : Int32) (((if_pos c_3).trans (if_pos c_4))).symm _ _ (hK.sub [] rfl) (hP.sub [0] rfl) (hD.sub [0] (by decide) rfl) hS ls (lv_sub hl [] rfl)
        · have c_4 : ¬ ((v_M_order_1 x y) ≤ (v_M_order_2 x y)) := fun h => c_4 ((lg_cmp_le _ _).mpr h)
          refine lv_iconst (v := 1) hx hb dM_order_48 (by decide) ?_
          refine lv_goto (tgt := 53) hx hb dM_order_49 (by decide) ?_
          exact J_1 (1 : Int32) (((if_pos c_3).trans (if_neg c_4))).symm _ _ (hK.sub [] rfl) (hP.sub [0] rfl) (hD.sub [0] (by decide) rfl) hS ls (lv_sub hl [] rfl)
      · have c_3 : ¬ ((v_M_order_2 x y) ≤ (v_M_order_1 x y)) := fun h => c_3 ((lg_cmp_ge _ _).mpr h)
        refine lv_iconst (v := -1) hx hb dM_order_36 (by decide) ?_
        refine lv_goto (tgt := 53) hx hb dM_order_37 (by decide) ?_
        exact J_1 (-1 : Int32) ((if_neg c_3)).symm _ _ (hK.sub [] rfl) (hP.sub [0] rfl) (hD.sub [0] (by decide) rfl) hS ls (lv_sub hl [] rfl)
    · refine lv_iconst (v := 2) hx hb dM_order_14 (by decide) ?_
      have e9 : (2 : Int32) = pM_order x y := (((if_neg c_1).trans (if_pos c_2))).symm
      have hP9 := hP.sub (ws' := [(h0, .inr (5, [.ref r1, .ref r2, .ref r3, .ref r4, .ref r5, .ref r6, .ref r7, .ref r8, .ref r9]))]) [0] rfl
      have hD9 := hD.sub (ws' := [(h0, .inr (5, [.ref r1, .ref r2, .ref r3, .ref r4, .ref r5, .ref r6, .ref r7, .ref r8, .ref r9]))]) [0] (by decide) rfl
      have hK9 := hK.sub (tys' := []) [] rfl
      have h9 := And.intro hP9 hD9
      exact W.iret (v := (2 : Int32)) hx hb hr (fun t ht hW => ⟨⟨(2 : Int32), (), rfl, e9, by rw [ht]; exact h9.1, va_K.moved hW.alike hK9, h9.2⟩, hS.F ht⟩) hS.2.2 dM_order_15
