def v_B_set_4 (n1 : Nat) (y1_0 : Int64) (y1_1 : Nat → Int32) (y1_2 : Nat) : Int32 := (y1_0 &&& (65535 : Int64)).toInt32
def v_B_set_5 (n1 : Nat) (y1_0 : Int64) (y1_1 : Nat → Int32) (y1_2 : Nat) : Nat → Int32 := upd y1_1 y1_2 (v_B_set_4 n1 y1_0 y1_1 y1_2)
def v_B_set_6 (n1 : Nat) (y1_0 : Int64) (y1_1 : Nat → Int32) (y1_2 : Nat) : Int64 := jlush y1_0 (16 : Int32)
def qB_set_7 : Nat → Int64 → (Nat → Int32) → Nat → Int64 × (Nat → Int32) × Nat
  | 0, y1_0, y1_1, y1_2 => (y1_0, y1_1, y1_2)
  | n1 + 1, y1_0, y1_1, y1_2 => (if y1_0 = (0 : Int64) then (y1_0, y1_1, y1_2) else qB_set_7 n1 (v_B_set_6 n1 y1_0 y1_1 y1_2) (v_B_set_5 n1 y1_0 y1_1 y1_2) (y1_2 + 1))
def v_B_set_1 (f : Nat → Int32) (k : Nat) (v : Int64) : Int64 := (qB_set_7 4 v f 0).1
def v_B_set_2 (f : Nat → Int32) (k : Nat) (v : Int64) : Nat → Int32 := (qB_set_7 4 v f 0).2.1
def v_B_set_3 (f : Nat → Int32) (k : Nat) (v : Int64) : Nat := (qB_set_7 4 v f 0).2.2
def pB_set_0 (f : Nat → Int32) (k : Nat) (v : Int64) : Nat → Int32 := (v_B_set_2 f k v)
def pB_set_1 (f : Nat → Int32) (k : Nat) (v : Int64) : Nat := (v_B_set_3 f k v)
/-- B_set -/
abbrev atB_set (dC : Nat → ClassId) (dI : Nat → Nat → Nat) (h0 h0d : Nat) (bh0 : ClassId) (f : Nat → Int32) (k : Nat) (v : Int64) (A : Nat → Prop) (t : State) : Prop := va_P (dC, dI) vwCl [(h0, .inr (3, [.ref h0d, .int (nI (pB_set_1 f k v))])), (h0d, .inl (bh0, 640, .inl (pB_set_0 f k v)))] t.heap ∧ va_K (dC, dI) vwCl [(bh0, .int)] t ∧ va_D A [(h0, .inr (3, [.ref h0d, .int (nI (pB_set_1 f k v))])), (h0d, .inl (bh0, 640, .inl (pB_set_0 f k v)))]
theorem trB_set {dC : Nat → ClassId} {dI : Nat → Nat → Nat} {h0 h0d : Nat} {bh0 : ClassId} {A : Nat → Prop} {H : Heap} {a0 b0 : Nat → Int32} {a1 b1 : Nat} (e0 : a0 = b0) (e1 : a1 = b1) (h : va_P (dC, dI) vwCl [(h0, .inr (3, [.ref h0d, .int (nI a1)])), (h0d, .inl (bh0, 640, .inl a0))] H ∧ va_D A [(h0, .inr (3, [.ref h0d, .int (nI a1)])), (h0d, .inl (bh0, 640, .inl a0))]) : va_P (dC, dI) vwCl [(h0, .inr (3, [.ref h0d, .int (nI b1)])), (h0d, .inl (bh0, 640, .inl b0))] H ∧ va_D A [(h0, .inr (3, [.ref h0d, .int (nI b1)])), (h0d, .inl (bh0, 640, .inl b0))] := by
  subst e0
  subst e1
  exact h
abbrev WB_set (p : Program) (l : Launch) (e : Env) (s : State) (m : MethodId) (below : List Frame) (meth : Method) (c : Code) (dC : Nat → ClassId) (dI : Nat → Nat → Nat) (h0 h0d : Nat) (bh0 : ClassId) (f : Nat → Int32) (k : Nat) (v : Int64) (A : Nat → Prop) (H : Heap) (locs : List Loc) (g : JFrame) : Prop := W p l e (headSpec wB_set ({ frames := 0, cells := 0, slots := 0, locals := 0 })).room s m ([.ref h0, .long v] : List Value).toArray below meth c H locs 0 0 (MQ below (va_Qv (fun (_ : Unit) => True) (fun _ => atB_set dC dI h0 h0d bh0 f k v A) A) ([.ref h0, .long v] : List Value).toArray s 0 0 A) g
set_option maxHeartbeats 4000000 in
set_option maxRecDepth 100000 in
theorem kB_set (l : Launch) (dC : Nat → ClassId) (dI : Nat → Nat → Nat) (h0 h0d : Nat) (bh0 : ClassId) (sz : Nat) (f : Nat → Int32) (k : Nat) (v : Int64) : Met l yB_set wB_set ({ frames := 0, cells := 0, slots := 0, locals := 0 }) (va_Pc [.ref h0, .long v] (fun U => U.heap.size = sz ∧ va_P (dC, dI) vwCl [(h0, .inr (3, [.ref h0d, .int (nI k)])), (h0d, .inl (bh0, 640, .inl f))] U.heap ∧ va_K (dC, dI) vwCl [(bh0, .int)] U ∧ va_D (fun _ => True) [(h0, .inr (3, [.ref h0d, .int (nI k)])), (h0d, .inl (bh0, 640, .inl f))] ∧ NW U)) (va_Qv (fun (_ : Unit) => True) (fun _ => atB_set dC dI h0 h0d bh0 f k v (va_A [(h0, .inr (3, [.ref h0d, .int (nI k)])), (h0d, .inl (bh0, 640, .inl f))] sz)) (va_A [(h0, .inr (3, [.ref h0d, .int (nI k)])), (h0d, .inl (bh0, 640, .inl f))] sz)) 0 0 (va_A [(h0, .inr (3, [.ref h0d, .int (nI k)])), (h0d, .inl (bh0, 640, .inl f))] sz) := by
  refine Met.ofW (cc := cB_set) (maxL := 5) (ret := none) (by decide) rfl ?_
  intro p e s m args below meth c s₁ B hml hv
  obtain ⟨rfl, hsz, hP, hK, hD0, hN⟩ := hv
  have hx := B.exec
  have hb := B.bytes
  have hr := B.returns
  have hts := atoms_spec (ws := wB_set) B.pre
  have hown : s.vm.findClass RB = some m.cls := findClass_of_methodNamed B.named
  have hlocks := B.notSynchronized
  subst hsz
  have hD := hD0.self (sz := s.heap.size)
  generalize hAe : va_A [(h0, .inr (3, [.ref h0d, .int (nI k)])), (h0d, .inl (bh0, 640, .inl f))] s.heap.size = A at hD ⊢
  have hA : ∀ q : Nat, s.heap.size ≤ q → A q := fun q h => by rw [← hAe]; exact Or.inr h
  have hS : va_S A s.heap s.heap [] := va_S.rf
  have hP : va_P (dC, dI) vwCl [(h0, .inr (3, [.ref h0d, .int (nI k)])), (h0d, .inl (bh0, 640, .inl f))] s.heap := hP
  have hl := lv_entry ([.ref h0, .long v]) (n := 5) (Nat.le_of_ble_eq_true rfl)
  rw [lg_entry_eq]
  generalize (lg_sl ([.ref h0, .long v]) ++ List.replicate (5 - (lg_sl ([.ref h0, .long v])).length) Slot.unset).toArray = ls at hl ⊢
  have hl : lv_has ls 5 [(0, .ref h0), (1, .long v)] := hl
  refine lv_aload_n hx hb dB_set_0 rfl (lv_at hl 0 rfl) ?_
  refine lv_iconst (v := 0) hx hb dB_set_1 (by decide) ?_
  refine va_put (D := (dC, dI)) (ci := 3) (v := .int (0 : Int32)) (ty := .int) (C := RB) (T := TB) (N := 2) hx hb hts (inC iB) tyB tyB_ok nmB hown hK hP hD hS 0 rfl rfl 1 (by decide) (hts _ (List.mem_cons_of_mem _ m2_79)) (fun _ h9 => h9) rfl (by decide +kernel) rfl rfl (Nat.le_of_ble_eq_true rfl) dB_set_2 (fun H locs hP hD hS => ?_)
  have hP : va_P (dC, dI) vwCl [(h0, .inr (3, [.ref h0d, .int (0 : Int32)])), (h0d, .inl (bh0, 640, .inl f))] H := hP
  have hD : va_D A [(h0, .inr (3, [.ref h0d, .int (0 : Int32)])), (h0d, .inl (bh0, 640, .inl f))] := hD
  refine lv_lload_n hx hb dB_set_5 rfl (lv_at hl 1 rfl) ?_
  refine lv_lstore_n (lv' := [(3, .long v), (0, .ref h0), (1, .long v)]) hx hb dB_set_6 rfl hl (by decide) rfl (fun ls hl => ?_)
  have K_1 : ∀ (w_0 : Int64) (w_1 : Nat → Int32) (w_2 : Nat), (w_0, w_1, w_2) = qB_set_7 4 v f 0 → ∀ (H : Heap) (locs : List Loc), va_K (dC, dI) vwCl [(bh0, .int)] s → va_P (dC, dI) vwCl [(h0, .inr (3, [.ref h0d, .int (nI w_2)])), (h0d, .inl (bh0, 640, .inl w_1))] H → va_D A [(h0, .inr (3, [.ref h0d, .int (nI w_2)])), (h0d, .inl (bh0, 640, .inl w_1))] → va_S A s.heap H locs → ∀ (ls : Array Slot), lv_has ls 5 [] → WB_set p l e s m below meth c dC dI h0 h0d bh0 f k v A H locs (F0 m 46 ls []) := by
    intro w_0 w_1 w_2 hz
    have e_0 : w_0 = (v_B_set_1 f k v) := (congrArg (fun q => q.1) hz)
    have e_1 : w_1 = (v_B_set_2 f k v) := (congrArg (fun q => q.2.1) hz)
    have e_2 : w_2 = (v_B_set_3 f k v) := (congrArg (fun q => q.2.2) hz)
    rw [e_1, e_2]
    intro H locs hK hP hD hS ls hl
    have e9_0 : (v_B_set_2 f k v) = pB_set_0 f k v := (rfl).symm
    have e9_1 : (v_B_set_3 f k v) = pB_set_1 f k v := (rfl).symm
    have hP9 := hP.sub (ws' := [(h0, .inr (3, [.ref h0d, .int (nI (v_B_set_3 f k v))])), (h0d, .inl (bh0, 640, .inl (v_B_set_2 f k v)))]) [0, 1] rfl
    have hD9 := hD.sub (ws' := [(h0, .inr (3, [.ref h0d, .int (nI (v_B_set_3 f k v))])), (h0d, .inl (bh0, 640, .inl (v_B_set_2 f k v)))]) [0, 1] (by decide) rfl
    have hK9 := hK.sub (tys' := [(bh0, .int)]) [0] rfl
    have h9 := trB_set e9_0 e9_1 ⟨hP9, hD9⟩
    exact W.vret hx hb hr (fun t ht hW => ⟨⟨(), rfl, trivial, by rw [ht]; exact h9.1, va_K.moved hW.alike hK9, h9.2⟩, hS.F ht⟩) hS.2.2 dB_set_46
  have L_1 : ∀ (n1 : Nat) (y1_0 : Int64) (y1_1 : Nat → Int32) (y1_2 : Nat), n1 ≤ 4 → wlt y1_0 n1 → y1_2 + n1 ≤ 640 → qB_set_7 n1 y1_0 y1_1 y1_2 = qB_set_7 4 v f 0 → ∀ (H : Heap) (locs : List Loc), va_K (dC, dI) vwCl [(bh0, .int)] s → va_P (dC, dI) vwCl [(h0, .inr (3, [.ref h0d, .int (nI y1_2)])), (h0d, .inl (bh0, 640, .inl y1_1))] H → va_D A [(h0, .inr (3, [.ref h0d, .int (nI y1_2)])), (h0d, .inl (bh0, 640, .inl y1_1))] → va_S A s.heap H locs → ∀ (ls : Array Slot), lv_has ls 5 [(0, .ref h0), (3, .long y1_0)] → WB_set p l e s m below meth c dC dI h0 h0d bh0 f k v A H locs (F0 m 7 ls []) := by
    intro n1
    induction n1 with
    | zero =>
      intro y1_0 y1_1 y1_2 hj hw hc hq H locs hK hP hD hS ls hl
      refine lv_lload_n hx hb dB_set_7 rfl (lv_at hl 1 rfl) ?_
      refine lv_lconst (v := 0) hx hb dB_set_8 (by decide) ?_
      refine W.lcmp hx hb dB_set_9 ?_
      refine lv_if_eq (tgt := 46) hx hb dB_set_10 (by decide) (fun c_1 => ?_) (fun c_1 => ?_)
      rotate_left
      · exact absurd ((lg_cmp_eq _ _).mpr (wlt_0 hw)) c_1
      exact K_1 y1_0 y1_1 y1_2 (by exact hq) _ _ (hK.sub [0] rfl) (hP.sub [0, 1] rfl) (hD.sub [0, 1] (by decide) rfl) hS ls (lv_sub hl [] rfl)
    | succ n1 ih =>
      intro y1_0 y1_1 y1_2 hj hw hc hq H locs hK hP hD hS ls hl
      refine lv_lload_n hx hb dB_set_7 rfl (lv_at hl 1 rfl) ?_
      refine lv_lconst (v := 0) hx hb dB_set_8 (by decide) ?_
      refine W.lcmp hx hb dB_set_9 ?_
      refine lv_if_eq (tgt := 46) hx hb dB_set_10 (by decide) (fun c_2 => ?_) (fun c_2 => ?_)
      · have c_2 : y1_0 = (0 : Int64) := (lg_cmp_eq _ _).mp c_2
        exact K_1 y1_0 y1_1 y1_2 (by exact (Eq.trans ((if_pos c_2)).symm hq)) _ _ (hK.sub [0] rfl) (hP.sub [0, 1] rfl) (hD.sub [0, 1] (by decide) rfl) hS ls (lv_sub hl [] rfl)
      · have c_2 : ¬ (y1_0 = (0 : Int64)) := fun h => c_2 ((lg_cmp_eq _ _).mpr h)
        refine lv_aload_n hx hb dB_set_13 rfl (lv_at hl 0 rfl) ?_
        refine va_get (D := (dC, dI)) (ci := 3) (v := .ref h0d) (C := RB) (T := TB) (N := 2) hx hb hts (inC iB) hown hK hP 0 rfl rfl 0 (by decide) (hts _ (List.mem_cons_of_mem _ m2_78)) (fun _ h9 => h9) rfl dB_set_14 ?_
        refine lv_aload_n hx hb dB_set_17 rfl (lv_at hl 0 rfl) ?_
        refine va_get (D := (dC, dI)) (ci := 3) (v := .int (nI y1_2)) (C := RB) (T := TB) (N := 2) hx hb hts (inC iB) hown hK hP 0 rfl rfl 1 (by decide) (hts _ (List.mem_cons_of_mem _ m2_79)) (fun _ h9 => h9) rfl dB_set_18 ?_
        refine lv_lload_n hx hb dB_set_21 rfl (lv_at hl 1 rfl) ?_
        refine lv_ldc2 (v := 65535) hx hb hown (hts _ (List.mem_cons_of_mem _ m2_163)) dB_set_22 ?_
        refine lv_land hx hb dB_set_25 ?_
        refine lv_l2i (v := (y1_0 &&& (65535 : Int64)).toInt32) hx hb dB_set_26 rfl ?_
        refine lv_topi (fun w9 e9 => ?_)
        have e9 : w9 = (v_B_set_4 n1 y1_0 y1_1 y1_2) := e9
        rw [e9]
        refine va_iast hx hb hK hP hD hS 1 0 rfl rfl (i := (nI y1_2)) (x := (v_B_set_4 n1 y1_0 y1_1 y1_2)) (vp_in_nI (n := y1_2) (by omega) (by omega)) dB_set_27 (fun H locs hP hD hS => ?_)
        have hP : va_P (dC, dI) vwCl [(h0, .inr (3, [.ref h0d, .int (nI y1_2)])), (h0d, .inl (bh0, 640, .inl (upd y1_1 (nI y1_2).toNatClampNeg (v_B_set_4 n1 y1_0 y1_1 y1_2))))] H := hP
        have hD : va_D A [(h0, .inr (3, [.ref h0d, .int (nI y1_2)])), (h0d, .inl (bh0, 640, .inl (upd y1_1 (nI y1_2).toNatClampNeg (v_B_set_4 n1 y1_0 y1_1 y1_2))))] := hD
        have e9 : upd y1_1 (nI y1_2).toNatClampNeg (v_B_set_4 n1 y1_0 y1_1 y1_2) = (v_B_set_5 n1 y1_0 y1_1 y1_2) := congrArg (fun z => upd y1_1 z (v_B_set_4 n1 y1_0 y1_1 y1_2)) (nI_clamp (n := y1_2) (by omega))
        rw [e9] at hP hD
        have hP : va_P (dC, dI) vwCl [(h0, .inr (3, [.ref h0d, .int (nI y1_2)])), (h0d, .inl (bh0, 640, .inl (v_B_set_5 n1 y1_0 y1_1 y1_2)))] H := hP
        have hD : va_D A [(h0, .inr (3, [.ref h0d, .int (nI y1_2)])), (h0d, .inl (bh0, 640, .inl (v_B_set_5 n1 y1_0 y1_1 y1_2)))] := hD
        refine lv_aload_n hx hb dB_set_28 rfl (lv_at hl 0 rfl) ?_
        refine lv_dup hx hb dB_set_29 rfl ?_
        refine va_get (D := (dC, dI)) (ci := 3) (v := .int (nI y1_2)) (C := RB) (T := TB) (N := 2) hx hb hts (inC iB) hown hK hP 0 rfl rfl 1 (by decide) (hts _ (List.mem_cons_of_mem _ m2_79)) (fun _ h9 => h9) rfl dB_set_30 ?_
        refine lv_iconst (v := 1) hx hb dB_set_33 (by decide) ?_
        refine lv_iadd hx hb dB_set_34 ?_
        refine W.eq (g2 := F0 m 35 ls [.int (nI (y1_2 + 1)), .ref h0]) (congrArg (fun z => F0 m 35 ls [.int z, .ref h0]) (nI_add y1_2 1)) ?_
        refine va_put (D := (dC, dI)) (ci := 3) (v := .int (nI (y1_2 + 1))) (ty := .int) (C := RB) (T := TB) (N := 2) hx hb hts (inC iB) tyB tyB_ok nmB hown hK hP hD hS 0 rfl rfl 1 (by decide) (hts _ (List.mem_cons_of_mem _ m2_79)) (fun _ h9 => h9) rfl (by decide +kernel) rfl rfl (Nat.le_of_ble_eq_true rfl) dB_set_35 (fun H locs hP hD hS => ?_)
        have hP : va_P (dC, dI) vwCl [(h0, .inr (3, [.ref h0d, .int (nI (y1_2 + 1))])), (h0d, .inl (bh0, 640, .inl (v_B_set_5 n1 y1_0 y1_1 y1_2)))] H := hP
        have hD : va_D A [(h0, .inr (3, [.ref h0d, .int (nI (y1_2 + 1))])), (h0d, .inl (bh0, 640, .inl (v_B_set_5 n1 y1_0 y1_1 y1_2)))] := hD
        refine lv_lload_n hx hb dB_set_38 rfl (lv_at hl 1 rfl) ?_
        refine lv_bipush (v := 16) hx hb dB_set_39 (by decide) ?_
        refine lv_lushr (v := jlush y1_0 (16 : Int32)) hx hb dB_set_41 rfl ?_
        refine lv_topl (fun w9 e9 => ?_)
        have e9 : w9 = (v_B_set_6 n1 y1_0 y1_1 y1_2) := e9
        rw [e9]
        refine lv_lstore_n (lv' := [(3, .long (v_B_set_6 n1 y1_0 y1_1 y1_2)), (0, .ref h0)]) hx hb dB_set_42 rfl hl (by decide) rfl (fun ls hl => ?_)
        refine lv_goto (tgt := 7) hx hb dB_set_43 (by decide) ?_
        exact ih (v_B_set_6 n1 y1_0 y1_1 y1_2) (v_B_set_5 n1 y1_0 y1_1 y1_2) (y1_2 + 1) (by omega) (wlt_s hw) (by omega) (by exact (Eq.trans ((if_neg c_2)).symm hq)) _ _ (hK.sub [0] rfl) (hP.sub [0, 1] rfl) (hD.sub [0, 1] (by decide) rfl) hS ls (lv_sub hl [1, 0] rfl)
  exact L_1 4 v f 0 (by omega) (wlt_4 _) (by omega) rfl _ _ (hK.sub [0] rfl) (hP.sub [0, 1] rfl) (hD.sub [0, 1] (by decide) rfl) hS ls (lv_sub hl [1, 0] rfl)
def v_B_copy_2 (f2 : Nat → Int32) (j1 : Nat) (y1_0 : Nat → Int32) : Int32 := f2 j1
def v_B_copy_3 (f2 : Nat → Int32) (j1 : Nat) (y1_0 : Nat → Int32) : Nat → Int32 := upd y1_0 j1 (v_B_copy_2 f2 j1 y1_0)
def qB_copy_10 (f2 : Nat → Int32) : Nat → Nat → (Nat → Int32) → (Nat → Int32)
  | 0, j1, y1_0 => y1_0
  | n1 + 1, j1, y1_0 => qB_copy_10 f2 n1 (j1 + 1) (v_B_copy_3 f2 j1 y1_0)
def v_B_copy_1 (f : Nat → Int32) (k : Nat) (f2 : Nat → Int32) (k2 : Nat) : Nat → Int32 := qB_copy_10 f2 k2 0 f
def pB_copy_0 (f : Nat → Int32) (k : Nat) (f2 : Nat → Int32) (k2 : Nat) : Nat → Int32 := (v_B_copy_1 f k f2 k2)
def pB_copy_1 (f : Nat → Int32) (k : Nat) (f2 : Nat → Int32) (k2 : Nat) : Nat := k2
/-- B_copy -/
abbrev atB_copy (dC : Nat → ClassId) (dI : Nat → Nat → Nat) (h0 h0d h1 h1d : Nat) (bh0 bh1 : ClassId) (f : Nat → Int32) (k : Nat) (f2 : Nat → Int32) (k2 : Nat) (A : Nat → Prop) (t : State) : Prop := va_P (dC, dI) vwCl [(h0, .inr (3, [.ref h0d, .int (nI (pB_copy_1 f k f2 k2))])), (h0d, .inl (bh0, 640, .inl (pB_copy_0 f k f2 k2))), (h1, .inr (3, [.ref h1d, .int (nI k2)])), (h1d, .inl (bh1, 640, .inl f2))] t.heap ∧ va_K (dC, dI) vwCl [(bh0, .int), (bh1, .int)] t ∧ va_D A [(h0, .inr (3, [.ref h0d, .int (nI (pB_copy_1 f k f2 k2))])), (h0d, .inl (bh0, 640, .inl (pB_copy_0 f k f2 k2))), (h1, .inr (3, [.ref h1d, .int (nI k2)])), (h1d, .inl (bh1, 640, .inl f2))]
theorem trB_copy {dC : Nat → ClassId} {dI : Nat → Nat → Nat} {h0 h0d h1 h1d : Nat} {bh0 bh1 : ClassId} {f2 : Nat → Int32} {k2 : Nat} {A : Nat → Prop} {H : Heap} {a0 b0 : Nat → Int32} {a1 b1 : Nat} (e0 : a0 = b0) (e1 : a1 = b1) (h : va_P (dC, dI) vwCl [(h0, .inr (3, [.ref h0d, .int (nI a1)])), (h0d, .inl (bh0, 640, .inl a0)), (h1, .inr (3, [.ref h1d, .int (nI k2)])), (h1d, .inl (bh1, 640, .inl f2))] H ∧ va_D A [(h0, .inr (3, [.ref h0d, .int (nI a1)])), (h0d, .inl (bh0, 640, .inl a0)), (h1, .inr (3, [.ref h1d, .int (nI k2)])), (h1d, .inl (bh1, 640, .inl f2))]) : va_P (dC, dI) vwCl [(h0, .inr (3, [.ref h0d, .int (nI b1)])), (h0d, .inl (bh0, 640, .inl b0)), (h1, .inr (3, [.ref h1d, .int (nI k2)])), (h1d, .inl (bh1, 640, .inl f2))] H ∧ va_D A [(h0, .inr (3, [.ref h0d, .int (nI b1)])), (h0d, .inl (bh0, 640, .inl b0)), (h1, .inr (3, [.ref h1d, .int (nI k2)])), (h1d, .inl (bh1, 640, .inl f2))] := by
  subst e0
  subst e1
  exact h
abbrev WB_copy (p : Program) (l : Launch) (e : Env) (s : State) (m : MethodId) (below : List Frame) (meth : Method) (c : Code) (dC : Nat → ClassId) (dI : Nat → Nat → Nat) (h0 h0d h1 h1d : Nat) (bh0 bh1 : ClassId) (f : Nat → Int32) (k : Nat) (f2 : Nat → Int32) (k2 : Nat) (A : Nat → Prop) (H : Heap) (locs : List Loc) (g : JFrame) : Prop := W p l e (headSpec wB_copy ({ frames := 0, cells := 0, slots := 0, locals := 0 })).room s m ([.ref h0, .ref h1] : List Value).toArray below meth c H locs 0 0 (MQ below (va_Qv (fun (_ : Unit) => True) (fun _ => atB_copy dC dI h0 h0d h1 h1d bh0 bh1 f k f2 k2 A) A) ([.ref h0, .ref h1] : List Value).toArray s 0 0 A) g
set_option maxHeartbeats 4000000 in
set_option maxRecDepth 100000 in
theorem kB_copy (l : Launch) (dC : Nat → ClassId) (dI : Nat → Nat → Nat) (h0 h0d h1 h1d : Nat) (bh0 bh1 : ClassId) (sz : Nat) (f : Nat → Int32) (k : Nat) (f2 : Nat → Int32) (k2 : Nat) (hk2 : k2 ≤ 640) : Met l yB_copy wB_copy ({ frames := 0, cells := 0, slots := 0, locals := 0 }) (va_Pc [.ref h0, .ref h1] (fun U => U.heap.size = sz ∧ va_P (dC, dI) vwCl [(h0, .inr (3, [.ref h0d, .int (nI k)])), (h0d, .inl (bh0, 640, .inl f)), (h1, .inr (3, [.ref h1d, .int (nI k2)])), (h1d, .inl (bh1, 640, .inl f2))] U.heap ∧ va_K (dC, dI) vwCl [(bh0, .int), (bh1, .int)] U ∧ va_D (fun _ => True) [(h0, .inr (3, [.ref h0d, .int (nI k)])), (h0d, .inl (bh0, 640, .inl f)), (h1, .inr (3, [.ref h1d, .int (nI k2)])), (h1d, .inl (bh1, 640, .inl f2))] ∧ NW U)) (va_Qv (fun (_ : Unit) => True) (fun _ => atB_copy dC dI h0 h0d h1 h1d bh0 bh1 f k f2 k2 (va_A [(h0, .inr (3, [.ref h0d, .int (nI k)])), (h0d, .inl (bh0, 640, .inl f)), (h1, .inr (3, [.ref h1d, .int (nI k2)])), (h1d, .inl (bh1, 640, .inl f2))] sz)) (va_A [(h0, .inr (3, [.ref h0d, .int (nI k)])), (h0d, .inl (bh0, 640, .inl f)), (h1, .inr (3, [.ref h1d, .int (nI k2)])), (h1d, .inl (bh1, 640, .inl f2))] sz)) 0 0 (va_A [(h0, .inr (3, [.ref h0d, .int (nI k)])), (h0d, .inl (bh0, 640, .inl f)), (h1, .inr (3, [.ref h1d, .int (nI k2)])), (h1d, .inl (bh1, 640, .inl f2))] sz) := by
  refine Met.ofW (cc := cB_copy) (maxL := 3) (ret := none) (by decide) rfl ?_
  intro p e s m args below meth c s₁ B hml hv
  obtain ⟨rfl, hsz, hP, hK, hD0, hN⟩ := hv
  have hx := B.exec
  have hb := B.bytes
  have hr := B.returns
  have hts := atoms_spec (ws := wB_copy) B.pre
  have hown : s.vm.findClass RB = some m.cls := findClass_of_methodNamed B.named
  have hlocks := B.notSynchronized
  subst hsz
  have hD := hD0.self (sz := s.heap.size)
  generalize hAe : va_A [(h0, .inr (3, [.ref h0d, .int (nI k)])), (h0d, .inl (bh0, 640, .inl f)), (h1, .inr (3, [.ref h1d, .int (nI k2)])), (h1d, .inl (bh1, 640, .inl f2))] s.heap.size = A at hD ⊢
  have hA : ∀ q : Nat, s.heap.size ≤ q → A q := fun q h => by rw [← hAe]; exact Or.inr h
  have hS : va_S A s.heap s.heap [] := va_S.rf
  have hP : va_P (dC, dI) vwCl [(h0, .inr (3, [.ref h0d, .int (nI k)])), (h0d, .inl (bh0, 640, .inl f)), (h1, .inr (3, [.ref h1d, .int (nI k2)])), (h1d, .inl (bh1, 640, .inl f2))] s.heap := hP
  have hl := lv_entry ([.ref h0, .ref h1]) (n := 3) (Nat.le_of_ble_eq_true rfl)
  rw [lg_entry_eq]
  generalize (lg_sl ([.ref h0, .ref h1]) ++ List.replicate (3 - (lg_sl ([.ref h0, .ref h1])).length) Slot.unset).toArray = ls at hl ⊢
  have hl : lv_has ls 3 [(0, .ref h0), (1, .ref h1)] := hl
  refine lv_aload_n hx hb dB_copy_0 rfl (lv_at hl 0 rfl) ?_
  refine lv_aload_n hx hb dB_copy_1 rfl (lv_at hl 1 rfl) ?_
  refine va_get (D := (dC, dI)) (ci := 3) (v := .int (nI k2)) (C := RB) (T := TB) (N := 2) hx hb hts (inC iB) hown hK hP 2 rfl rfl 1 (by decide) (hts _ (List.mem_cons_of_mem _ m2_79)) (fun _ h9 => h9) rfl dB_copy_2 ?_
  refine va_put (D := (dC, dI)) (ci := 3) (v := .int (nI k2)) (ty := .int) (C := RB) (T := TB) (N := 2) hx hb hts (inC iB) tyB tyB_ok nmB hown hK hP hD hS 0 rfl rfl 1 (by decide) (hts _ (List.mem_cons_of_mem _ m2_79)) (fun _ h9 => h9) rfl (by decide +kernel) rfl rfl (Nat.le_of_ble_eq_true rfl) dB_copy_5 (fun H locs hP hD hS => ?_)
  have hP : va_P (dC, dI) vwCl [(h0, .inr (3, [.ref h0d, .int (nI k2)])), (h0d, .inl (bh0, 640, .inl f)), (h1, .inr (3, [.ref h1d, .int (nI k2)])), (h1d, .inl (bh1, 640, .inl f2))] H := hP
  have hD : va_D A [(h0, .inr (3, [.ref h0d, .int (nI k2)])), (h0d, .inl (bh0, 640, .inl f)), (h1, .inr (3, [.ref h1d, .int (nI k2)])), (h1d, .inl (bh1, 640, .inl f2))] := hD
  refine lv_iconst (v := 0) hx hb dB_copy_8 (by decide) ?_
  refine lv_istore_n (lv' := [(2, .int (0 : Int32)), (0, .ref h0), (1, .ref h1)]) hx hb dB_copy_9 rfl hl (by decide) rfl (fun ls hl => ?_)
  have K_1 : ∀ (w_0 : Nat → Int32), w_0 = qB_copy_10 f2 k2 0 f → ∀ (H : Heap) (locs : List Loc), va_K (dC, dI) vwCl [(bh0, .int), (bh1, .int)] s → va_P (dC, dI) vwCl [(h0, .inr (3, [.ref h0d, .int (nI k2)])), (h0d, .inl (bh0, 640, .inl w_0)), (h1, .inr (3, [.ref h1d, .int (nI k2)])), (h1d, .inl (bh1, 640, .inl f2))] H → va_D A [(h0, .inr (3, [.ref h0d, .int (nI k2)])), (h0d, .inl (bh0, 640, .inl w_0)), (h1, .inr (3, [.ref h1d, .int (nI k2)])), (h1d, .inl (bh1, 640, .inl f2))] → va_S A s.heap H locs → ∀ (ls : Array Slot), lv_has ls 3 [] → WB_copy p l e s m below meth c dC dI h0 h0d h1 h1d bh0 bh1 f k f2 k2 A H locs (F0 m 36 ls []) := by
    intro w_0 hz
    have e_0 : w_0 = (v_B_copy_1 f k f2 k2) := hz
    rw [e_0]
    intro H locs hK hP hD hS ls hl
    have e9_0 : (v_B_copy_1 f k f2 k2) = pB_copy_0 f k f2 k2 := (rfl).symm
    have e9_1 : k2 = pB_copy_1 f k f2 k2 := (rfl).symm
    have hP9 := hP.sub (ws' := [(h0, .inr (3, [.ref h0d, .int (nI k2)])), (h0d, .inl (bh0, 640, .inl (v_B_copy_1 f k f2 k2))), (h1, .inr (3, [.ref h1d, .int (nI k2)])), (h1d, .inl (bh1, 640, .inl f2))]) [0, 1, 2, 3] rfl
    have hD9 := hD.sub (ws' := [(h0, .inr (3, [.ref h0d, .int (nI k2)])), (h0d, .inl (bh0, 640, .inl (v_B_copy_1 f k f2 k2))), (h1, .inr (3, [.ref h1d, .int (nI k2)])), (h1d, .inl (bh1, 640, .inl f2))]) [0, 1, 2, 3] (by decide) rfl
    have hK9 := hK.sub (tys' := [(bh0, .int), (bh1, .int)]) [0, 1] rfl
    have h9 := trB_copy e9_0 e9_1 ⟨hP9, hD9⟩
    exact W.vret hx hb hr (fun t ht hW => ⟨⟨(), rfl, trivial, by rw [ht]; exact h9.1, va_K.moved hW.alike hK9, h9.2⟩, hS.F ht⟩) hS.2.2 dB_copy_36
  have L_1 : ∀ (n1 j1 : Nat) (y1_0 : Nat → Int32), j1 + n1 = k2 → qB_copy_10 f2 n1 j1 y1_0 = qB_copy_10 f2 k2 0 f → ∀ (H : Heap) (locs : List Loc), va_K (dC, dI) vwCl [(bh0, .int), (bh1, .int)] s → va_P (dC, dI) vwCl [(h0, .inr (3, [.ref h0d, .int (nI k2)])), (h0d, .inl (bh0, 640, .inl y1_0)), (h1, .inr (3, [.ref h1d, .int (nI k2)])), (h1d, .inl (bh1, 640, .inl f2))] H → va_D A [(h0, .inr (3, [.ref h0d, .int (nI k2)])), (h0d, .inl (bh0, 640, .inl y1_0)), (h1, .inr (3, [.ref h1d, .int (nI k2)])), (h1d, .inl (bh1, 640, .inl f2))] → va_S A s.heap H locs → ∀ (ls : Array Slot), lv_has ls 3 [(0, .ref h0), (1, .ref h1), (2, .int (nI j1))] → WB_copy p l e s m below meth c dC dI h0 h0d h1 h1d bh0 bh1 f k f2 k2 A H locs (F0 m 10 ls []) := by
    intro n1
    induction n1 with
    | zero =>
      intro j1 y1_0 hj hq H locs hK hP hD hS ls hl
      refine lv_iload_n hx hb dB_copy_10 rfl (lv_at hl 2 rfl) ?_
      refine lv_aload_n hx hb dB_copy_11 rfl (lv_at hl 0 rfl) ?_
      refine va_get (D := (dC, dI)) (ci := 3) (v := .int (nI k2)) (C := RB) (T := TB) (N := 2) hx hb hts (inC iB) hown hK hP 0 rfl rfl 1 (by decide) (hts _ (List.mem_cons_of_mem _ m2_79)) (fun _ h9 => h9) rfl dB_copy_12 ?_
      refine lv_icmp_ge (tgt := 36) hx hb dB_copy_15 (by decide) (fun c_1 => ?_) (fun c_1 => ?_)
      rotate_left
      · exact absurd ((nI_leI (a := k2) (b := j1) (by omega) (by omega)).mpr (by omega)) c_1
      exact K_1 y1_0 (by exact hq) _ _ (hK.sub [0, 1] rfl) (hP.sub [0, 1, 2, 3] rfl) (hD.sub [0, 1, 2, 3] (by decide) rfl) hS ls (lv_sub hl [] rfl)
    | succ n1 ih =>
      intro j1 y1_0 hj hq H locs hK hP hD hS ls hl
      refine lv_iload_n hx hb dB_copy_10 rfl (lv_at hl 2 rfl) ?_
      refine lv_aload_n hx hb dB_copy_11 rfl (lv_at hl 0 rfl) ?_
      refine va_get (D := (dC, dI)) (ci := 3) (v := .int (nI k2)) (C := RB) (T := TB) (N := 2) hx hb hts (inC iB) hown hK hP 0 rfl rfl 1 (by decide) (hts _ (List.mem_cons_of_mem _ m2_79)) (fun _ h9 => h9) rfl dB_copy_12 ?_
      refine lv_icmp_ge (tgt := 36) hx hb dB_copy_15 (by decide) (fun c_2 => ?_) (fun c_2 => ?_)
      · exact absurd ((nI_leI (a := k2) (b := j1) (by omega) (by omega)).mp c_2) (by omega)
      refine lv_aload_n hx hb dB_copy_18 rfl (lv_at hl 0 rfl) ?_
      refine va_get (D := (dC, dI)) (ci := 3) (v := .ref h0d) (C := RB) (T := TB) (N := 2) hx hb hts (inC iB) hown hK hP 0 rfl rfl 0 (by decide) (hts _ (List.mem_cons_of_mem _ m2_78)) (fun _ h9 => h9) rfl dB_copy_19 ?_
      refine lv_iload_n hx hb dB_copy_22 rfl (lv_at hl 2 rfl) ?_
      refine lv_aload_n hx hb dB_copy_23 rfl (lv_at hl 1 rfl) ?_
      refine va_get (D := (dC, dI)) (ci := 3) (v := .ref h1d) (C := RB) (T := TB) (N := 2) hx hb hts (inC iB) hown hK hP 2 rfl rfl 0 (by decide) (hts _ (List.mem_cons_of_mem _ m2_78)) (fun _ h9 => h9) rfl dB_copy_24 ?_
      refine lv_iload_n hx hb dB_copy_27 rfl (lv_at hl 2 rfl) ?_
      refine va_iald hx hb hK hP 3 1 rfl rfl (i := (nI j1)) (vp_in_nI (n := j1) (by omega) (by omega)) dB_copy_28 ?_
      refine lv_topi (fun w9 e9 => ?_)
      have e9 : w9 = (v_B_copy_2 f2 j1 y1_0) := e9.trans (congrArg f2 (nI_clamp (n := j1) (by omega)))
      rw [e9]
      refine va_iast hx hb hK hP hD hS 1 0 rfl rfl (i := (nI j1)) (x := (v_B_copy_2 f2 j1 y1_0)) (vp_in_nI (n := j1) (by omega) (by omega)) dB_copy_29 (fun H locs hP hD hS => ?_)
      have hP : va_P (dC, dI) vwCl [(h0, .inr (3, [.ref h0d, .int (nI k2)])), (h0d, .inl (bh0, 640, .inl (upd y1_0 (nI j1).toNatClampNeg (v_B_copy_2 f2 j1 y1_0)))), (h1, .inr (3, [.ref h1d, .int (nI k2)])), (h1d, .inl (bh1, 640, .inl f2))] H := hP
      have hD : va_D A [(h0, .inr (3, [.ref h0d, .int (nI k2)])), (h0d, .inl (bh0, 640, .inl (upd y1_0 (nI j1).toNatClampNeg (v_B_copy_2 f2 j1 y1_0)))), (h1, .inr (3, [.ref h1d, .int (nI k2)])), (h1d, .inl (bh1, 640, .inl f2))] := hD
      have e9 : upd y1_0 (nI j1).toNatClampNeg (v_B_copy_2 f2 j1 y1_0) = (v_B_copy_3 f2 j1 y1_0) := congrArg (fun z => upd y1_0 z (v_B_copy_2 f2 j1 y1_0)) (nI_clamp (n := j1) (by omega))
      rw [e9] at hP hD
      have hP : va_P (dC, dI) vwCl [(h0, .inr (3, [.ref h0d, .int (nI k2)])), (h0d, .inl (bh0, 640, .inl (v_B_copy_3 f2 j1 y1_0))), (h1, .inr (3, [.ref h1d, .int (nI k2)])), (h1d, .inl (bh1, 640, .inl f2))] H := hP
      have hD : va_D A [(h0, .inr (3, [.ref h0d, .int (nI k2)])), (h0d, .inl (bh0, 640, .inl (v_B_copy_3 f2 j1 y1_0))), (h1, .inr (3, [.ref h1d, .int (nI k2)])), (h1d, .inl (bh1, 640, .inl f2))] := hD
      refine lv_iinc (v := (nI (j1 + 1))) (lv' := [(2, .int (nI (j1 + 1))), (0, .ref h0), (1, .ref h1)]) hx hb dB_copy_30 hl (k := 2) rfl (nI_1 _) (by decide) rfl (fun ls hl => ?_)
      refine lv_goto (tgt := 10) hx hb dB_copy_33 (by decide) ?_
      exact ih (j1 + 1) (v_B_copy_3 f2 j1 y1_0) (by omega) (by exact hq) _ _ (hK.sub [0, 1] rfl) (hP.sub [0, 1, 2, 3] rfl) (hD.sub [0, 1, 2, 3] (by decide) rfl) hS ls (lv_sub hl [1, 2, 0] rfl)
  exact L_1 k2 0 f (by omega) rfl _ _ (hK.sub [0, 1] rfl) (hP.sub [0, 1, 2, 3] rfl) (hD.sub [0, 1, 2, 3] (by decide) rfl) hS ls (lv_sub hl [1, 2, 0] rfl)
def v_B_bits_3 (k : Nat) (f : Nat → Int32) (j1 : Nat) : Int32 := f (k - 1)
def v_B_bits_4 (k : Nat) (f : Nat → Int32) (j1 : Nat) : Int32 := f (k - 1)
def qB_bits_2 (k : Nat) (f : Nat → Int32) : Nat → Nat → Nat
  | 0, j1 => (if (nI k) ≤ 0 then j1 else j1)
  | n1 + 1, j1 => (if (nI k) ≤ 0 then j1 else (if ((v_B_bits_4 k f j1) >>> ((nI j1) &&& 31)) = 0 then j1 else qB_bits_2 k f n1 (j1 + 1)))
def v_B_bits_1 (f : Nat → Int32) (k : Nat) : Nat := qB_bits_2 k f 16 0
def v_B_bits_2 (f : Nat → Int32) (k : Nat) : Nat := (if (nI k) = 0 then 0 else (16 * (k - 1)) + (v_B_bits_1 f k))
def pB_bits (f : Nat → Int32) (k : Nat) : Int32 := (nI (v_B_bits_2 f k))
/-- B_bits -/
abbrev atB_bits (dC : Nat → ClassId) (dI : Nat → Nat → Nat) (h0 h0d : Nat) (bh0 : ClassId) (f : Nat → Int32) (k : Nat) (A : Nat → Prop) (t : State) : Prop := va_P (dC, dI) vwCl [(h0, .inr (3, [.ref h0d, .int (nI k)])), (h0d, .inl (bh0, 640, .inl f))] t.heap ∧ va_K (dC, dI) vwCl [(bh0, .int)] t ∧ va_D A [(h0, .inr (3, [.ref h0d, .int (nI k)])), (h0d, .inl (bh0, 640, .inl f))]
abbrev WB_bits (p : Program) (l : Launch) (e : Env) (s : State) (m : MethodId) (below : List Frame) (meth : Method) (c : Code) (dC : Nat → ClassId) (dI : Nat → Nat → Nat) (h0 h0d : Nat) (bh0 : ClassId) (f : Nat → Int32) (k : Nat) (A : Nat → Prop) (H : Heap) (locs : List Loc) (g : JFrame) : Prop := W p l e (headSpec wB_bits ({ frames := 0, cells := 0, slots := 0, locals := 0 })).room s m ([.ref h0] : List Value).toArray below meth c H locs 0 0 (MQ below (va_Qi (fun (r : Int32) (_ : Unit) => r = pB_bits f k) (fun _ => atB_bits dC dI h0 h0d bh0 f k A) A) ([.ref h0] : List Value).toArray s 0 0 A) g
set_option maxHeartbeats 4000000 in
set_option maxRecDepth 100000 in
theorem kB_bits (l : Launch) (dC : Nat → ClassId) (dI : Nat → Nat → Nat) (h0 h0d : Nat) (bh0 : ClassId) (sz : Nat) (f : Nat → Int32) (k : Nat) (hk : k ≤ 640) (hd : ∀ i, i < k → dg (f i)) : Met l yB_bits wB_bits ({ frames := 0, cells := 0, slots := 0, locals := 0 }) (va_Pc [.ref h0] (fun U => U.heap.size = sz ∧ va_P (dC, dI) vwCl [(h0, .inr (3, [.ref h0d, .int (nI k)])), (h0d, .inl (bh0, 640, .inl f))] U.heap ∧ va_K (dC, dI) vwCl [(bh0, .int)] U ∧ va_D (fun _ => True) [(h0, .inr (3, [.ref h0d, .int (nI k)])), (h0d, .inl (bh0, 640, .inl f))] ∧ NW U)) (va_Qi (fun (r : Int32) (_ : Unit) => r = pB_bits f k) (fun _ => atB_bits dC dI h0 h0d bh0 f k (va_A [(h0, .inr (3, [.ref h0d, .int (nI k)])), (h0d, .inl (bh0, 640, .inl f))] sz)) (va_A [(h0, .inr (3, [.ref h0d, .int (nI k)])), (h0d, .inl (bh0, 640, .inl f))] sz)) 0 0 (va_A [(h0, .inr (3, [.ref h0d, .int (nI k)])), (h0d, .inl (bh0, 640, .inl f))] sz) := by
  refine Met.ofW (cc := cB_bits) (maxL := 2) (ret := (some .int)) (by decide) rfl ?_
  intro p e s m args below meth c s₁ B hml hv
  obtain ⟨rfl, hsz, hP, hK, hD0, hN⟩ := hv
  have hx := B.exec
  have hb := B.bytes
  have hr := B.returns
  have hts := atoms_spec (ws := wB_bits) B.pre
  have hown : s.vm.findClass RB = some m.cls := findClass_of_methodNamed B.named
  have hlocks := B.notSynchronized
  subst hsz
  have hD := hD0.self (sz := s.heap.size)
  generalize hAe : va_A [(h0, .inr (3, [.ref h0d, .int (nI k)])), (h0d, .inl (bh0, 640, .inl f))] s.heap.size = A at hD ⊢
  have hA : ∀ q : Nat, s.heap.size ≤ q → A q := fun q h => by rw [← hAe]; exact Or.inr h
  have hS : va_S A s.heap s.heap [] := va_S.rf
  have hP : va_P (dC, dI) vwCl [(h0, .inr (3, [.ref h0d, .int (nI k)])), (h0d, .inl (bh0, 640, .inl f))] s.heap := hP
  have hl := lv_entry ([.ref h0]) (n := 2) (Nat.le_of_ble_eq_true rfl)
  rw [lg_entry_eq]
  generalize (lg_sl ([.ref h0]) ++ List.replicate (2 - (lg_sl ([.ref h0])).length) Slot.unset).toArray = ls at hl ⊢
  have hl : lv_has ls 2 [(0, .ref h0)] := hl
  refine lv_iconst (v := 0) hx hb dB_bits_0 (by decide) ?_
  refine lv_istore_n (lv' := [(1, .int (0 : Int32)), (0, .ref h0)]) hx hb dB_bits_1 rfl hl (by decide) rfl (fun ls hl => ?_)
  have K_1 : ∀ (w_0 : Nat), w_0 = qB_bits_2 k f 16 0 → ∀ (H : Heap) (locs : List Loc), va_K (dC, dI) vwCl [(bh0, .int)] s → va_P (dC, dI) vwCl [(h0, .inr (3, [.ref h0d, .int (nI k)])), (h0d, .inl (bh0, 640, .inl f))] H → va_D A [(h0, .inr (3, [.ref h0d, .int (nI k)])), (h0d, .inl (bh0, 640, .inl f))] → va_S A s.heap H locs → ∀ (ls : Array Slot), lv_has ls 2 [(0, .ref h0), (1, .int (nI w_0))] → WB_bits p l e s m below meth c dC dI h0 h0d bh0 f k A H locs (F0 m 31 ls []) := by
    intro w_0 hz
    have e_0 : w_0 = (v_B_bits_1 f k) := hz
    rw [e_0]
    intro H locs hK hP hD hS ls hl
    refine lv_aload_n hx hb dB_bits_31 rfl (lv_at hl 0 rfl) ?_
    refine va_get (D := (dC, dI)) (ci := 3) (v := .int (nI k)) (C := RB) (T := TB) (N := 2) hx hb hts (inC iB) hown hK hP 0 rfl rfl 1 (by decide) (hts _ (List.mem_cons_of_mem _ m2_79)) (fun _ h9 => h9) rfl dB_bits_32 ?_
    have J_1 : ∀ (w_0 : Nat), w_0 = (v_B_bits_2 f k) → ∀ (H : Heap) (locs : List Loc), va_K (dC, dI) vwCl [(bh0, .int)] s → va_P (dC, dI) vwCl [(h0, .inr (3, [.ref h0d, .int (nI k)])), (h0d, .inl (bh0, 640, .inl f))] H → va_D A [(h0, .inr (3, [.ref h0d, .int (nI k)])), (h0d, .inl (bh0, 640, .inl f))] → va_S A s.heap H locs → ∀ (ls : Array Slot), lv_has ls 2 [] → WB_bits p l e s m below meth c dC dI h0 h0d bh0 f k A H locs (F0 m 53 ls [.int (nI w_0)]) := by
      intro w_0 e_0
      rw [e_0]
      intro H locs hK hP hD hS ls hl
      have e9 : (nI (v_B_bits_2 f k)) = pB_bits f k := (rfl).symm
      have hP9 := hP.sub (ws' := [(h0, .inr (3, [.ref h0d, .int (nI k)])), (h0d, .inl (bh0, 640, .inl f))]) [0, 1] rfl
      have hD9 := hD.sub (ws' := [(h0, .inr (3, [.ref h0d, .int (nI k)])), (h0d, .inl (bh0, 640, .inl f))]) [0, 1] (by decide) rfl
      have hK9 := hK.sub (tys' := [(bh0, .int)]) [0] rfl
      have h9 := And.intro hP9 hD9
      exact W.iret (v := (nI (v_B_bits_2 f k))) hx hb hr (fun t ht hW => ⟨⟨(nI (v_B_bits_2 f k)), (), rfl, e9, by rw [ht]; exact h9.1, va_K.moved hW.alike hK9, h9.2⟩, hS.F ht⟩) hS.2.2 dB_bits_53
    refine lv_if_ne (tgt := 42) hx hb dB_bits_35 (by decide) (fun c_1 => ?_) (fun c_1 => ?_)
    · have hk1 : 1 ≤ k := nI_pos1 c_1
      refine lv_bipush (v := 16) hx hb dB_bits_42 (by decide) ?_
      refine lv_aload_n hx hb dB_bits_44 rfl (lv_at hl 0 rfl) ?_
      refine va_get (D := (dC, dI)) (ci := 3) (v := .int (nI k)) (C := RB) (T := TB) (N := 2) hx hb hts (inC iB) hown hK hP 0 rfl rfl 1 (by decide) (hts _ (List.mem_cons_of_mem _ m2_79)) (fun _ h9 => h9) rfl dB_bits_45 ?_
      refine lv_iconst (v := 1) hx hb dB_bits_48 (by decide) ?_
      refine lv_isub hx hb dB_bits_49 ?_
      refine W.eq (g2 := F0 m 50 ls [.int (nI (k - 1)), .int (16 : Int32)]) (congrArg (fun z => F0 m 50 ls [.int z, .int (16 : Int32)]) (pk_sub (a := k) (b := 1) (by omega))) ?_
      refine lv_imul hx hb dB_bits_50 ?_
      refine W.eq (g2 := F0 m 51 ls [.int (nI (16 * (k - 1)))]) (congrArg (fun z => F0 m 51 ls [.int z]) (pk_mul 16 (k - 1))) ?_
      refine lv_iload_n hx hb dB_bits_51 rfl (lv_at hl 1 rfl) ?_
      refine lv_iadd hx hb dB_bits_52 ?_
      refine W.eq (g2 := F0 m 53 ls [.int (nI ((16 * (k - 1)) + (v_B_bits_1 f k)))]) (congrArg (fun z => F0 m 53 ls [.int z]) (nI_add (16 * (k - 1)) (v_B_bits_1 f k))) ?_
      exact J_1 ((16 * (k - 1)) + (v_B_bits_1 f k)) ((if_neg c_1)).symm _ _ (hK.sub [0] rfl) (hP.sub [0, 1] rfl) (hD.sub [0, 1] (by decide) rfl) hS ls (lv_sub hl [] rfl)
    · refine lv_iconst (v := 0) hx hb dB_bits_38 (by decide) ?_
      refine lv_goto (tgt := 53) hx hb dB_bits_39 (by decide) ?_
      exact J_1 0 ((if_pos c_1)).symm _ _ (hK.sub [0] rfl) (hP.sub [0, 1] rfl) (hD.sub [0, 1] (by decide) rfl) hS ls (lv_sub hl [] rfl)
  have L_1 : ∀ (n1 j1 : Nat), j1 + n1 = 16 → qB_bits_2 k f n1 j1 = qB_bits_2 k f 16 0 → ∀ (H : Heap) (locs : List Loc), va_K (dC, dI) vwCl [(bh0, .int)] s → va_P (dC, dI) vwCl [(h0, .inr (3, [.ref h0d, .int (nI k)])), (h0d, .inl (bh0, 640, .inl f))] H → va_D A [(h0, .inr (3, [.ref h0d, .int (nI k)])), (h0d, .inl (bh0, 640, .inl f))] → va_S A s.heap H locs → ∀ (ls : Array Slot), lv_has ls 2 [(0, .ref h0), (1, .int (nI j1))] → WB_bits p l e s m below meth c dC dI h0 h0d bh0 f k A H locs (F0 m 2 ls []) := by
    intro n1
    induction n1 with
    | zero =>
      intro j1  hj hq H locs hK hP hD hS ls hl
      refine lv_aload_n hx hb dB_bits_2 rfl (lv_at hl 0 rfl) ?_
      refine va_get (D := (dC, dI)) (ci := 3) (v := .int (nI k)) (C := RB) (T := TB) (N := 2) hx hb hts (inC iB) hown hK hP 0 rfl rfl 1 (by decide) (hts _ (List.mem_cons_of_mem _ m2_79)) (fun _ h9 => h9) rfl dB_bits_3 ?_
      refine lv_if_le (tgt := 31) hx hb dB_bits_6 (by decide) (fun c_2 => ?_) (fun c_2 => ?_)
      · exact K_1 j1 (by exact (Eq.trans ((if_pos c_2)).symm hq)) _ _ (hK.sub [0] rfl) (hP.sub [0, 1] rfl) (hD.sub [0, 1] (by decide) rfl) hS ls (lv_sub hl [0, 1] rfl)
      · have hk1 : 1 ≤ k := nI_pos2 c_2
        refine lv_aload_n hx hb dB_bits_9 rfl (lv_at hl 0 rfl) ?_
        refine va_get (D := (dC, dI)) (ci := 3) (v := .ref h0d) (C := RB) (T := TB) (N := 2) hx hb hts (inC iB) hown hK hP 0 rfl rfl 0 (by decide) (hts _ (List.mem_cons_of_mem _ m2_78)) (fun _ h9 => h9) rfl dB_bits_10 ?_
        refine lv_aload_n hx hb dB_bits_13 rfl (lv_at hl 0 rfl) ?_
        refine va_get (D := (dC, dI)) (ci := 3) (v := .int (nI k)) (C := RB) (T := TB) (N := 2) hx hb hts (inC iB) hown hK hP 0 rfl rfl 1 (by decide) (hts _ (List.mem_cons_of_mem _ m2_79)) (fun _ h9 => h9) rfl dB_bits_14 ?_
        refine lv_iconst (v := 1) hx hb dB_bits_17 (by decide) ?_
        refine lv_isub hx hb dB_bits_18 ?_
        refine W.eq (g2 := F0 m 19 ls [.int (nI (k - 1)), .ref h0d]) (congrArg (fun z => F0 m 19 ls [.int z, .ref h0d]) (pk_sub (a := k) (b := 1) (by omega))) ?_
        refine va_iald hx hb hK hP 1 0 rfl rfl (i := (nI (k - 1))) (vp_in_nI (n := k - 1) (by omega) (by omega)) dB_bits_19 ?_
        refine lv_topi (fun w9 e9 => ?_)
        have e9 : w9 = (v_B_bits_3 k f j1) := e9.trans (congrArg f (nI_clamp (n := k - 1) (by omega)))
        rw [e9]
        refine lv_iload_n hx hb dB_bits_20 rfl (lv_at hl 1 rfl) ?_
        refine lv_ishr hx hb dB_bits_21 ?_
        refine lv_if_eq (tgt := 31) hx hb dB_bits_22 (by decide) (fun c_3 => ?_) (fun c_3 => ?_)
        rotate_left
        · exact absurd (bits16 hj (hd _ (by omega))) c_3
        exact K_1 j1 (by exact (Eq.trans ((if_neg c_2)).symm hq)) _ _ (hK.sub [0] rfl) (hP.sub [0, 1] rfl) (hD.sub [0, 1] (by decide) rfl) hS ls (lv_sub hl [0, 1] rfl)
    | succ n1 ih =>
      intro j1  hj hq H locs hK hP hD hS ls hl
      refine lv_aload_n hx hb dB_bits_2 rfl (lv_at hl 0 rfl) ?_
      refine va_get (D := (dC, dI)) (ci := 3) (v := .int (nI k)) (C := RB) (T := TB) (N := 2) hx hb hts (inC iB) hown hK hP 0 rfl rfl 1 (by decide) (hts _ (List.mem_cons_of_mem _ m2_79)) (fun _ h9 => h9) rfl dB_bits_3 ?_
      refine lv_if_le (tgt := 31) hx hb dB_bits_6 (by decide) (fun c_4 => ?_) (fun c_4 => ?_)
      · exact K_1 j1 (by exact (Eq.trans ((if_pos c_4)).symm hq)) _ _ (hK.sub [0] rfl) (hP.sub [0, 1] rfl) (hD.sub [0, 1] (by decide) rfl) hS ls (lv_sub hl [0, 1] rfl)
      · have hk1 : 1 ≤ k := nI_pos2 c_4
        refine lv_aload_n hx hb dB_bits_9 rfl (lv_at hl 0 rfl) ?_
        refine va_get (D := (dC, dI)) (ci := 3) (v := .ref h0d) (C := RB) (T := TB) (N := 2) hx hb hts (inC iB) hown hK hP 0 rfl rfl 0 (by decide) (hts _ (List.mem_cons_of_mem _ m2_78)) (fun _ h9 => h9) rfl dB_bits_10 ?_
        refine lv_aload_n hx hb dB_bits_13 rfl (lv_at hl 0 rfl) ?_
        refine va_get (D := (dC, dI)) (ci := 3) (v := .int (nI k)) (C := RB) (T := TB) (N := 2) hx hb hts (inC iB) hown hK hP 0 rfl rfl 1 (by decide) (hts _ (List.mem_cons_of_mem _ m2_79)) (fun _ h9 => h9) rfl dB_bits_14 ?_
        refine lv_iconst (v := 1) hx hb dB_bits_17 (by decide) ?_
        refine lv_isub hx hb dB_bits_18 ?_
        refine W.eq (g2 := F0 m 19 ls [.int (nI (k - 1)), .ref h0d]) (congrArg (fun z => F0 m 19 ls [.int z, .ref h0d]) (pk_sub (a := k) (b := 1) (by omega))) ?_
        refine va_iald hx hb hK hP 1 0 rfl rfl (i := (nI (k - 1))) (vp_in_nI (n := k - 1) (by omega) (by omega)) dB_bits_19 ?_
        refine lv_topi (fun w9 e9 => ?_)
        have e9 : w9 = (v_B_bits_4 k f j1) := e9.trans (congrArg f (nI_clamp (n := k - 1) (by omega)))
        rw [e9]
        refine lv_iload_n hx hb dB_bits_20 rfl (lv_at hl 1 rfl) ?_
        refine lv_ishr hx hb dB_bits_21 ?_
        refine lv_if_eq (tgt := 31) hx hb dB_bits_22 (by decide) (fun c_5 => ?_) (fun c_5 => ?_)
        · exact K_1 j1 (by exact (Eq.trans (((if_neg c_4).trans (if_pos c_5))).symm hq)) _ _ (hK.sub [0] rfl) (hP.sub [0, 1] rfl) (hD.sub [0, 1] (by decide) rfl) hS ls (lv_sub hl [0, 1] rfl)
        · refine lv_iinc (v := (nI (j1 + 1))) (lv' := [(1, .int (nI (j1 + 1))), (0, .ref h0)]) hx hb dB_bits_25 hl (k := 1) rfl (nI_1 _) (by decide) rfl (fun ls hl => ?_)
          refine lv_goto (tgt := 2) hx hb dB_bits_28 (by decide) ?_
          exact ih (j1 + 1)  (by omega) (by exact (Eq.trans (((if_neg c_4).trans (if_neg c_5))).symm hq)) _ _ (hK.sub [0] rfl) (hP.sub [0, 1] rfl) (hD.sub [0, 1] (by decide) rfl) hS ls (lv_sub hl [1, 0] rfl)
  exact L_1 16 0  (by omega) rfl _ _ (hK.sub [0] rfl) (hP.sub [0, 1] rfl) (hD.sub [0, 1] (by decide) rfl) hS ls (lv_sub hl [1, 0] rfl)
def v_B_isOne_1 (f : Nat → Int32) (k : Nat) : Int32 := f 0
def v_B_isOne_2 (f : Nat → Int32) (k : Nat) : Bool := (if (nI k) = (1 : Int32) then (if (v_B_isOne_1 f k) = (1 : Int32) then true else false) else false)
def pB_isOne (f : Nat → Int32) (k : Nat) : Bool := (v_B_isOne_2 f k)
/-- B_isOne -/
abbrev atB_isOne (dC : Nat → ClassId) (dI : Nat → Nat → Nat) (h0 h0d : Nat) (bh0 : ClassId) (f : Nat → Int32) (k : Nat) (A : Nat → Prop) (t : State) : Prop := va_P (dC, dI) vwCl [(h0, .inr (3, [.ref h0d, .int (nI k)])), (h0d, .inl (bh0, 640, .inl f))] t.heap ∧ va_K (dC, dI) vwCl [(bh0, .int)] t ∧ va_D A [(h0, .inr (3, [.ref h0d, .int (nI k)])), (h0d, .inl (bh0, 640, .inl f))]
abbrev WB_isOne (p : Program) (l : Launch) (e : Env) (s : State) (m : MethodId) (below : List Frame) (meth : Method) (c : Code) (dC : Nat → ClassId) (dI : Nat → Nat → Nat) (h0 h0d : Nat) (bh0 : ClassId) (f : Nat → Int32) (k : Nat) (A : Nat → Prop) (H : Heap) (locs : List Loc) (g : JFrame) : Prop := W p l e (headSpec wB_isOne ({ frames := 0, cells := 0, slots := 0, locals := 0 })).room s m ([.ref h0] : List Value).toArray below meth c H locs 0 0 (MQ below (va_Qi (fun (r : Int32) (_ : Unit) => r = bI (pB_isOne f k)) (fun _ => atB_isOne dC dI h0 h0d bh0 f k A) A) ([.ref h0] : List Value).toArray s 0 0 A) g
set_option maxHeartbeats 4000000 in
set_option maxRecDepth 100000 in
theorem kB_isOne (l : Launch) (dC : Nat → ClassId) (dI : Nat → Nat → Nat) (h0 h0d : Nat) (bh0 : ClassId) (sz : Nat) (f : Nat → Int32) (k : Nat) : Met l yB_isOne wB_isOne ({ frames := 0, cells := 0, slots := 0, locals := 0 }) (va_Pc [.ref h0] (fun U => U.heap.size = sz ∧ va_P (dC, dI) vwCl [(h0, .inr (3, [.ref h0d, .int (nI k)])), (h0d, .inl (bh0, 640, .inl f))] U.heap ∧ va_K (dC, dI) vwCl [(bh0, .int)] U ∧ va_D (fun _ => True) [(h0, .inr (3, [.ref h0d, .int (nI k)])), (h0d, .inl (bh0, 640, .inl f))] ∧ NW U)) (va_Qi (fun (r : Int32) (_ : Unit) => r = bI (pB_isOne f k)) (fun _ => atB_isOne dC dI h0 h0d bh0 f k (va_A [(h0, .inr (3, [.ref h0d, .int (nI k)])), (h0d, .inl (bh0, 640, .inl f))] sz)) (va_A [(h0, .inr (3, [.ref h0d, .int (nI k)])), (h0d, .inl (bh0, 640, .inl f))] sz)) 0 0 (va_A [(h0, .inr (3, [.ref h0d, .int (nI k)])), (h0d, .inl (bh0, 640, .inl f))] sz) := by
  refine Met.ofW (cc := cB_isOne) (maxL := 1) (ret := (some .boolean)) (by decide) rfl ?_
  intro p e s m args below meth c s₁ B hml hv
  obtain ⟨rfl, hsz, hP, hK, hD0, hN⟩ := hv
  have hx := B.exec
  have hb := B.bytes
  have hr := B.returns
  have hts := atoms_spec (ws := wB_isOne) B.pre
  have hown : s.vm.findClass RB = some m.cls := findClass_of_methodNamed B.named
  have hlocks := B.notSynchronized
  subst hsz
  have hD := hD0.self (sz := s.heap.size)
  generalize hAe : va_A [(h0, .inr (3, [.ref h0d, .int (nI k)])), (h0d, .inl (bh0, 640, .inl f))] s.heap.size = A at hD ⊢
  have hA : ∀ q : Nat, s.heap.size ≤ q → A q := fun q h => by rw [← hAe]; exact Or.inr h
  have hS : va_S A s.heap s.heap [] := va_S.rf
  have hP : va_P (dC, dI) vwCl [(h0, .inr (3, [.ref h0d, .int (nI k)])), (h0d, .inl (bh0, 640, .inl f))] s.heap := hP
  have hl := lv_entry ([.ref h0]) (n := 1) (Nat.le_of_ble_eq_true rfl)
  rw [lg_entry_eq]
  generalize (lg_sl ([.ref h0]) ++ List.replicate (1 - (lg_sl ([.ref h0])).length) Slot.unset).toArray = ls at hl ⊢
  have hl : lv_has ls 1 [(0, .ref h0)] := hl
  refine lv_aload_n hx hb dB_isOne_0 rfl (lv_at hl 0 rfl) ?_
  refine va_get (D := (dC, dI)) (ci := 3) (v := .int (nI k)) (C := RB) (T := TB) (N := 2) hx hb hts (inC iB) hown hK hP 0 rfl rfl 1 (by decide) (hts _ (List.mem_cons_of_mem _ m2_79)) (fun _ h9 => h9) rfl dB_isOne_1 ?_
  refine lv_iconst (v := 1) hx hb dB_isOne_4 (by decide) ?_
  have J_1 : ∀ (w_0 : Bool), w_0 = (v_B_isOne_2 f k) → ∀ (H : Heap) (locs : List Loc), va_K (dC, dI) vwCl [(bh0, .int)] s → va_P (dC, dI) vwCl [(h0, .inr (3, [.ref h0d, .int (nI k)])), (h0d, .inl (bh0, 640, .inl f))] H → va_D A [(h0, .inr (3, [.ref h0d, .int (nI k)])), (h0d, .inl (bh0, 640, .inl f))] → va_S A s.heap H locs → ∀ (ls : Array Slot), lv_has ls 1 [] → WB_isOne p l e s m below meth c dC dI h0 h0d bh0 f k A H locs (F0 m 23 ls [.int (bI w_0)]) := by
    intro w_0 e_0
    rw [e_0]
    intro H locs hK hP hD hS ls hl
    have e9 : (v_B_isOne_2 f k) = pB_isOne f k := (rfl).symm
    have hP9 := hP.sub (ws' := [(h0, .inr (3, [.ref h0d, .int (nI k)])), (h0d, .inl (bh0, 640, .inl f))]) [0, 1] rfl
    have hD9 := hD.sub (ws' := [(h0, .inr (3, [.ref h0d, .int (nI k)])), (h0d, .inl (bh0, 640, .inl f))]) [0, 1] (by decide) rfl
    have hK9 := hK.sub (tys' := [(bh0, .int)]) [0] rfl
    have h9 := And.intro hP9 hD9
    exact W.zret (v := bI (v_B_isOne_2 f k)) hx hb hr (nb_z _) (fun t ht hW => ⟨⟨bI (v_B_isOne_2 f k), (), rfl, congrArg bI e9, by rw [ht]; exact h9.1, va_K.moved hW.alike hK9, h9.2⟩, hS.F ht⟩) hS.2.2 dB_isOne_23
  refine lv_icmp_ne (tgt := 22) hx hb dB_isOne_5 (by decide) (fun c_1 => ?_) (fun c_1 => ?_)
  · refine lv_iconst (v := 0) hx hb dB_isOne_22 (by decide) ?_
    exact J_1 false ((if_neg c_1)).symm _ _ (hK.sub [0] rfl) (hP.sub [0, 1] rfl) (hD.sub [0, 1] (by decide) rfl) hS ls (lv_sub hl [] rfl)
  · refine lv_aload_n hx hb dB_isOne_8 rfl (lv_at hl 0 rfl) ?_
    refine va_get (D := (dC, dI)) (ci := 3) (v := .ref h0d) (C := RB) (T := TB) (N := 2) hx hb hts (inC iB) hown hK hP 0 rfl rfl 0 (by decide) (hts _ (List.mem_cons_of_mem _ m2_78)) (fun _ h9 => h9) rfl dB_isOne_9 ?_
    refine lv_iconst (v := 0) hx hb dB_isOne_12 (by decide) ?_
    refine va_iald hx hb hK hP 1 0 rfl rfl (i := (0 : Int32)) (vp_in_nI (n := 0) (by omega) (by omega)) dB_isOne_13 ?_
    refine lv_topi (fun w9 e9 => ?_)
    have e9 : w9 = (v_B_isOne_1 f k) := e9.trans (congrArg f (nI_clamp (n := 0) (by omega)))
    rw [e9]
    refine lv_iconst (v := 1) hx hb dB_isOne_14 (by decide) ?_
    refine lv_icmp_ne (tgt := 22) hx hb dB_isOne_15 (by decide) (fun c_2 => ?_) (fun c_2 => ?_)
    · refine lv_iconst (v := 0) hx hb dB_isOne_22 (by decide) ?_
      exact J_1 false (((if_pos c_1).trans (if_neg c_2))).symm _ _ (hK.sub [0] rfl) (hP.sub [0, 1] rfl) (hD.sub [0, 1] (by decide) rfl) hS ls (lv_sub hl [] rfl)
    · refine lv_iconst (v := 1) hx hb dB_isOne_18 (by decide) ?_
      refine lv_goto (tgt := 23) hx hb dB_isOne_19 (by decide) ?_
      exact J_1 true (((if_pos c_1).trans (if_pos c_2))).symm _ _ (hK.sub [0] rfl) (hP.sub [0, 1] rfl) (hD.sub [0, 1] (by decide) rfl) hS ls (lv_sub hl [] rfl)
def v_B_grow_6 (n2 : Nat) (y2_0 : Int64) (y2_1 : Nat → Int32) (y2_2 : Nat) : Int32 := (y2_0 &&& (65535 : Int64)).toInt32
def v_B_grow_7 (n2 : Nat) (y2_0 : Int64) (y2_1 : Nat → Int32) (y2_2 : Nat) : Nat → Int32 := upd y2_1 y2_2 (v_B_grow_6 n2 y2_0 y2_1 y2_2)
def v_B_grow_8 (n2 : Nat) (y2_0 : Int64) (y2_1 : Nat → Int32) (y2_2 : Nat) : Int64 := jlshr y2_0 (16 : Int32)
def v_B_grow_9 (ti : Int32) (j1 : Nat) (y1_0 : Int64) (y1_1 : Nat → Int32) : Int32 := y1_1 j1
def v_B_grow_10 (ti : Int32) (j1 : Nat) (y1_0 : Int64) (y1_1 : Nat → Int32) : Int64 := ((v_B_grow_9 ti j1 y1_0 y1_1).toInt64 * ti.toInt64) + y1_0
def v_B_grow_11 (ti : Int32) (j1 : Nat) (y1_0 : Int64) (y1_1 : Nat → Int32) : Int32 := ((v_B_grow_10 ti j1 y1_0 y1_1) &&& (65535 : Int64)).toInt32
def v_B_grow_12 (ti : Int32) (j1 : Nat) (y1_0 : Int64) (y1_1 : Nat → Int32) : Nat → Int32 := upd y1_1 j1 (v_B_grow_11 ti j1 y1_0 y1_1)
def v_B_grow_13 (ti : Int32) (j1 : Nat) (y1_0 : Int64) (y1_1 : Nat → Int32) : Int64 := jlshr (v_B_grow_10 ti j1 y1_0 y1_1) (16 : Int32)
def qB_grow_56 : Nat → Int64 → (Nat → Int32) → Nat → Int64 × (Nat → Int32) × Nat
  | 0, y2_0, y2_1, y2_2 => (y2_0, y2_1, y2_2)
  | n2 + 1, y2_0, y2_1, y2_2 => (if y2_0 ≤ (0 : Int64) then (y2_0, y2_1, y2_2) else qB_grow_56 n2 (v_B_grow_8 n2 y2_0 y2_1 y2_2) (v_B_grow_7 n2 y2_0 y2_1 y2_2) (y2_2 + 1))
def qB_grow_6 (ti : Int32) : Nat → Nat → Int64 → (Nat → Int32) → Int64 × (Nat → Int32)
  | 0, j1, y1_0, y1_1 => (y1_0, y1_1)
  | n1 + 1, j1, y1_0, y1_1 => qB_grow_6 ti n1 (j1 + 1) (v_B_grow_13 ti j1 y1_0 y1_1) (v_B_grow_12 ti j1 y1_0 y1_1)
def v_B_grow_1 (f : Nat → Int32) (k : Nat) (ti : Int32) (mo : Int32) : Int64 := (qB_grow_6 ti k 0 mo.toInt64 f).1
def v_B_grow_2 (f : Nat → Int32) (k : Nat) (ti : Int32) (mo : Int32) : Nat → Int32 := (qB_grow_6 ti k 0 mo.toInt64 f).2
def v_B_grow_3 (f : Nat → Int32) (k : Nat) (ti : Int32) (mo : Int32) : Int64 := (qB_grow_56 4 (v_B_grow_1 f k ti mo) (v_B_grow_2 f k ti mo) k).1
def v_B_grow_4 (f : Nat → Int32) (k : Nat) (ti : Int32) (mo : Int32) : Nat → Int32 := (qB_grow_56 4 (v_B_grow_1 f k ti mo) (v_B_grow_2 f k ti mo) k).2.1
def v_B_grow_5 (f : Nat → Int32) (k : Nat) (ti : Int32) (mo : Int32) : Nat := (qB_grow_56 4 (v_B_grow_1 f k ti mo) (v_B_grow_2 f k ti mo) k).2.2
def pB_grow_0 (f : Nat → Int32) (k : Nat) (ti : Int32) (mo : Int32) : Nat → Int32 := (v_B_grow_4 f k ti mo)
def pB_grow_1 (f : Nat → Int32) (k : Nat) (ti : Int32) (mo : Int32) : Nat := (v_B_grow_5 f k ti mo)
/-- B_grow -/
abbrev atB_grow (dC : Nat → ClassId) (dI : Nat → Nat → Nat) (h0 h0d : Nat) (bh0 : ClassId) (f : Nat → Int32) (k : Nat) (ti : Int32) (mo : Int32) (A : Nat → Prop) (t : State) : Prop := va_P (dC, dI) vwCl [(h0, .inr (3, [.ref h0d, .int (nI (pB_grow_1 f k ti mo))])), (h0d, .inl (bh0, 640, .inl (pB_grow_0 f k ti mo)))] t.heap ∧ va_K (dC, dI) vwCl [(bh0, .int)] t ∧ va_D A [(h0, .inr (3, [.ref h0d, .int (nI (pB_grow_1 f k ti mo))])), (h0d, .inl (bh0, 640, .inl (pB_grow_0 f k ti mo)))]
theorem trB_grow {dC : Nat → ClassId} {dI : Nat → Nat → Nat} {h0 h0d : Nat} {bh0 : ClassId} {A : Nat → Prop} {H : Heap} {a0 b0 : Nat → Int32} {a1 b1 : Nat} (e0 : a0 = b0) (e1 : a1 = b1) (h : va_P (dC, dI) vwCl [(h0, .inr (3, [.ref h0d, .int (nI a1)])), (h0d, .inl (bh0, 640, .inl a0))] H ∧ va_D A [(h0, .inr (3, [.ref h0d, .int (nI a1)])), (h0d, .inl (bh0, 640, .inl a0))]) : va_P (dC, dI) vwCl [(h0, .inr (3, [.ref h0d, .int (nI b1)])), (h0d, .inl (bh0, 640, .inl b0))] H ∧ va_D A [(h0, .inr (3, [.ref h0d, .int (nI b1)])), (h0d, .inl (bh0, 640, .inl b0))] := by
  subst e0
  subst e1
  exact h
abbrev WB_grow (p : Program) (l : Launch) (e : Env) (s : State) (m : MethodId) (below : List Frame) (meth : Method) (c : Code) (dC : Nat → ClassId) (dI : Nat → Nat → Nat) (h0 h0d : Nat) (bh0 : ClassId) (f : Nat → Int32) (k : Nat) (ti : Int32) (mo : Int32) (A : Nat → Prop) (H : Heap) (locs : List Loc) (g : JFrame) : Prop := W p l e (headSpec wB_grow ({ frames := 0, cells := 0, slots := 0, locals := 0 })).room s m ([.ref h0, .int ti, .int mo] : List Value).toArray below meth c H locs 0 0 (MQ below (va_Qv (fun (_ : Unit) => True) (fun _ => atB_grow dC dI h0 h0d bh0 f k ti mo A) A) ([.ref h0, .int ti, .int mo] : List Value).toArray s 0 0 A) g
set_option maxHeartbeats 4000000 in
set_option maxRecDepth 100000 in
theorem kB_grow (l : Launch) (dC : Nat → ClassId) (dI : Nat → Nat → Nat) (h0 h0d : Nat) (bh0 : ClassId) (sz : Nat) (f : Nat → Int32) (k : Nat) (ti : Int32) (mo : Int32) (hk : k + 4 ≤ 640) : Met l yB_grow wB_grow ({ frames := 0, cells := 0, slots := 0, locals := 0 }) (va_Pc [.ref h0, .int ti, .int mo] (fun U => U.heap.size = sz ∧ va_P (dC, dI) vwCl [(h0, .inr (3, [.ref h0d, .int (nI k)])), (h0d, .inl (bh0, 640, .inl f))] U.heap ∧ va_K (dC, dI) vwCl [(bh0, .int)] U ∧ va_D (fun _ => True) [(h0, .inr (3, [.ref h0d, .int (nI k)])), (h0d, .inl (bh0, 640, .inl f))] ∧ NW U)) (va_Qv (fun (_ : Unit) => True) (fun _ => atB_grow dC dI h0 h0d bh0 f k ti mo (va_A [(h0, .inr (3, [.ref h0d, .int (nI k)])), (h0d, .inl (bh0, 640, .inl f))] sz)) (va_A [(h0, .inr (3, [.ref h0d, .int (nI k)])), (h0d, .inl (bh0, 640, .inl f))] sz)) 0 0 (va_A [(h0, .inr (3, [.ref h0d, .int (nI k)])), (h0d, .inl (bh0, 640, .inl f))] sz) := by
  refine Met.ofW (cc := cB_grow) (maxL := 8) (ret := none) (by decide) rfl ?_
  intro p e s m args below meth c s₁ B hml hv
  obtain ⟨rfl, hsz, hP, hK, hD0, hN⟩ := hv
  have hx := B.exec
  have hb := B.bytes
  have hr := B.returns
  have hts := atoms_spec (ws := wB_grow) B.pre
  have hown : s.vm.findClass RB = some m.cls := findClass_of_methodNamed B.named
  have hlocks := B.notSynchronized
  subst hsz
  have hD := hD0.self (sz := s.heap.size)
  generalize hAe : va_A [(h0, .inr (3, [.ref h0d, .int (nI k)])), (h0d, .inl (bh0, 640, .inl f))] s.heap.size = A at hD ⊢
  have hA : ∀ q : Nat, s.heap.size ≤ q → A q := fun q h => by rw [← hAe]; exact Or.inr h
  have hS : va_S A s.heap s.heap [] := va_S.rf
  have hP : va_P (dC, dI) vwCl [(h0, .inr (3, [.ref h0d, .int (nI k)])), (h0d, .inl (bh0, 640, .inl f))] s.heap := hP
  have hl := lv_entry ([.ref h0, .int ti, .int mo]) (n := 8) (Nat.le_of_ble_eq_true rfl)
  rw [lg_entry_eq]
  generalize (lg_sl ([.ref h0, .int ti, .int mo]) ++ List.replicate (8 - (lg_sl ([.ref h0, .int ti, .int mo])).length) Slot.unset).toArray = ls at hl ⊢
  have hl : lv_has ls 8 [(0, .ref h0), (1, .int ti), (2, .int mo)] := hl
  refine lv_iload_n hx hb dB_grow_0 rfl (lv_at hl 2 rfl) ?_
  refine lv_i2l (v := mo.toInt64) hx hb dB_grow_1 rfl ?_
  refine lv_lstore_n (lv' := [(3, .long mo.toInt64), (0, .ref h0), (1, .int ti), (2, .int mo)]) hx hb dB_grow_2 rfl hl (by decide) rfl (fun ls hl => ?_)
  refine lv_iconst (v := 0) hx hb dB_grow_3 (by decide) ?_
  refine lv_istore (lv' := [(5, .int (0 : Int32)), (3, .long mo.toInt64), (0, .ref h0), (1, .int ti), (2, .int mo)]) hx hb dB_grow_4 hl (by decide) rfl (fun ls hl => ?_)
  have K_1 : ∀ (w_0 : Int64) (w_1 : Nat → Int32), (w_0, w_1) = qB_grow_6 ti k 0 mo.toInt64 f → ∀ (H : Heap) (locs : List Loc), va_K (dC, dI) vwCl [(bh0, .int)] s → va_P (dC, dI) vwCl [(h0, .inr (3, [.ref h0d, .int (nI k)])), (h0d, .inl (bh0, 640, .inl w_1))] H → va_D A [(h0, .inr (3, [.ref h0d, .int (nI k)])), (h0d, .inl (bh0, 640, .inl w_1))] → va_S A s.heap H locs → ∀ (ls : Array Slot), lv_has ls 8 [(0, .ref h0), (3, .long w_0)] → WB_grow p l e s m below meth c dC dI h0 h0d bh0 f k ti mo A H locs (F0 m 56 ls []) := by
    intro w_0 w_1 hz
    have e_0 : w_0 = (v_B_grow_1 f k ti mo) := (congrArg (fun q => q.1) hz)
    have e_1 : w_1 = (v_B_grow_2 f k ti mo) := (congrArg (fun q => q.2) hz)
    rw [e_0, e_1]
    intro H locs hK hP hD hS ls hl
    have K_2 : ∀ (w_0 : Int64) (w_1 : Nat → Int32) (w_2 : Nat), (w_0, w_1, w_2) = qB_grow_56 4 (v_B_grow_1 f k ti mo) (v_B_grow_2 f k ti mo) k → ∀ (H : Heap) (locs : List Loc), va_K (dC, dI) vwCl [(bh0, .int)] s → va_P (dC, dI) vwCl [(h0, .inr (3, [.ref h0d, .int (nI w_2)])), (h0d, .inl (bh0, 640, .inl w_1))] H → va_D A [(h0, .inr (3, [.ref h0d, .int (nI w_2)])), (h0d, .inl (bh0, 640, .inl w_1))] → va_S A s.heap H locs → ∀ (ls : Array Slot), lv_has ls 8 [] → WB_grow p l e s m below meth c dC dI h0 h0d bh0 f k ti mo A H locs (F0 m 95 ls []) := by
      intro w_0 w_1 w_2 hz
      have e_0 : w_0 = (v_B_grow_3 f k ti mo) := (congrArg (fun q => q.1) hz)
      have e_1 : w_1 = (v_B_grow_4 f k ti mo) := (congrArg (fun q => q.2.1) hz)
      have e_2 : w_2 = (v_B_grow_5 f k ti mo) := (congrArg (fun q => q.2.2) hz)
      rw [e_1, e_2]
      intro H locs hK hP hD hS ls hl
      have e9_0 : (v_B_grow_4 f k ti mo) = pB_grow_0 f k ti mo := (rfl).symm
      have e9_1 : (v_B_grow_5 f k ti mo) = pB_grow_1 f k ti mo := (rfl).symm
      have hP9 := hP.sub (ws' := [(h0, .inr (3, [.ref h0d, .int (nI (v_B_grow_5 f k ti mo))])), (h0d, .inl (bh0, 640, .inl (v_B_grow_4 f k ti mo)))]) [0, 1] rfl
      have hD9 := hD.sub (ws' := [(h0, .inr (3, [.ref h0d, .int (nI (v_B_grow_5 f k ti mo))])), (h0d, .inl (bh0, 640, .inl (v_B_grow_4 f k ti mo)))]) [0, 1] (by decide) rfl
      have hK9 := hK.sub (tys' := [(bh0, .int)]) [0] rfl
      have h9 := trB_grow e9_0 e9_1 ⟨hP9, hD9⟩
      exact W.vret hx hb hr (fun t ht hW => ⟨⟨(), rfl, trivial, by rw [ht]; exact h9.1, va_K.moved hW.alike hK9, h9.2⟩, hS.F ht⟩) hS.2.2 dB_grow_95
    have L_2 : ∀ (n2 : Nat) (y2_0 : Int64) (y2_1 : Nat → Int32) (y2_2 : Nat), n2 ≤ 4 → ilt y2_0 n2 → y2_2 + n2 ≤ 640 → qB_grow_56 n2 y2_0 y2_1 y2_2 = qB_grow_56 4 (v_B_grow_1 f k ti mo) (v_B_grow_2 f k ti mo) k → ∀ (H : Heap) (locs : List Loc), va_K (dC, dI) vwCl [(bh0, .int)] s → va_P (dC, dI) vwCl [(h0, .inr (3, [.ref h0d, .int (nI y2_2)])), (h0d, .inl (bh0, 640, .inl y2_1))] H → va_D A [(h0, .inr (3, [.ref h0d, .int (nI y2_2)])), (h0d, .inl (bh0, 640, .inl y2_1))] → va_S A s.heap H locs → ∀ (ls : Array Slot), lv_has ls 8 [(0, .ref h0), (3, .long y2_0)] → WB_grow p l e s m below meth c dC dI h0 h0d bh0 f k ti mo A H locs (F0 m 56 ls []) := by
      intro n2
      induction n2 with
      | zero =>
        intro y2_0 y2_1 y2_2 hj hw hc hq H locs hK hP hD hS ls hl
        refine lv_lload_n hx hb dB_grow_56 rfl (lv_at hl 1 rfl) ?_
        refine lv_lconst (v := 0) hx hb dB_grow_57 (by decide) ?_
        refine W.lcmp hx hb dB_grow_58 ?_
        refine lv_if_le (tgt := 95) hx hb dB_grow_59 (by decide) (fun c_1 => ?_) (fun c_1 => ?_)
        rotate_left
        · exact absurd ((lg_cmp_le _ _).mpr (ilt_0 hw)) c_1
        exact K_2 y2_0 y2_1 y2_2 (by exact hq) _ _ (hK.sub [0] rfl) (hP.sub [0, 1] rfl) (hD.sub [0, 1] (by decide) rfl) hS ls (lv_sub hl [] rfl)
      | succ n2 ih =>
        intro y2_0 y2_1 y2_2 hj hw hc hq H locs hK hP hD hS ls hl
        refine lv_lload_n hx hb dB_grow_56 rfl (lv_at hl 1 rfl) ?_
        refine lv_lconst (v := 0) hx hb dB_grow_57 (by decide) ?_
        refine W.lcmp hx hb dB_grow_58 ?_
        refine lv_if_le (tgt := 95) hx hb dB_grow_59 (by decide) (fun c_2 => ?_) (fun c_2 => ?_)
        · have c_2 : y2_0 ≤ (0 : Int64) := (lg_cmp_le _ _).mp c_2
          exact K_2 y2_0 y2_1 y2_2 (by exact (Eq.trans ((if_pos c_2)).symm hq)) _ _ (hK.sub [0] rfl) (hP.sub [0, 1] rfl) (hD.sub [0, 1] (by decide) rfl) hS ls (lv_sub hl [] rfl)
        · have c_2 : ¬ (y2_0 ≤ (0 : Int64)) := fun h => c_2 ((lg_cmp_le _ _).mpr h)
          refine lv_aload_n hx hb dB_grow_62 rfl (lv_at hl 0 rfl) ?_
          refine va_get (D := (dC, dI)) (ci := 3) (v := .ref h0d) (C := RB) (T := TB) (N := 2) hx hb hts (inC iB) hown hK hP 0 rfl rfl 0 (by decide) (hts _ (List.mem_cons_of_mem _ m2_78)) (fun _ h9 => h9) rfl dB_grow_63 ?_
          refine lv_aload_n hx hb dB_grow_66 rfl (lv_at hl 0 rfl) ?_
          refine va_get (D := (dC, dI)) (ci := 3) (v := .int (nI y2_2)) (C := RB) (T := TB) (N := 2) hx hb hts (inC iB) hown hK hP 0 rfl rfl 1 (by decide) (hts _ (List.mem_cons_of_mem _ m2_79)) (fun _ h9 => h9) rfl dB_grow_67 ?_
          refine lv_lload_n hx hb dB_grow_70 rfl (lv_at hl 1 rfl) ?_
          refine lv_ldc2 (v := 65535) hx hb hown (hts _ (List.mem_cons_of_mem _ m2_163)) dB_grow_71 ?_
          refine lv_land hx hb dB_grow_74 ?_
          refine lv_l2i (v := (y2_0 &&& (65535 : Int64)).toInt32) hx hb dB_grow_75 rfl ?_
          refine lv_topi (fun w9 e9 => ?_)
          have e9 : w9 = (v_B_grow_6 n2 y2_0 y2_1 y2_2) := e9
          rw [e9]
          refine va_iast hx hb hK hP hD hS 1 0 rfl rfl (i := (nI y2_2)) (x := (v_B_grow_6 n2 y2_0 y2_1 y2_2)) (vp_in_nI (n := y2_2) (by omega) (by omega)) dB_grow_76 (fun H locs hP hD hS => ?_)
          have hP : va_P (dC, dI) vwCl [(h0, .inr (3, [.ref h0d, .int (nI y2_2)])), (h0d, .inl (bh0, 640, .inl (upd y2_1 (nI y2_2).toNatClampNeg (v_B_grow_6 n2 y2_0 y2_1 y2_2))))] H := hP
          have hD : va_D A [(h0, .inr (3, [.ref h0d, .int (nI y2_2)])), (h0d, .inl (bh0, 640, .inl (upd y2_1 (nI y2_2).toNatClampNeg (v_B_grow_6 n2 y2_0 y2_1 y2_2))))] := hD
          have e9 : upd y2_1 (nI y2_2).toNatClampNeg (v_B_grow_6 n2 y2_0 y2_1 y2_2) = (v_B_grow_7 n2 y2_0 y2_1 y2_2) := congrArg (fun z => upd y2_1 z (v_B_grow_6 n2 y2_0 y2_1 y2_2)) (nI_clamp (n := y2_2) (by omega))
          rw [e9] at hP hD
          have hP : va_P (dC, dI) vwCl [(h0, .inr (3, [.ref h0d, .int (nI y2_2)])), (h0d, .inl (bh0, 640, .inl (v_B_grow_7 n2 y2_0 y2_1 y2_2)))] H := hP
          have hD : va_D A [(h0, .inr (3, [.ref h0d, .int (nI y2_2)])), (h0d, .inl (bh0, 640, .inl (v_B_grow_7 n2 y2_0 y2_1 y2_2)))] := hD
          refine lv_aload_n hx hb dB_grow_77 rfl (lv_at hl 0 rfl) ?_
          refine lv_dup hx hb dB_grow_78 rfl ?_
          refine va_get (D := (dC, dI)) (ci := 3) (v := .int (nI y2_2)) (C := RB) (T := TB) (N := 2) hx hb hts (inC iB) hown hK hP 0 rfl rfl 1 (by decide) (hts _ (List.mem_cons_of_mem _ m2_79)) (fun _ h9 => h9) rfl dB_grow_79 ?_
          refine lv_iconst (v := 1) hx hb dB_grow_82 (by decide) ?_
          refine lv_iadd hx hb dB_grow_83 ?_
          refine W.eq (g2 := F0 m 84 ls [.int (nI (y2_2 + 1)), .ref h0]) (congrArg (fun z => F0 m 84 ls [.int z, .ref h0]) (nI_add y2_2 1)) ?_
          refine va_put (D := (dC, dI)) (ci := 3) (v := .int (nI (y2_2 + 1))) (ty := .int) (C := RB) (T := TB) (N := 2) hx hb hts (inC iB) tyB tyB_ok nmB hown hK hP hD hS 0 rfl rfl 1 (by decide) (hts _ (List.mem_cons_of_mem _ m2_79)) (fun _ h9 => h9) rfl (by decide +kernel) rfl rfl (Nat.le_of_ble_eq_true rfl) dB_grow_84 (fun H locs hP hD hS => ?_)
          have hP : va_P (dC, dI) vwCl [(h0, .inr (3, [.ref h0d, .int (nI (y2_2 + 1))])), (h0d, .inl (bh0, 640, .inl (v_B_grow_7 n2 y2_0 y2_1 y2_2)))] H := hP
          have hD : va_D A [(h0, .inr (3, [.ref h0d, .int (nI (y2_2 + 1))])), (h0d, .inl (bh0, 640, .inl (v_B_grow_7 n2 y2_0 y2_1 y2_2)))] := hD
          refine lv_lload_n hx hb dB_grow_87 rfl (lv_at hl 1 rfl) ?_
          refine lv_bipush (v := 16) hx hb dB_grow_88 (by decide) ?_
          refine lv_lshr (v := jlshr y2_0 (16 : Int32)) hx hb dB_grow_90 rfl ?_
          refine lv_topl (fun w9 e9 => ?_)
          have e9 : w9 = (v_B_grow_8 n2 y2_0 y2_1 y2_2) := e9
          rw [e9]
          refine lv_lstore_n (lv' := [(3, .long (v_B_grow_8 n2 y2_0 y2_1 y2_2)), (0, .ref h0)]) hx hb dB_grow_91 rfl hl (by decide) rfl (fun ls hl => ?_)
          refine lv_goto (tgt := 56) hx hb dB_grow_92 (by decide) ?_
          exact ih (v_B_grow_8 n2 y2_0 y2_1 y2_2) (v_B_grow_7 n2 y2_0 y2_1 y2_2) (y2_2 + 1) (by omega) (ilt_s hw) (by omega) (by exact (Eq.trans ((if_neg c_2)).symm hq)) _ _ (hK.sub [0] rfl) (hP.sub [0, 1] rfl) (hD.sub [0, 1] (by decide) rfl) hS ls (lv_sub hl [1, 0] rfl)
    exact L_2 4 (v_B_grow_1 f k ti mo) (v_B_grow_2 f k ti mo) k (by omega) (ilt_4 _) (by omega) rfl _ _ (hK.sub [0] rfl) (hP.sub [0, 1] rfl) (hD.sub [0, 1] (by decide) rfl) hS ls (lv_sub hl [0, 1] rfl)
  have L_1 : ∀ (n1 j1 : Nat) (y1_0 : Int64) (y1_1 : Nat → Int32), j1 + n1 = k → qB_grow_6 ti n1 j1 y1_0 y1_1 = qB_grow_6 ti k 0 mo.toInt64 f → ∀ (H : Heap) (locs : List Loc), va_K (dC, dI) vwCl [(bh0, .int)] s → va_P (dC, dI) vwCl [(h0, .inr (3, [.ref h0d, .int (nI k)])), (h0d, .inl (bh0, 640, .inl y1_1))] H → va_D A [(h0, .inr (3, [.ref h0d, .int (nI k)])), (h0d, .inl (bh0, 640, .inl y1_1))] → va_S A s.heap H locs → ∀ (ls : Array Slot), lv_has ls 8 [(0, .ref h0), (1, .int ti), (3, .long y1_0), (5, .int (nI j1))] → WB_grow p l e s m below meth c dC dI h0 h0d bh0 f k ti mo A H locs (F0 m 6 ls []) := by
    intro n1
    induction n1 with
    | zero =>
      intro j1 y1_0 y1_1 hj hq H locs hK hP hD hS ls hl
      refine lv_iload hx hb dB_grow_6 (lv_at hl 3 rfl) ?_
      refine lv_aload_n hx hb dB_grow_8 rfl (lv_at hl 0 rfl) ?_
      refine va_get (D := (dC, dI)) (ci := 3) (v := .int (nI k)) (C := RB) (T := TB) (N := 2) hx hb hts (inC iB) hown hK hP 0 rfl rfl 1 (by decide) (hts _ (List.mem_cons_of_mem _ m2_79)) (fun _ h9 => h9) rfl dB_grow_9 ?_
      refine lv_icmp_ge (tgt := 56) hx hb dB_grow_12 (by decide) (fun c_3 => ?_) (fun c_3 => ?_)
      rotate_left
      · exact absurd ((nI_leI (a := k) (b := j1) (by omega) (by omega)).mpr (by omega)) c_3
      exact K_1 y1_0 y1_1 (by exact hq) _ _ (hK.sub [0] rfl) (hP.sub [0, 1] rfl) (hD.sub [0, 1] (by decide) rfl) hS ls (lv_sub hl [0, 2] rfl)
    | succ n1 ih =>
      intro j1 y1_0 y1_1 hj hq H locs hK hP hD hS ls hl
      refine lv_iload hx hb dB_grow_6 (lv_at hl 3 rfl) ?_
      refine lv_aload_n hx hb dB_grow_8 rfl (lv_at hl 0 rfl) ?_
      refine va_get (D := (dC, dI)) (ci := 3) (v := .int (nI k)) (C := RB) (T := TB) (N := 2) hx hb hts (inC iB) hown hK hP 0 rfl rfl 1 (by decide) (hts _ (List.mem_cons_of_mem _ m2_79)) (fun _ h9 => h9) rfl dB_grow_9 ?_
      refine lv_icmp_ge (tgt := 56) hx hb dB_grow_12 (by decide) (fun c_4 => ?_) (fun c_4 => ?_)
      · exact absurd ((nI_leI (a := k) (b := j1) (by omega) (by omega)).mp c_4) (by omega)
      refine lv_aload_n hx hb dB_grow_15 rfl (lv_at hl 0 rfl) ?_
      refine va_get (D := (dC, dI)) (ci := 3) (v := .ref h0d) (C := RB) (T := TB) (N := 2) hx hb hts (inC iB) hown hK hP 0 rfl rfl 0 (by decide) (hts _ (List.mem_cons_of_mem _ m2_78)) (fun _ h9 => h9) rfl dB_grow_16 ?_
      refine lv_iload hx hb dB_grow_19 (lv_at hl 3 rfl) ?_
      refine va_iald hx hb hK hP 1 0 rfl rfl (i := (nI j1)) (vp_in_nI (n := j1) (by omega) (by omega)) dB_grow_21 ?_
      refine lv_topi (fun w9 e9 => ?_)
      have e9 : w9 = (v_B_grow_9 ti j1 y1_0 y1_1) := e9.trans (congrArg y1_1 (nI_clamp (n := j1) (by omega)))
      rw [e9]
      refine lv_i2l (v := (v_B_grow_9 ti j1 y1_0 y1_1).toInt64) hx hb dB_grow_22 rfl ?_
      refine lv_iload_n hx hb dB_grow_23 rfl (lv_at hl 1 rfl) ?_
      refine lv_i2l (v := ti.toInt64) hx hb dB_grow_24 rfl ?_
      refine lv_lmul hx hb dB_grow_25 ?_
      refine lv_lload_n hx hb dB_grow_26 rfl (lv_at hl 2 rfl) ?_
      refine lv_ladd hx hb dB_grow_27 ?_
      refine lv_topl (fun w9 e9 => ?_)
      have e9 : w9 = (v_B_grow_10 ti j1 y1_0 y1_1) := e9
      rw [e9]
      refine lv_lstore (lv' := [(6, .long (v_B_grow_10 ti j1 y1_0 y1_1)), (0, .ref h0), (1, .int ti), (3, .long y1_0), (5, .int (nI j1))]) hx hb dB_grow_28 hl (by decide) rfl (fun ls hl => ?_)
      refine lv_aload_n hx hb dB_grow_30 rfl (lv_at hl 1 rfl) ?_
      refine va_get (D := (dC, dI)) (ci := 3) (v := .ref h0d) (C := RB) (T := TB) (N := 2) hx hb hts (inC iB) hown hK hP 0 rfl rfl 0 (by decide) (hts _ (List.mem_cons_of_mem _ m2_78)) (fun _ h9 => h9) rfl dB_grow_31 ?_
      refine lv_iload hx hb dB_grow_34 (lv_at hl 4 rfl) ?_
      refine lv_lload hx hb dB_grow_36 (lv_at hl 0 rfl) ?_
      refine lv_ldc2 (v := 65535) hx hb hown (hts _ (List.mem_cons_of_mem _ m2_163)) dB_grow_38 ?_
      refine lv_land hx hb dB_grow_41 ?_
      refine lv_l2i (v := ((v_B_grow_10 ti j1 y1_0 y1_1) &&& (65535 : Int64)).toInt32) hx hb dB_grow_42 rfl ?_
      refine lv_topi (fun w9 e9 => ?_)
      have e9 : w9 = (v_B_grow_11 ti j1 y1_0 y1_1) := e9
      rw [e9]
      refine va_iast hx hb hK hP hD hS 1 0 rfl rfl (i := (nI j1)) (x := (v_B_grow_11 ti j1 y1_0 y1_1)) (vp_in_nI (n := j1) (by omega) (by omega)) dB_grow_43 (fun H locs hP hD hS => ?_)
      have hP : va_P (dC, dI) vwCl [(h0, .inr (3, [.ref h0d, .int (nI k)])), (h0d, .inl (bh0, 640, .inl (upd y1_1 (nI j1).toNatClampNeg (v_B_grow_11 ti j1 y1_0 y1_1))))] H := hP
      have hD : va_D A [(h0, .inr (3, [.ref h0d, .int (nI k)])), (h0d, .inl (bh0, 640, .inl (upd y1_1 (nI j1).toNatClampNeg (v_B_grow_11 ti j1 y1_0 y1_1))))] := hD
      have e9 : upd y1_1 (nI j1).toNatClampNeg (v_B_grow_11 ti j1 y1_0 y1_1) = (v_B_grow_12 ti j1 y1_0 y1_1) := congrArg (fun z => upd y1_1 z (v_B_grow_11 ti j1 y1_0 y1_1)) (nI_clamp (n := j1) (by omega))
      rw [e9] at hP hD
      have hP : va_P (dC, dI) vwCl [(h0, .inr (3, [.ref h0d, .int (nI k)])), (h0d, .inl (bh0, 640, .inl (v_B_grow_12 ti j1 y1_0 y1_1)))] H := hP
      have hD : va_D A [(h0, .inr (3, [.ref h0d, .int (nI k)])), (h0d, .inl (bh0, 640, .inl (v_B_grow_12 ti j1 y1_0 y1_1)))] := hD
      refine lv_lload hx hb dB_grow_44 (lv_at hl 0 rfl) ?_
      refine lv_bipush (v := 16) hx hb dB_grow_46 (by decide) ?_
      refine lv_lshr (v := jlshr (v_B_grow_10 ti j1 y1_0 y1_1) (16 : Int32)) hx hb dB_grow_48 rfl ?_
      refine lv_topl (fun w9 e9 => ?_)
      have e9 : w9 = (v_B_grow_13 ti j1 y1_0 y1_1) := e9
      rw [e9]
      refine lv_lstore_n (lv' := [(3, .long (v_B_grow_13 ti j1 y1_0 y1_1)), (6, .long (v_B_grow_10 ti j1 y1_0 y1_1)), (0, .ref h0), (1, .int ti), (5, .int (nI j1))]) hx hb dB_grow_49 rfl hl (by decide) rfl (fun ls hl => ?_)
      refine lv_iinc (v := (nI (j1 + 1))) (lv' := [(5, .int (nI (j1 + 1))), (3, .long (v_B_grow_13 ti j1 y1_0 y1_1)), (6, .long (v_B_grow_10 ti j1 y1_0 y1_1)), (0, .ref h0), (1, .int ti)]) hx hb dB_grow_50 hl (k := 4) rfl (nI_1 _) (by decide) rfl (fun ls hl => ?_)
      refine lv_goto (tgt := 6) hx hb dB_grow_53 (by decide) ?_
      exact ih (j1 + 1) (v_B_grow_13 ti j1 y1_0 y1_1) (v_B_grow_12 ti j1 y1_0 y1_1) (by omega) (by exact hq) _ _ (hK.sub [0] rfl) (hP.sub [0, 1] rfl) (hD.sub [0, 1] (by decide) rfl) hS ls (lv_sub hl [3, 4, 1, 0] rfl)
  exact L_1 k 0 mo.toInt64 f (by omega) rfl _ _ (hK.sub [0] rfl) (hP.sub [0, 1] rfl) (hD.sub [0, 1] (by decide) rfl) hS ls (lv_sub hl [2, 3, 1, 0] rfl)
def v_B_trim_2 (f : Nat → Int32) (n1 : Nat) : Int32 := f n1
def qB_trim_0 (f : Nat → Int32) : Nat → Nat
  | 0 => 0
  | n1 + 1 => (if (v_B_trim_2 f n1) = 0 then qB_trim_0 f n1 else n1 + 1)
def v_B_trim_1 (f : Nat → Int32) (k : Nat) : Nat := qB_trim_0 f k
def pB_trim_0 (f : Nat → Int32) (k : Nat) : Nat := (v_B_trim_1 f k)
/-- B_trim -/
abbrev atB_trim (dC : Nat → ClassId) (dI : Nat → Nat → Nat) (h0 h0d : Nat) (bh0 : ClassId) (f : Nat → Int32) (k : Nat) (A : Nat → Prop) (t : State) : Prop := va_P (dC, dI) vwCl [(h0, .inr (3, [.ref h0d, .int (nI (pB_trim_0 f k))])), (h0d, .inl (bh0, 640, .inl f))] t.heap ∧ va_K (dC, dI) vwCl [(bh0, .int)] t ∧ va_D A [(h0, .inr (3, [.ref h0d, .int (nI (pB_trim_0 f k))])), (h0d, .inl (bh0, 640, .inl f))]
theorem trB_trim {dC : Nat → ClassId} {dI : Nat → Nat → Nat} {h0 h0d : Nat} {bh0 : ClassId} {f : Nat → Int32} {A : Nat → Prop} {H : Heap} {a0 b0 : Nat} (e0 : a0 = b0) (h : va_P (dC, dI) vwCl [(h0, .inr (3, [.ref h0d, .int (nI a0)])), (h0d, .inl (bh0, 640, .inl f))] H ∧ va_D A [(h0, .inr (3, [.ref h0d, .int (nI a0)])), (h0d, .inl (bh0, 640, .inl f))]) : va_P (dC, dI) vwCl [(h0, .inr (3, [.ref h0d, .int (nI b0)])), (h0d, .inl (bh0, 640, .inl f))] H ∧ va_D A [(h0, .inr (3, [.ref h0d, .int (nI b0)])), (h0d, .inl (bh0, 640, .inl f))] := by
  subst e0
  exact h
abbrev WB_trim (p : Program) (l : Launch) (e : Env) (s : State) (m : MethodId) (below : List Frame) (meth : Method) (c : Code) (dC : Nat → ClassId) (dI : Nat → Nat → Nat) (h0 h0d : Nat) (bh0 : ClassId) (f : Nat → Int32) (k : Nat) (A : Nat → Prop) (H : Heap) (locs : List Loc) (g : JFrame) : Prop := W p l e (headSpec wB_trim ({ frames := 0, cells := 0, slots := 0, locals := 0 })).room s m ([.ref h0] : List Value).toArray below meth c H locs 0 0 (MQ below (va_Qv (fun (_ : Unit) => True) (fun _ => atB_trim dC dI h0 h0d bh0 f k A) A) ([.ref h0] : List Value).toArray s 0 0 A) g
set_option maxHeartbeats 4000000 in
set_option maxRecDepth 100000 in
theorem kB_trim (l : Launch) (dC : Nat → ClassId) (dI : Nat → Nat → Nat) (h0 h0d : Nat) (bh0 : ClassId) (sz : Nat) (f : Nat → Int32) (k : Nat) (hk : k ≤ 640) : Met l yB_trim wB_trim ({ frames := 0, cells := 0, slots := 0, locals := 0 }) (va_Pc [.ref h0] (fun U => U.heap.size = sz ∧ va_P (dC, dI) vwCl [(h0, .inr (3, [.ref h0d, .int (nI k)])), (h0d, .inl (bh0, 640, .inl f))] U.heap ∧ va_K (dC, dI) vwCl [(bh0, .int)] U ∧ va_D (fun _ => True) [(h0, .inr (3, [.ref h0d, .int (nI k)])), (h0d, .inl (bh0, 640, .inl f))] ∧ NW U)) (va_Qv (fun (_ : Unit) => True) (fun _ => atB_trim dC dI h0 h0d bh0 f k (va_A [(h0, .inr (3, [.ref h0d, .int (nI k)])), (h0d, .inl (bh0, 640, .inl f))] sz)) (va_A [(h0, .inr (3, [.ref h0d, .int (nI k)])), (h0d, .inl (bh0, 640, .inl f))] sz)) 0 0 (va_A [(h0, .inr (3, [.ref h0d, .int (nI k)])), (h0d, .inl (bh0, 640, .inl f))] sz) := by
  refine Met.ofW (cc := cB_trim) (maxL := 1) (ret := none) (by decide) rfl ?_
  intro p e s m args below meth c s₁ B hml hv
  obtain ⟨rfl, hsz, hP, hK, hD0, hN⟩ := hv
  have hx := B.exec
  have hb := B.bytes
  have hr := B.returns
  have hts := atoms_spec (ws := wB_trim) B.pre
  have hown : s.vm.findClass RB = some m.cls := findClass_of_methodNamed B.named
  have hlocks := B.notSynchronized
  subst hsz
  have hD := hD0.self (sz := s.heap.size)
  generalize hAe : va_A [(h0, .inr (3, [.ref h0d, .int (nI k)])), (h0d, .inl (bh0, 640, .inl f))] s.heap.size = A at hD ⊢
  have hA : ∀ q : Nat, s.heap.size ≤ q → A q := fun q h => by rw [← hAe]; exact Or.inr h
  have hS : va_S A s.heap s.heap [] := va_S.rf
  have hP : va_P (dC, dI) vwCl [(h0, .inr (3, [.ref h0d, .int (nI k)])), (h0d, .inl (bh0, 640, .inl f))] s.heap := hP
  have hl := lv_entry ([.ref h0]) (n := 1) (Nat.le_of_ble_eq_true rfl)
  rw [lg_entry_eq]
  generalize (lg_sl ([.ref h0]) ++ List.replicate (1 - (lg_sl ([.ref h0])).length) Slot.unset).toArray = ls at hl ⊢
  have hl : lv_has ls 1 [(0, .ref h0)] := hl
  have K_1 : ∀ (w_0 : Nat), w_0 = qB_trim_0 f k → ∀ (H : Heap) (locs : List Loc), va_K (dC, dI) vwCl [(bh0, .int)] s → va_P (dC, dI) vwCl [(h0, .inr (3, [.ref h0d, .int (nI w_0)])), (h0d, .inl (bh0, 640, .inl f))] H → va_D A [(h0, .inr (3, [.ref h0d, .int (nI w_0)])), (h0d, .inl (bh0, 640, .inl f))] → va_S A s.heap H locs → ∀ (ls : Array Slot), lv_has ls 1 [] → WB_trim p l e s m below meth c dC dI h0 h0d bh0 f k A H locs (F0 m 34 ls []) := by
    intro w_0 hz
    have e_0 : w_0 = (v_B_trim_1 f k) := hz
    rw [e_0]
    intro H locs hK hP hD hS ls hl
    have e9_0 : (v_B_trim_1 f k) = pB_trim_0 f k := (rfl).symm
    have hP9 := hP.sub (ws' := [(h0, .inr (3, [.ref h0d, .int (nI (v_B_trim_1 f k))])), (h0d, .inl (bh0, 640, .inl f))]) [0, 1] rfl
    have hD9 := hD.sub (ws' := [(h0, .inr (3, [.ref h0d, .int (nI (v_B_trim_1 f k))])), (h0d, .inl (bh0, 640, .inl f))]) [0, 1] (by decide) rfl
    have hK9 := hK.sub (tys' := [(bh0, .int)]) [0] rfl
    have h9 := trB_trim e9_0 ⟨hP9, hD9⟩
    exact W.vret hx hb hr (fun t ht hW => ⟨⟨(), rfl, trivial, by rw [ht]; exact h9.1, va_K.moved hW.alike hK9, h9.2⟩, hS.F ht⟩) hS.2.2 dB_trim_34
  have L_1 : ∀ (n1 : Nat), n1 ≤ 640 → qB_trim_0 f n1 = qB_trim_0 f k → ∀ (H : Heap) (locs : List Loc), va_K (dC, dI) vwCl [(bh0, .int)] s → va_P (dC, dI) vwCl [(h0, .inr (3, [.ref h0d, .int (nI n1)])), (h0d, .inl (bh0, 640, .inl f))] H → va_D A [(h0, .inr (3, [.ref h0d, .int (nI n1)])), (h0d, .inl (bh0, 640, .inl f))] → va_S A s.heap H locs → ∀ (ls : Array Slot), lv_has ls 1 [(0, .ref h0)] → WB_trim p l e s m below meth c dC dI h0 h0d bh0 f k A H locs (F0 m 0 ls []) := by
    intro n1
    induction n1 with
    | zero =>
      intro  hj hq H locs hK hP hD hS ls hl
      refine lv_aload_n hx hb dB_trim_0 rfl (lv_at hl 0 rfl) ?_
      refine va_get (D := (dC, dI)) (ci := 3) (v := .int (nI 0)) (C := RB) (T := TB) (N := 2) hx hb hts (inC iB) hown hK hP 0 rfl rfl 1 (by decide) (hts _ (List.mem_cons_of_mem _ m2_79)) (fun _ h9 => h9) rfl dB_trim_1 ?_
      refine lv_if_le (tgt := 34) hx hb dB_trim_4 (by decide) (fun c_1 => ?_) (fun c_1 => ?_)
      rotate_left
      · exact absurd ((nI_leI (a := 0) (b := 0) (by omega) (by omega)).mpr (by omega)) c_1
      exact K_1 0 (by exact hq) _ _ (hK.sub [0] rfl) (hP.sub [0, 1] rfl) (hD.sub [0, 1] (by decide) rfl) hS ls (lv_sub hl [] rfl)
    | succ n1 ih =>
      intro  hj hq H locs hK hP hD hS ls hl
      refine lv_aload_n hx hb dB_trim_0 rfl (lv_at hl 0 rfl) ?_
      refine va_get (D := (dC, dI)) (ci := 3) (v := .int (nI (n1 + 1))) (C := RB) (T := TB) (N := 2) hx hb hts (inC iB) hown hK hP 0 rfl rfl 1 (by decide) (hts _ (List.mem_cons_of_mem _ m2_79)) (fun _ h9 => h9) rfl dB_trim_1 ?_
      refine lv_if_le (tgt := 34) hx hb dB_trim_4 (by decide) (fun c_2 => ?_) (fun c_2 => ?_)
      · exact absurd ((nI_leI (a := n1 + 1) (b := 0) (by omega) (by omega)).mp c_2) (by omega)
      refine lv_aload_n hx hb dB_trim_7 rfl (lv_at hl 0 rfl) ?_
      refine va_get (D := (dC, dI)) (ci := 3) (v := .ref h0d) (C := RB) (T := TB) (N := 2) hx hb hts (inC iB) hown hK hP 0 rfl rfl 0 (by decide) (hts _ (List.mem_cons_of_mem _ m2_78)) (fun _ h9 => h9) rfl dB_trim_8 ?_
      refine lv_aload_n hx hb dB_trim_11 rfl (lv_at hl 0 rfl) ?_
      refine va_get (D := (dC, dI)) (ci := 3) (v := .int (nI (n1 + 1))) (C := RB) (T := TB) (N := 2) hx hb hts (inC iB) hown hK hP 0 rfl rfl 1 (by decide) (hts _ (List.mem_cons_of_mem _ m2_79)) (fun _ h9 => h9) rfl dB_trim_12 ?_
      refine lv_iconst (v := 1) hx hb dB_trim_15 (by decide) ?_
      refine lv_isub hx hb dB_trim_16 ?_
      refine W.eq (g2 := F0 m 17 ls [.int (nI n1), .ref h0d]) (congrArg (fun z => F0 m 17 ls [.int z, .ref h0d]) (nI_pred n1)) ?_
      refine va_iald hx hb hK hP 1 0 rfl rfl (i := (nI n1)) (vp_in_nI (n := n1) (by omega) (by omega)) dB_trim_17 ?_
      refine lv_topi (fun w9 e9 => ?_)
      have e9 : w9 = (v_B_trim_2 f n1) := e9.trans (congrArg f (nI_clamp (n := n1) (by omega)))
      rw [e9]
      refine lv_if_ne (tgt := 34) hx hb dB_trim_18 (by decide) (fun c_3 => ?_) (fun c_3 => ?_)
      · exact K_1 (n1 + 1) (by exact (Eq.trans ((if_neg c_3)).symm hq)) _ _ (hK.sub [0] rfl) (hP.sub [0, 1] rfl) (hD.sub [0, 1] (by decide) rfl) hS ls (lv_sub hl [] rfl)
      · refine lv_aload_n hx hb dB_trim_21 rfl (lv_at hl 0 rfl) ?_
        refine lv_dup hx hb dB_trim_22 rfl ?_
        refine va_get (D := (dC, dI)) (ci := 3) (v := .int (nI (n1 + 1))) (C := RB) (T := TB) (N := 2) hx hb hts (inC iB) hown hK hP 0 rfl rfl 1 (by decide) (hts _ (List.mem_cons_of_mem _ m2_79)) (fun _ h9 => h9) rfl dB_trim_23 ?_
        refine lv_iconst (v := 1) hx hb dB_trim_26 (by decide) ?_
        refine lv_isub hx hb dB_trim_27 ?_
        refine W.eq (g2 := F0 m 28 ls [.int (nI n1), .ref h0]) (congrArg (fun z => F0 m 28 ls [.int z, .ref h0]) (nI_pred n1)) ?_
        refine va_put (D := (dC, dI)) (ci := 3) (v := .int (nI n1)) (ty := .int) (C := RB) (T := TB) (N := 2) hx hb hts (inC iB) tyB tyB_ok nmB hown hK hP hD hS 0 rfl rfl 1 (by decide) (hts _ (List.mem_cons_of_mem _ m2_79)) (fun _ h9 => h9) rfl (by decide +kernel) rfl rfl (Nat.le_of_ble_eq_true rfl) dB_trim_28 (fun H locs hP hD hS => ?_)
        have hP : va_P (dC, dI) vwCl [(h0, .inr (3, [.ref h0d, .int (nI n1)])), (h0d, .inl (bh0, 640, .inl f))] H := hP
        have hD : va_D A [(h0, .inr (3, [.ref h0d, .int (nI n1)])), (h0d, .inl (bh0, 640, .inl f))] := hD
        refine lv_goto (tgt := 0) hx hb dB_trim_31 (by decide) ?_
        exact ih  (by omega) (by exact (Eq.trans ((if_pos c_3)).symm hq)) _ _ (hK.sub [0] rfl) (hP.sub [0, 1] rfl) (hD.sub [0, 1] (by decide) rfl) hS ls (lv_sub hl [0] rfl)
  exact L_1 k  (by omega) rfl _ _ (hK.sub [0] rfl) (hP.sub [0, 1] rfl) (hD.sub [0, 1] (by decide) rfl) hS ls (lv_sub hl [0] rfl)
def v_B_compare_1 (f : Nat → Int32) (f2 : Nat → Int32) (n1 : Nat) : Int32 := f n1
def v_B_compare_2 (f : Nat → Int32) (f2 : Nat → Int32) (n1 : Nat) : Int32 := f2 n1
def v_B_compare_3 (f : Nat → Int32) (f2 : Nat → Int32) (n1 : Nat) : Int32 := f n1
def v_B_compare_4 (f : Nat → Int32) (f2 : Nat → Int32) (n1 : Nat) : Int32 := f2 n1
def v_B_compare_5 (f : Nat → Int32) (f2 : Nat → Int32) (n1 : Nat) : Int32 := (if (v_B_compare_4 f f2 n1) ≤ (v_B_compare_3 f f2 n1) then (1 : Int32) else (-1 : Int32))
def v_B_compare_6 (f : Nat → Int32) (k : Nat) (f2 : Nat → Int32) (k2 : Nat) : Int32 := (if (nI k2) ≤ (nI k) then (1 : Int32) else (-1 : Int32))
def qB_compare_35 (f : Nat → Int32) (f2 : Nat → Int32) : Nat → Int32
  | 0 => (0 : Int32)
  | n1 + 1 => (if (v_B_compare_1 f f2 n1) = (v_B_compare_2 f f2 n1) then qB_compare_35 f f2 n1 else (v_B_compare_5 f f2 n1))
def pB_compare (f : Nat → Int32) (k : Nat) (f2 : Nat → Int32) (k2 : Nat) : Int32 := (if (nI k) = (nI k2) then qB_compare_35 f f2 k else (v_B_compare_6 f k f2 k2))
/-- B_compare -/
abbrev atB_compare (dC : Nat → ClassId) (dI : Nat → Nat → Nat) (h0 h0d h1 h1d : Nat) (bh0 bh1 : ClassId) (f : Nat → Int32) (k : Nat) (f2 : Nat → Int32) (k2 : Nat) (A : Nat → Prop) (t : State) : Prop := va_P (dC, dI) vwCl [(h0, .inr (3, [.ref h0d, .int (nI k)])), (h0d, .inl (bh0, 640, .inl f)), (h1, .inr (3, [.ref h1d, .int (nI k2)])), (h1d, .inl (bh1, 640, .inl f2))] t.heap ∧ va_K (dC, dI) vwCl [(bh0, .int), (bh1, .int)] t ∧ va_D A [(h0, .inr (3, [.ref h0d, .int (nI k)])), (h0d, .inl (bh0, 640, .inl f)), (h1, .inr (3, [.ref h1d, .int (nI k2)])), (h1d, .inl (bh1, 640, .inl f2))]
abbrev WB_compare (p : Program) (l : Launch) (e : Env) (s : State) (m : MethodId) (below : List Frame) (meth : Method) (c : Code) (dC : Nat → ClassId) (dI : Nat → Nat → Nat) (h0 h0d h1 h1d : Nat) (bh0 bh1 : ClassId) (f : Nat → Int32) (k : Nat) (f2 : Nat → Int32) (k2 : Nat) (A : Nat → Prop) (H : Heap) (locs : List Loc) (g : JFrame) : Prop := W p l e (headSpec wB_compare ({ frames := 0, cells := 0, slots := 0, locals := 0 })).room s m ([.ref h0, .ref h1] : List Value).toArray below meth c H locs 0 0 (MQ below (va_Qi (fun (r : Int32) (_ : Unit) => r = pB_compare f k f2 k2) (fun _ => atB_compare dC dI h0 h0d h1 h1d bh0 bh1 f k f2 k2 A) A) ([.ref h0, .ref h1] : List Value).toArray s 0 0 A) g
set_option maxHeartbeats 4000000 in
set_option maxRecDepth 100000 in
theorem kB_compare (l : Launch) (dC : Nat → ClassId) (dI : Nat → Nat → Nat) (h0 h0d h1 h1d : Nat) (bh0 bh1 : ClassId) (sz : Nat) (f : Nat → Int32) (k : Nat) (f2 : Nat → Int32) (k2 : Nat) (hk : k ≤ 640) (hk2 : k2 ≤ 640) : Met l yB_compare wB_compare ({ frames := 0, cells := 0, slots := 0, locals := 0 }) (va_Pc [.ref h0, .ref h1] (fun U => U.heap.size = sz ∧ va_P (dC, dI) vwCl [(h0, .inr (3, [.ref h0d, .int (nI k)])), (h0d, .inl (bh0, 640, .inl f)), (h1, .inr (3, [.ref h1d, .int (nI k2)])), (h1d, .inl (bh1, 640, .inl f2))] U.heap ∧ va_K (dC, dI) vwCl [(bh0, .int), (bh1, .int)] U ∧ va_D (fun _ => True) [(h0, .inr (3, [.ref h0d, .int (nI k)])), (h0d, .inl (bh0, 640, .inl f)), (h1, .inr (3, [.ref h1d, .int (nI k2)])), (h1d, .inl (bh1, 640, .inl f2))] ∧ NW U)) (va_Qi (fun (r : Int32) (_ : Unit) => r = pB_compare f k f2 k2) (fun _ => atB_compare dC dI h0 h0d h1 h1d bh0 bh1 f k f2 k2 (va_A [(h0, .inr (3, [.ref h0d, .int (nI k)])), (h0d, .inl (bh0, 640, .inl f)), (h1, .inr (3, [.ref h1d, .int (nI k2)])), (h1d, .inl (bh1, 640, .inl f2))] sz)) (va_A [(h0, .inr (3, [.ref h0d, .int (nI k)])), (h0d, .inl (bh0, 640, .inl f)), (h1, .inr (3, [.ref h1d, .int (nI k2)])), (h1d, .inl (bh1, 640, .inl f2))] sz)) 0 0 (va_A [(h0, .inr (3, [.ref h0d, .int (nI k)])), (h0d, .inl (bh0, 640, .inl f)), (h1, .inr (3, [.ref h1d, .int (nI k2)])), (h1d, .inl (bh1, 640, .inl f2))] sz) := by
  refine Met.ofW (cc := cB_compare) (maxL := 3) (ret := (some .int)) (by decide) rfl ?_
  intro p e s m args below meth c s₁ B hml hv
  obtain ⟨rfl, hsz, hP, hK, hD0, hN⟩ := hv
  have hx := B.exec
  have hb := B.bytes
  have hr := B.returns
  have hts := atoms_spec (ws := wB_compare) B.pre
  have hown : s.vm.findClass RB = some m.cls := findClass_of_methodNamed B.named
  have hlocks := B.notSynchronized
  subst hsz
  have hD := hD0.self (sz := s.heap.size)
  generalize hAe : va_A [(h0, .inr (3, [.ref h0d, .int (nI k)])), (h0d, .inl (bh0, 640, .inl f)), (h1, .inr (3, [.ref h1d, .int (nI k2)])), (h1d, .inl (bh1, 640, .inl f2))] s.heap.size = A at hD ⊢
  have hA : ∀ q : Nat, s.heap.size ≤ q → A q := fun q h => by rw [← hAe]; exact Or.inr h
  have hS : va_S A s.heap s.heap [] := va_S.rf
  have hP : va_P (dC, dI) vwCl [(h0, .inr (3, [.ref h0d, .int (nI k)])), (h0d, .inl (bh0, 640, .inl f)), (h1, .inr (3, [.ref h1d, .int (nI k2)])), (h1d, .inl (bh1, 640, .inl f2))] s.heap := hP
  have hl := lv_entry ([.ref h0, .ref h1]) (n := 3) (Nat.le_of_ble_eq_true rfl)
  rw [lg_entry_eq]
  generalize (lg_sl ([.ref h0, .ref h1]) ++ List.replicate (3 - (lg_sl ([.ref h0, .ref h1])).length) Slot.unset).toArray = ls at hl ⊢
  have hl : lv_has ls 3 [(0, .ref h0), (1, .ref h1)] := hl
  refine lv_aload_n hx hb dB_compare_0 rfl (lv_at hl 0 rfl) ?_
  refine va_get (D := (dC, dI)) (ci := 3) (v := .int (nI k)) (C := RB) (T := TB) (N := 2) hx hb hts (inC iB) hown hK hP 0 rfl rfl 1 (by decide) (hts _ (List.mem_cons_of_mem _ m2_79)) (fun _ h9 => h9) rfl dB_compare_1 ?_
  refine lv_aload_n hx hb dB_compare_4 rfl (lv_at hl 1 rfl) ?_
  refine va_get (D := (dC, dI)) (ci := 3) (v := .int (nI k2)) (C := RB) (T := TB) (N := 2) hx hb hts (inC iB) hown hK hP 2 rfl rfl 1 (by decide) (hts _ (List.mem_cons_of_mem _ m2_79)) (fun _ h9 => h9) rfl dB_compare_5 ?_
  refine lv_icmp_eq (tgt := 28) hx hb dB_compare_8 (by decide) (fun c_1 => ?_) (fun c_1 => ?_)
  · have hkk : k = k2 := (nI_eq (by omega) (by omega)).mp c_1
    refine lv_aload_n hx hb dB_compare_28 rfl (lv_at hl 0 rfl) ?_
    refine va_get (D := (dC, dI)) (ci := 3) (v := .int (nI k)) (C := RB) (T := TB) (N := 2) hx hb hts (inC iB) hown hK hP 0 rfl rfl 1 (by decide) (hts _ (List.mem_cons_of_mem _ m2_79)) (fun _ h9 => h9) rfl dB_compare_29 ?_
    refine lv_iconst (v := 1) hx hb dB_compare_32 (by decide) ?_
    refine lv_isub hx hb dB_compare_33 ?_
    refine W.eq (g2 := F0 m 34 ls [.int (ni1 k)]) (congrArg (fun z => F0 m 34 ls [.int z]) ((rfl : nI k - 1 = ni1 k))) ?_
    refine lv_istore_n (lv' := [(2, .int (ni1 k)), (0, .ref h0), (1, .ref h1)]) hx hb dB_compare_34 rfl hl (by decide) rfl (fun ls hl => ?_)
    have L_1 : ∀ (n1 : Nat), n1 ≤ 640 → qB_compare_35 f f2 n1 = pB_compare f k f2 k2 → ∀ (H : Heap) (locs : List Loc), va_K (dC, dI) vwCl [(bh0, .int), (bh1, .int)] s → va_P (dC, dI) vwCl [(h0, .inr (3, [.ref h0d, .int (nI k)])), (h0d, .inl (bh0, 640, .inl f)), (h1, .inr (3, [.ref h1d, .int (nI k2)])), (h1d, .inl (bh1, 640, .inl f2))] H → va_D A [(h0, .inr (3, [.ref h0d, .int (nI k)])), (h0d, .inl (bh0, 640, .inl f)), (h1, .inr (3, [.ref h1d, .int (nI k2)])), (h1d, .inl (bh1, 640, .inl f2))] → va_S A s.heap H locs → ∀ (ls : Array Slot), lv_has ls 3 [(0, .ref h0), (1, .ref h1), (2, .int (ni1 n1))] → WB_compare p l e s m below meth c dC dI h0 h0d h1 h1d bh0 bh1 f k f2 k2 A H locs (F0 m 35 ls []) := by
      intro n1
      induction n1 with
      | zero =>
        intro  hj hq H locs hK hP hD hS ls hl
        have hl : lv_has ls 3 [(0, .ref h0), (1, .ref h1), (2, .int (-1 : Int32))] := by rw [← ni1_0]; exact hl
        refine lv_iload_n hx hb dB_compare_35 rfl (lv_at hl 2 rfl) ?_
        refine lv_if_lt (tgt := 81) hx hb dB_compare_36 (by decide) (fun c_2 => ?_) (fun c_2 => ?_)
        rotate_left
        · exact absurd (by decide) c_2
        refine lv_iconst (v := 0) hx hb dB_compare_81 (by decide) ?_
        have e9 : (0 : Int32) = pB_compare f k f2 k2 := Eq.trans (rfl).symm hq
        have hP9 := hP.sub (ws' := [(h0, .inr (3, [.ref h0d, .int (nI k)])), (h0d, .inl (bh0, 640, .inl f)), (h1, .inr (3, [.ref h1d, .int (nI k2)])), (h1d, .inl (bh1, 640, .inl f2))]) [0, 1, 2, 3] rfl
        have hD9 := hD.sub (ws' := [(h0, .inr (3, [.ref h0d, .int (nI k)])), (h0d, .inl (bh0, 640, .inl f)), (h1, .inr (3, [.ref h1d, .int (nI k2)])), (h1d, .inl (bh1, 640, .inl f2))]) [0, 1, 2, 3] (by decide) rfl
        have hK9 := hK.sub (tys' := [(bh0, .int), (bh1, .int)]) [0, 1] rfl
        have h9 := And.intro hP9 hD9
        exact W.iret (v := (0 : Int32)) hx hb hr (fun t ht hW => ⟨⟨(0 : Int32), (), rfl, e9, by rw [ht]; exact h9.1, va_K.moved hW.alike hK9, h9.2⟩, hS.F ht⟩) hS.2.2 dB_compare_82
      | succ n1 ih =>
        intro  hj hq H locs hK hP hD hS ls hl
        have hl : lv_has ls 3 [(0, .ref h0), (1, .ref h1), (2, .int (nI n1))] := by rw [← ni1_s n1]; exact hl
        refine lv_iload_n hx hb dB_compare_35 rfl (lv_at hl 2 rfl) ?_
        refine lv_if_lt (tgt := 81) hx hb dB_compare_36 (by decide) (fun c_3 => ?_) (fun c_3 => ?_)
        · exact absurd ((nI_ltI (a := n1) (b := 0) (by omega) (by omega)).mp c_3) (by omega)
        refine lv_aload_n hx hb dB_compare_39 rfl (lv_at hl 0 rfl) ?_
        refine va_get (D := (dC, dI)) (ci := 3) (v := .ref h0d) (C := RB) (T := TB) (N := 2) hx hb hts (inC iB) hown hK hP 0 rfl rfl 0 (by decide) (hts _ (List.mem_cons_of_mem _ m2_78)) (fun _ h9 => h9) rfl dB_compare_40 ?_
        refine lv_iload_n hx hb dB_compare_43 rfl (lv_at hl 2 rfl) ?_
        refine va_iald hx hb hK hP 1 0 rfl rfl (i := (nI n1)) (vp_in_nI (n := n1) (by omega) (by omega)) dB_compare_44 ?_
        refine lv_topi (fun w9 e9 => ?_)
        have e9 : w9 = (v_B_compare_1 f f2 n1) := e9.trans (congrArg f (nI_clamp (n := n1) (by omega)))
        rw [e9]
        refine lv_aload_n hx hb dB_compare_45 rfl (lv_at hl 1 rfl) ?_
        refine va_get (D := (dC, dI)) (ci := 3) (v := .ref h1d) (C := RB) (T := TB) (N := 2) hx hb hts (inC iB) hown hK hP 2 rfl rfl 0 (by decide) (hts _ (List.mem_cons_of_mem _ m2_78)) (fun _ h9 => h9) rfl dB_compare_46 ?_
        refine lv_iload_n hx hb dB_compare_49 rfl (lv_at hl 2 rfl) ?_
        refine va_iald hx hb hK hP 3 1 rfl rfl (i := (nI n1)) (vp_in_nI (n := n1) (by omega) (by omega)) dB_compare_50 ?_
        refine lv_topi (fun w9 e9 => ?_)
        have e9 : w9 = (v_B_compare_2 f f2 n1) := e9.trans (congrArg f2 (nI_clamp (n := n1) (by omega)))
        rw [e9]
        refine lv_icmp_eq (tgt := 75) hx hb dB_compare_51 (by decide) (fun c_4 => ?_) (fun c_4 => ?_)
        · refine lv_iinc (v := (ni1 n1)) (lv' := [(2, .int (ni1 n1)), (0, .ref h0), (1, .ref h1)]) hx hb dB_compare_75 hl (k := 2) rfl (ni1_m _) (by decide) rfl (fun ls hl => ?_)
          refine lv_goto (tgt := 35) hx hb dB_compare_78 (by decide) ?_
          exact ih  (by omega) (by exact (Eq.trans ((if_pos c_4)).symm hq)) _ _ (hK.sub [0, 1] rfl) (hP.sub [0, 1, 2, 3] rfl) (hD.sub [0, 1, 2, 3] (by decide) rfl) hS ls (lv_sub hl [1, 2, 0] rfl)
        · refine lv_aload_n hx hb dB_compare_54 rfl (lv_at hl 0 rfl) ?_
          refine va_get (D := (dC, dI)) (ci := 3) (v := .ref h0d) (C := RB) (T := TB) (N := 2) hx hb hts (inC iB) hown hK hP 0 rfl rfl 0 (by decide) (hts _ (List.mem_cons_of_mem _ m2_78)) (fun _ h9 => h9) rfl dB_compare_55 ?_
          refine lv_iload_n hx hb dB_compare_58 rfl (lv_at hl 2 rfl) ?_
          refine va_iald hx hb hK hP 1 0 rfl rfl (i := (nI n1)) (vp_in_nI (n := n1) (by omega) (by omega)) dB_compare_59 ?_
          refine lv_topi (fun w9 e9 => ?_)
          have e9 : w9 = (v_B_compare_3 f f2 n1) := e9.trans (congrArg f (nI_clamp (n := n1) (by omega)))
          rw [e9]
          refine lv_aload_n hx hb dB_compare_60 rfl (lv_at hl 1 rfl) ?_
          refine va_get (D := (dC, dI)) (ci := 3) (v := .ref h1d) (C := RB) (T := TB) (N := 2) hx hb hts (inC iB) hown hK hP 2 rfl rfl 0 (by decide) (hts _ (List.mem_cons_of_mem _ m2_78)) (fun _ h9 => h9) rfl dB_compare_61 ?_
          refine lv_iload_n hx hb dB_compare_64 rfl (lv_at hl 2 rfl) ?_
          refine va_iald hx hb hK hP 3 1 rfl rfl (i := (nI n1)) (vp_in_nI (n := n1) (by omega) (by omega)) dB_compare_65 ?_
          refine lv_topi (fun w9 e9 => ?_)
          have e9 : w9 = (v_B_compare_4 f f2 n1) := e9.trans (congrArg f2 (nI_clamp (n := n1) (by omega)))
          rw [e9]
          have J_1 : ∀ (w_0 : Int32), w_0 = (v_B_compare_5 f f2 n1) → ∀ (H : Heap) (locs : List Loc), va_K (dC, dI) vwCl [(bh0, .int), (bh1, .int)] s → va_P (dC, dI) vwCl [(h0, .inr (3, [.ref h0d, .int (nI k)])), (h0d, .inl (bh0, 640, .inl f)), (h1, .inr (3, [.ref h1d, .int (nI k2)])), (h1d, .inl (bh1, 640, .inl f2))] H → va_D A [(h0, .inr (3, [.ref h0d, .int (nI k)])), (h0d, .inl (bh0, 640, .inl f)), (h1, .inr (3, [.ref h1d, .int (nI k2)])), (h1d, .inl (bh1, 640, .inl f2))] → va_S A s.heap H locs → ∀ (ls : Array Slot), lv_has ls 3 [] → WB_compare p l e s m below meth c dC dI h0 h0d h1 h1d bh0 bh1 f k f2 k2 A H locs (F0 m 74 ls [.int w_0]) := by
            intro w_0 e_0
            rw [e_0]
            intro H locs hK hP hD hS ls hl
            have e9 : (v_B_compare_5 f f2 n1) = pB_compare f k f2 k2 := Eq.trans ((if_neg c_4)).symm hq
            have hP9 := hP.sub (ws' := [(h0, .inr (3, [.ref h0d, .int (nI k)])), (h0d, .inl (bh0, 640, .inl f)), (h1, .inr (3, [.ref h1d, .int (nI k2)])), (h1d, .inl (bh1, 640, .inl f2))]) [0, 1, 2, 3] rfl
            have hD9 := hD.sub (ws' := [(h0, .inr (3, [.ref h0d, .int (nI k)])), (h0d, .inl (bh0, 640, .inl f)), (h1, .inr (3, [.ref h1d, .int (nI k2)])), (h1d, .inl (bh1, 640, .inl f2))]) [0, 1, 2, 3] (by decide) rfl
            have hK9 := hK.sub (tys' := [(bh0, .int), (bh1, .int)]) [0, 1] rfl
            have h9 := And.intro hP9 hD9
            exact W.iret (v := (v_B_compare_5 f f2 n1)) hx hb hr (fun t ht hW => ⟨⟨(v_B_compare_5 f f2 n1), (), rfl, e9, by rw [ht]; exact h9.1, va_K.moved hW.alike hK9, h9.2⟩, hS.F ht⟩) hS.2.2 dB_compare_74
          refine lv_icmp_ge (tgt := 73) hx hb dB_compare_66 (by decide) (fun c_5 => ?_) (fun c_5 => ?_)
          · refine lv_iconst (v := 1) hx hb dB_compare_73 (by decide) ?_
            exact J_1 (1 : Int32) ((if_pos c_5)).symm _ _ (hK.sub [0, 1] rfl) (hP.sub [0, 1, 2, 3] rfl) (hD.sub [0, 1, 2, 3] (by decide) rfl) hS ls (lv_sub hl [] rfl)
          · refine lv_iconst (v := -1) hx hb dB_compare_69 (by decide) ?_
            refine lv_goto (tgt := 74) hx hb dB_compare_70 (by decide) ?_
            exact J_1 (-1 : Int32) ((if_neg c_5)).symm _ _ (hK.sub [0, 1] rfl) (hP.sub [0, 1, 2, 3] rfl) (hD.sub [0, 1, 2, 3] (by decide) rfl) hS ls (lv_sub hl [] rfl)
    exact L_1 k  (by omega) ((if_pos c_1)).symm _ _ (hK.sub [0, 1] rfl) (hP.sub [0, 1, 2, 3] rfl) (hD.sub [0, 1, 2, 3] (by decide) rfl) hS ls (lv_sub hl [1, 2, 0] rfl)
  · refine lv_aload_n hx hb dB_compare_11 rfl (lv_at hl 0 rfl) ?_
    refine va_get (D := (dC, dI)) (ci := 3) (v := .int (nI k)) (C := RB) (T := TB) (N := 2) hx hb hts (inC iB) hown hK hP 0 rfl rfl 1 (by decide) (hts _ (List.mem_cons_of_mem _ m2_79)) (fun _ h9 => h9) rfl dB_compare_12 ?_
    refine lv_aload_n hx hb dB_compare_15 rfl (lv_at hl 1 rfl) ?_
    refine va_get (D := (dC, dI)) (ci := 3) (v := .int (nI k2)) (C := RB) (T := TB) (N := 2) hx hb hts (inC iB) hown hK hP 2 rfl rfl 1 (by decide) (hts _ (List.mem_cons_of_mem _ m2_79)) (fun _ h9 => h9) rfl dB_compare_16 ?_
    have J_2 : ∀ (w_0 : Int32), w_0 = (v_B_compare_6 f k f2 k2) → ∀ (H : Heap) (locs : List Loc), va_K (dC, dI) vwCl [(bh0, .int), (bh1, .int)] s → va_P (dC, dI) vwCl [(h0, .inr (3, [.ref h0d, .int (nI k)])), (h0d, .inl (bh0, 640, .inl f)), (h1, .inr (3, [.ref h1d, .int (nI k2)])), (h1d, .inl (bh1, 640, .inl f2))] H → va_D A [(h0, .inr (3, [.ref h0d, .int (nI k)])), (h0d, .inl (bh0, 640, .inl f)), (h1, .inr (3, [.ref h1d, .int (nI k2)])), (h1d, .inl (bh1, 640, .inl f2))] → va_S A s.heap H locs → ∀ (ls : Array Slot), lv_has ls 3 [] → WB_compare p l e s m below meth c dC dI h0 h0d h1 h1d bh0 bh1 f k f2 k2 A H locs (F0 m 27 ls [.int w_0]) := by
      intro w_0 e_0
      rw [e_0]
      intro H locs hK hP hD hS ls hl
      have e9 : (v_B_compare_6 f k f2 k2) = pB_compare f k f2 k2 := ((if_neg c_1)).symm
      have hP9 := hP.sub (ws' := [(h0, .inr (3, [.ref h0d, .int (nI k)])), (h0d, .inl (bh0, 640, .inl f)), (h1, .inr (3, [.ref h1d, .int (nI k2)])), (h1d, .inl (bh1, 640, .inl f2))]) [0, 1, 2, 3] rfl
      have hD9 := hD.sub (ws' := [(h0, .inr (3, [.ref h0d, .int (nI k)])), (h0d, .inl (bh0, 640, .inl f)), (h1, .inr (3, [.ref h1d, .int (nI k2)])), (h1d, .inl (bh1, 640, .inl f2))]) [0, 1, 2, 3] (by decide) rfl
      have hK9 := hK.sub (tys' := [(bh0, .int), (bh1, .int)]) [0, 1] rfl
      have h9 := And.intro hP9 hD9
      exact W.iret (v := (v_B_compare_6 f k f2 k2)) hx hb hr (fun t ht hW => ⟨⟨(v_B_compare_6 f k f2 k2), (), rfl, e9, by rw [ht]; exact h9.1, va_K.moved hW.alike hK9, h9.2⟩, hS.F ht⟩) hS.2.2 dB_compare_27
    refine lv_icmp_ge (tgt := 26) hx hb dB_compare_19 (by decide) (fun c_6 => ?_) (fun c_6 => ?_)
    · refine lv_iconst (v := 1) hx hb dB_compare_26 (by decide) ?_
      exact J_2 (1 : Int32) ((if_pos c_6)).symm _ _ (hK.sub [0, 1] rfl) (hP.sub [0, 1, 2, 3] rfl) (hD.sub [0, 1, 2, 3] (by decide) rfl) hS ls (lv_sub hl [] rfl)
    · refine lv_iconst (v := -1) hx hb dB_compare_22 (by decide) ?_
      refine lv_goto (tgt := 27) hx hb dB_compare_23 (by decide) ?_
      exact J_2 (-1 : Int32) ((if_neg c_6)).symm _ _ (hK.sub [0, 1] rfl) (hP.sub [0, 1, 2, 3] rfl) (hD.sub [0, 1, 2, 3] (by decide) rfl) hS ls (lv_sub hl [] rfl)
def v_B_subtract_4 (k2 : Nat) (f2 : Nat → Int32) (j1 : Nat) (y1_0 : Bool) (y1_1 : Nat → Int32) : Int32 := y1_1 j1
def v_B_subtract_5 (k2 : Nat) (f2 : Nat → Int32) (j1 : Nat) (y1_0 : Bool) (y1_1 : Nat → Int32) : Int32 := f2 j1
def v_B_subtract_6 (k2 : Nat) (f2 : Nat → Int32) (j1 : Nat) (y1_0 : Bool) (y1_1 : Nat → Int32) : Int32 := (if (nI k2) ≤ (nI j1) then (0 : Int32) else (v_B_subtract_5 k2 f2 j1 y1_0 y1_1))
def v_B_subtract_7 (k2 : Nat) (f2 : Nat → Int32) (j1 : Nat) (y1_0 : Bool) (y1_1 : Nat → Int32) : Int32 := ((v_B_subtract_4 k2 f2 j1 y1_0 y1_1) - (v_B_subtract_6 k2 f2 j1 y1_0 y1_1)) - (bI y1_0)
def v_B_subtract_8 (k2 : Nat) (f2 : Nat → Int32) (j1 : Nat) (y1_0 : Bool) (y1_1 : Nat → Int32) : Int32 := (v_B_subtract_7 k2 f2 j1 y1_0 y1_1) &&& (65535 : Int32)
def v_B_subtract_9 (k2 : Nat) (f2 : Nat → Int32) (j1 : Nat) (y1_0 : Bool) (y1_1 : Nat → Int32) : Nat → Int32 := upd y1_1 j1 (v_B_subtract_8 k2 f2 j1 y1_0 y1_1)
def v_B_subtract_10 (k2 : Nat) (f2 : Nat → Int32) (j1 : Nat) (y1_0 : Bool) (y1_1 : Nat → Int32) : Bool := (if 0 ≤ (v_B_subtract_7 k2 f2 j1 y1_0 y1_1) then false else true)
def qB_subtract_4 (k2 : Nat) (f2 : Nat → Int32) : Nat → Nat → Bool → (Nat → Int32) → Bool × (Nat → Int32)
  | 0, j1, y1_0, y1_1 => (y1_0, y1_1)
  | n1 + 1, j1, y1_0, y1_1 => qB_subtract_4 k2 f2 n1 (j1 + 1) (v_B_subtract_10 k2 f2 j1 y1_0 y1_1) (v_B_subtract_9 k2 f2 j1 y1_0 y1_1)
def v_B_subtract_1 (f : Nat → Int32) (k : Nat) (f2 : Nat → Int32) (k2 : Nat) : Bool := (qB_subtract_4 k2 f2 k 0 false f).1
def v_B_subtract_2 (f : Nat → Int32) (k : Nat) (f2 : Nat → Int32) (k2 : Nat) : Nat → Int32 := (qB_subtract_4 k2 f2 k 0 false f).2
def v_B_subtract_3 (f : Nat → Int32) (k : Nat) (f2 : Nat → Int32) (k2 : Nat) : Nat := pB_trim_0 (v_B_subtract_2 f k f2 k2) k
def pB_subtract_0 (f : Nat → Int32) (k : Nat) (f2 : Nat → Int32) (k2 : Nat) : Nat → Int32 := (v_B_subtract_2 f k f2 k2)
def pB_subtract_1 (f : Nat → Int32) (k : Nat) (f2 : Nat → Int32) (k2 : Nat) : Nat := (v_B_subtract_3 f k f2 k2)
/-- B_subtract -/
abbrev atB_subtract (dC : Nat → ClassId) (dI : Nat → Nat → Nat) (h0 h0d h1 h1d : Nat) (bh0 bh1 : ClassId) (f : Nat → Int32) (k : Nat) (f2 : Nat → Int32) (k2 : Nat) (A : Nat → Prop) (t : State) : Prop := va_P (dC, dI) vwCl [(h0, .inr (3, [.ref h0d, .int (nI (pB_subtract_1 f k f2 k2))])), (h0d, .inl (bh0, 640, .inl (pB_subtract_0 f k f2 k2))), (h1, .inr (3, [.ref h1d, .int (nI k2)])), (h1d, .inl (bh1, 640, .inl f2))] t.heap ∧ va_K (dC, dI) vwCl [(bh0, .int), (bh1, .int)] t ∧ va_D A [(h0, .inr (3, [.ref h0d, .int (nI (pB_subtract_1 f k f2 k2))])), (h0d, .inl (bh0, 640, .inl (pB_subtract_0 f k f2 k2))), (h1, .inr (3, [.ref h1d, .int (nI k2)])), (h1d, .inl (bh1, 640, .inl f2))]
theorem trB_subtract {dC : Nat → ClassId} {dI : Nat → Nat → Nat} {h0 h0d h1 h1d : Nat} {bh0 bh1 : ClassId} {f2 : Nat → Int32} {k2 : Nat} {A : Nat → Prop} {H : Heap} {a0 b0 : Nat → Int32} {a1 b1 : Nat} (e0 : a0 = b0) (e1 : a1 = b1) (h : va_P (dC, dI) vwCl [(h0, .inr (3, [.ref h0d, .int (nI a1)])), (h0d, .inl (bh0, 640, .inl a0)), (h1, .inr (3, [.ref h1d, .int (nI k2)])), (h1d, .inl (bh1, 640, .inl f2))] H ∧ va_D A [(h0, .inr (3, [.ref h0d, .int (nI a1)])), (h0d, .inl (bh0, 640, .inl a0)), (h1, .inr (3, [.ref h1d, .int (nI k2)])), (h1d, .inl (bh1, 640, .inl f2))]) : va_P (dC, dI) vwCl [(h0, .inr (3, [.ref h0d, .int (nI b1)])), (h0d, .inl (bh0, 640, .inl b0)), (h1, .inr (3, [.ref h1d, .int (nI k2)])), (h1d, .inl (bh1, 640, .inl f2))] H ∧ va_D A [(h0, .inr (3, [.ref h0d, .int (nI b1)])), (h0d, .inl (bh0, 640, .inl b0)), (h1, .inr (3, [.ref h1d, .int (nI k2)])), (h1d, .inl (bh1, 640, .inl f2))] := by
  subst e0
  subst e1
  exact h
abbrev WB_subtract (p : Program) (l : Launch) (e : Env) (s : State) (m : MethodId) (below : List Frame) (meth : Method) (c : Code) (dC : Nat → ClassId) (dI : Nat → Nat → Nat) (h0 h0d h1 h1d : Nat) (bh0 bh1 : ClassId) (f : Nat → Int32) (k : Nat) (f2 : Nat → Int32) (k2 : Nat) (A : Nat → Prop) (H : Heap) (locs : List Loc) (g : JFrame) : Prop := W p l e (headSpec wB_subtract ({ frames := 1, cells := 0, slots := 0, locals := 20 })).room s m ([.ref h0, .ref h1] : List Value).toArray below meth c H locs 0 0 (MQ below (va_Qv (fun (_ : Unit) => True) (fun _ => atB_subtract dC dI h0 h0d h1 h1d bh0 bh1 f k f2 k2 A) A) ([.ref h0, .ref h1] : List Value).toArray s 0 0 A) g
set_option maxHeartbeats 4000000 in
set_option maxRecDepth 100000 in
theorem kB_subtract (l : Launch) (dC : Nat → ClassId) (dI : Nat → Nat → Nat) (h0 h0d h1 h1d : Nat) (bh0 bh1 : ClassId) (sz : Nat) (f : Nat → Int32) (k : Nat) (f2 : Nat → Int32) (k2 : Nat) (hk : k ≤ 640) (hk2 : k2 ≤ 640) : Met l yB_subtract wB_subtract ({ frames := 1, cells := 0, slots := 0, locals := 20 }) (va_Pc [.ref h0, .ref h1] (fun U => U.heap.size = sz ∧ va_P (dC, dI) vwCl [(h0, .inr (3, [.ref h0d, .int (nI k)])), (h0d, .inl (bh0, 640, .inl f)), (h1, .inr (3, [.ref h1d, .int (nI k2)])), (h1d, .inl (bh1, 640, .inl f2))] U.heap ∧ va_K (dC, dI) vwCl [(bh0, .int), (bh1, .int)] U ∧ va_D (fun _ => True) [(h0, .inr (3, [.ref h0d, .int (nI k)])), (h0d, .inl (bh0, 640, .inl f)), (h1, .inr (3, [.ref h1d, .int (nI k2)])), (h1d, .inl (bh1, 640, .inl f2))] ∧ NW U)) (va_Qv (fun (_ : Unit) => True) (fun _ => atB_subtract dC dI h0 h0d h1 h1d bh0 bh1 f k f2 k2 (va_A [(h0, .inr (3, [.ref h0d, .int (nI k)])), (h0d, .inl (bh0, 640, .inl f)), (h1, .inr (3, [.ref h1d, .int (nI k2)])), (h1d, .inl (bh1, 640, .inl f2))] sz)) (va_A [(h0, .inr (3, [.ref h0d, .int (nI k)])), (h0d, .inl (bh0, 640, .inl f)), (h1, .inr (3, [.ref h1d, .int (nI k2)])), (h1d, .inl (bh1, 640, .inl f2))] sz)) 0 0 (va_A [(h0, .inr (3, [.ref h0d, .int (nI k)])), (h0d, .inl (bh0, 640, .inl f)), (h1, .inr (3, [.ref h1d, .int (nI k2)])), (h1d, .inl (bh1, 640, .inl f2))] sz) := by
  refine Met.ofW (cc := cB_subtract) (maxL := 5) (ret := none) (by decide) rfl ?_
  intro p e s m args below meth c s₁ B hml hv
  obtain ⟨rfl, hsz, hP, hK, hD0, hN⟩ := hv
  have hx := B.exec
  have hb := B.bytes
  have hr := B.returns
  have hts := atoms_spec (ws := wB_subtract) B.pre
  have hown : s.vm.findClass RB = some m.cls := findClass_of_methodNamed B.named
  have hlocks := B.notSynchronized
  subst hsz
  have hD := hD0.self (sz := s.heap.size)
  generalize hAe : va_A [(h0, .inr (3, [.ref h0d, .int (nI k)])), (h0d, .inl (bh0, 640, .inl f)), (h1, .inr (3, [.ref h1d, .int (nI k2)])), (h1d, .inl (bh1, 640, .inl f2))] s.heap.size = A at hD ⊢
  have hA : ∀ q : Nat, s.heap.size ≤ q → A q := fun q h => by rw [← hAe]; exact Or.inr h
  have hS : va_S A s.heap s.heap [] := va_S.rf
  have hP : va_P (dC, dI) vwCl [(h0, .inr (3, [.ref h0d, .int (nI k)])), (h0d, .inl (bh0, 640, .inl f)), (h1, .inr (3, [.ref h1d, .int (nI k2)])), (h1d, .inl (bh1, 640, .inl f2))] s.heap := hP
  have hl := lv_entry ([.ref h0, .ref h1]) (n := 5) (Nat.le_of_ble_eq_true rfl)
  rw [lg_entry_eq]
  generalize (lg_sl ([.ref h0, .ref h1]) ++ List.replicate (5 - (lg_sl ([.ref h0, .ref h1])).length) Slot.unset).toArray = ls at hl ⊢
  have hl : lv_has ls 5 [(0, .ref h0), (1, .ref h1)] := hl
  refine lv_iconst (v := 0) hx hb dB_subtract_0 (by decide) ?_
  refine lv_istore_n (lv' := [(2, .int (0 : Int32)), (0, .ref h0), (1, .ref h1)]) hx hb dB_subtract_1 rfl hl (by decide) rfl (fun ls hl => ?_)
  refine lv_iconst (v := 0) hx hb dB_subtract_2 (by decide) ?_
  refine lv_istore_n (lv' := [(3, .int (0 : Int32)), (2, .int (0 : Int32)), (0, .ref h0), (1, .ref h1)]) hx hb dB_subtract_3 rfl hl (by decide) rfl (fun ls hl => ?_)
  have K_1 : ∀ (w_0 : Bool) (w_1 : Nat → Int32), (w_0, w_1) = qB_subtract_4 k2 f2 k 0 false f → ∀ (H : Heap) (locs : List Loc), va_K (dC, dI) vwCl [(bh0, .int), (bh1, .int)] s → va_P (dC, dI) vwCl [(h0, .inr (3, [.ref h0d, .int (nI k)])), (h0d, .inl (bh0, 640, .inl w_1)), (h1, .inr (3, [.ref h1d, .int (nI k2)])), (h1d, .inl (bh1, 640, .inl f2))] H → va_D A [(h0, .inr (3, [.ref h0d, .int (nI k)])), (h0d, .inl (bh0, 640, .inl w_1)), (h1, .inr (3, [.ref h1d, .int (nI k2)])), (h1d, .inl (bh1, 640, .inl f2))] → va_S A s.heap H locs → ∀ (ls : Array Slot), lv_has ls 5 [(0, .ref h0)] → WB_subtract p l e s m below meth c dC dI h0 h0d h1 h1d bh0 bh1 f k f2 k2 A H locs (F0 m 69 ls []) := by
    intro w_0 w_1 hz
    have e_0 : w_0 = (v_B_subtract_1 f k f2 k2) := (congrArg (fun q => q.1) hz)
    have e_1 : w_1 = (v_B_subtract_2 f k f2 k2) := (congrArg (fun q => q.2) hz)
    rw [e_1]
    intro H locs hK hP hD hS ls hl
    refine lv_aload_n hx hb dB_subtract_69 rfl (lv_at hl 0 rfl) ?_
    have hPc := hP.sub (ws' := [(h0, .inr (3, [.ref h0d, .int (nI k)])), (h0d, .inl (bh0, 640, .inl (v_B_subtract_2 f k f2 k2)))]) [0, 1] rfl
    have hDc := hD.sub (ws' := [(h0, .inr (3, [.ref h0d, .int (nI k)])), (h0d, .inl (bh0, 640, .inl (v_B_subtract_2 f k f2 k2)))]) [0, 1] (by decide) rfl
    have hKc := hK.sub (tys' := [(bh0, .int)]) [0] rfl
    have hFc := va_free (wc := [(h0, .inr (3, [.ref h0d, .int (nI k)])), (h0d, .inl (bh0, 640, .inl (v_B_subtract_2 f k f2 k2)))]) hD hS hA [0, 1] rfl
    refine va_callv (va_runV (As := []) (rest := []) ⟨hx, hb, hml, hown, hts⟩ (kB_trim l dC dI h0 h0d bh0 H.size (v_B_subtract_2 f k f2 k2) k (by omega)) (cwV 0 hts (g_call (List.forall_mem_cons.mpr ⟨m2_197, List.forall_mem_cons.mpr ⟨m2_199, List.forall_mem_cons.mpr ⟨m0_3, List.forall_mem_cons.mpr ⟨m1_5, fun _ h => absurd h List.not_mem_nil⟩⟩⟩⟩) m2_200) rfl rfl rfl (by decide +kernel) ⟨Nat.le_of_ble_eq_true rfl, Nat.le_of_ble_eq_true rfl⟩) ⟨fun a U g mk q => by obtain ⟨q0, q1, qP, qK, qD, qN⟩ := q; exact ⟨q0, q1, qP, va_K.moved (u := U) (U := U.calling g mk a) (Vm.Alike.refl U.vm) qK, qD, NW.same (u := U) rfl qN⟩, va_recv hKc hPc (ci := 3) (q0 := 0) rfl rfl, fun U hU hW => ⟨rfl, by rw [hU], by rw [hU]; exact hPc, va_K.moved hW.alike hKc, hDc.weaken (fun _ _ _ _ => trivial), NW.warm hW hN⟩⟩ rfl rfl hl.1 rfl (lv_room (Nat.le_of_ble_eq_true rfl)) dB_subtract_70 ⟨Nat.le_of_ble_eq_true rfl, Nat.le_of_ble_eq_true rfl⟩) hS (fun q _ h => hFc q h) hFc (fun u9 t H1 locs ht hvm hw hB hz1 hk1 hS => ?_)
    obtain ⟨hP1, hK1, hD1⟩ := hB
    rw [ht] at hP1
    have hK1 := va_K.moved hvm.symm hK1
    have hP1 : va_P (dC, dI) vwCl [(h0, .inr (3, [.ref h0d, .int (nI (v_B_subtract_3 f k f2 k2))])), (h0d, .inl (bh0, 640, .inl (v_B_subtract_2 f k f2 k2)))] H1 := hP1
    have hD1 : va_D _ [(h0, .inr (3, [.ref h0d, .int (nI (v_B_subtract_3 f k f2 k2))])), (h0d, .inl (bh0, 640, .inl (v_B_subtract_2 f k f2 k2)))] := hD1
    obtain ⟨hP, hD⟩ := va_join (wr := [(h1, .inr (3, [.ref h1d, .int (nI k2)])), (h1d, .inl (bh1, 640, .inl f2))]) (w1 := [(h0, .inr (3, [.ref h0d, .int (nI (v_B_subtract_3 f k f2 k2))])), (h0d, .inl (bh0, 640, .inl (v_B_subtract_2 f k f2 k2)))]) hP hD [0, 1] [2, 3] rfl rfl (by decide) (by decide) hk1 hFc hP1 hD1
    have hK := (hK.sub (tys' := [(bh1, .int)]) [1] rfl).app hK1
    generalize H1 = H at hP hS ⊢
    have hP : va_P (dC, dI) vwCl [(h1, .inr (3, [.ref h1d, .int (nI k2)])), (h1d, .inl (bh1, 640, .inl f2)), (h0, .inr (3, [.ref h0d, .int (nI (v_B_subtract_3 f k f2 k2))])), (h0d, .inl (bh0, 640, .inl (v_B_subtract_2 f k f2 k2)))] H := hP
    have hD : va_D A [(h1, .inr (3, [.ref h1d, .int (nI k2)])), (h1d, .inl (bh1, 640, .inl f2)), (h0, .inr (3, [.ref h0d, .int (nI (v_B_subtract_3 f k f2 k2))])), (h0d, .inl (bh0, 640, .inl (v_B_subtract_2 f k f2 k2)))] := hD
    have hK : va_K (dC, dI) vwCl [(bh1, .int), (bh0, .int)] s := hK
    have e9_0 : (v_B_subtract_2 f k f2 k2) = pB_subtract_0 f k f2 k2 := (rfl).symm
    have e9_1 : (v_B_subtract_3 f k f2 k2) = pB_subtract_1 f k f2 k2 := (rfl).symm
    have hP9 := hP.sub (ws' := [(h0, .inr (3, [.ref h0d, .int (nI (v_B_subtract_3 f k f2 k2))])), (h0d, .inl (bh0, 640, .inl (v_B_subtract_2 f k f2 k2))), (h1, .inr (3, [.ref h1d, .int (nI k2)])), (h1d, .inl (bh1, 640, .inl f2))]) [2, 3, 0, 1] rfl
    have hD9 := hD.sub (ws' := [(h0, .inr (3, [.ref h0d, .int (nI (v_B_subtract_3 f k f2 k2))])), (h0d, .inl (bh0, 640, .inl (v_B_subtract_2 f k f2 k2))), (h1, .inr (3, [.ref h1d, .int (nI k2)])), (h1d, .inl (bh1, 640, .inl f2))]) [2, 3, 0, 1] (by decide) rfl
    have hK9 := hK.sub (tys' := [(bh0, .int), (bh1, .int)]) [1, 0] rfl
    have h9 := trB_subtract e9_0 e9_1 ⟨hP9, hD9⟩
    exact W.vret hx hb hr (fun t ht hW => ⟨⟨(), rfl, trivial, by rw [ht]; exact h9.1, va_K.moved hW.alike hK9, h9.2⟩, hS.F ht⟩) hS.2.2 dB_subtract_73
  have L_1 : ∀ (n1 j1 : Nat) (y1_0 : Bool) (y1_1 : Nat → Int32), j1 + n1 = k → qB_subtract_4 k2 f2 n1 j1 y1_0 y1_1 = qB_subtract_4 k2 f2 k 0 false f → ∀ (H : Heap) (locs : List Loc), va_K (dC, dI) vwCl [(bh0, .int), (bh1, .int)] s → va_P (dC, dI) vwCl [(h0, .inr (3, [.ref h0d, .int (nI k)])), (h0d, .inl (bh0, 640, .inl y1_1)), (h1, .inr (3, [.ref h1d, .int (nI k2)])), (h1d, .inl (bh1, 640, .inl f2))] H → va_D A [(h0, .inr (3, [.ref h0d, .int (nI k)])), (h0d, .inl (bh0, 640, .inl y1_1)), (h1, .inr (3, [.ref h1d, .int (nI k2)])), (h1d, .inl (bh1, 640, .inl f2))] → va_S A s.heap H locs → ∀ (ls : Array Slot), lv_has ls 5 [(0, .ref h0), (1, .ref h1), (2, .int (bI y1_0)), (3, .int (nI j1))] → WB_subtract p l e s m below meth c dC dI h0 h0d h1 h1d bh0 bh1 f k f2 k2 A H locs (F0 m 4 ls []) := by
    intro n1
    induction n1 with
    | zero =>
      intro j1 y1_0 y1_1 hj hq H locs hK hP hD hS ls hl
      refine lv_iload_n hx hb dB_subtract_4 rfl (lv_at hl 3 rfl) ?_
      refine lv_aload_n hx hb dB_subtract_5 rfl (lv_at hl 0 rfl) ?_
      refine va_get (D := (dC, dI)) (ci := 3) (v := .int (nI k)) (C := RB) (T := TB) (N := 2) hx hb hts (inC iB) hown hK hP 0 rfl rfl 1 (by decide) (hts _ (List.mem_cons_of_mem _ m2_79)) (fun _ h9 => h9) rfl dB_subtract_6 ?_
      refine lv_icmp_ge (tgt := 69) hx hb dB_subtract_9 (by decide) (fun c_1 => ?_) (fun c_1 => ?_)
      rotate_left
      · exact absurd ((nI_leI (a := k) (b := j1) (by omega) (by omega)).mpr (by omega)) c_1
      exact K_1 y1_0 y1_1 (by exact hq) _ _ (hK.sub [0, 1] rfl) (hP.sub [0, 1, 2, 3] rfl) (hD.sub [0, 1, 2, 3] (by decide) rfl) hS ls (lv_sub hl [0] rfl)
    | succ n1 ih =>
      intro j1 y1_0 y1_1 hj hq H locs hK hP hD hS ls hl
      refine lv_iload_n hx hb dB_subtract_4 rfl (lv_at hl 3 rfl) ?_
      refine lv_aload_n hx hb dB_subtract_5 rfl (lv_at hl 0 rfl) ?_
      refine va_get (D := (dC, dI)) (ci := 3) (v := .int (nI k)) (C := RB) (T := TB) (N := 2) hx hb hts (inC iB) hown hK hP 0 rfl rfl 1 (by decide) (hts _ (List.mem_cons_of_mem _ m2_79)) (fun _ h9 => h9) rfl dB_subtract_6 ?_
      refine lv_icmp_ge (tgt := 69) hx hb dB_subtract_9 (by decide) (fun c_2 => ?_) (fun c_2 => ?_)
      · exact absurd ((nI_leI (a := k) (b := j1) (by omega) (by omega)).mp c_2) (by omega)
      refine lv_aload_n hx hb dB_subtract_12 rfl (lv_at hl 0 rfl) ?_
      refine va_get (D := (dC, dI)) (ci := 3) (v := .ref h0d) (C := RB) (T := TB) (N := 2) hx hb hts (inC iB) hown hK hP 0 rfl rfl 0 (by decide) (hts _ (List.mem_cons_of_mem _ m2_78)) (fun _ h9 => h9) rfl dB_subtract_13 ?_
      refine lv_iload_n hx hb dB_subtract_16 rfl (lv_at hl 3 rfl) ?_
      refine va_iald hx hb hK hP 1 0 rfl rfl (i := (nI j1)) (vp_in_nI (n := j1) (by omega) (by omega)) dB_subtract_17 ?_
      refine lv_topi (fun w9 e9 => ?_)
      have e9 : w9 = (v_B_subtract_4 k2 f2 j1 y1_0 y1_1) := e9.trans (congrArg y1_1 (nI_clamp (n := j1) (by omega)))
      rw [e9]
      refine lv_iload_n hx hb dB_subtract_18 rfl (lv_at hl 3 rfl) ?_
      refine lv_aload_n hx hb dB_subtract_19 rfl (lv_at hl 1 rfl) ?_
      refine va_get (D := (dC, dI)) (ci := 3) (v := .int (nI k2)) (C := RB) (T := TB) (N := 2) hx hb hts (inC iB) hown hK hP 2 rfl rfl 1 (by decide) (hts _ (List.mem_cons_of_mem _ m2_79)) (fun _ h9 => h9) rfl dB_subtract_20 ?_
      have J_1 : ∀ (w_0 : Int32), w_0 = (v_B_subtract_6 k2 f2 j1 y1_0 y1_1) → ∀ (H : Heap) (locs : List Loc), va_K (dC, dI) vwCl [(bh0, .int), (bh1, .int)] s → va_P (dC, dI) vwCl [(h0, .inr (3, [.ref h0d, .int (nI k)])), (h0d, .inl (bh0, 640, .inl y1_1)), (h1, .inr (3, [.ref h1d, .int (nI k2)])), (h1d, .inl (bh1, 640, .inl f2))] H → va_D A [(h0, .inr (3, [.ref h0d, .int (nI k)])), (h0d, .inl (bh0, 640, .inl y1_1)), (h1, .inr (3, [.ref h1d, .int (nI k2)])), (h1d, .inl (bh1, 640, .inl f2))] → va_S A s.heap H locs → ∀ (ls : Array Slot), lv_has ls 5 [(0, .ref h0), (1, .ref h1), (2, .int (bI y1_0)), (3, .int (nI j1))] → WB_subtract p l e s m below meth c dC dI h0 h0d h1 h1d bh0 bh1 f k f2 k2 A H locs (F0 m 36 ls [.int w_0, .int (v_B_subtract_4 k2 f2 j1 y1_0 y1_1)]) := by
        intro w_0 e_0
        rw [e_0]
        intro H locs hK hP hD hS ls hl
        refine lv_isub hx hb dB_subtract_36 ?_
        refine lv_iload_n hx hb dB_subtract_37 rfl (lv_at hl 2 rfl) ?_
        refine lv_isub hx hb dB_subtract_38 ?_
        refine lv_topi (fun w9 e9 => ?_)
        have e9 : w9 = (v_B_subtract_7 k2 f2 j1 y1_0 y1_1) := e9
        rw [e9]
        refine lv_istore (lv' := [(4, .int (v_B_subtract_7 k2 f2 j1 y1_0 y1_1)), (0, .ref h0), (1, .ref h1), (2, .int (bI y1_0)), (3, .int (nI j1))]) hx hb dB_subtract_39 hl (by decide) rfl (fun ls hl => ?_)
        refine lv_aload_n hx hb dB_subtract_41 rfl (lv_at hl 1 rfl) ?_
        refine va_get (D := (dC, dI)) (ci := 3) (v := .ref h0d) (C := RB) (T := TB) (N := 2) hx hb hts (inC iB) hown hK hP 0 rfl rfl 0 (by decide) (hts _ (List.mem_cons_of_mem _ m2_78)) (fun _ h9 => h9) rfl dB_subtract_42 ?_
        refine lv_iload_n hx hb dB_subtract_45 rfl (lv_at hl 4 rfl) ?_
        refine lv_iload hx hb dB_subtract_46 (lv_at hl 0 rfl) ?_
        refine lv_ldc (v := 65535) hx hb hown (hts _ (List.mem_cons_of_mem _ m2_188)) dB_subtract_48 ?_
        refine lv_iand hx hb dB_subtract_50 ?_
        refine lv_topi (fun w9 e9 => ?_)
        have e9 : w9 = (v_B_subtract_8 k2 f2 j1 y1_0 y1_1) := e9
        rw [e9]
        refine va_iast hx hb hK hP hD hS 1 0 rfl rfl (i := (nI j1)) (x := (v_B_subtract_8 k2 f2 j1 y1_0 y1_1)) (vp_in_nI (n := j1) (by omega) (by omega)) dB_subtract_51 (fun H locs hP hD hS => ?_)
        have hP : va_P (dC, dI) vwCl [(h0, .inr (3, [.ref h0d, .int (nI k)])), (h0d, .inl (bh0, 640, .inl (upd y1_1 (nI j1).toNatClampNeg (v_B_subtract_8 k2 f2 j1 y1_0 y1_1)))), (h1, .inr (3, [.ref h1d, .int (nI k2)])), (h1d, .inl (bh1, 640, .inl f2))] H := hP
        have hD : va_D A [(h0, .inr (3, [.ref h0d, .int (nI k)])), (h0d, .inl (bh0, 640, .inl (upd y1_1 (nI j1).toNatClampNeg (v_B_subtract_8 k2 f2 j1 y1_0 y1_1)))), (h1, .inr (3, [.ref h1d, .int (nI k2)])), (h1d, .inl (bh1, 640, .inl f2))] := hD
        have e9 : upd y1_1 (nI j1).toNatClampNeg (v_B_subtract_8 k2 f2 j1 y1_0 y1_1) = (v_B_subtract_9 k2 f2 j1 y1_0 y1_1) := congrArg (fun z => upd y1_1 z (v_B_subtract_8 k2 f2 j1 y1_0 y1_1)) (nI_clamp (n := j1) (by omega))
        rw [e9] at hP hD
        have hP : va_P (dC, dI) vwCl [(h0, .inr (3, [.ref h0d, .int (nI k)])), (h0d, .inl (bh0, 640, .inl (v_B_subtract_9 k2 f2 j1 y1_0 y1_1))), (h1, .inr (3, [.ref h1d, .int (nI k2)])), (h1d, .inl (bh1, 640, .inl f2))] H := hP
        have hD : va_D A [(h0, .inr (3, [.ref h0d, .int (nI k)])), (h0d, .inl (bh0, 640, .inl (v_B_subtract_9 k2 f2 j1 y1_0 y1_1))), (h1, .inr (3, [.ref h1d, .int (nI k2)])), (h1d, .inl (bh1, 640, .inl f2))] := hD
        refine lv_iload hx hb dB_subtract_52 (lv_at hl 0 rfl) ?_
        have J_2 : ∀ (w_0 : Bool), w_0 = (v_B_subtract_10 k2 f2 j1 y1_0 y1_1) → ∀ (H : Heap) (locs : List Loc), va_K (dC, dI) vwCl [(bh0, .int), (bh1, .int)] s → va_P (dC, dI) vwCl [(h0, .inr (3, [.ref h0d, .int (nI k)])), (h0d, .inl (bh0, 640, .inl (v_B_subtract_9 k2 f2 j1 y1_0 y1_1))), (h1, .inr (3, [.ref h1d, .int (nI k2)])), (h1d, .inl (bh1, 640, .inl f2))] H → va_D A [(h0, .inr (3, [.ref h0d, .int (nI k)])), (h0d, .inl (bh0, 640, .inl (v_B_subtract_9 k2 f2 j1 y1_0 y1_1))), (h1, .inr (3, [.ref h1d, .int (nI k2)])), (h1d, .inl (bh1, 640, .inl f2))] → va_S A s.heap H locs → ∀ (ls : Array Slot), lv_has ls 5 [(0, .ref h0), (1, .ref h1), (3, .int (nI j1))] → WB_subtract p l e s m below meth c dC dI h0 h0d h1 h1d bh0 bh1 f k f2 k2 A H locs (F0 m 62 ls [.int (bI w_0)]) := by
          intro w_0 e_0
          rw [e_0]
          intro H locs hK hP hD hS ls hl
          refine lv_istore_n (lv' := [(2, .int (bI (v_B_subtract_10 k2 f2 j1 y1_0 y1_1))), (0, .ref h0), (1, .ref h1), (3, .int (nI j1))]) hx hb dB_subtract_62 rfl hl (by decide) rfl (fun ls hl => ?_)
          refine lv_iinc (v := (nI (j1 + 1))) (lv' := [(3, .int (nI (j1 + 1))), (2, .int (bI (v_B_subtract_10 k2 f2 j1 y1_0 y1_1))), (0, .ref h0), (1, .ref h1)]) hx hb dB_subtract_63 hl (k := 3) rfl (nI_1 _) (by decide) rfl (fun ls hl => ?_)
          refine lv_goto (tgt := 4) hx hb dB_subtract_66 (by decide) ?_
          exact ih (j1 + 1) (v_B_subtract_10 k2 f2 j1 y1_0 y1_1) (v_B_subtract_9 k2 f2 j1 y1_0 y1_1) (by omega) (by exact hq) _ _ (hK.sub [0, 1] rfl) (hP.sub [0, 1, 2, 3] rfl) (hD.sub [0, 1, 2, 3] (by decide) rfl) hS ls (lv_sub hl [2, 3, 1, 0] rfl)
        refine lv_if_ge (tgt := 61) hx hb dB_subtract_54 (by decide) (fun c_4 => ?_) (fun c_4 => ?_)
        · refine lv_iconst (v := 0) hx hb dB_subtract_61 (by decide) ?_
          exact J_2 false ((if_pos c_4)).symm _ _ (hK.sub [0, 1] rfl) (hP.sub [0, 1, 2, 3] rfl) (hD.sub [0, 1, 2, 3] (by decide) rfl) hS ls (lv_sub hl [1, 2, 4] rfl)
        · refine lv_iconst (v := 1) hx hb dB_subtract_57 (by decide) ?_
          refine lv_goto (tgt := 62) hx hb dB_subtract_58 (by decide) ?_
          exact J_2 true ((if_neg c_4)).symm _ _ (hK.sub [0, 1] rfl) (hP.sub [0, 1, 2, 3] rfl) (hD.sub [0, 1, 2, 3] (by decide) rfl) hS ls (lv_sub hl [1, 2, 4] rfl)
      refine lv_icmp_ge (tgt := 35) hx hb dB_subtract_23 (by decide) (fun c_3 => ?_) (fun c_3 => ?_)
      · refine lv_iconst (v := 0) hx hb dB_subtract_35 (by decide) ?_
        exact J_1 (0 : Int32) ((if_pos c_3)).symm _ _ (hK.sub [0, 1] rfl) (hP.sub [0, 1, 2, 3] rfl) (hD.sub [0, 1, 2, 3] (by decide) rfl) hS ls (lv_sub hl [0, 1, 2, 3] rfl)
      · have hj2 : j1 < k2 := Nat.lt_of_not_le (fun q => c_3 ((nI_leI (by omega) (by omega)).mpr q))
        refine lv_aload_n hx hb dB_subtract_26 rfl (lv_at hl 1 rfl) ?_
        refine va_get (D := (dC, dI)) (ci := 3) (v := .ref h1d) (C := RB) (T := TB) (N := 2) hx hb hts (inC iB) hown hK hP 2 rfl rfl 0 (by decide) (hts _ (List.mem_cons_of_mem _ m2_78)) (fun _ h9 => h9) rfl dB_subtract_27 ?_
        refine lv_iload_n hx hb dB_subtract_30 rfl (lv_at hl 3 rfl) ?_
        refine va_iald hx hb hK hP 3 1 rfl rfl (i := (nI j1)) (vp_in_nI (n := j1) (by omega) (by omega)) dB_subtract_31 ?_
        refine lv_topi (fun w9 e9 => ?_)
        have e9 : w9 = (v_B_subtract_5 k2 f2 j1 y1_0 y1_1) := e9.trans (congrArg f2 (nI_clamp (n := j1) (by omega)))
        rw [e9]
        refine lv_goto (tgt := 36) hx hb dB_subtract_32 (by decide) ?_
        exact J_1 (v_B_subtract_5 k2 f2 j1 y1_0 y1_1) ((if_neg c_3)).symm _ _ (hK.sub [0, 1] rfl) (hP.sub [0, 1, 2, 3] rfl) (hD.sub [0, 1, 2, 3] (by decide) rfl) hS ls (lv_sub hl [0, 1, 2, 3] rfl)
  exact L_1 k 0 false f (by omega) rfl _ _ (hK.sub [0, 1] rfl) (hP.sub [0, 1, 2, 3] rfl) (hD.sub [0, 1, 2, 3] (by decide) rfl) hS ls (lv_sub hl [2, 3, 1, 0] rfl)
def v_B_product_1 (f : Nat → Int32) (k : Nat) (f2 : Nat → Int32) (k2 : Nat) (f3 : Nat → Int32) (k3 : Nat) : Nat := (if (nI k2) = 0 then 0 else (if (nI k3) = 0 then 0 else k2 + k3))
def v_B_product_8 (j2 : Nat) (f2 : Nat → Int32) (f3 : Nat → Int32) (j3 : Nat) (y3_0 : Int64) (y3_1 : Nat → Int32) : Int32 := f2 j2
def v_B_product_9 (j2 : Nat) (f2 : Nat → Int32) (f3 : Nat → Int32) (j3 : Nat) (y3_0 : Int64) (y3_1 : Nat → Int32) : Int32 := f3 j3
def v_B_product_10 (j2 : Nat) (f2 : Nat → Int32) (f3 : Nat → Int32) (j3 : Nat) (y3_0 : Int64) (y3_1 : Nat → Int32) : Int32 := y3_1 (j2 + j3)
def v_B_product_11 (j2 : Nat) (f2 : Nat → Int32) (f3 : Nat → Int32) (j3 : Nat) (y3_0 : Int64) (y3_1 : Nat → Int32) : Int64 := (((v_B_product_8 j2 f2 f3 j3 y3_0 y3_1).toInt64 * (v_B_product_9 j2 f2 f3 j3 y3_0 y3_1).toInt64) + (v_B_product_10 j2 f2 f3 j3 y3_0 y3_1).toInt64) + y3_0
def v_B_product_12 (j2 : Nat) (f2 : Nat → Int32) (f3 : Nat → Int32) (j3 : Nat) (y3_0 : Int64) (y3_1 : Nat → Int32) : Int32 := ((v_B_product_11 j2 f2 f3 j3 y3_0 y3_1) &&& (65535 : Int64)).toInt32
def v_B_product_13 (j2 : Nat) (f2 : Nat → Int32) (f3 : Nat → Int32) (j3 : Nat) (y3_0 : Int64) (y3_1 : Nat → Int32) : Nat → Int32 := upd y3_1 (j2 + j3) (v_B_product_12 j2 f2 f3 j3 y3_0 y3_1)
def v_B_product_14 (j2 : Nat) (f2 : Nat → Int32) (f3 : Nat → Int32) (j3 : Nat) (y3_0 : Int64) (y3_1 : Nat → Int32) : Int64 := jlshr (v_B_product_11 j2 f2 f3 j3 y3_0 y3_1) (16 : Int32)
def v_B_product_15 (j1 : Nat) (y1_0 : Nat → Int32) : Nat → Int32 := upd y1_0 j1 (0 : Int32)
def qB_product_77 (j2 : Nat) (f2 : Nat → Int32) (f3 : Nat → Int32) : Nat → Nat → Int64 → (Nat → Int32) → Int64 × (Nat → Int32)
  | 0, j3, y3_0, y3_1 => (y3_0, y3_1)
  | n3 + 1, j3, y3_0, y3_1 => qB_product_77 j2 f2 f3 n3 (j3 + 1) (v_B_product_14 j2 f2 f3 j3 y3_0 y3_1) (v_B_product_13 j2 f2 f3 j3 y3_0 y3_1)
def qB_product_33 : Nat → Nat → (Nat → Int32) → (Nat → Int32)
  | 0, j1, y1_0 => y1_0
  | n1 + 1, j1, y1_0 => qB_product_33 n1 (j1 + 1) (v_B_product_15 j1 y1_0)
def v_B_product_2 (f : Nat → Int32) (k : Nat) (f2 : Nat → Int32) (k2 : Nat) (f3 : Nat → Int32) (k3 : Nat) : Nat → Int32 := qB_product_33 (v_B_product_1 f k f2 k2 f3 k3) 0 f
def v_B_product_5 (x_1 : Nat) (k2 : Nat) (k3 : Nat) (f2 : Nat → Int32) (f3 : Nat → Int32) (j2 : Nat) (y2_0 : Nat → Int32) : Int64 := (qB_product_77 j2 f2 f3 k3 0 (0 : Int64) y2_0).1
def v_B_product_6 (x_1 : Nat) (k2 : Nat) (k3 : Nat) (f2 : Nat → Int32) (f3 : Nat → Int32) (j2 : Nat) (y2_0 : Nat → Int32) : Nat → Int32 := (qB_product_77 j2 f2 f3 k3 0 (0 : Int64) y2_0).2
def v_B_product_7 (x_1 : Nat) (k2 : Nat) (k3 : Nat) (f2 : Nat → Int32) (f3 : Nat → Int32) (j2 : Nat) (y2_0 : Nat → Int32) : Nat → Int32 := upd (v_B_product_6 x_1 k2 k3 f2 f3 j2 y2_0) (j2 + k3) (v_B_product_5 x_1 k2 k3 f2 f3 j2 y2_0).toInt32
def qB_product_56 (x_1 : Nat) (k2 : Nat) (k3 : Nat) (f2 : Nat → Int32) (f3 : Nat → Int32) : Nat → Nat → (Nat → Int32) → (Nat → Int32)
  | 0, j2, y2_0 => y2_0
  | n2 + 1, j2, y2_0 => (if (nI x_1) ≤ 0 then y2_0 else qB_product_56 x_1 k2 k3 f2 f3 n2 (j2 + 1) (v_B_product_7 x_1 k2 k3 f2 f3 j2 y2_0))
def v_B_product_3 (f : Nat → Int32) (k : Nat) (f2 : Nat → Int32) (k2 : Nat) (f3 : Nat → Int32) (k3 : Nat) : Nat → Int32 := qB_product_56 (v_B_product_1 f k f2 k2 f3 k3) k2 k3 f2 f3 k2 0 (v_B_product_2 f k f2 k2 f3 k3)
def v_B_product_4 (f : Nat → Int32) (k : Nat) (f2 : Nat → Int32) (k2 : Nat) (f3 : Nat → Int32) (k3 : Nat) : Nat := pB_trim_0 (v_B_product_3 f k f2 k2 f3 k3) (v_B_product_1 f k f2 k2 f3 k3)
def pB_product_0 (f : Nat → Int32) (k : Nat) (f2 : Nat → Int32) (k2 : Nat) (f3 : Nat → Int32) (k3 : Nat) : Nat → Int32 := (v_B_product_3 f k f2 k2 f3 k3)
def pB_product_1 (f : Nat → Int32) (k : Nat) (f2 : Nat → Int32) (k2 : Nat) (f3 : Nat → Int32) (k3 : Nat) : Nat := (v_B_product_4 f k f2 k2 f3 k3)
/-- B_product -/
abbrev atB_product (dC : Nat → ClassId) (dI : Nat → Nat → Nat) (h0 h0d h1 h1d h2 h2d : Nat) (bh0 bh1 bh2 : ClassId) (f : Nat → Int32) (k : Nat) (f2 : Nat → Int32) (k2 : Nat) (f3 : Nat → Int32) (k3 : Nat) (A : Nat → Prop) (t : State) : Prop := va_P (dC, dI) vwCl [(h0, .inr (3, [.ref h0d, .int (nI (pB_product_1 f k f2 k2 f3 k3))])), (h0d, .inl (bh0, 640, .inl (pB_product_0 f k f2 k2 f3 k3))), (h1, .inr (3, [.ref h1d, .int (nI k2)])), (h1d, .inl (bh1, 640, .inl f2)), (h2, .inr (3, [.ref h2d, .int (nI k3)])), (h2d, .inl (bh2, 640, .inl f3))] t.heap ∧ va_K (dC, dI) vwCl [(bh0, .int), (bh1, .int), (bh2, .int)] t ∧ va_D A [(h0, .inr (3, [.ref h0d, .int (nI (pB_product_1 f k f2 k2 f3 k3))])), (h0d, .inl (bh0, 640, .inl (pB_product_0 f k f2 k2 f3 k3))), (h1, .inr (3, [.ref h1d, .int (nI k2)])), (h1d, .inl (bh1, 640, .inl f2)), (h2, .inr (3, [.ref h2d, .int (nI k3)])), (h2d, .inl (bh2, 640, .inl f3))]
theorem trB_product {dC : Nat → ClassId} {dI : Nat → Nat → Nat} {h0 h0d h1 h1d h2 h2d : Nat} {bh0 bh1 bh2 : ClassId} {f2 : Nat → Int32} {k2 : Nat} {f3 : Nat → Int32} {k3 : Nat} {A : Nat → Prop} {H : Heap} {a0 b0 : Nat → Int32} {a1 b1 : Nat} (e0 : a0 = b0) (e1 : a1 = b1) (h : va_P (dC, dI) vwCl [(h0, .inr (3, [.ref h0d, .int (nI a1)])), (h0d, .inl (bh0, 640, .inl a0)), (h1, .inr (3, [.ref h1d, .int (nI k2)])), (h1d, .inl (bh1, 640, .inl f2)), (h2, .inr (3, [.ref h2d, .int (nI k3)])), (h2d, .inl (bh2, 640, .inl f3))] H ∧ va_D A [(h0, .inr (3, [.ref h0d, .int (nI a1)])), (h0d, .inl (bh0, 640, .inl a0)), (h1, .inr (3, [.ref h1d, .int (nI k2)])), (h1d, .inl (bh1, 640, .inl f2)), (h2, .inr (3, [.ref h2d, .int (nI k3)])), (h2d, .inl (bh2, 640, .inl f3))]) : va_P (dC, dI) vwCl [(h0, .inr (3, [.ref h0d, .int (nI b1)])), (h0d, .inl (bh0, 640, .inl b0)), (h1, .inr (3, [.ref h1d, .int (nI k2)])), (h1d, .inl (bh1, 640, .inl f2)), (h2, .inr (3, [.ref h2d, .int (nI k3)])), (h2d, .inl (bh2, 640, .inl f3))] H ∧ va_D A [(h0, .inr (3, [.ref h0d, .int (nI b1)])), (h0d, .inl (bh0, 640, .inl b0)), (h1, .inr (3, [.ref h1d, .int (nI k2)])), (h1d, .inl (bh1, 640, .inl f2)), (h2, .inr (3, [.ref h2d, .int (nI k3)])), (h2d, .inl (bh2, 640, .inl f3))] := by
  subst e0
  subst e1
  exact h
abbrev WB_product (p : Program) (l : Launch) (e : Env) (s : State) (m : MethodId) (below : List Frame) (meth : Method) (c : Code) (dC : Nat → ClassId) (dI : Nat → Nat → Nat) (h0 h0d h1 h1d h2 h2d : Nat) (bh0 bh1 bh2 : ClassId) (f : Nat → Int32) (k : Nat) (f2 : Nat → Int32) (k2 : Nat) (f3 : Nat → Int32) (k3 : Nat) (A : Nat → Prop) (H : Heap) (locs : List Loc) (g : JFrame) : Prop := W p l e (headSpec wB_product ({ frames := 1, cells := 0, slots := 0, locals := 20 })).room s m ([.ref h0, .ref h1, .ref h2] : List Value).toArray below meth c H locs 0 0 (MQ below (va_Qv (fun (_ : Unit) => True) (fun _ => atB_product dC dI h0 h0d h1 h1d h2 h2d bh0 bh1 bh2 f k f2 k2 f3 k3 A) A) ([.ref h0, .ref h1, .ref h2] : List Value).toArray s 0 0 A) g
set_option maxHeartbeats 4000000 in
set_option maxRecDepth 100000 in
theorem kB_product (l : Launch) (dC : Nat → ClassId) (dI : Nat → Nat → Nat) (h0 h0d h1 h1d h2 h2d : Nat) (bh0 bh1 bh2 : ClassId) (sz : Nat) (f : Nat → Int32) (k : Nat) (f2 : Nat → Int32) (k2 : Nat) (f3 : Nat → Int32) (k3 : Nat) (hk : k2 + k3 ≤ 640) : Met l yB_product wB_product ({ frames := 1, cells := 0, slots := 0, locals := 20 }) (va_Pc [.ref h0, .ref h1, .ref h2] (fun U => U.heap.size = sz ∧ va_P (dC, dI) vwCl [(h0, .inr (3, [.ref h0d, .int (nI k)])), (h0d, .inl (bh0, 640, .inl f)), (h1, .inr (3, [.ref h1d, .int (nI k2)])), (h1d, .inl (bh1, 640, .inl f2)), (h2, .inr (3, [.ref h2d, .int (nI k3)])), (h2d, .inl (bh2, 640, .inl f3))] U.heap ∧ va_K (dC, dI) vwCl [(bh0, .int), (bh1, .int), (bh2, .int)] U ∧ va_D (fun _ => True) [(h0, .inr (3, [.ref h0d, .int (nI k)])), (h0d, .inl (bh0, 640, .inl f)), (h1, .inr (3, [.ref h1d, .int (nI k2)])), (h1d, .inl (bh1, 640, .inl f2)), (h2, .inr (3, [.ref h2d, .int (nI k3)])), (h2d, .inl (bh2, 640, .inl f3))] ∧ NW U)) (va_Qv (fun (_ : Unit) => True) (fun _ => atB_product dC dI h0 h0d h1 h1d h2 h2d bh0 bh1 bh2 f k f2 k2 f3 k3 (va_A [(h0, .inr (3, [.ref h0d, .int (nI k)])), (h0d, .inl (bh0, 640, .inl f)), (h1, .inr (3, [.ref h1d, .int (nI k2)])), (h1d, .inl (bh1, 640, .inl f2)), (h2, .inr (3, [.ref h2d, .int (nI k3)])), (h2d, .inl (bh2, 640, .inl f3))] sz)) (va_A [(h0, .inr (3, [.ref h0d, .int (nI k)])), (h0d, .inl (bh0, 640, .inl f)), (h1, .inr (3, [.ref h1d, .int (nI k2)])), (h1d, .inl (bh1, 640, .inl f2)), (h2, .inr (3, [.ref h2d, .int (nI k3)])), (h2d, .inl (bh2, 640, .inl f3))] sz)) 0 0 (va_A [(h0, .inr (3, [.ref h0d, .int (nI k)])), (h0d, .inl (bh0, 640, .inl f)), (h1, .inr (3, [.ref h1d, .int (nI k2)])), (h1d, .inl (bh1, 640, .inl f2)), (h2, .inr (3, [.ref h2d, .int (nI k3)])), (h2d, .inl (bh2, 640, .inl f3))] sz) := by
  refine Met.ofW (cc := cB_product) (maxL := 9) (ret := none) (by decide) rfl ?_
  intro p e s m args below meth c s₁ B hml hv
  obtain ⟨rfl, hsz, hP, hK, hD0, hN⟩ := hv
  have hx := B.exec
  have hb := B.bytes
  have hr := B.returns
  have hts := atoms_spec (ws := wB_product) B.pre
  have hown : s.vm.findClass RB = some m.cls := findClass_of_methodNamed B.named
  have hlocks := B.notSynchronized
  subst hsz
  have hD := hD0.self (sz := s.heap.size)
  generalize hAe : va_A [(h0, .inr (3, [.ref h0d, .int (nI k)])), (h0d, .inl (bh0, 640, .inl f)), (h1, .inr (3, [.ref h1d, .int (nI k2)])), (h1d, .inl (bh1, 640, .inl f2)), (h2, .inr (3, [.ref h2d, .int (nI k3)])), (h2d, .inl (bh2, 640, .inl f3))] s.heap.size = A at hD ⊢
  have hA : ∀ q : Nat, s.heap.size ≤ q → A q := fun q h => by rw [← hAe]; exact Or.inr h
  have hS : va_S A s.heap s.heap [] := va_S.rf
  have hP : va_P (dC, dI) vwCl [(h0, .inr (3, [.ref h0d, .int (nI k)])), (h0d, .inl (bh0, 640, .inl f)), (h1, .inr (3, [.ref h1d, .int (nI k2)])), (h1d, .inl (bh1, 640, .inl f2)), (h2, .inr (3, [.ref h2d, .int (nI k3)])), (h2d, .inl (bh2, 640, .inl f3))] s.heap := hP
  have hl := lv_entry ([.ref h0, .ref h1, .ref h2]) (n := 9) (Nat.le_of_ble_eq_true rfl)
  rw [lg_entry_eq]
  generalize (lg_sl ([.ref h0, .ref h1, .ref h2]) ++ List.replicate (9 - (lg_sl ([.ref h0, .ref h1, .ref h2])).length) Slot.unset).toArray = ls at hl ⊢
  have hl : lv_has ls 9 [(0, .ref h0), (1, .ref h1), (2, .ref h2)] := hl
  refine lv_aload_n hx hb dB_product_0 rfl (lv_at hl 0 rfl) ?_
  refine lv_aload_n hx hb dB_product_1 rfl (lv_at hl 1 rfl) ?_
  refine va_get (D := (dC, dI)) (ci := 3) (v := .int (nI k2)) (C := RB) (T := TB) (N := 2) hx hb hts (inC iB) hown hK hP 2 rfl rfl 1 (by decide) (hts _ (List.mem_cons_of_mem _ m2_79)) (fun _ h9 => h9) rfl dB_product_2 ?_
  have J_1 : ∀ (w_0 : Nat), w_0 = (v_B_product_1 f k f2 k2 f3 k3) → ∀ (H : Heap) (locs : List Loc), va_K (dC, dI) vwCl [(bh0, .int), (bh1, .int), (bh2, .int)] s → va_P (dC, dI) vwCl [(h0, .inr (3, [.ref h0d, .int (nI k)])), (h0d, .inl (bh0, 640, .inl f)), (h1, .inr (3, [.ref h1d, .int (nI k2)])), (h1d, .inl (bh1, 640, .inl f2)), (h2, .inr (3, [.ref h2d, .int (nI k3)])), (h2d, .inl (bh2, 640, .inl f3))] H → va_D A [(h0, .inr (3, [.ref h0d, .int (nI k)])), (h0d, .inl (bh0, 640, .inl f)), (h1, .inr (3, [.ref h1d, .int (nI k2)])), (h1d, .inl (bh1, 640, .inl f2)), (h2, .inr (3, [.ref h2d, .int (nI k3)])), (h2d, .inl (bh2, 640, .inl f3))] → va_S A s.heap H locs → ∀ (ls : Array Slot), lv_has ls 9 [(0, .ref h0), (1, .ref h1), (2, .ref h2)] → WB_product p l e s m below meth c dC dI h0 h0d h1 h1d h2 h2d bh0 bh1 bh2 f k f2 k2 f3 k3 A H locs (F0 m 28 ls [.int (nI w_0), .ref h0]) := by
    intro w_0 e_0
    rw [e_0]
    intro H locs hK hP hD hS ls hl
    refine va_put (D := (dC, dI)) (ci := 3) (v := .int (nI (v_B_product_1 f k f2 k2 f3 k3))) (ty := .int) (C := RB) (T := TB) (N := 2) hx hb hts (inC iB) tyB tyB_ok nmB hown hK hP hD hS 0 rfl rfl 1 (by decide) (hts _ (List.mem_cons_of_mem _ m2_79)) (fun _ h9 => h9) rfl (by decide +kernel) rfl rfl (Nat.le_of_ble_eq_true rfl) dB_product_28 (fun H locs hP hD hS => ?_)
    have hP : va_P (dC, dI) vwCl [(h0, .inr (3, [.ref h0d, .int (nI (v_B_product_1 f k f2 k2 f3 k3))])), (h0d, .inl (bh0, 640, .inl f)), (h1, .inr (3, [.ref h1d, .int (nI k2)])), (h1d, .inl (bh1, 640, .inl f2)), (h2, .inr (3, [.ref h2d, .int (nI k3)])), (h2d, .inl (bh2, 640, .inl f3))] H := hP
    have hD : va_D A [(h0, .inr (3, [.ref h0d, .int (nI (v_B_product_1 f k f2 k2 f3 k3))])), (h0d, .inl (bh0, 640, .inl f)), (h1, .inr (3, [.ref h1d, .int (nI k2)])), (h1d, .inl (bh1, 640, .inl f2)), (h2, .inr (3, [.ref h2d, .int (nI k3)])), (h2d, .inl (bh2, 640, .inl f3))] := hD
    have hq1 : (v_B_product_1 f k f2 k2 f3 k3) ≤ 640 := nprod_le hk
    refine lv_iconst (v := 0) hx hb dB_product_31 (by decide) ?_
    refine lv_istore_n (lv' := [(3, .int (0 : Int32)), (0, .ref h0), (1, .ref h1), (2, .ref h2)]) hx hb dB_product_32 rfl hl (by decide) rfl (fun ls hl => ?_)
    have K_1 : ∀ (w_0 : Nat → Int32), w_0 = qB_product_33 (v_B_product_1 f k f2 k2 f3 k3) 0 f → ∀ (H : Heap) (locs : List Loc), va_K (dC, dI) vwCl [(bh0, .int), (bh1, .int), (bh2, .int)] s → va_P (dC, dI) vwCl [(h0, .inr (3, [.ref h0d, .int (nI (v_B_product_1 f k f2 k2 f3 k3))])), (h0d, .inl (bh0, 640, .inl w_0)), (h1, .inr (3, [.ref h1d, .int (nI k2)])), (h1d, .inl (bh1, 640, .inl f2)), (h2, .inr (3, [.ref h2d, .int (nI k3)])), (h2d, .inl (bh2, 640, .inl f3))] H → va_D A [(h0, .inr (3, [.ref h0d, .int (nI (v_B_product_1 f k f2 k2 f3 k3))])), (h0d, .inl (bh0, 640, .inl w_0)), (h1, .inr (3, [.ref h1d, .int (nI k2)])), (h1d, .inl (bh1, 640, .inl f2)), (h2, .inr (3, [.ref h2d, .int (nI k3)])), (h2d, .inl (bh2, 640, .inl f3))] → va_S A s.heap H locs → ∀ (ls : Array Slot), lv_has ls 9 [(0, .ref h0), (1, .ref h1), (2, .ref h2)] → WB_product p l e s m below meth c dC dI h0 h0d h1 h1d h2 h2d bh0 bh1 bh2 f k f2 k2 f3 k3 A H locs (F0 m 54 ls []) := by
      intro w_0 hz
      have e_0 : w_0 = (v_B_product_2 f k f2 k2 f3 k3) := hz
      rw [e_0]
      intro H locs hK hP hD hS ls hl
      refine lv_iconst (v := 0) hx hb dB_product_54 (by decide) ?_
      refine lv_istore_n (lv' := [(3, .int (0 : Int32)), (0, .ref h0), (1, .ref h1), (2, .ref h2)]) hx hb dB_product_55 rfl hl (by decide) rfl (fun ls hl => ?_)
      have K_2 : ∀ (w_0 : Nat → Int32), w_0 = qB_product_56 (v_B_product_1 f k f2 k2 f3 k3) k2 k3 f2 f3 k2 0 (v_B_product_2 f k f2 k2 f3 k3) → ∀ (H : Heap) (locs : List Loc), va_K (dC, dI) vwCl [(bh0, .int), (bh1, .int), (bh2, .int)] s → va_P (dC, dI) vwCl [(h0, .inr (3, [.ref h0d, .int (nI (v_B_product_1 f k f2 k2 f3 k3))])), (h0d, .inl (bh0, 640, .inl w_0)), (h1, .inr (3, [.ref h1d, .int (nI k2)])), (h1d, .inl (bh1, 640, .inl f2)), (h2, .inr (3, [.ref h2d, .int (nI k3)])), (h2d, .inl (bh2, 640, .inl f3))] H → va_D A [(h0, .inr (3, [.ref h0d, .int (nI (v_B_product_1 f k f2 k2 f3 k3))])), (h0d, .inl (bh0, 640, .inl w_0)), (h1, .inr (3, [.ref h1d, .int (nI k2)])), (h1d, .inl (bh1, 640, .inl f2)), (h2, .inr (3, [.ref h2d, .int (nI k3)])), (h2d, .inl (bh2, 640, .inl f3))] → va_S A s.heap H locs → ∀ (ls : Array Slot), lv_has ls 9 [(0, .ref h0)] → WB_product p l e s m below meth c dC dI h0 h0d h1 h1d h2 h2d bh0 bh1 bh2 f k f2 k2 f3 k3 A H locs (F0 m 167 ls []) := by
        intro w_0 hz
        have e_0 : w_0 = (v_B_product_3 f k f2 k2 f3 k3) := hz
        rw [e_0]
        intro H locs hK hP hD hS ls hl
        refine lv_aload_n hx hb dB_product_167 rfl (lv_at hl 0 rfl) ?_
        have hPc := hP.sub (ws' := [(h0, .inr (3, [.ref h0d, .int (nI (v_B_product_1 f k f2 k2 f3 k3))])), (h0d, .inl (bh0, 640, .inl (v_B_product_3 f k f2 k2 f3 k3)))]) [0, 1] rfl
        have hDc := hD.sub (ws' := [(h0, .inr (3, [.ref h0d, .int (nI (v_B_product_1 f k f2 k2 f3 k3))])), (h0d, .inl (bh0, 640, .inl (v_B_product_3 f k f2 k2 f3 k3)))]) [0, 1] (by decide) rfl
        have hKc := hK.sub (tys' := [(bh0, .int)]) [0] rfl
        have hFc := va_free (wc := [(h0, .inr (3, [.ref h0d, .int (nI (v_B_product_1 f k f2 k2 f3 k3))])), (h0d, .inl (bh0, 640, .inl (v_B_product_3 f k f2 k2 f3 k3)))]) hD hS hA [0, 1] rfl
        refine va_callv (va_runV (As := []) (rest := []) ⟨hx, hb, hml, hown, hts⟩ (kB_trim l dC dI h0 h0d bh0 H.size (v_B_product_3 f k f2 k2 f3 k3) (v_B_product_1 f k f2 k2 f3 k3) hq1) (cwV 0 hts (g_call (List.forall_mem_cons.mpr ⟨m2_197, List.forall_mem_cons.mpr ⟨m2_199, List.forall_mem_cons.mpr ⟨m0_3, List.forall_mem_cons.mpr ⟨m1_5, fun _ h => absurd h List.not_mem_nil⟩⟩⟩⟩) m2_200) rfl rfl rfl (by decide +kernel) ⟨Nat.le_of_ble_eq_true rfl, Nat.le_of_ble_eq_true rfl⟩) ⟨fun a U g mk q => by obtain ⟨q0, q1, qP, qK, qD, qN⟩ := q; exact ⟨q0, q1, qP, va_K.moved (u := U) (U := U.calling g mk a) (Vm.Alike.refl U.vm) qK, qD, NW.same (u := U) rfl qN⟩, va_recv hKc hPc (ci := 3) (q0 := 0) rfl rfl, fun U hU hW => ⟨rfl, by rw [hU], by rw [hU]; exact hPc, va_K.moved hW.alike hKc, hDc.weaken (fun _ _ _ _ => trivial), NW.warm hW hN⟩⟩ rfl rfl hl.1 rfl (lv_room (Nat.le_of_ble_eq_true rfl)) dB_product_168 ⟨Nat.le_of_ble_eq_true rfl, Nat.le_of_ble_eq_true rfl⟩) hS (fun q _ h => hFc q h) hFc (fun u9 t H1 locs ht hvm hw hB hz1 hk1 hS => ?_)
        obtain ⟨hP1, hK1, hD1⟩ := hB
        rw [ht] at hP1
        have hK1 := va_K.moved hvm.symm hK1
        have hP1 : va_P (dC, dI) vwCl [(h0, .inr (3, [.ref h0d, .int (nI (v_B_product_4 f k f2 k2 f3 k3))])), (h0d, .inl (bh0, 640, .inl (v_B_product_3 f k f2 k2 f3 k3)))] H1 := hP1
        have hD1 : va_D _ [(h0, .inr (3, [.ref h0d, .int (nI (v_B_product_4 f k f2 k2 f3 k3))])), (h0d, .inl (bh0, 640, .inl (v_B_product_3 f k f2 k2 f3 k3)))] := hD1
        obtain ⟨hP, hD⟩ := va_join (wr := [(h1, .inr (3, [.ref h1d, .int (nI k2)])), (h1d, .inl (bh1, 640, .inl f2)), (h2, .inr (3, [.ref h2d, .int (nI k3)])), (h2d, .inl (bh2, 640, .inl f3))]) (w1 := [(h0, .inr (3, [.ref h0d, .int (nI (v_B_product_4 f k f2 k2 f3 k3))])), (h0d, .inl (bh0, 640, .inl (v_B_product_3 f k f2 k2 f3 k3)))]) hP hD [0, 1] [2, 3, 4, 5] rfl rfl (by decide) (by decide) hk1 hFc hP1 hD1
        have hK := (hK.sub (tys' := [(bh1, .int), (bh2, .int)]) [1, 2] rfl).app hK1
        generalize H1 = H at hP hS ⊢
        have hP : va_P (dC, dI) vwCl [(h1, .inr (3, [.ref h1d, .int (nI k2)])), (h1d, .inl (bh1, 640, .inl f2)), (h2, .inr (3, [.ref h2d, .int (nI k3)])), (h2d, .inl (bh2, 640, .inl f3)), (h0, .inr (3, [.ref h0d, .int (nI (v_B_product_4 f k f2 k2 f3 k3))])), (h0d, .inl (bh0, 640, .inl (v_B_product_3 f k f2 k2 f3 k3)))] H := hP
        have hD : va_D A [(h1, .inr (3, [.ref h1d, .int (nI k2)])), (h1d, .inl (bh1, 640, .inl f2)), (h2, .inr (3, [.ref h2d, .int (nI k3)])), (h2d, .inl (bh2, 640, .inl f3)), (h0, .inr (3, [.ref h0d, .int (nI (v_B_product_4 f k f2 k2 f3 k3))])), (h0d, .inl (bh0, 640, .inl (v_B_product_3 f k f2 k2 f3 k3)))] := hD
        have hK : va_K (dC, dI) vwCl [(bh1, .int), (bh2, .int), (bh0, .int)] s := hK
        have e9_0 : (v_B_product_3 f k f2 k2 f3 k3) = pB_product_0 f k f2 k2 f3 k3 := (rfl).symm
        have e9_1 : (v_B_product_4 f k f2 k2 f3 k3) = pB_product_1 f k f2 k2 f3 k3 := (rfl).symm
        have hP9 := hP.sub (ws' := [(h0, .inr (3, [.ref h0d, .int (nI (v_B_product_4 f k f2 k2 f3 k3))])), (h0d, .inl (bh0, 640, .inl (v_B_product_3 f k f2 k2 f3 k3))), (h1, .inr (3, [.ref h1d, .int (nI k2)])), (h1d, .inl (bh1, 640, .inl f2)), (h2, .inr (3, [.ref h2d, .int (nI k3)])), (h2d, .inl (bh2, 640, .inl f3))]) [4, 5, 0, 1, 2, 3] rfl
        have hD9 := hD.sub (ws' := [(h0, .inr (3, [.ref h0d, .int (nI (v_B_product_4 f k f2 k2 f3 k3))])), (h0d, .inl (bh0, 640, .inl (v_B_product_3 f k f2 k2 f3 k3))), (h1, .inr (3, [.ref h1d, .int (nI k2)])), (h1d, .inl (bh1, 640, .inl f2)), (h2, .inr (3, [.ref h2d, .int (nI k3)])), (h2d, .inl (bh2, 640, .inl f3))]) [4, 5, 0, 1, 2, 3] (by decide) rfl
        have hK9 := hK.sub (tys' := [(bh0, .int), (bh1, .int), (bh2, .int)]) [2, 0, 1] rfl
        have h9 := trB_product e9_0 e9_1 ⟨hP9, hD9⟩
        exact W.vret hx hb hr (fun t ht hW => ⟨⟨(), rfl, trivial, by rw [ht]; exact h9.1, va_K.moved hW.alike hK9, h9.2⟩, hS.F ht⟩) hS.2.2 dB_product_171
      have L_2 : ∀ (n2 j2 : Nat) (y2_0 : Nat → Int32), j2 + n2 = k2 → qB_product_56 (v_B_product_1 f k f2 k2 f3 k3) k2 k3 f2 f3 n2 j2 y2_0 = qB_product_56 (v_B_product_1 f k f2 k2 f3 k3) k2 k3 f2 f3 k2 0 (v_B_product_2 f k f2 k2 f3 k3) → ∀ (H : Heap) (locs : List Loc), va_K (dC, dI) vwCl [(bh0, .int), (bh1, .int), (bh2, .int)] s → va_P (dC, dI) vwCl [(h0, .inr (3, [.ref h0d, .int (nI (v_B_product_1 f k f2 k2 f3 k3))])), (h0d, .inl (bh0, 640, .inl y2_0)), (h1, .inr (3, [.ref h1d, .int (nI k2)])), (h1d, .inl (bh1, 640, .inl f2)), (h2, .inr (3, [.ref h2d, .int (nI k3)])), (h2d, .inl (bh2, 640, .inl f3))] H → va_D A [(h0, .inr (3, [.ref h0d, .int (nI (v_B_product_1 f k f2 k2 f3 k3))])), (h0d, .inl (bh0, 640, .inl y2_0)), (h1, .inr (3, [.ref h1d, .int (nI k2)])), (h1d, .inl (bh1, 640, .inl f2)), (h2, .inr (3, [.ref h2d, .int (nI k3)])), (h2d, .inl (bh2, 640, .inl f3))] → va_S A s.heap H locs → ∀ (ls : Array Slot), lv_has ls 9 [(0, .ref h0), (1, .ref h1), (2, .ref h2), (3, .int (nI j2))] → WB_product p l e s m below meth c dC dI h0 h0d h1 h1d h2 h2d bh0 bh1 bh2 f k f2 k2 f3 k3 A H locs (F0 m 56 ls []) := by
        intro n2
        induction n2 with
        | zero =>
          intro j2 y2_0 hj hq H locs hK hP hD hS ls hl
          refine lv_iload_n hx hb dB_product_56 rfl (lv_at hl 3 rfl) ?_
          refine lv_aload_n hx hb dB_product_57 rfl (lv_at hl 1 rfl) ?_
          refine va_get (D := (dC, dI)) (ci := 3) (v := .int (nI k2)) (C := RB) (T := TB) (N := 2) hx hb hts (inC iB) hown hK hP 2 rfl rfl 1 (by decide) (hts _ (List.mem_cons_of_mem _ m2_79)) (fun _ h9 => h9) rfl dB_product_58 ?_
          refine lv_icmp_ge (tgt := 167) hx hb dB_product_61 (by decide) (fun c_3 => ?_) (fun c_3 => ?_)
          rotate_left
          · exact absurd ((nI_leI (a := k2) (b := j2) (by omega) (by omega)).mpr (by omega)) c_3
          exact K_2 y2_0 (by exact hq) _ _ (hK.sub [0, 1, 2] rfl) (hP.sub [0, 1, 2, 3, 4, 5] rfl) (hD.sub [0, 1, 2, 3, 4, 5] (by decide) rfl) hS ls (lv_sub hl [0] rfl)
        | succ n2 ih =>
          intro j2 y2_0 hj hq H locs hK hP hD hS ls hl
          refine lv_iload_n hx hb dB_product_56 rfl (lv_at hl 3 rfl) ?_
          refine lv_aload_n hx hb dB_product_57 rfl (lv_at hl 1 rfl) ?_
          refine va_get (D := (dC, dI)) (ci := 3) (v := .int (nI k2)) (C := RB) (T := TB) (N := 2) hx hb hts (inC iB) hown hK hP 2 rfl rfl 1 (by decide) (hts _ (List.mem_cons_of_mem _ m2_79)) (fun _ h9 => h9) rfl dB_product_58 ?_
          refine lv_icmp_ge (tgt := 167) hx hb dB_product_61 (by decide) (fun c_4 => ?_) (fun c_4 => ?_)
          · exact absurd ((nI_leI (a := k2) (b := j2) (by omega) (by omega)).mp c_4) (by omega)
          refine lv_aload_n hx hb dB_product_64 rfl (lv_at hl 0 rfl) ?_
          refine va_get (D := (dC, dI)) (ci := 3) (v := .int (nI (v_B_product_1 f k f2 k2 f3 k3))) (C := RB) (T := TB) (N := 2) hx hb hts (inC iB) hown hK hP 0 rfl rfl 1 (by decide) (hts _ (List.mem_cons_of_mem _ m2_79)) (fun _ h9 => h9) rfl dB_product_65 ?_
          refine lv_if_le (tgt := 167) hx hb dB_product_68 (by decide) (fun c_5 => ?_) (fun c_5 => ?_)
          · exact K_2 y2_0 (by exact (Eq.trans ((if_pos c_5)).symm hq)) _ _ (hK.sub [0, 1, 2] rfl) (hP.sub [0, 1, 2, 3, 4, 5] rfl) (hD.sub [0, 1, 2, 3, 4, 5] (by decide) rfl) hS ls (lv_sub hl [0] rfl)
          · refine lv_lconst (v := 0) hx hb dB_product_71 (by decide) ?_
            refine lv_lstore (lv' := [(4, .long (0 : Int64)), (0, .ref h0), (1, .ref h1), (2, .ref h2), (3, .int (nI j2))]) hx hb dB_product_72 hl (by decide) rfl (fun ls hl => ?_)
            refine lv_iconst (v := 0) hx hb dB_product_74 (by decide) ?_
            refine lv_istore (lv' := [(6, .int (0 : Int32)), (4, .long (0 : Int64)), (0, .ref h0), (1, .ref h1), (2, .ref h2), (3, .int (nI j2))]) hx hb dB_product_75 hl (by decide) rfl (fun ls hl => ?_)
            have K_3 : ∀ (w_0 : Int64) (w_1 : Nat → Int32), (w_0, w_1) = qB_product_77 j2 f2 f3 k3 0 (0 : Int64) y2_0 → ∀ (H : Heap) (locs : List Loc), va_K (dC, dI) vwCl [(bh0, .int), (bh1, .int), (bh2, .int)] s → va_P (dC, dI) vwCl [(h0, .inr (3, [.ref h0d, .int (nI (v_B_product_1 f k f2 k2 f3 k3))])), (h0d, .inl (bh0, 640, .inl w_1)), (h1, .inr (3, [.ref h1d, .int (nI k2)])), (h1d, .inl (bh1, 640, .inl f2)), (h2, .inr (3, [.ref h2d, .int (nI k3)])), (h2d, .inl (bh2, 640, .inl f3))] H → va_D A [(h0, .inr (3, [.ref h0d, .int (nI (v_B_product_1 f k f2 k2 f3 k3))])), (h0d, .inl (bh0, 640, .inl w_1)), (h1, .inr (3, [.ref h1d, .int (nI k2)])), (h1d, .inl (bh1, 640, .inl f2)), (h2, .inr (3, [.ref h2d, .int (nI k3)])), (h2d, .inl (bh2, 640, .inl f3))] → va_S A s.heap H locs → ∀ (ls : Array Slot), lv_has ls 9 [(0, .ref h0), (1, .ref h1), (2, .ref h2), (3, .int (nI j2)), (4, .long w_0)] → WB_product p l e s m below meth c dC dI h0 h0d h1 h1d h2 h2d bh0 bh1 bh2 f k f2 k2 f3 k3 A H locs (F0 m 147 ls []) := by
              intro w_0 w_1 hz
              have e_0 : w_0 = (v_B_product_5 (v_B_product_1 f k f2 k2 f3 k3) k2 k3 f2 f3 j2 y2_0) := (congrArg (fun q => q.1) hz)
              have e_1 : w_1 = (v_B_product_6 (v_B_product_1 f k f2 k2 f3 k3) k2 k3 f2 f3 j2 y2_0) := (congrArg (fun q => q.2) hz)
              rw [e_0, e_1]
              intro H locs hK hP hD hS ls hl
              refine lv_aload_n hx hb dB_product_147 rfl (lv_at hl 0 rfl) ?_
              refine va_get (D := (dC, dI)) (ci := 3) (v := .ref h0d) (C := RB) (T := TB) (N := 2) hx hb hts (inC iB) hown hK hP 0 rfl rfl 0 (by decide) (hts _ (List.mem_cons_of_mem _ m2_78)) (fun _ h9 => h9) rfl dB_product_148 ?_
              refine lv_iload_n hx hb dB_product_151 rfl (lv_at hl 3 rfl) ?_
              refine lv_aload_n hx hb dB_product_152 rfl (lv_at hl 2 rfl) ?_
              refine va_get (D := (dC, dI)) (ci := 3) (v := .int (nI k3)) (C := RB) (T := TB) (N := 2) hx hb hts (inC iB) hown hK hP 4 rfl rfl 1 (by decide) (hts _ (List.mem_cons_of_mem _ m2_79)) (fun _ h9 => h9) rfl dB_product_153 ?_
              refine lv_iadd hx hb dB_product_156 ?_
              refine W.eq (g2 := F0 m 157 ls [.int (nI (j2 + k3)), .ref h0d]) (congrArg (fun z => F0 m 157 ls [.int z, .ref h0d]) (nI_add j2 k3)) ?_
              refine lv_lload hx hb dB_product_157 (lv_at hl 4 rfl) ?_
              refine lv_l2i (v := (v_B_product_5 (v_B_product_1 f k f2 k2 f3 k3) k2 k3 f2 f3 j2 y2_0).toInt32) hx hb dB_product_159 rfl ?_
              refine va_iast hx hb hK hP hD hS 1 0 rfl rfl (i := (nI (j2 + k3))) (x := (v_B_product_5 (v_B_product_1 f k f2 k2 f3 k3) k2 k3 f2 f3 j2 y2_0).toInt32) (vp_in_nI (n := j2 + k3) (by omega) (by omega)) dB_product_160 (fun H locs hP hD hS => ?_)
              have hP : va_P (dC, dI) vwCl [(h0, .inr (3, [.ref h0d, .int (nI (v_B_product_1 f k f2 k2 f3 k3))])), (h0d, .inl (bh0, 640, .inl (upd (v_B_product_6 (v_B_product_1 f k f2 k2 f3 k3) k2 k3 f2 f3 j2 y2_0) (nI (j2 + k3)).toNatClampNeg (v_B_product_5 (v_B_product_1 f k f2 k2 f3 k3) k2 k3 f2 f3 j2 y2_0).toInt32))), (h1, .inr (3, [.ref h1d, .int (nI k2)])), (h1d, .inl (bh1, 640, .inl f2)), (h2, .inr (3, [.ref h2d, .int (nI k3)])), (h2d, .inl (bh2, 640, .inl f3))] H := hP
              have hD : va_D A [(h0, .inr (3, [.ref h0d, .int (nI (v_B_product_1 f k f2 k2 f3 k3))])), (h0d, .inl (bh0, 640, .inl (upd (v_B_product_6 (v_B_product_1 f k f2 k2 f3 k3) k2 k3 f2 f3 j2 y2_0) (nI (j2 + k3)).toNatClampNeg (v_B_product_5 (v_B_product_1 f k f2 k2 f3 k3) k2 k3 f2 f3 j2 y2_0).toInt32))), (h1, .inr (3, [.ref h1d, .int (nI k2)])), (h1d, .inl (bh1, 640, .inl f2)), (h2, .inr (3, [.ref h2d, .int (nI k3)])), (h2d, .inl (bh2, 640, .inl f3))] := hD
              have e9 : upd (v_B_product_6 (v_B_product_1 f k f2 k2 f3 k3) k2 k3 f2 f3 j2 y2_0) (nI (j2 + k3)).toNatClampNeg (v_B_product_5 (v_B_product_1 f k f2 k2 f3 k3) k2 k3 f2 f3 j2 y2_0).toInt32 = (v_B_product_7 (v_B_product_1 f k f2 k2 f3 k3) k2 k3 f2 f3 j2 y2_0) := congrArg (fun z => upd (v_B_product_6 (v_B_product_1 f k f2 k2 f3 k3) k2 k3 f2 f3 j2 y2_0) z (v_B_product_5 (v_B_product_1 f k f2 k2 f3 k3) k2 k3 f2 f3 j2 y2_0).toInt32) (nI_clamp (n := j2 + k3) (by omega))
              rw [e9] at hP hD
              have hP : va_P (dC, dI) vwCl [(h0, .inr (3, [.ref h0d, .int (nI (v_B_product_1 f k f2 k2 f3 k3))])), (h0d, .inl (bh0, 640, .inl (v_B_product_7 (v_B_product_1 f k f2 k2 f3 k3) k2 k3 f2 f3 j2 y2_0))), (h1, .inr (3, [.ref h1d, .int (nI k2)])), (h1d, .inl (bh1, 640, .inl f2)), (h2, .inr (3, [.ref h2d, .int (nI k3)])), (h2d, .inl (bh2, 640, .inl f3))] H := hP
              have hD : va_D A [(h0, .inr (3, [.ref h0d, .int (nI (v_B_product_1 f k f2 k2 f3 k3))])), (h0d, .inl (bh0, 640, .inl (v_B_product_7 (v_B_product_1 f k f2 k2 f3 k3) k2 k3 f2 f3 j2 y2_0))), (h1, .inr (3, [.ref h1d, .int (nI k2)])), (h1d, .inl (bh1, 640, .inl f2)), (h2, .inr (3, [.ref h2d, .int (nI k3)])), (h2d, .inl (bh2, 640, .inl f3))] := hD
              refine lv_iinc (v := (nI (j2 + 1))) (lv' := [(3, .int (nI (j2 + 1))), (0, .ref h0), (1, .ref h1), (2, .ref h2), (4, .long (v_B_product_5 (v_B_product_1 f k f2 k2 f3 k3) k2 k3 f2 f3 j2 y2_0))]) hx hb dB_product_161 hl (k := 3) rfl (nI_1 _) (by decide) rfl (fun ls hl => ?_)
              refine lv_goto (tgt := 56) hx hb dB_product_164 (by decide) ?_
              exact ih (j2 + 1) (v_B_product_7 (v_B_product_1 f k f2 k2 f3 k3) k2 k3 f2 f3 j2 y2_0) (by omega) (by exact (Eq.trans ((if_neg c_5)).symm hq)) _ _ (hK.sub [0, 1, 2] rfl) (hP.sub [0, 1, 2, 3, 4, 5] rfl) (hD.sub [0, 1, 2, 3, 4, 5] (by decide) rfl) hS ls (lv_sub hl [1, 2, 3, 0] rfl)
            have L_3 : ∀ (n3 j3 : Nat) (y3_0 : Int64) (y3_1 : Nat → Int32), j3 + n3 = k3 → qB_product_77 j2 f2 f3 n3 j3 y3_0 y3_1 = qB_product_77 j2 f2 f3 k3 0 (0 : Int64) y2_0 → ∀ (H : Heap) (locs : List Loc), va_K (dC, dI) vwCl [(bh0, .int), (bh1, .int), (bh2, .int)] s → va_P (dC, dI) vwCl [(h0, .inr (3, [.ref h0d, .int (nI (v_B_product_1 f k f2 k2 f3 k3))])), (h0d, .inl (bh0, 640, .inl y3_1)), (h1, .inr (3, [.ref h1d, .int (nI k2)])), (h1d, .inl (bh1, 640, .inl f2)), (h2, .inr (3, [.ref h2d, .int (nI k3)])), (h2d, .inl (bh2, 640, .inl f3))] H → va_D A [(h0, .inr (3, [.ref h0d, .int (nI (v_B_product_1 f k f2 k2 f3 k3))])), (h0d, .inl (bh0, 640, .inl y3_1)), (h1, .inr (3, [.ref h1d, .int (nI k2)])), (h1d, .inl (bh1, 640, .inl f2)), (h2, .inr (3, [.ref h2d, .int (nI k3)])), (h2d, .inl (bh2, 640, .inl f3))] → va_S A s.heap H locs → ∀ (ls : Array Slot), lv_has ls 9 [(0, .ref h0), (1, .ref h1), (2, .ref h2), (3, .int (nI j2)), (4, .long y3_0), (6, .int (nI j3))] → WB_product p l e s m below meth c dC dI h0 h0d h1 h1d h2 h2d bh0 bh1 bh2 f k f2 k2 f3 k3 A H locs (F0 m 77 ls []) := by
              intro n3
              induction n3 with
              | zero =>
                intro j3 y3_0 y3_1 hj hq H locs hK hP hD hS ls hl
                refine lv_iload hx hb dB_product_77 (lv_at hl 5 rfl) ?_
                refine lv_aload_n hx hb dB_product_79 rfl (lv_at hl 2 rfl) ?_
                refine va_get (D := (dC, dI)) (ci := 3) (v := .int (nI k3)) (C := RB) (T := TB) (N := 2) hx hb hts (inC iB) hown hK hP 4 rfl rfl 1 (by decide) (hts _ (List.mem_cons_of_mem _ m2_79)) (fun _ h9 => h9) rfl dB_product_80 ?_
                refine lv_icmp_ge (tgt := 147) hx hb dB_product_83 (by decide) (fun c_6 => ?_) (fun c_6 => ?_)
                rotate_left
                · exact absurd ((nI_leI (a := k3) (b := j3) (by omega) (by omega)).mpr (by omega)) c_6
                exact K_3 y3_0 y3_1 (by exact hq) _ _ (hK.sub [0, 1, 2] rfl) (hP.sub [0, 1, 2, 3, 4, 5] rfl) (hD.sub [0, 1, 2, 3, 4, 5] (by decide) rfl) hS ls (lv_sub hl [0, 1, 2, 3, 4] rfl)
              | succ n3 ih =>
                intro j3 y3_0 y3_1 hj hq H locs hK hP hD hS ls hl
                refine lv_iload hx hb dB_product_77 (lv_at hl 5 rfl) ?_
                refine lv_aload_n hx hb dB_product_79 rfl (lv_at hl 2 rfl) ?_
                refine va_get (D := (dC, dI)) (ci := 3) (v := .int (nI k3)) (C := RB) (T := TB) (N := 2) hx hb hts (inC iB) hown hK hP 4 rfl rfl 1 (by decide) (hts _ (List.mem_cons_of_mem _ m2_79)) (fun _ h9 => h9) rfl dB_product_80 ?_
                refine lv_icmp_ge (tgt := 147) hx hb dB_product_83 (by decide) (fun c_7 => ?_) (fun c_7 => ?_)
                · exact absurd ((nI_leI (a := k3) (b := j3) (by omega) (by omega)).mp c_7) (by omega)
                refine lv_aload_n hx hb dB_product_86 rfl (lv_at hl 1 rfl) ?_
                refine va_get (D := (dC, dI)) (ci := 3) (v := .ref h1d) (C := RB) (T := TB) (N := 2) hx hb hts (inC iB) hown hK hP 2 rfl rfl 0 (by decide) (hts _ (List.mem_cons_of_mem _ m2_78)) (fun _ h9 => h9) rfl dB_product_87 ?_
                refine lv_iload_n hx hb dB_product_90 rfl (lv_at hl 3 rfl) ?_
                refine va_iald hx hb hK hP 3 1 rfl rfl (i := (nI j2)) (vp_in_nI (n := j2) (by omega) (by omega)) dB_product_91 ?_
                refine lv_topi (fun w9 e9 => ?_)
                have e9 : w9 = (v_B_product_8 j2 f2 f3 j3 y3_0 y3_1) := e9.trans (congrArg f2 (nI_clamp (n := j2) (by omega)))
                rw [e9]
                refine lv_i2l (v := (v_B_product_8 j2 f2 f3 j3 y3_0 y3_1).toInt64) hx hb dB_product_92 rfl ?_
                refine lv_aload_n hx hb dB_product_93 rfl (lv_at hl 2 rfl) ?_
                refine va_get (D := (dC, dI)) (ci := 3) (v := .ref h2d) (C := RB) (T := TB) (N := 2) hx hb hts (inC iB) hown hK hP 4 rfl rfl 0 (by decide) (hts _ (List.mem_cons_of_mem _ m2_78)) (fun _ h9 => h9) rfl dB_product_94 ?_
                refine lv_iload hx hb dB_product_97 (lv_at hl 5 rfl) ?_
                refine va_iald hx hb hK hP 5 2 rfl rfl (i := (nI j3)) (vp_in_nI (n := j3) (by omega) (by omega)) dB_product_99 ?_
                refine lv_topi (fun w9 e9 => ?_)
                have e9 : w9 = (v_B_product_9 j2 f2 f3 j3 y3_0 y3_1) := e9.trans (congrArg f3 (nI_clamp (n := j3) (by omega)))
                rw [e9]
                refine lv_i2l (v := (v_B_product_9 j2 f2 f3 j3 y3_0 y3_1).toInt64) hx hb dB_product_100 rfl ?_
                refine lv_lmul hx hb dB_product_101 ?_
                refine lv_aload_n hx hb dB_product_102 rfl (lv_at hl 0 rfl) ?_
                refine va_get (D := (dC, dI)) (ci := 3) (v := .ref h0d) (C := RB) (T := TB) (N := 2) hx hb hts (inC iB) hown hK hP 0 rfl rfl 0 (by decide) (hts _ (List.mem_cons_of_mem _ m2_78)) (fun _ h9 => h9) rfl dB_product_103 ?_
                refine lv_iload_n hx hb dB_product_106 rfl (lv_at hl 3 rfl) ?_
                refine lv_iload hx hb dB_product_107 (lv_at hl 5 rfl) ?_
                refine lv_iadd hx hb dB_product_109 ?_
                refine W.eq (g2 := F0 m 110 ls [.int (nI (j2 + j3)), .ref h0d, .long ((v_B_product_8 j2 f2 f3 j3 y3_0 y3_1).toInt64 * (v_B_product_9 j2 f2 f3 j3 y3_0 y3_1).toInt64)]) (congrArg (fun z => F0 m 110 ls [.int z, .ref h0d, .long ((v_B_product_8 j2 f2 f3 j3 y3_0 y3_1).toInt64 * (v_B_product_9 j2 f2 f3 j3 y3_0 y3_1).toInt64)]) (nI_add j2 j3)) ?_
                refine va_iald hx hb hK hP 1 0 rfl rfl (i := (nI (j2 + j3))) (vp_in_nI (n := j2 + j3) (by omega) (by omega)) dB_product_110 ?_
                refine lv_topi (fun w9 e9 => ?_)
                have e9 : w9 = (v_B_product_10 j2 f2 f3 j3 y3_0 y3_1) := e9.trans (congrArg y3_1 (nI_clamp (n := j2 + j3) (by omega)))
                rw [e9]
                refine lv_i2l (v := (v_B_product_10 j2 f2 f3 j3 y3_0 y3_1).toInt64) hx hb dB_product_111 rfl ?_
                refine lv_ladd hx hb dB_product_112 ?_
                refine lv_lload hx hb dB_product_113 (lv_at hl 4 rfl) ?_
                refine lv_ladd hx hb dB_product_115 ?_
                refine lv_topl (fun w9 e9 => ?_)
                have e9 : w9 = (v_B_product_11 j2 f2 f3 j3 y3_0 y3_1) := e9
                rw [e9]
                refine lv_lstore (lv' := [(7, .long (v_B_product_11 j2 f2 f3 j3 y3_0 y3_1)), (0, .ref h0), (1, .ref h1), (2, .ref h2), (3, .int (nI j2)), (4, .long y3_0), (6, .int (nI j3))]) hx hb dB_product_116 hl (by decide) rfl (fun ls hl => ?_)
                refine lv_aload_n hx hb dB_product_118 rfl (lv_at hl 1 rfl) ?_
                refine va_get (D := (dC, dI)) (ci := 3) (v := .ref h0d) (C := RB) (T := TB) (N := 2) hx hb hts (inC iB) hown hK hP 0 rfl rfl 0 (by decide) (hts _ (List.mem_cons_of_mem _ m2_78)) (fun _ h9 => h9) rfl dB_product_119 ?_
                refine lv_iload_n hx hb dB_product_122 rfl (lv_at hl 4 rfl) ?_
                refine lv_iload hx hb dB_product_123 (lv_at hl 6 rfl) ?_
                refine lv_iadd hx hb dB_product_125 ?_
                refine W.eq (g2 := F0 m 126 ls [.int (nI (j2 + j3)), .ref h0d]) (congrArg (fun z => F0 m 126 ls [.int z, .ref h0d]) (nI_add j2 j3)) ?_
                refine lv_lload hx hb dB_product_126 (lv_at hl 0 rfl) ?_
                refine lv_ldc2 (v := 65535) hx hb hown (hts _ (List.mem_cons_of_mem _ m2_163)) dB_product_128 ?_
                refine lv_land hx hb dB_product_131 ?_
                refine lv_l2i (v := ((v_B_product_11 j2 f2 f3 j3 y3_0 y3_1) &&& (65535 : Int64)).toInt32) hx hb dB_product_132 rfl ?_
                refine lv_topi (fun w9 e9 => ?_)
                have e9 : w9 = (v_B_product_12 j2 f2 f3 j3 y3_0 y3_1) := e9
                rw [e9]
                refine va_iast hx hb hK hP hD hS 1 0 rfl rfl (i := (nI (j2 + j3))) (x := (v_B_product_12 j2 f2 f3 j3 y3_0 y3_1)) (vp_in_nI (n := j2 + j3) (by omega) (by omega)) dB_product_133 (fun H locs hP hD hS => ?_)
                have hP : va_P (dC, dI) vwCl [(h0, .inr (3, [.ref h0d, .int (nI (v_B_product_1 f k f2 k2 f3 k3))])), (h0d, .inl (bh0, 640, .inl (upd y3_1 (nI (j2 + j3)).toNatClampNeg (v_B_product_12 j2 f2 f3 j3 y3_0 y3_1)))), (h1, .inr (3, [.ref h1d, .int (nI k2)])), (h1d, .inl (bh1, 640, .inl f2)), (h2, .inr (3, [.ref h2d, .int (nI k3)])), (h2d, .inl (bh2, 640, .inl f3))] H := hP
                have hD : va_D A [(h0, .inr (3, [.ref h0d, .int (nI (v_B_product_1 f k f2 k2 f3 k3))])), (h0d, .inl (bh0, 640, .inl (upd y3_1 (nI (j2 + j3)).toNatClampNeg (v_B_product_12 j2 f2 f3 j3 y3_0 y3_1)))), (h1, .inr (3, [.ref h1d, .int (nI k2)])), (h1d, .inl (bh1, 640, .inl f2)), (h2, .inr (3, [.ref h2d, .int (nI k3)])), (h2d, .inl (bh2, 640, .inl f3))] := hD
                have e9 : upd y3_1 (nI (j2 + j3)).toNatClampNeg (v_B_product_12 j2 f2 f3 j3 y3_0 y3_1) = (v_B_product_13 j2 f2 f3 j3 y3_0 y3_1) := congrArg (fun z => upd y3_1 z (v_B_product_12 j2 f2 f3 j3 y3_0 y3_1)) (nI_clamp (n := j2 + j3) (by omega))
                rw [e9] at hP hD
                have hP : va_P (dC, dI) vwCl [(h0, .inr (3, [.ref h0d, .int (nI (v_B_product_1 f k f2 k2 f3 k3))])), (h0d, .inl (bh0, 640, .inl (v_B_product_13 j2 f2 f3 j3 y3_0 y3_1))), (h1, .inr (3, [.ref h1d, .int (nI k2)])), (h1d, .inl (bh1, 640, .inl f2)), (h2, .inr (3, [.ref h2d, .int (nI k3)])), (h2d, .inl (bh2, 640, .inl f3))] H := hP
                have hD : va_D A [(h0, .inr (3, [.ref h0d, .int (nI (v_B_product_1 f k f2 k2 f3 k3))])), (h0d, .inl (bh0, 640, .inl (v_B_product_13 j2 f2 f3 j3 y3_0 y3_1))), (h1, .inr (3, [.ref h1d, .int (nI k2)])), (h1d, .inl (bh1, 640, .inl f2)), (h2, .inr (3, [.ref h2d, .int (nI k3)])), (h2d, .inl (bh2, 640, .inl f3))] := hD
                refine lv_lload hx hb dB_product_134 (lv_at hl 0 rfl) ?_
                refine lv_bipush (v := 16) hx hb dB_product_136 (by decide) ?_
                refine lv_lshr (v := jlshr (v_B_product_11 j2 f2 f3 j3 y3_0 y3_1) (16 : Int32)) hx hb dB_product_138 rfl ?_
                refine lv_topl (fun w9 e9 => ?_)
                have e9 : w9 = (v_B_product_14 j2 f2 f3 j3 y3_0 y3_1) := e9
                rw [e9]
                refine lv_lstore (lv' := [(4, .long (v_B_product_14 j2 f2 f3 j3 y3_0 y3_1)), (7, .long (v_B_product_11 j2 f2 f3 j3 y3_0 y3_1)), (0, .ref h0), (1, .ref h1), (2, .ref h2), (3, .int (nI j2)), (6, .int (nI j3))]) hx hb dB_product_139 hl (by decide) rfl (fun ls hl => ?_)
                refine lv_iinc (v := (nI (j3 + 1))) (lv' := [(6, .int (nI (j3 + 1))), (4, .long (v_B_product_14 j2 f2 f3 j3 y3_0 y3_1)), (7, .long (v_B_product_11 j2 f2 f3 j3 y3_0 y3_1)), (0, .ref h0), (1, .ref h1), (2, .ref h2), (3, .int (nI j2))]) hx hb dB_product_141 hl (k := 6) rfl (nI_1 _) (by decide) rfl (fun ls hl => ?_)
                refine lv_goto (tgt := 77) hx hb dB_product_144 (by decide) ?_
                exact ih (j3 + 1) (v_B_product_14 j2 f2 f3 j3 y3_0 y3_1) (v_B_product_13 j2 f2 f3 j3 y3_0 y3_1) (by omega) (by exact hq) _ _ (hK.sub [0, 1, 2] rfl) (hP.sub [0, 1, 2, 3, 4, 5] rfl) (hD.sub [0, 1, 2, 3, 4, 5] (by decide) rfl) hS ls (lv_sub hl [3, 4, 5, 6, 1, 0] rfl)
            exact L_3 k3 0 (0 : Int64) y2_0 (by omega) rfl _ _ (hK.sub [0, 1, 2] rfl) (hP.sub [0, 1, 2, 3, 4, 5] rfl) (hD.sub [0, 1, 2, 3, 4, 5] (by decide) rfl) hS ls (lv_sub hl [2, 3, 4, 5, 1, 0] rfl)
      exact L_2 k2 0 (v_B_product_2 f k f2 k2 f3 k3) (by omega) rfl _ _ (hK.sub [0, 1, 2] rfl) (hP.sub [0, 1, 2, 3, 4, 5] rfl) (hD.sub [0, 1, 2, 3, 4, 5] (by decide) rfl) hS ls (lv_sub hl [1, 2, 3, 0] rfl)
    have L_1 : ∀ (n1 j1 : Nat) (y1_0 : Nat → Int32), j1 + n1 = (v_B_product_1 f k f2 k2 f3 k3) → qB_product_33 n1 j1 y1_0 = qB_product_33 (v_B_product_1 f k f2 k2 f3 k3) 0 f → ∀ (H : Heap) (locs : List Loc), va_K (dC, dI) vwCl [(bh0, .int), (bh1, .int), (bh2, .int)] s → va_P (dC, dI) vwCl [(h0, .inr (3, [.ref h0d, .int (nI (v_B_product_1 f k f2 k2 f3 k3))])), (h0d, .inl (bh0, 640, .inl y1_0)), (h1, .inr (3, [.ref h1d, .int (nI k2)])), (h1d, .inl (bh1, 640, .inl f2)), (h2, .inr (3, [.ref h2d, .int (nI k3)])), (h2d, .inl (bh2, 640, .inl f3))] H → va_D A [(h0, .inr (3, [.ref h0d, .int (nI (v_B_product_1 f k f2 k2 f3 k3))])), (h0d, .inl (bh0, 640, .inl y1_0)), (h1, .inr (3, [.ref h1d, .int (nI k2)])), (h1d, .inl (bh1, 640, .inl f2)), (h2, .inr (3, [.ref h2d, .int (nI k3)])), (h2d, .inl (bh2, 640, .inl f3))] → va_S A s.heap H locs → ∀ (ls : Array Slot), lv_has ls 9 [(0, .ref h0), (1, .ref h1), (2, .ref h2), (3, .int (nI j1))] → WB_product p l e s m below meth c dC dI h0 h0d h1 h1d h2 h2d bh0 bh1 bh2 f k f2 k2 f3 k3 A H locs (F0 m 33 ls []) := by
      intro n1
      induction n1 with
      | zero =>
        intro j1 y1_0 hj hq H locs hK hP hD hS ls hl
        refine lv_iload_n hx hb dB_product_33 rfl (lv_at hl 3 rfl) ?_
        refine lv_aload_n hx hb dB_product_34 rfl (lv_at hl 0 rfl) ?_
        refine va_get (D := (dC, dI)) (ci := 3) (v := .int (nI (v_B_product_1 f k f2 k2 f3 k3))) (C := RB) (T := TB) (N := 2) hx hb hts (inC iB) hown hK hP 0 rfl rfl 1 (by decide) (hts _ (List.mem_cons_of_mem _ m2_79)) (fun _ h9 => h9) rfl dB_product_35 ?_
        refine lv_icmp_ge (tgt := 54) hx hb dB_product_38 (by decide) (fun c_8 => ?_) (fun c_8 => ?_)
        rotate_left
        · exact absurd ((nI_leI (a := (v_B_product_1 f k f2 k2 f3 k3)) (b := j1) (by omega) (by omega)).mpr (by omega)) c_8
        exact K_1 y1_0 (by exact hq) _ _ (hK.sub [0, 1, 2] rfl) (hP.sub [0, 1, 2, 3, 4, 5] rfl) (hD.sub [0, 1, 2, 3, 4, 5] (by decide) rfl) hS ls (lv_sub hl [0, 1, 2] rfl)
      | succ n1 ih =>
        intro j1 y1_0 hj hq H locs hK hP hD hS ls hl
        refine lv_iload_n hx hb dB_product_33 rfl (lv_at hl 3 rfl) ?_
        refine lv_aload_n hx hb dB_product_34 rfl (lv_at hl 0 rfl) ?_
        refine va_get (D := (dC, dI)) (ci := 3) (v := .int (nI (v_B_product_1 f k f2 k2 f3 k3))) (C := RB) (T := TB) (N := 2) hx hb hts (inC iB) hown hK hP 0 rfl rfl 1 (by decide) (hts _ (List.mem_cons_of_mem _ m2_79)) (fun _ h9 => h9) rfl dB_product_35 ?_
        refine lv_icmp_ge (tgt := 54) hx hb dB_product_38 (by decide) (fun c_9 => ?_) (fun c_9 => ?_)
        · exact absurd ((nI_leI (a := (v_B_product_1 f k f2 k2 f3 k3)) (b := j1) (by omega) (by omega)).mp c_9) (by omega)
        refine lv_aload_n hx hb dB_product_41 rfl (lv_at hl 0 rfl) ?_
        refine va_get (D := (dC, dI)) (ci := 3) (v := .ref h0d) (C := RB) (T := TB) (N := 2) hx hb hts (inC iB) hown hK hP 0 rfl rfl 0 (by decide) (hts _ (List.mem_cons_of_mem _ m2_78)) (fun _ h9 => h9) rfl dB_product_42 ?_
        refine lv_iload_n hx hb dB_product_45 rfl (lv_at hl 3 rfl) ?_
        refine lv_iconst (v := 0) hx hb dB_product_46 (by decide) ?_
        refine va_iast hx hb hK hP hD hS 1 0 rfl rfl (i := (nI j1)) (x := (0 : Int32)) (vp_in_nI (n := j1) (by omega) (by omega)) dB_product_47 (fun H locs hP hD hS => ?_)
        have hP : va_P (dC, dI) vwCl [(h0, .inr (3, [.ref h0d, .int (nI (v_B_product_1 f k f2 k2 f3 k3))])), (h0d, .inl (bh0, 640, .inl (upd y1_0 (nI j1).toNatClampNeg (0 : Int32)))), (h1, .inr (3, [.ref h1d, .int (nI k2)])), (h1d, .inl (bh1, 640, .inl f2)), (h2, .inr (3, [.ref h2d, .int (nI k3)])), (h2d, .inl (bh2, 640, .inl f3))] H := hP
        have hD : va_D A [(h0, .inr (3, [.ref h0d, .int (nI (v_B_product_1 f k f2 k2 f3 k3))])), (h0d, .inl (bh0, 640, .inl (upd y1_0 (nI j1).toNatClampNeg (0 : Int32)))), (h1, .inr (3, [.ref h1d, .int (nI k2)])), (h1d, .inl (bh1, 640, .inl f2)), (h2, .inr (3, [.ref h2d, .int (nI k3)])), (h2d, .inl (bh2, 640, .inl f3))] := hD
        have e9 : upd y1_0 (nI j1).toNatClampNeg (0 : Int32) = (v_B_product_15 j1 y1_0) := congrArg (fun z => upd y1_0 z (0 : Int32)) (nI_clamp (n := j1) (by omega))
        rw [e9] at hP hD
        have hP : va_P (dC, dI) vwCl [(h0, .inr (3, [.ref h0d, .int (nI (v_B_product_1 f k f2 k2 f3 k3))])), (h0d, .inl (bh0, 640, .inl (v_B_product_15 j1 y1_0))), (h1, .inr (3, [.ref h1d, .int (nI k2)])), (h1d, .inl (bh1, 640, .inl f2)), (h2, .inr (3, [.ref h2d, .int (nI k3)])), (h2d, .inl (bh2, 640, .inl f3))] H := hP
        have hD : va_D A [(h0, .inr (3, [.ref h0d, .int (nI (v_B_product_1 f k f2 k2 f3 k3))])), (h0d, .inl (bh0, 640, .inl (v_B_product_15 j1 y1_0))), (h1, .inr (3, [.ref h1d, .int (nI k2)])), (h1d, .inl (bh1, 640, .inl f2)), (h2, .inr (3, [.ref h2d, .int (nI k3)])), (h2d, .inl (bh2, 640, .inl f3))] := hD
        refine lv_iinc (v := (nI (j1 + 1))) (lv' := [(3, .int (nI (j1 + 1))), (0, .ref h0), (1, .ref h1), (2, .ref h2)]) hx hb dB_product_48 hl (k := 3) rfl (nI_1 _) (by decide) rfl (fun ls hl => ?_)
        refine lv_goto (tgt := 33) hx hb dB_product_51 (by decide) ?_
        exact ih (j1 + 1) (v_B_product_15 j1 y1_0) (by omega) (by exact hq) _ _ (hK.sub [0, 1, 2] rfl) (hP.sub [0, 1, 2, 3, 4, 5] rfl) (hD.sub [0, 1, 2, 3, 4, 5] (by decide) rfl) hS ls (lv_sub hl [1, 2, 3, 0] rfl)
    exact L_1 (v_B_product_1 f k f2 k2 f3 k3) 0 f (by omega) rfl _ _ (hK.sub [0, 1, 2] rfl) (hP.sub [0, 1, 2, 3, 4, 5] rfl) (hD.sub [0, 1, 2, 3, 4, 5] (by decide) rfl) hS ls (lv_sub hl [1, 2, 3, 0] rfl)
  refine lv_if_eq (tgt := 15) hx hb dB_product_5 (by decide) (fun c_1 => ?_) (fun c_1 => ?_)
  · refine lv_iconst (v := 0) hx hb dB_product_15 (by decide) ?_
    refine lv_goto (tgt := 28) hx hb dB_product_16 (by decide) ?_
    exact J_1 0 ((if_pos c_1)).symm _ _ (hK.sub [0, 1, 2] rfl) (hP.sub [0, 1, 2, 3, 4, 5] rfl) (hD.sub [0, 1, 2, 3, 4, 5] (by decide) rfl) hS ls (lv_sub hl [0, 1, 2] rfl)
  · refine lv_aload_n hx hb dB_product_8 rfl (lv_at hl 2 rfl) ?_
    refine va_get (D := (dC, dI)) (ci := 3) (v := .int (nI k3)) (C := RB) (T := TB) (N := 2) hx hb hts (inC iB) hown hK hP 4 rfl rfl 1 (by decide) (hts _ (List.mem_cons_of_mem _ m2_79)) (fun _ h9 => h9) rfl dB_product_9 ?_
    refine lv_if_ne (tgt := 19) hx hb dB_product_12 (by decide) (fun c_2 => ?_) (fun c_2 => ?_)
    · refine lv_aload_n hx hb dB_product_19 rfl (lv_at hl 1 rfl) ?_
      refine va_get (D := (dC, dI)) (ci := 3) (v := .int (nI k2)) (C := RB) (T := TB) (N := 2) hx hb hts (inC iB) hown hK hP 2 rfl rfl 1 (by decide) (hts _ (List.mem_cons_of_mem _ m2_79)) (fun _ h9 => h9) rfl dB_product_20 ?_
      refine lv_aload_n hx hb dB_product_23 rfl (lv_at hl 2 rfl) ?_
      refine va_get (D := (dC, dI)) (ci := 3) (v := .int (nI k3)) (C := RB) (T := TB) (N := 2) hx hb hts (inC iB) hown hK hP 4 rfl rfl 1 (by decide) (hts _ (List.mem_cons_of_mem _ m2_79)) (fun _ h9 => h9) rfl dB_product_24 ?_
      refine lv_iadd hx hb dB_product_27 ?_
      refine W.eq (g2 := F0 m 28 ls [.int (nI (k2 + k3)), .ref h0]) (congrArg (fun z => F0 m 28 ls [.int z, .ref h0]) (nI_add k2 k3)) ?_
      exact J_1 (k2 + k3) (((if_neg c_1).trans (if_neg c_2))).symm _ _ (hK.sub [0, 1, 2] rfl) (hP.sub [0, 1, 2, 3, 4, 5] rfl) (hD.sub [0, 1, 2, 3, 4, 5] (by decide) rfl) hS ls (lv_sub hl [0, 1, 2] rfl)
    · refine lv_iconst (v := 0) hx hb dB_product_15 (by decide) ?_
      refine lv_goto (tgt := 28) hx hb dB_product_16 (by decide) ?_
      exact J_1 0 (((if_neg c_1).trans (if_pos c_2))).symm _ _ (hK.sub [0, 1, 2] rfl) (hP.sub [0, 1, 2, 3, 4, 5] rfl) (hD.sub [0, 1, 2, 3, 4, 5] (by decide) rfl) hS ls (lv_sub hl [0, 1, 2] rfl)
def v_B_product2_1 (f : Nat → Int32) (k : Nat) (f2 : Nat → Int32) (k2 : Nat) : Nat := (if (nI k2) = 0 then 0 else (if (nI k2) = 0 then 0 else k2 + k2))
def v_B_product2_8 (j2 : Nat) (f2 : Nat → Int32) (j3 : Nat) (y3_0 : Int64) (y3_1 : Nat → Int32) : Int32 := f2 j2
def v_B_product2_9 (j2 : Nat) (f2 : Nat → Int32) (j3 : Nat) (y3_0 : Int64) (y3_1 : Nat → Int32) : Int32 := f2 j3
def v_B_product2_10 (j2 : Nat) (f2 : Nat → Int32) (j3 : Nat) (y3_0 : Int64) (y3_1 : Nat → Int32) : Int32 := y3_1 (j2 + j3)
def v_B_product2_11 (j2 : Nat) (f2 : Nat → Int32) (j3 : Nat) (y3_0 : Int64) (y3_1 : Nat → Int32) : Int64 := (((v_B_product2_8 j2 f2 j3 y3_0 y3_1).toInt64 * (v_B_product2_9 j2 f2 j3 y3_0 y3_1).toInt64) + (v_B_product2_10 j2 f2 j3 y3_0 y3_1).toInt64) + y3_0
def v_B_product2_12 (j2 : Nat) (f2 : Nat → Int32) (j3 : Nat) (y3_0 : Int64) (y3_1 : Nat → Int32) : Int32 := ((v_B_product2_11 j2 f2 j3 y3_0 y3_1) &&& (65535 : Int64)).toInt32
def v_B_product2_13 (j2 : Nat) (f2 : Nat → Int32) (j3 : Nat) (y3_0 : Int64) (y3_1 : Nat → Int32) : Nat → Int32 := upd y3_1 (j2 + j3) (v_B_product2_12 j2 f2 j3 y3_0 y3_1)
def v_B_product2_14 (j2 : Nat) (f2 : Nat → Int32) (j3 : Nat) (y3_0 : Int64) (y3_1 : Nat → Int32) : Int64 := jlshr (v_B_product2_11 j2 f2 j3 y3_0 y3_1) (16 : Int32)
def v_B_product2_15 (j1 : Nat) (y1_0 : Nat → Int32) : Nat → Int32 := upd y1_0 j1 (0 : Int32)
def qB_product2_77 (j2 : Nat) (f2 : Nat → Int32) : Nat → Nat → Int64 → (Nat → Int32) → Int64 × (Nat → Int32)
  | 0, j3, y3_0, y3_1 => (y3_0, y3_1)
  | n3 + 1, j3, y3_0, y3_1 => qB_product2_77 j2 f2 n3 (j3 + 1) (v_B_product2_14 j2 f2 j3 y3_0 y3_1) (v_B_product2_13 j2 f2 j3 y3_0 y3_1)
def qB_product2_33 : Nat → Nat → (Nat → Int32) → (Nat → Int32)
  | 0, j1, y1_0 => y1_0
  | n1 + 1, j1, y1_0 => qB_product2_33 n1 (j1 + 1) (v_B_product2_15 j1 y1_0)
def v_B_product2_2 (f : Nat → Int32) (k : Nat) (f2 : Nat → Int32) (k2 : Nat) : Nat → Int32 := qB_product2_33 (v_B_product2_1 f k f2 k2) 0 f
def v_B_product2_5 (x_1 : Nat) (k2 : Nat) (f2 : Nat → Int32) (j2 : Nat) (y2_0 : Nat → Int32) : Int64 := (qB_product2_77 j2 f2 k2 0 (0 : Int64) y2_0).1
def v_B_product2_6 (x_1 : Nat) (k2 : Nat) (f2 : Nat → Int32) (j2 : Nat) (y2_0 : Nat → Int32) : Nat → Int32 := (qB_product2_77 j2 f2 k2 0 (0 : Int64) y2_0).2
def v_B_product2_7 (x_1 : Nat) (k2 : Nat) (f2 : Nat → Int32) (j2 : Nat) (y2_0 : Nat → Int32) : Nat → Int32 := upd (v_B_product2_6 x_1 k2 f2 j2 y2_0) (j2 + k2) (v_B_product2_5 x_1 k2 f2 j2 y2_0).toInt32
def qB_product2_56 (x_1 : Nat) (k2 : Nat) (f2 : Nat → Int32) : Nat → Nat → (Nat → Int32) → (Nat → Int32)
  | 0, j2, y2_0 => y2_0
  | n2 + 1, j2, y2_0 => (if (nI x_1) ≤ 0 then y2_0 else qB_product2_56 x_1 k2 f2 n2 (j2 + 1) (v_B_product2_7 x_1 k2 f2 j2 y2_0))
def v_B_product2_3 (f : Nat → Int32) (k : Nat) (f2 : Nat → Int32) (k2 : Nat) : Nat → Int32 := qB_product2_56 (v_B_product2_1 f k f2 k2) k2 f2 k2 0 (v_B_product2_2 f k f2 k2)
def v_B_product2_4 (f : Nat → Int32) (k : Nat) (f2 : Nat → Int32) (k2 : Nat) : Nat := pB_trim_0 (v_B_product2_3 f k f2 k2) (v_B_product2_1 f k f2 k2)
def pB_product2_0 (f : Nat → Int32) (k : Nat) (f2 : Nat → Int32) (k2 : Nat) : Nat → Int32 := (v_B_product2_3 f k f2 k2)
def pB_product2_1 (f : Nat → Int32) (k : Nat) (f2 : Nat → Int32) (k2 : Nat) : Nat := (v_B_product2_4 f k f2 k2)
/-- B_product2 -/
abbrev atB_product2 (dC : Nat → ClassId) (dI : Nat → Nat → Nat) (h0 h0d h1 h1d : Nat) (bh0 bh1 : ClassId) (f : Nat → Int32) (k : Nat) (f2 : Nat → Int32) (k2 : Nat) (A : Nat → Prop) (t : State) : Prop := va_P (dC, dI) vwCl [(h0, .inr (3, [.ref h0d, .int (nI (pB_product2_1 f k f2 k2))])), (h0d, .inl (bh0, 640, .inl (pB_product2_0 f k f2 k2))), (h1, .inr (3, [.ref h1d, .int (nI k2)])), (h1d, .inl (bh1, 640, .inl f2))] t.heap ∧ va_K (dC, dI) vwCl [(bh0, .int), (bh1, .int)] t ∧ va_D A [(h0, .inr (3, [.ref h0d, .int (nI (pB_product2_1 f k f2 k2))])), (h0d, .inl (bh0, 640, .inl (pB_product2_0 f k f2 k2))), (h1, .inr (3, [.ref h1d, .int (nI k2)])), (h1d, .inl (bh1, 640, .inl f2))]
theorem trB_product2 {dC : Nat → ClassId} {dI : Nat → Nat → Nat} {h0 h0d h1 h1d : Nat} {bh0 bh1 : ClassId} {f2 : Nat → Int32} {k2 : Nat} {A : Nat → Prop} {H : Heap} {a0 b0 : Nat → Int32} {a1 b1 : Nat} (e0 : a0 = b0) (e1 : a1 = b1) (h : va_P (dC, dI) vwCl [(h0, .inr (3, [.ref h0d, .int (nI a1)])), (h0d, .inl (bh0, 640, .inl a0)), (h1, .inr (3, [.ref h1d, .int (nI k2)])), (h1d, .inl (bh1, 640, .inl f2))] H ∧ va_D A [(h0, .inr (3, [.ref h0d, .int (nI a1)])), (h0d, .inl (bh0, 640, .inl a0)), (h1, .inr (3, [.ref h1d, .int (nI k2)])), (h1d, .inl (bh1, 640, .inl f2))]) : va_P (dC, dI) vwCl [(h0, .inr (3, [.ref h0d, .int (nI b1)])), (h0d, .inl (bh0, 640, .inl b0)), (h1, .inr (3, [.ref h1d, .int (nI k2)])), (h1d, .inl (bh1, 640, .inl f2))] H ∧ va_D A [(h0, .inr (3, [.ref h0d, .int (nI b1)])), (h0d, .inl (bh0, 640, .inl b0)), (h1, .inr (3, [.ref h1d, .int (nI k2)])), (h1d, .inl (bh1, 640, .inl f2))] := by
  subst e0
  subst e1
  exact h
abbrev WB_product2 (p : Program) (l : Launch) (e : Env) (s : State) (m : MethodId) (below : List Frame) (meth : Method) (c : Code) (dC : Nat → ClassId) (dI : Nat → Nat → Nat) (h0 h0d h1 h1d : Nat) (bh0 bh1 : ClassId) (f : Nat → Int32) (k : Nat) (f2 : Nat → Int32) (k2 : Nat) (A : Nat → Prop) (H : Heap) (locs : List Loc) (g : JFrame) : Prop := W p l e (headSpec wB_product ({ frames := 1, cells := 0, slots := 0, locals := 20 })).room s m ([.ref h0, .ref h1, .ref h1] : List Value).toArray below meth c H locs 0 0 (MQ below (va_Qv (fun (_ : Unit) => True) (fun _ => atB_product2 dC dI h0 h0d h1 h1d bh0 bh1 f k f2 k2 A) A) ([.ref h0, .ref h1, .ref h1] : List Value).toArray s 0 0 A) g
set_option maxHeartbeats 4000000 in
set_option maxRecDepth 100000 in
theorem kB_product2 (l : Launch) (dC : Nat → ClassId) (dI : Nat → Nat → Nat) (h0 h0d h1 h1d : Nat) (bh0 bh1 : ClassId) (sz : Nat) (f : Nat → Int32) (k : Nat) (f2 : Nat → Int32) (k2 : Nat) (hk : k2 + k2 ≤ 640) : Met l yB_product wB_product ({ frames := 1, cells := 0, slots := 0, locals := 20 }) (va_Pc [.ref h0, .ref h1, .ref h1] (fun U => U.heap.size = sz ∧ va_P (dC, dI) vwCl [(h0, .inr (3, [.ref h0d, .int (nI k)])), (h0d, .inl (bh0, 640, .inl f)), (h1, .inr (3, [.ref h1d, .int (nI k2)])), (h1d, .inl (bh1, 640, .inl f2))] U.heap ∧ va_K (dC, dI) vwCl [(bh0, .int), (bh1, .int)] U ∧ va_D (fun _ => True) [(h0, .inr (3, [.ref h0d, .int (nI k)])), (h0d, .inl (bh0, 640, .inl f)), (h1, .inr (3, [.ref h1d, .int (nI k2)])), (h1d, .inl (bh1, 640, .inl f2))] ∧ NW U)) (va_Qv (fun (_ : Unit) => True) (fun _ => atB_product2 dC dI h0 h0d h1 h1d bh0 bh1 f k f2 k2 (va_A [(h0, .inr (3, [.ref h0d, .int (nI k)])), (h0d, .inl (bh0, 640, .inl f)), (h1, .inr (3, [.ref h1d, .int (nI k2)])), (h1d, .inl (bh1, 640, .inl f2))] sz)) (va_A [(h0, .inr (3, [.ref h0d, .int (nI k)])), (h0d, .inl (bh0, 640, .inl f)), (h1, .inr (3, [.ref h1d, .int (nI k2)])), (h1d, .inl (bh1, 640, .inl f2))] sz)) 0 0 (va_A [(h0, .inr (3, [.ref h0d, .int (nI k)])), (h0d, .inl (bh0, 640, .inl f)), (h1, .inr (3, [.ref h1d, .int (nI k2)])), (h1d, .inl (bh1, 640, .inl f2))] sz) := by
  refine Met.ofW (cc := cB_product) (maxL := 9) (ret := none) (by decide) rfl ?_
  intro p e s m args below meth c s₁ B hml hv
  obtain ⟨rfl, hsz, hP, hK, hD0, hN⟩ := hv
  have hx := B.exec
  have hb := B.bytes
  have hr := B.returns
  have hts := atoms_spec (ws := wB_product) B.pre
  have hown : s.vm.findClass RB = some m.cls := findClass_of_methodNamed B.named
  have hlocks := B.notSynchronized
  subst hsz
  have hD := hD0.self (sz := s.heap.size)
  generalize hAe : va_A [(h0, .inr (3, [.ref h0d, .int (nI k)])), (h0d, .inl (bh0, 640, .inl f)), (h1, .inr (3, [.ref h1d, .int (nI k2)])), (h1d, .inl (bh1, 640, .inl f2))] s.heap.size = A at hD ⊢
  have hA : ∀ q : Nat, s.heap.size ≤ q → A q := fun q h => by rw [← hAe]; exact Or.inr h
  have hS : va_S A s.heap s.heap [] := va_S.rf
  have hP : va_P (dC, dI) vwCl [(h0, .inr (3, [.ref h0d, .int (nI k)])), (h0d, .inl (bh0, 640, .inl f)), (h1, .inr (3, [.ref h1d, .int (nI k2)])), (h1d, .inl (bh1, 640, .inl f2))] s.heap := hP
  have hl := lv_entry ([.ref h0, .ref h1, .ref h1]) (n := 9) (Nat.le_of_ble_eq_true rfl)
  rw [lg_entry_eq]
  generalize (lg_sl ([.ref h0, .ref h1, .ref h1]) ++ List.replicate (9 - (lg_sl ([.ref h0, .ref h1, .ref h1])).length) Slot.unset).toArray = ls at hl ⊢
  have hl : lv_has ls 9 [(0, .ref h0), (1, .ref h1), (2, .ref h1)] := hl
  refine lv_aload_n hx hb dB_product_0 rfl (lv_at hl 0 rfl) ?_
  refine lv_aload_n hx hb dB_product_1 rfl (lv_at hl 1 rfl) ?_
  refine va_get (D := (dC, dI)) (ci := 3) (v := .int (nI k2)) (C := RB) (T := TB) (N := 2) hx hb hts (inC iB) hown hK hP 2 rfl rfl 1 (by decide) (hts _ (List.mem_cons_of_mem _ m2_79)) (fun _ h9 => h9) rfl dB_product_2 ?_
  have J_1 : ∀ (w_0 : Nat), w_0 = (v_B_product2_1 f k f2 k2) → ∀ (H : Heap) (locs : List Loc), va_K (dC, dI) vwCl [(bh0, .int), (bh1, .int)] s → va_P (dC, dI) vwCl [(h0, .inr (3, [.ref h0d, .int (nI k)])), (h0d, .inl (bh0, 640, .inl f)), (h1, .inr (3, [.ref h1d, .int (nI k2)])), (h1d, .inl (bh1, 640, .inl f2))] H → va_D A [(h0, .inr (3, [.ref h0d, .int (nI k)])), (h0d, .inl (bh0, 640, .inl f)), (h1, .inr (3, [.ref h1d, .int (nI k2)])), (h1d, .inl (bh1, 640, .inl f2))] → va_S A s.heap H locs → ∀ (ls : Array Slot), lv_has ls 9 [(0, .ref h0), (1, .ref h1), (2, .ref h1)] → WB_product2 p l e s m below meth c dC dI h0 h0d h1 h1d bh0 bh1 f k f2 k2 A H locs (F0 m 28 ls [.int (nI w_0), .ref h0]) := by
    intro w_0 e_0
    rw [e_0]
    intro H locs hK hP hD hS ls hl
    refine va_put (D := (dC, dI)) (ci := 3) (v := .int (nI (v_B_product2_1 f k f2 k2))) (ty := .int) (C := RB) (T := TB) (N := 2) hx hb hts (inC iB) tyB tyB_ok nmB hown hK hP hD hS 0 rfl rfl 1 (by decide) (hts _ (List.mem_cons_of_mem _ m2_79)) (fun _ h9 => h9) rfl (by decide +kernel) rfl rfl (Nat.le_of_ble_eq_true rfl) dB_product_28 (fun H locs hP hD hS => ?_)
    have hP : va_P (dC, dI) vwCl [(h0, .inr (3, [.ref h0d, .int (nI (v_B_product2_1 f k f2 k2))])), (h0d, .inl (bh0, 640, .inl f)), (h1, .inr (3, [.ref h1d, .int (nI k2)])), (h1d, .inl (bh1, 640, .inl f2))] H := hP
    have hD : va_D A [(h0, .inr (3, [.ref h0d, .int (nI (v_B_product2_1 f k f2 k2))])), (h0d, .inl (bh0, 640, .inl f)), (h1, .inr (3, [.ref h1d, .int (nI k2)])), (h1d, .inl (bh1, 640, .inl f2))] := hD
    have hq1 : (v_B_product2_1 f k f2 k2) ≤ 640 := nprod_le hk
    refine lv_iconst (v := 0) hx hb dB_product_31 (by decide) ?_
    refine lv_istore_n (lv' := [(3, .int (0 : Int32)), (0, .ref h0), (1, .ref h1), (2, .ref h1)]) hx hb dB_product_32 rfl hl (by decide) rfl (fun ls hl => ?_)
    have K_1 : ∀ (w_0 : Nat → Int32), w_0 = qB_product2_33 (v_B_product2_1 f k f2 k2) 0 f → ∀ (H : Heap) (locs : List Loc), va_K (dC, dI) vwCl [(bh0, .int), (bh1, .int)] s → va_P (dC, dI) vwCl [(h0, .inr (3, [.ref h0d, .int (nI (v_B_product2_1 f k f2 k2))])), (h0d, .inl (bh0, 640, .inl w_0)), (h1, .inr (3, [.ref h1d, .int (nI k2)])), (h1d, .inl (bh1, 640, .inl f2))] H → va_D A [(h0, .inr (3, [.ref h0d, .int (nI (v_B_product2_1 f k f2 k2))])), (h0d, .inl (bh0, 640, .inl w_0)), (h1, .inr (3, [.ref h1d, .int (nI k2)])), (h1d, .inl (bh1, 640, .inl f2))] → va_S A s.heap H locs → ∀ (ls : Array Slot), lv_has ls 9 [(0, .ref h0), (1, .ref h1), (2, .ref h1)] → WB_product2 p l e s m below meth c dC dI h0 h0d h1 h1d bh0 bh1 f k f2 k2 A H locs (F0 m 54 ls []) := by
      intro w_0 hz
      have e_0 : w_0 = (v_B_product2_2 f k f2 k2) := hz
      rw [e_0]
      intro H locs hK hP hD hS ls hl
      refine lv_iconst (v := 0) hx hb dB_product_54 (by decide) ?_
      refine lv_istore_n (lv' := [(3, .int (0 : Int32)), (0, .ref h0), (1, .ref h1), (2, .ref h1)]) hx hb dB_product_55 rfl hl (by decide) rfl (fun ls hl => ?_)
      have K_2 : ∀ (w_0 : Nat → Int32), w_0 = qB_product2_56 (v_B_product2_1 f k f2 k2) k2 f2 k2 0 (v_B_product2_2 f k f2 k2) → ∀ (H : Heap) (locs : List Loc), va_K (dC, dI) vwCl [(bh0, .int), (bh1, .int)] s → va_P (dC, dI) vwCl [(h0, .inr (3, [.ref h0d, .int (nI (v_B_product2_1 f k f2 k2))])), (h0d, .inl (bh0, 640, .inl w_0)), (h1, .inr (3, [.ref h1d, .int (nI k2)])), (h1d, .inl (bh1, 640, .inl f2))] H → va_D A [(h0, .inr (3, [.ref h0d, .int (nI (v_B_product2_1 f k f2 k2))])), (h0d, .inl (bh0, 640, .inl w_0)), (h1, .inr (3, [.ref h1d, .int (nI k2)])), (h1d, .inl (bh1, 640, .inl f2))] → va_S A s.heap H locs → ∀ (ls : Array Slot), lv_has ls 9 [(0, .ref h0)] → WB_product2 p l e s m below meth c dC dI h0 h0d h1 h1d bh0 bh1 f k f2 k2 A H locs (F0 m 167 ls []) := by
        intro w_0 hz
        have e_0 : w_0 = (v_B_product2_3 f k f2 k2) := hz
        rw [e_0]
        intro H locs hK hP hD hS ls hl
        refine lv_aload_n hx hb dB_product_167 rfl (lv_at hl 0 rfl) ?_
        have hPc := hP.sub (ws' := [(h0, .inr (3, [.ref h0d, .int (nI (v_B_product2_1 f k f2 k2))])), (h0d, .inl (bh0, 640, .inl (v_B_product2_3 f k f2 k2)))]) [0, 1] rfl
        have hDc := hD.sub (ws' := [(h0, .inr (3, [.ref h0d, .int (nI (v_B_product2_1 f k f2 k2))])), (h0d, .inl (bh0, 640, .inl (v_B_product2_3 f k f2 k2)))]) [0, 1] (by decide) rfl
        have hKc := hK.sub (tys' := [(bh0, .int)]) [0] rfl
        have hFc := va_free (wc := [(h0, .inr (3, [.ref h0d, .int (nI (v_B_product2_1 f k f2 k2))])), (h0d, .inl (bh0, 640, .inl (v_B_product2_3 f k f2 k2)))]) hD hS hA [0, 1] rfl
        refine va_callv (va_runV (As := []) (rest := []) ⟨hx, hb, hml, hown, hts⟩ (kB_trim l dC dI h0 h0d bh0 H.size (v_B_product2_3 f k f2 k2) (v_B_product2_1 f k f2 k2) hq1) (cwV 0 hts (g_call (List.forall_mem_cons.mpr ⟨m2_197, List.forall_mem_cons.mpr ⟨m2_199, List.forall_mem_cons.mpr ⟨m0_3, List.forall_mem_cons.mpr ⟨m1_5, fun _ h => absurd h List.not_mem_nil⟩⟩⟩⟩) m2_200) rfl rfl rfl (by decide +kernel) ⟨Nat.le_of_ble_eq_true rfl, Nat.le_of_ble_eq_true rfl⟩) ⟨fun a U g mk q => by obtain ⟨q0, q1, qP, qK, qD, qN⟩ := q; exact ⟨q0, q1, qP, va_K.moved (u := U) (U := U.calling g mk a) (Vm.Alike.refl U.vm) qK, qD, NW.same (u := U) rfl qN⟩, va_recv hKc hPc (ci := 3) (q0 := 0) rfl rfl, fun U hU hW => ⟨rfl, by rw [hU], by rw [hU]; exact hPc, va_K.moved hW.alike hKc, hDc.weaken (fun _ _ _ _ => trivial), NW.warm hW hN⟩⟩ rfl rfl hl.1 rfl (lv_room (Nat.le_of_ble_eq_true rfl)) dB_product_168 ⟨Nat.le_of_ble_eq_true rfl, Nat.le_of_ble_eq_true rfl⟩) hS (fun q _ h => hFc q h) hFc (fun u9 t H1 locs ht hvm hw hB hz1 hk1 hS => ?_)
        obtain ⟨hP1, hK1, hD1⟩ := hB
        rw [ht] at hP1
        have hK1 := va_K.moved hvm.symm hK1
        have hP1 : va_P (dC, dI) vwCl [(h0, .inr (3, [.ref h0d, .int (nI (v_B_product2_4 f k f2 k2))])), (h0d, .inl (bh0, 640, .inl (v_B_product2_3 f k f2 k2)))] H1 := hP1
        have hD1 : va_D _ [(h0, .inr (3, [.ref h0d, .int (nI (v_B_product2_4 f k f2 k2))])), (h0d, .inl (bh0, 640, .inl (v_B_product2_3 f k f2 k2)))] := hD1
        obtain ⟨hP, hD⟩ := va_join (wr := [(h1, .inr (3, [.ref h1d, .int (nI k2)])), (h1d, .inl (bh1, 640, .inl f2))]) (w1 := [(h0, .inr (3, [.ref h0d, .int (nI (v_B_product2_4 f k f2 k2))])), (h0d, .inl (bh0, 640, .inl (v_B_product2_3 f k f2 k2)))]) hP hD [0, 1] [2, 3] rfl rfl (by decide) (by decide) hk1 hFc hP1 hD1
        have hK := (hK.sub (tys' := [(bh1, .int)]) [1] rfl).app hK1
        generalize H1 = H at hP hS ⊢
        have hP : va_P (dC, dI) vwCl [(h1, .inr (3, [.ref h1d, .int (nI k2)])), (h1d, .inl (bh1, 640, .inl f2)), (h0, .inr (3, [.ref h0d, .int (nI (v_B_product2_4 f k f2 k2))])), (h0d, .inl (bh0, 640, .inl (v_B_product2_3 f k f2 k2)))] H := hP
        have hD : va_D A [(h1, .inr (3, [.ref h1d, .int (nI k2)])), (h1d, .inl (bh1, 640, .inl f2)), (h0, .inr (3, [.ref h0d, .int (nI (v_B_product2_4 f k f2 k2))])), (h0d, .inl (bh0, 640, .inl (v_B_product2_3 f k f2 k2)))] := hD
        have hK : va_K (dC, dI) vwCl [(bh1, .int), (bh0, .int)] s := hK
        have e9_0 : (v_B_product2_3 f k f2 k2) = pB_product2_0 f k f2 k2 := (rfl).symm
        have e9_1 : (v_B_product2_4 f k f2 k2) = pB_product2_1 f k f2 k2 := (rfl).symm
        have hP9 := hP.sub (ws' := [(h0, .inr (3, [.ref h0d, .int (nI (v_B_product2_4 f k f2 k2))])), (h0d, .inl (bh0, 640, .inl (v_B_product2_3 f k f2 k2))), (h1, .inr (3, [.ref h1d, .int (nI k2)])), (h1d, .inl (bh1, 640, .inl f2))]) [2, 3, 0, 1] rfl
        have hD9 := hD.sub (ws' := [(h0, .inr (3, [.ref h0d, .int (nI (v_B_product2_4 f k f2 k2))])), (h0d, .inl (bh0, 640, .inl (v_B_product2_3 f k f2 k2))), (h1, .inr (3, [.ref h1d, .int (nI k2)])), (h1d, .inl (bh1, 640, .inl f2))]) [2, 3, 0, 1] (by decide) rfl
        have hK9 := hK.sub (tys' := [(bh0, .int), (bh1, .int)]) [1, 0] rfl
        have h9 := trB_product2 e9_0 e9_1 ⟨hP9, hD9⟩
        exact W.vret hx hb hr (fun t ht hW => ⟨⟨(), rfl, trivial, by rw [ht]; exact h9.1, va_K.moved hW.alike hK9, h9.2⟩, hS.F ht⟩) hS.2.2 dB_product_171
      have L_2 : ∀ (n2 j2 : Nat) (y2_0 : Nat → Int32), j2 + n2 = k2 → qB_product2_56 (v_B_product2_1 f k f2 k2) k2 f2 n2 j2 y2_0 = qB_product2_56 (v_B_product2_1 f k f2 k2) k2 f2 k2 0 (v_B_product2_2 f k f2 k2) → ∀ (H : Heap) (locs : List Loc), va_K (dC, dI) vwCl [(bh0, .int), (bh1, .int)] s → va_P (dC, dI) vwCl [(h0, .inr (3, [.ref h0d, .int (nI (v_B_product2_1 f k f2 k2))])), (h0d, .inl (bh0, 640, .inl y2_0)), (h1, .inr (3, [.ref h1d, .int (nI k2)])), (h1d, .inl (bh1, 640, .inl f2))] H → va_D A [(h0, .inr (3, [.ref h0d, .int (nI (v_B_product2_1 f k f2 k2))])), (h0d, .inl (bh0, 640, .inl y2_0)), (h1, .inr (3, [.ref h1d, .int (nI k2)])), (h1d, .inl (bh1, 640, .inl f2))] → va_S A s.heap H locs → ∀ (ls : Array Slot), lv_has ls 9 [(0, .ref h0), (1, .ref h1), (2, .ref h1), (3, .int (nI j2))] → WB_product2 p l e s m below meth c dC dI h0 h0d h1 h1d bh0 bh1 f k f2 k2 A H locs (F0 m 56 ls []) := by
        intro n2
        induction n2 with
        | zero =>
          intro j2 y2_0 hj hq H locs hK hP hD hS ls hl
          refine lv_iload_n hx hb dB_product_56 rfl (lv_at hl 3 rfl) ?_
          refine lv_aload_n hx hb dB_product_57 rfl (lv_at hl 1 rfl) ?_
          refine va_get (D := (dC, dI)) (ci := 3) (v := .int (nI k2)) (C := RB) (T := TB) (N := 2) hx hb hts (inC iB) hown hK hP 2 rfl rfl 1 (by decide) (hts _ (List.mem_cons_of_mem _ m2_79)) (fun _ h9 => h9) rfl dB_product_58 ?_
          refine lv_icmp_ge (tgt := 167) hx hb dB_product_61 (by decide) (fun c_3 => ?_) (fun c_3 => ?_)
          rotate_left
          · exact absurd ((nI_leI (a := k2) (b := j2) (by omega) (by omega)).mpr (by omega)) c_3
          exact K_2 y2_0 (by exact hq) _ _ (hK.sub [0, 1] rfl) (hP.sub [0, 1, 2, 3] rfl) (hD.sub [0, 1, 2, 3] (by decide) rfl) hS ls (lv_sub hl [0] rfl)
        | succ n2 ih =>
          intro j2 y2_0 hj hq H locs hK hP hD hS ls hl
          refine lv_iload_n hx hb dB_product_56 rfl (lv_at hl 3 rfl) ?_
          refine lv_aload_n hx hb dB_product_57 rfl (lv_at hl 1 rfl) ?_
          refine va_get (D := (dC, dI)) (ci := 3) (v := .int (nI k2)) (C := RB) (T := TB) (N := 2) hx hb hts (inC iB) hown hK hP 2 rfl rfl 1 (by decide) (hts _ (List.mem_cons_of_mem _ m2_79)) (fun _ h9 => h9) rfl dB_product_58 ?_
          refine lv_icmp_ge (tgt := 167) hx hb dB_product_61 (by decide) (fun c_4 => ?_) (fun c_4 => ?_)
          · exact absurd ((nI_leI (a := k2) (b := j2) (by omega) (by omega)).mp c_4) (by omega)
          refine lv_aload_n hx hb dB_product_64 rfl (lv_at hl 0 rfl) ?_
          refine va_get (D := (dC, dI)) (ci := 3) (v := .int (nI (v_B_product2_1 f k f2 k2))) (C := RB) (T := TB) (N := 2) hx hb hts (inC iB) hown hK hP 0 rfl rfl 1 (by decide) (hts _ (List.mem_cons_of_mem _ m2_79)) (fun _ h9 => h9) rfl dB_product_65 ?_
          refine lv_if_le (tgt := 167) hx hb dB_product_68 (by decide) (fun c_5 => ?_) (fun c_5 => ?_)
          · exact K_2 y2_0 (by exact (Eq.trans ((if_pos c_5)).symm hq)) _ _ (hK.sub [0, 1] rfl) (hP.sub [0, 1, 2, 3] rfl) (hD.sub [0, 1, 2, 3] (by decide) rfl) hS ls (lv_sub hl [0] rfl)
          · refine lv_lconst (v := 0) hx hb dB_product_71 (by decide) ?_
            refine lv_lstore (lv' := [(4, .long (0 : Int64)), (0, .ref h0), (1, .ref h1), (2, .ref h1), (3, .int (nI j2))]) hx hb dB_product_72 hl (by decide) rfl (fun ls hl => ?_)
            refine lv_iconst (v := 0) hx hb dB_product_74 (by decide) ?_
            refine lv_istore (lv' := [(6, .int (0 : Int32)), (4, .long (0 : Int64)), (0, .ref h0), (1, .ref h1), (2, .ref h1), (3, .int (nI j2))]) hx hb dB_product_75 hl (by decide) rfl (fun ls hl => ?_)
            have K_3 : ∀ (w_0 : Int64) (w_1 : Nat → Int32), (w_0, w_1) = qB_product2_77 j2 f2 k2 0 (0 : Int64) y2_0 → ∀ (H : Heap) (locs : List Loc), va_K (dC, dI) vwCl [(bh0, .int), (bh1, .int)] s → va_P (dC, dI) vwCl [(h0, .inr (3, [.ref h0d, .int (nI (v_B_product2_1 f k f2 k2))])), (h0d, .inl (bh0, 640, .inl w_1)), (h1, .inr (3, [.ref h1d, .int (nI k2)])), (h1d, .inl (bh1, 640, .inl f2))] H → va_D A [(h0, .inr (3, [.ref h0d, .int (nI (v_B_product2_1 f k f2 k2))])), (h0d, .inl (bh0, 640, .inl w_1)), (h1, .inr (3, [.ref h1d, .int (nI k2)])), (h1d, .inl (bh1, 640, .inl f2))] → va_S A s.heap H locs → ∀ (ls : Array Slot), lv_has ls 9 [(0, .ref h0), (1, .ref h1), (2, .ref h1), (3, .int (nI j2)), (4, .long w_0)] → WB_product2 p l e s m below meth c dC dI h0 h0d h1 h1d bh0 bh1 f k f2 k2 A H locs (F0 m 147 ls []) := by
              intro w_0 w_1 hz
              have e_0 : w_0 = (v_B_product2_5 (v_B_product2_1 f k f2 k2) k2 f2 j2 y2_0) := (congrArg (fun q => q.1) hz)
              have e_1 : w_1 = (v_B_product2_6 (v_B_product2_1 f k f2 k2) k2 f2 j2 y2_0) := (congrArg (fun q => q.2) hz)
              rw [e_0, e_1]
              intro H locs hK hP hD hS ls hl
              refine lv_aload_n hx hb dB_product_147 rfl (lv_at hl 0 rfl) ?_
              refine va_get (D := (dC, dI)) (ci := 3) (v := .ref h0d) (C := RB) (T := TB) (N := 2) hx hb hts (inC iB) hown hK hP 0 rfl rfl 0 (by decide) (hts _ (List.mem_cons_of_mem _ m2_78)) (fun _ h9 => h9) rfl dB_product_148 ?_
              refine lv_iload_n hx hb dB_product_151 rfl (lv_at hl 3 rfl) ?_
              refine lv_aload_n hx hb dB_product_152 rfl (lv_at hl 2 rfl) ?_
              refine va_get (D := (dC, dI)) (ci := 3) (v := .int (nI k2)) (C := RB) (T := TB) (N := 2) hx hb hts (inC iB) hown hK hP 2 rfl rfl 1 (by decide) (hts _ (List.mem_cons_of_mem _ m2_79)) (fun _ h9 => h9) rfl dB_product_153 ?_
              refine lv_iadd hx hb dB_product_156 ?_
              refine W.eq (g2 := F0 m 157 ls [.int (nI (j2 + k2)), .ref h0d]) (congrArg (fun z => F0 m 157 ls [.int z, .ref h0d]) (nI_add j2 k2)) ?_
              refine lv_lload hx hb dB_product_157 (lv_at hl 4 rfl) ?_
              refine lv_l2i (v := (v_B_product2_5 (v_B_product2_1 f k f2 k2) k2 f2 j2 y2_0).toInt32) hx hb dB_product_159 rfl ?_
              refine va_iast hx hb hK hP hD hS 1 0 rfl rfl (i := (nI (j2 + k2))) (x := (v_B_product2_5 (v_B_product2_1 f k f2 k2) k2 f2 j2 y2_0).toInt32) (vp_in_nI (n := j2 + k2) (by omega) (by omega)) dB_product_160 (fun H locs hP hD hS => ?_)
              have hP : va_P (dC, dI) vwCl [(h0, .inr (3, [.ref h0d, .int (nI (v_B_product2_1 f k f2 k2))])), (h0d, .inl (bh0, 640, .inl (upd (v_B_product2_6 (v_B_product2_1 f k f2 k2) k2 f2 j2 y2_0) (nI (j2 + k2)).toNatClampNeg (v_B_product2_5 (v_B_product2_1 f k f2 k2) k2 f2 j2 y2_0).toInt32))), (h1, .inr (3, [.ref h1d, .int (nI k2)])), (h1d, .inl (bh1, 640, .inl f2))] H := hP
              have hD : va_D A [(h0, .inr (3, [.ref h0d, .int (nI (v_B_product2_1 f k f2 k2))])), (h0d, .inl (bh0, 640, .inl (upd (v_B_product2_6 (v_B_product2_1 f k f2 k2) k2 f2 j2 y2_0) (nI (j2 + k2)).toNatClampNeg (v_B_product2_5 (v_B_product2_1 f k f2 k2) k2 f2 j2 y2_0).toInt32))), (h1, .inr (3, [.ref h1d, .int (nI k2)])), (h1d, .inl (bh1, 640, .inl f2))] := hD
              have e9 : upd (v_B_product2_6 (v_B_product2_1 f k f2 k2) k2 f2 j2 y2_0) (nI (j2 + k2)).toNatClampNeg (v_B_product2_5 (v_B_product2_1 f k f2 k2) k2 f2 j2 y2_0).toInt32 = (v_B_product2_7 (v_B_product2_1 f k f2 k2) k2 f2 j2 y2_0) := congrArg (fun z => upd (v_B_product2_6 (v_B_product2_1 f k f2 k2) k2 f2 j2 y2_0) z (v_B_product2_5 (v_B_product2_1 f k f2 k2) k2 f2 j2 y2_0).toInt32) (nI_clamp (n := j2 + k2) (by omega))
              rw [e9] at hP hD
              have hP : va_P (dC, dI) vwCl [(h0, .inr (3, [.ref h0d, .int (nI (v_B_product2_1 f k f2 k2))])), (h0d, .inl (bh0, 640, .inl (v_B_product2_7 (v_B_product2_1 f k f2 k2) k2 f2 j2 y2_0))), (h1, .inr (3, [.ref h1d, .int (nI k2)])), (h1d, .inl (bh1, 640, .inl f2))] H := hP
              have hD : va_D A [(h0, .inr (3, [.ref h0d, .int (nI (v_B_product2_1 f k f2 k2))])), (h0d, .inl (bh0, 640, .inl (v_B_product2_7 (v_B_product2_1 f k f2 k2) k2 f2 j2 y2_0))), (h1, .inr (3, [.ref h1d, .int (nI k2)])), (h1d, .inl (bh1, 640, .inl f2))] := hD
              refine lv_iinc (v := (nI (j2 + 1))) (lv' := [(3, .int (nI (j2 + 1))), (0, .ref h0), (1, .ref h1), (2, .ref h1), (4, .long (v_B_product2_5 (v_B_product2_1 f k f2 k2) k2 f2 j2 y2_0))]) hx hb dB_product_161 hl (k := 3) rfl (nI_1 _) (by decide) rfl (fun ls hl => ?_)
              refine lv_goto (tgt := 56) hx hb dB_product_164 (by decide) ?_
              exact ih (j2 + 1) (v_B_product2_7 (v_B_product2_1 f k f2 k2) k2 f2 j2 y2_0) (by omega) (by exact (Eq.trans ((if_neg c_5)).symm hq)) _ _ (hK.sub [0, 1] rfl) (hP.sub [0, 1, 2, 3] rfl) (hD.sub [0, 1, 2, 3] (by decide) rfl) hS ls (lv_sub hl [1, 2, 3, 0] rfl)
            have L_3 : ∀ (n3 j3 : Nat) (y3_0 : Int64) (y3_1 : Nat → Int32), j3 + n3 = k2 → qB_product2_77 j2 f2 n3 j3 y3_0 y3_1 = qB_product2_77 j2 f2 k2 0 (0 : Int64) y2_0 → ∀ (H : Heap) (locs : List Loc), va_K (dC, dI) vwCl [(bh0, .int), (bh1, .int)] s → va_P (dC, dI) vwCl [(h0, .inr (3, [.ref h0d, .int (nI (v_B_product2_1 f k f2 k2))])), (h0d, .inl (bh0, 640, .inl y3_1)), (h1, .inr (3, [.ref h1d, .int (nI k2)])), (h1d, .inl (bh1, 640, .inl f2))] H → va_D A [(h0, .inr (3, [.ref h0d, .int (nI (v_B_product2_1 f k f2 k2))])), (h0d, .inl (bh0, 640, .inl y3_1)), (h1, .inr (3, [.ref h1d, .int (nI k2)])), (h1d, .inl (bh1, 640, .inl f2))] → va_S A s.heap H locs → ∀ (ls : Array Slot), lv_has ls 9 [(0, .ref h0), (1, .ref h1), (2, .ref h1), (3, .int (nI j2)), (4, .long y3_0), (6, .int (nI j3))] → WB_product2 p l e s m below meth c dC dI h0 h0d h1 h1d bh0 bh1 f k f2 k2 A H locs (F0 m 77 ls []) := by
              intro n3
              induction n3 with
              | zero =>
                intro j3 y3_0 y3_1 hj hq H locs hK hP hD hS ls hl
                refine lv_iload hx hb dB_product_77 (lv_at hl 5 rfl) ?_
                refine lv_aload_n hx hb dB_product_79 rfl (lv_at hl 2 rfl) ?_
                refine va_get (D := (dC, dI)) (ci := 3) (v := .int (nI k2)) (C := RB) (T := TB) (N := 2) hx hb hts (inC iB) hown hK hP 2 rfl rfl 1 (by decide) (hts _ (List.mem_cons_of_mem _ m2_79)) (fun _ h9 => h9) rfl dB_product_80 ?_
                refine lv_icmp_ge (tgt := 147) hx hb dB_product_83 (by decide) (fun c_6 => ?_) (fun c_6 => ?_)
                rotate_left
                · exact absurd ((nI_leI (a := k2) (b := j3) (by omega) (by omega)).mpr (by omega)) c_6
                exact K_3 y3_0 y3_1 (by exact hq) _ _ (hK.sub [0, 1] rfl) (hP.sub [0, 1, 2, 3] rfl) (hD.sub [0, 1, 2, 3] (by decide) rfl) hS ls (lv_sub hl [0, 1, 2, 3, 4] rfl)
              | succ n3 ih =>
                intro j3 y3_0 y3_1 hj hq H locs hK hP hD hS ls hl
                refine lv_iload hx hb dB_product_77 (lv_at hl 5 rfl) ?_
                refine lv_aload_n hx hb dB_product_79 rfl (lv_at hl 2 rfl) ?_
                refine va_get (D := (dC, dI)) (ci := 3) (v := .int (nI k2)) (C := RB) (T := TB) (N := 2) hx hb hts (inC iB) hown hK hP 2 rfl rfl 1 (by decide) (hts _ (List.mem_cons_of_mem _ m2_79)) (fun _ h9 => h9) rfl dB_product_80 ?_
                refine lv_icmp_ge (tgt := 147) hx hb dB_product_83 (by decide) (fun c_7 => ?_) (fun c_7 => ?_)
                · exact absurd ((nI_leI (a := k2) (b := j3) (by omega) (by omega)).mp c_7) (by omega)
                refine lv_aload_n hx hb dB_product_86 rfl (lv_at hl 1 rfl) ?_
                refine va_get (D := (dC, dI)) (ci := 3) (v := .ref h1d) (C := RB) (T := TB) (N := 2) hx hb hts (inC iB) hown hK hP 2 rfl rfl 0 (by decide) (hts _ (List.mem_cons_of_mem _ m2_78)) (fun _ h9 => h9) rfl dB_product_87 ?_
                refine lv_iload_n hx hb dB_product_90 rfl (lv_at hl 3 rfl) ?_
                refine va_iald hx hb hK hP 3 1 rfl rfl (i := (nI j2)) (vp_in_nI (n := j2) (by omega) (by omega)) dB_product_91 ?_
                refine lv_topi (fun w9 e9 => ?_)
                have e9 : w9 = (v_B_product2_8 j2 f2 j3 y3_0 y3_1) := e9.trans (congrArg f2 (nI_clamp (n := j2) (by omega)))
                rw [e9]
                refine lv_i2l (v := (v_B_product2_8 j2 f2 j3 y3_0 y3_1).toInt64) hx hb dB_product_92 rfl ?_
                refine lv_aload_n hx hb dB_product_93 rfl (lv_at hl 2 rfl) ?_
                refine va_get (D := (dC, dI)) (ci := 3) (v := .ref h1d) (C := RB) (T := TB) (N := 2) hx hb hts (inC iB) hown hK hP 2 rfl rfl 0 (by decide) (hts _ (List.mem_cons_of_mem _ m2_78)) (fun _ h9 => h9) rfl dB_product_94 ?_
                refine lv_iload hx hb dB_product_97 (lv_at hl 5 rfl) ?_
                refine va_iald hx hb hK hP 3 1 rfl rfl (i := (nI j3)) (vp_in_nI (n := j3) (by omega) (by omega)) dB_product_99 ?_
                refine lv_topi (fun w9 e9 => ?_)
                have e9 : w9 = (v_B_product2_9 j2 f2 j3 y3_0 y3_1) := e9.trans (congrArg f2 (nI_clamp (n := j3) (by omega)))
                rw [e9]
                refine lv_i2l (v := (v_B_product2_9 j2 f2 j3 y3_0 y3_1).toInt64) hx hb dB_product_100 rfl ?_
                refine lv_lmul hx hb dB_product_101 ?_
                refine lv_aload_n hx hb dB_product_102 rfl (lv_at hl 0 rfl) ?_
                refine va_get (D := (dC, dI)) (ci := 3) (v := .ref h0d) (C := RB) (T := TB) (N := 2) hx hb hts (inC iB) hown hK hP 0 rfl rfl 0 (by decide) (hts _ (List.mem_cons_of_mem _ m2_78)) (fun _ h9 => h9) rfl dB_product_103 ?_
                refine lv_iload_n hx hb dB_product_106 rfl (lv_at hl 3 rfl) ?_
                refine lv_iload hx hb dB_product_107 (lv_at hl 5 rfl) ?_
                refine lv_iadd hx hb dB_product_109 ?_
                refine W.eq (g2 := F0 m 110 ls [.int (nI (j2 + j3)), .ref h0d, .long ((v_B_product2_8 j2 f2 j3 y3_0 y3_1).toInt64 * (v_B_product2_9 j2 f2 j3 y3_0 y3_1).toInt64)]) (congrArg (fun z => F0 m 110 ls [.int z, .ref h0d, .long ((v_B_product2_8 j2 f2 j3 y3_0 y3_1).toInt64 * (v_B_product2_9 j2 f2 j3 y3_0 y3_1).toInt64)]) (nI_add j2 j3)) ?_
                refine va_iald hx hb hK hP 1 0 rfl rfl (i := (nI (j2 + j3))) (vp_in_nI (n := j2 + j3) (by omega) (by omega)) dB_product_110 ?_
                refine lv_topi (fun w9 e9 => ?_)
                have e9 : w9 = (v_B_product2_10 j2 f2 j3 y3_0 y3_1) := e9.trans (congrArg y3_1 (nI_clamp (n := j2 + j3) (by omega)))
                rw [e9]
                refine lv_i2l (v := (v_B_product2_10 j2 f2 j3 y3_0 y3_1).toInt64) hx hb dB_product_111 rfl ?_
                refine lv_ladd hx hb dB_product_112 ?_
                refine lv_lload hx hb dB_product_113 (lv_at hl 4 rfl) ?_
                refine lv_ladd hx hb dB_product_115 ?_
                refine lv_topl (fun w9 e9 => ?_)
                have e9 : w9 = (v_B_product2_11 j2 f2 j3 y3_0 y3_1) := e9
                rw [e9]
                refine lv_lstore (lv' := [(7, .long (v_B_product2_11 j2 f2 j3 y3_0 y3_1)), (0, .ref h0), (1, .ref h1), (2, .ref h1), (3, .int (nI j2)), (4, .long y3_0), (6, .int (nI j3))]) hx hb dB_product_116 hl (by decide) rfl (fun ls hl => ?_)
                refine lv_aload_n hx hb dB_product_118 rfl (lv_at hl 1 rfl) ?_
                refine va_get (D := (dC, dI)) (ci := 3) (v := .ref h0d) (C := RB) (T := TB) (N := 2) hx hb hts (inC iB) hown hK hP 0 rfl rfl 0 (by decide) (hts _ (List.mem_cons_of_mem _ m2_78)) (fun _ h9 => h9) rfl dB_product_119 ?_
                refine lv_iload_n hx hb dB_product_122 rfl (lv_at hl 4 rfl) ?_
                refine lv_iload hx hb dB_product_123 (lv_at hl 6 rfl) ?_
                refine lv_iadd hx hb dB_product_125 ?_
                refine W.eq (g2 := F0 m 126 ls [.int (nI (j2 + j3)), .ref h0d]) (congrArg (fun z => F0 m 126 ls [.int z, .ref h0d]) (nI_add j2 j3)) ?_
                refine lv_lload hx hb dB_product_126 (lv_at hl 0 rfl) ?_
                refine lv_ldc2 (v := 65535) hx hb hown (hts _ (List.mem_cons_of_mem _ m2_163)) dB_product_128 ?_
                refine lv_land hx hb dB_product_131 ?_
                refine lv_l2i (v := ((v_B_product2_11 j2 f2 j3 y3_0 y3_1) &&& (65535 : Int64)).toInt32) hx hb dB_product_132 rfl ?_
                refine lv_topi (fun w9 e9 => ?_)
                have e9 : w9 = (v_B_product2_12 j2 f2 j3 y3_0 y3_1) := e9
                rw [e9]
                refine va_iast hx hb hK hP hD hS 1 0 rfl rfl (i := (nI (j2 + j3))) (x := (v_B_product2_12 j2 f2 j3 y3_0 y3_1)) (vp_in_nI (n := j2 + j3) (by omega) (by omega)) dB_product_133 (fun H locs hP hD hS => ?_)
                have hP : va_P (dC, dI) vwCl [(h0, .inr (3, [.ref h0d, .int (nI (v_B_product2_1 f k f2 k2))])), (h0d, .inl (bh0, 640, .inl (upd y3_1 (nI (j2 + j3)).toNatClampNeg (v_B_product2_12 j2 f2 j3 y3_0 y3_1)))), (h1, .inr (3, [.ref h1d, .int (nI k2)])), (h1d, .inl (bh1, 640, .inl f2))] H := hP
                have hD : va_D A [(h0, .inr (3, [.ref h0d, .int (nI (v_B_product2_1 f k f2 k2))])), (h0d, .inl (bh0, 640, .inl (upd y3_1 (nI (j2 + j3)).toNatClampNeg (v_B_product2_12 j2 f2 j3 y3_0 y3_1)))), (h1, .inr (3, [.ref h1d, .int (nI k2)])), (h1d, .inl (bh1, 640, .inl f2))] := hD
                have e9 : upd y3_1 (nI (j2 + j3)).toNatClampNeg (v_B_product2_12 j2 f2 j3 y3_0 y3_1) = (v_B_product2_13 j2 f2 j3 y3_0 y3_1) := congrArg (fun z => upd y3_1 z (v_B_product2_12 j2 f2 j3 y3_0 y3_1)) (nI_clamp (n := j2 + j3) (by omega))
                rw [e9] at hP hD
                have hP : va_P (dC, dI) vwCl [(h0, .inr (3, [.ref h0d, .int (nI (v_B_product2_1 f k f2 k2))])), (h0d, .inl (bh0, 640, .inl (v_B_product2_13 j2 f2 j3 y3_0 y3_1))), (h1, .inr (3, [.ref h1d, .int (nI k2)])), (h1d, .inl (bh1, 640, .inl f2))] H := hP
                have hD : va_D A [(h0, .inr (3, [.ref h0d, .int (nI (v_B_product2_1 f k f2 k2))])), (h0d, .inl (bh0, 640, .inl (v_B_product2_13 j2 f2 j3 y3_0 y3_1))), (h1, .inr (3, [.ref h1d, .int (nI k2)])), (h1d, .inl (bh1, 640, .inl f2))] := hD
                refine lv_lload hx hb dB_product_134 (lv_at hl 0 rfl) ?_
                refine lv_bipush (v := 16) hx hb dB_product_136 (by decide) ?_
                refine lv_lshr (v := jlshr (v_B_product2_11 j2 f2 j3 y3_0 y3_1) (16 : Int32)) hx hb dB_product_138 rfl ?_
                refine lv_topl (fun w9 e9 => ?_)
                have e9 : w9 = (v_B_product2_14 j2 f2 j3 y3_0 y3_1) := e9
                rw [e9]
                refine lv_lstore (lv' := [(4, .long (v_B_product2_14 j2 f2 j3 y3_0 y3_1)), (7, .long (v_B_product2_11 j2 f2 j3 y3_0 y3_1)), (0, .ref h0), (1, .ref h1), (2, .ref h1), (3, .int (nI j2)), (6, .int (nI j3))]) hx hb dB_product_139 hl (by decide) rfl (fun ls hl => ?_)
                refine lv_iinc (v := (nI (j3 + 1))) (lv' := [(6, .int (nI (j3 + 1))), (4, .long (v_B_product2_14 j2 f2 j3 y3_0 y3_1)), (7, .long (v_B_product2_11 j2 f2 j3 y3_0 y3_1)), (0, .ref h0), (1, .ref h1), (2, .ref h1), (3, .int (nI j2))]) hx hb dB_product_141 hl (k := 6) rfl (nI_1 _) (by decide) rfl (fun ls hl => ?_)
                refine lv_goto (tgt := 77) hx hb dB_product_144 (by decide) ?_
                exact ih (j3 + 1) (v_B_product2_14 j2 f2 j3 y3_0 y3_1) (v_B_product2_13 j2 f2 j3 y3_0 y3_1) (by omega) (by exact hq) _ _ (hK.sub [0, 1] rfl) (hP.sub [0, 1, 2, 3] rfl) (hD.sub [0, 1, 2, 3] (by decide) rfl) hS ls (lv_sub hl [3, 4, 5, 6, 1, 0] rfl)
            exact L_3 k2 0 (0 : Int64) y2_0 (by omega) rfl _ _ (hK.sub [0, 1] rfl) (hP.sub [0, 1, 2, 3] rfl) (hD.sub [0, 1, 2, 3] (by decide) rfl) hS ls (lv_sub hl [2, 3, 4, 5, 1, 0] rfl)
      exact L_2 k2 0 (v_B_product2_2 f k f2 k2) (by omega) rfl _ _ (hK.sub [0, 1] rfl) (hP.sub [0, 1, 2, 3] rfl) (hD.sub [0, 1, 2, 3] (by decide) rfl) hS ls (lv_sub hl [1, 2, 3, 0] rfl)
    have L_1 : ∀ (n1 j1 : Nat) (y1_0 : Nat → Int32), j1 + n1 = (v_B_product2_1 f k f2 k2) → qB_product2_33 n1 j1 y1_0 = qB_product2_33 (v_B_product2_1 f k f2 k2) 0 f → ∀ (H : Heap) (locs : List Loc), va_K (dC, dI) vwCl [(bh0, .int), (bh1, .int)] s → va_P (dC, dI) vwCl [(h0, .inr (3, [.ref h0d, .int (nI (v_B_product2_1 f k f2 k2))])), (h0d, .inl (bh0, 640, .inl y1_0)), (h1, .inr (3, [.ref h1d, .int (nI k2)])), (h1d, .inl (bh1, 640, .inl f2))] H → va_D A [(h0, .inr (3, [.ref h0d, .int (nI (v_B_product2_1 f k f2 k2))])), (h0d, .inl (bh0, 640, .inl y1_0)), (h1, .inr (3, [.ref h1d, .int (nI k2)])), (h1d, .inl (bh1, 640, .inl f2))] → va_S A s.heap H locs → ∀ (ls : Array Slot), lv_has ls 9 [(0, .ref h0), (1, .ref h1), (2, .ref h1), (3, .int (nI j1))] → WB_product2 p l e s m below meth c dC dI h0 h0d h1 h1d bh0 bh1 f k f2 k2 A H locs (F0 m 33 ls []) := by
      intro n1
      induction n1 with
      | zero =>
        intro j1 y1_0 hj hq H locs hK hP hD hS ls hl
        refine lv_iload_n hx hb dB_product_33 rfl (lv_at hl 3 rfl) ?_
        refine lv_aload_n hx hb dB_product_34 rfl (lv_at hl 0 rfl) ?_
        refine va_get (D := (dC, dI)) (ci := 3) (v := .int (nI (v_B_product2_1 f k f2 k2))) (C := RB) (T := TB) (N := 2) hx hb hts (inC iB) hown hK hP 0 rfl rfl 1 (by decide) (hts _ (List.mem_cons_of_mem _ m2_79)) (fun _ h9 => h9) rfl dB_product_35 ?_
        refine lv_icmp_ge (tgt := 54) hx hb dB_product_38 (by decide) (fun c_8 => ?_) (fun c_8 => ?_)
        rotate_left
        · exact absurd ((nI_leI (a := (v_B_product2_1 f k f2 k2)) (b := j1) (by omega) (by omega)).mpr (by omega)) c_8
        exact K_1 y1_0 (by exact hq) _ _ (hK.sub [0, 1] rfl) (hP.sub [0, 1, 2, 3] rfl) (hD.sub [0, 1, 2, 3] (by decide) rfl) hS ls (lv_sub hl [0, 1, 2] rfl)
      | succ n1 ih =>
        intro j1 y1_0 hj hq H locs hK hP hD hS ls hl
        refine lv_iload_n hx hb dB_product_33 rfl (lv_at hl 3 rfl) ?_
        refine lv_aload_n hx hb dB_product_34 rfl (lv_at hl 0 rfl) ?_
        refine va_get (D := (dC, dI)) (ci := 3) (v := .int (nI (v_B_product2_1 f k f2 k2))) (C := RB) (T := TB) (N := 2) hx hb hts (inC iB) hown hK hP 0 rfl rfl 1 (by decide) (hts _ (List.mem_cons_of_mem _ m2_79)) (fun _ h9 => h9) rfl dB_product_35 ?_
        refine lv_icmp_ge (tgt := 54) hx hb dB_product_38 (by decide) (fun c_9 => ?_) (fun c_9 => ?_)
        · exact absurd ((nI_leI (a := (v_B_product2_1 f k f2 k2)) (b := j1) (by omega) (by omega)).mp c_9) (by omega)
        refine lv_aload_n hx hb dB_product_41 rfl (lv_at hl 0 rfl) ?_
        refine va_get (D := (dC, dI)) (ci := 3) (v := .ref h0d) (C := RB) (T := TB) (N := 2) hx hb hts (inC iB) hown hK hP 0 rfl rfl 0 (by decide) (hts _ (List.mem_cons_of_mem _ m2_78)) (fun _ h9 => h9) rfl dB_product_42 ?_
        refine lv_iload_n hx hb dB_product_45 rfl (lv_at hl 3 rfl) ?_
        refine lv_iconst (v := 0) hx hb dB_product_46 (by decide) ?_
        refine va_iast hx hb hK hP hD hS 1 0 rfl rfl (i := (nI j1)) (x := (0 : Int32)) (vp_in_nI (n := j1) (by omega) (by omega)) dB_product_47 (fun H locs hP hD hS => ?_)
        have hP : va_P (dC, dI) vwCl [(h0, .inr (3, [.ref h0d, .int (nI (v_B_product2_1 f k f2 k2))])), (h0d, .inl (bh0, 640, .inl (upd y1_0 (nI j1).toNatClampNeg (0 : Int32)))), (h1, .inr (3, [.ref h1d, .int (nI k2)])), (h1d, .inl (bh1, 640, .inl f2))] H := hP
        have hD : va_D A [(h0, .inr (3, [.ref h0d, .int (nI (v_B_product2_1 f k f2 k2))])), (h0d, .inl (bh0, 640, .inl (upd y1_0 (nI j1).toNatClampNeg (0 : Int32)))), (h1, .inr (3, [.ref h1d, .int (nI k2)])), (h1d, .inl (bh1, 640, .inl f2))] := hD
        have e9 : upd y1_0 (nI j1).toNatClampNeg (0 : Int32) = (v_B_product2_15 j1 y1_0) := congrArg (fun z => upd y1_0 z (0 : Int32)) (nI_clamp (n := j1) (by omega))
        rw [e9] at hP hD
        have hP : va_P (dC, dI) vwCl [(h0, .inr (3, [.ref h0d, .int (nI (v_B_product2_1 f k f2 k2))])), (h0d, .inl (bh0, 640, .inl (v_B_product2_15 j1 y1_0))), (h1, .inr (3, [.ref h1d, .int (nI k2)])), (h1d, .inl (bh1, 640, .inl f2))] H := hP
        have hD : va_D A [(h0, .inr (3, [.ref h0d, .int (nI (v_B_product2_1 f k f2 k2))])), (h0d, .inl (bh0, 640, .inl (v_B_product2_15 j1 y1_0))), (h1, .inr (3, [.ref h1d, .int (nI k2)])), (h1d, .inl (bh1, 640, .inl f2))] := hD
        refine lv_iinc (v := (nI (j1 + 1))) (lv' := [(3, .int (nI (j1 + 1))), (0, .ref h0), (1, .ref h1), (2, .ref h1)]) hx hb dB_product_48 hl (k := 3) rfl (nI_1 _) (by decide) rfl (fun ls hl => ?_)
        refine lv_goto (tgt := 33) hx hb dB_product_51 (by decide) ?_
        exact ih (j1 + 1) (v_B_product2_15 j1 y1_0) (by omega) (by exact hq) _ _ (hK.sub [0, 1] rfl) (hP.sub [0, 1, 2, 3] rfl) (hD.sub [0, 1, 2, 3] (by decide) rfl) hS ls (lv_sub hl [1, 2, 3, 0] rfl)
    exact L_1 (v_B_product2_1 f k f2 k2) 0 f (by omega) rfl _ _ (hK.sub [0, 1] rfl) (hP.sub [0, 1, 2, 3] rfl) (hD.sub [0, 1, 2, 3] (by decide) rfl) hS ls (lv_sub hl [1, 2, 3, 0] rfl)
  refine lv_if_eq (tgt := 15) hx hb dB_product_5 (by decide) (fun c_1 => ?_) (fun c_1 => ?_)
  · refine lv_iconst (v := 0) hx hb dB_product_15 (by decide) ?_
    refine lv_goto (tgt := 28) hx hb dB_product_16 (by decide) ?_
    exact J_1 0 ((if_pos c_1)).symm _ _ (hK.sub [0, 1] rfl) (hP.sub [0, 1, 2, 3] rfl) (hD.sub [0, 1, 2, 3] (by decide) rfl) hS ls (lv_sub hl [0, 1, 2] rfl)
  · refine lv_aload_n hx hb dB_product_8 rfl (lv_at hl 2 rfl) ?_
    refine va_get (D := (dC, dI)) (ci := 3) (v := .int (nI k2)) (C := RB) (T := TB) (N := 2) hx hb hts (inC iB) hown hK hP 2 rfl rfl 1 (by decide) (hts _ (List.mem_cons_of_mem _ m2_79)) (fun _ h9 => h9) rfl dB_product_9 ?_
    refine lv_if_ne (tgt := 19) hx hb dB_product_12 (by decide) (fun c_2 => ?_) (fun c_2 => ?_)
    · refine lv_aload_n hx hb dB_product_19 rfl (lv_at hl 1 rfl) ?_
      refine va_get (D := (dC, dI)) (ci := 3) (v := .int (nI k2)) (C := RB) (T := TB) (N := 2) hx hb hts (inC iB) hown hK hP 2 rfl rfl 1 (by decide) (hts _ (List.mem_cons_of_mem _ m2_79)) (fun _ h9 => h9) rfl dB_product_20 ?_
      refine lv_aload_n hx hb dB_product_23 rfl (lv_at hl 2 rfl) ?_
      refine va_get (D := (dC, dI)) (ci := 3) (v := .int (nI k2)) (C := RB) (T := TB) (N := 2) hx hb hts (inC iB) hown hK hP 2 rfl rfl 1 (by decide) (hts _ (List.mem_cons_of_mem _ m2_79)) (fun _ h9 => h9) rfl dB_product_24 ?_
      refine lv_iadd hx hb dB_product_27 ?_
      refine W.eq (g2 := F0 m 28 ls [.int (nI (k2 + k2)), .ref h0]) (congrArg (fun z => F0 m 28 ls [.int z, .ref h0]) (nI_add k2 k2)) ?_
      exact J_1 (k2 + k2) (((if_neg c_1).trans (if_neg c_2))).symm _ _ (hK.sub [0, 1] rfl) (hP.sub [0, 1, 2, 3] rfl) (hD.sub [0, 1, 2, 3] (by decide) rfl) hS ls (lv_sub hl [0, 1, 2] rfl)
    · refine lv_iconst (v := 0) hx hb dB_product_15 (by decide) ?_
      refine lv_goto (tgt := 28) hx hb dB_product_16 (by decide) ?_
      exact J_1 0 (((if_neg c_1).trans (if_pos c_2))).symm _ _ (hK.sub [0, 1] rfl) (hP.sub [0, 1, 2, 3] rfl) (hD.sub [0, 1, 2, 3] (by decide) rfl) hS ls (lv_sub hl [0, 1, 2] rfl)
