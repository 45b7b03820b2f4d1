def v_B_shift_5 (j2 : Nat) (y2_0 : Nat → Int32) : Nat → Int32 := upd y2_0 j2 (0 : Int32)
def v_B_shift_6 (sb : Nat) (n1 : Nat) (y1_0 : Nat → Int32) : Int32 := y1_0 n1
def v_B_shift_7 (sb : Nat) (n1 : Nat) (y1_0 : Nat → Int32) : Nat → Int32 := upd y1_0 (n1 + (sb / 16)) (v_B_shift_6 sb n1 y1_0)
def qB_shift_56 : Nat → Nat → (Nat → Int32) → (Nat → Int32)
  | 0, j2, y2_0 => y2_0
  | n2 + 1, j2, y2_0 => qB_shift_56 n2 (j2 + 1) (v_B_shift_5 j2 y2_0)
def qB_shift_26 (sb : Nat) : Nat → (Nat → Int32) → (Nat → Int32)
  | 0, y1_0 => y1_0
  | n1 + 1, y1_0 => qB_shift_26 sb n1 (v_B_shift_7 sb n1 y1_0)
def v_B_shift_1 (f : Nat → Int32) (k : Nat) (sb : Nat) : Nat → Int32 := qB_shift_26 sb k f
def v_B_shift_2 (f : Nat → Int32) (k : Nat) (sb : Nat) : Nat → Int32 := qB_shift_56 (sb / 16) 0 (v_B_shift_1 f k sb)
def v_B_shift_3 (f : Nat → Int32) (k : Nat) (sb : Nat) : Nat → Int32 := pB_grow_0 (v_B_shift_2 f k sb) (k + (sb / 16)) ((1 : Int32) <<< ((nI (sb % 16)) &&& 31)) (0 : Int32)
def v_B_shift_4 (f : Nat → Int32) (k : Nat) (sb : Nat) : Nat := pB_grow_1 (v_B_shift_2 f k sb) (k + (sb / 16)) ((1 : Int32) <<< ((nI (sb % 16)) &&& 31)) (0 : Int32)
def pB_shift_0 (f : Nat → Int32) (k : Nat) (sb : Nat) : Nat → Int32 := (if (nI k) = 0 then f else (v_B_shift_3 f k sb))
def pB_shift_1 (f : Nat → Int32) (k : Nat) (sb : Nat) : Nat := (if (nI k) = 0 then k else (v_B_shift_4 f k sb))
/-- B_shift -/
abbrev atB_shift (dC : Nat → ClassId) (dI : Nat → Nat → Nat) (h0 h0d : Nat) (bh0 : ClassId) (f : Nat → Int32) (k : Nat) (sb : Nat) (A : Nat → Prop) (t : State) : Prop := va_P (dC, dI) vwCl [(h0, .inr (3, [.ref h0d, .int (nI (pB_shift_1 f k sb))])), (h0d, .inl (bh0, 640, .inl (pB_shift_0 f k sb)))] t.heap ∧ va_K (dC, dI) vwCl [(bh0, .int)] t ∧ va_D A [(h0, .inr (3, [.ref h0d, .int (nI (pB_shift_1 f k sb))])), (h0d, .inl (bh0, 640, .inl (pB_shift_0 f k sb)))]
theorem trB_shift {dC : Nat → ClassId} {dI : Nat → Nat → Nat} {h0 h0d : Nat} {bh0 : ClassId} {A : Nat → Prop} {H : Heap} {a0 b0 : Nat → Int32} {a1 b1 : Nat} (e0 : a0 = b0) (e1 : a1 = b1) (h : va_P (dC, dI) vwCl [(h0, .inr (3, [.ref h0d, .int (nI a1)])), (h0d, .inl (bh0, 640, .inl a0))] H ∧ va_D A [(h0, .inr (3, [.ref h0d, .int (nI a1)])), (h0d, .inl (bh0, 640, .inl a0))]) : va_P (dC, dI) vwCl [(h0, .inr (3, [.ref h0d, .int (nI b1)])), (h0d, .inl (bh0, 640, .inl b0))] H ∧ va_D A [(h0, .inr (3, [.ref h0d, .int (nI b1)])), (h0d, .inl (bh0, 640, .inl b0))] := by
  subst e0
  subst e1
  exact h
abbrev WB_shift (p : Program) (l : Launch) (e : Env) (s : State) (m : MethodId) (below : List Frame) (meth : Method) (c : Code) (dC : Nat → ClassId) (dI : Nat → Nat → Nat) (h0 h0d : Nat) (bh0 : ClassId) (f : Nat → Int32) (k : Nat) (sb : Nat) (A : Nat → Prop) (H : Heap) (locs : List Loc) (g : JFrame) : Prop := W p l e (headSpec wB_shift ({ frames := 1, cells := 0, slots := 0, locals := 27 })).room s m ([.ref h0, .int (nI sb)] : List Value).toArray below meth c H locs 0 0 (MQ below (va_Qv (fun (_ : Unit) => True) (fun _ => atB_shift dC dI h0 h0d bh0 f k sb A) A) ([.ref h0, .int (nI sb)] : List Value).toArray s 0 0 A) g
set_option maxHeartbeats 4000000 in
set_option maxRecDepth 100000 in
theorem kB_shift (l : Launch) (dC : Nat → ClassId) (dI : Nat → Nat → Nat) (h0 h0d : Nat) (bh0 : ClassId) (sz : Nat) (f : Nat → Int32) (k : Nat) (sb : Nat) (hk : k + sb / 16 + 4 ≤ 640) (hs : sb < 2147483648) : Met l yB_shift wB_shift ({ frames := 1, cells := 0, slots := 0, locals := 27 }) (va_Pc [.ref h0, .int (nI sb)] (fun U => U.heap.size = sz ∧ va_P (dC, dI) vwCl [(h0, .inr (3, [.ref h0d, .int (nI k)])), (h0d, .inl (bh0, 640, .inl f))] U.heap ∧ va_K (dC, dI) vwCl [(bh0, .int)] U ∧ va_D (fun _ => True) [(h0, .inr (3, [.ref h0d, .int (nI k)])), (h0d, .inl (bh0, 640, .inl f))] ∧ NW U)) (va_Qv (fun (_ : Unit) => True) (fun _ => atB_shift dC dI h0 h0d bh0 f k sb (va_A [(h0, .inr (3, [.ref h0d, .int (nI k)])), (h0d, .inl (bh0, 640, .inl f))] sz)) (va_A [(h0, .inr (3, [.ref h0d, .int (nI k)])), (h0d, .inl (bh0, 640, .inl f))] sz)) 0 0 (va_A [(h0, .inr (3, [.ref h0d, .int (nI k)])), (h0d, .inl (bh0, 640, .inl f))] sz) := by
  refine Met.ofW (cc := cB_shift) (maxL := 5) (ret := none) (by decide) rfl ?_
  intro p e s m args below meth c s₁ B hml hv
  obtain ⟨rfl, hsz, hP, hK, hD0, hN⟩ := hv
  have hx := B.exec
  have hb := B.bytes
  have hr := B.returns
  have hts := atoms_spec (ws := wB_shift) B.pre
  have hown : s.vm.findClass RB = some m.cls := findClass_of_methodNamed B.named
  have hlocks := B.notSynchronized
  subst hsz
  have hD := hD0.self (sz := s.heap.size)
  generalize hAe : va_A [(h0, .inr (3, [.ref h0d, .int (nI k)])), (h0d, .inl (bh0, 640, .inl f))] s.heap.size = A at hD ⊢
  have hA : ∀ q : Nat, s.heap.size ≤ q → A q := fun q h => by rw [← hAe]; exact Or.inr h
  have hS : va_S A s.heap s.heap [] := va_S.rf
  have hP : va_P (dC, dI) vwCl [(h0, .inr (3, [.ref h0d, .int (nI k)])), (h0d, .inl (bh0, 640, .inl f))] s.heap := hP
  have hl := lv_entry ([.ref h0, .int (nI sb)]) (n := 5) (Nat.le_of_ble_eq_true rfl)
  rw [lg_entry_eq]
  generalize (lg_sl ([.ref h0, .int (nI sb)]) ++ List.replicate (5 - (lg_sl ([.ref h0, .int (nI sb)])).length) Slot.unset).toArray = ls at hl ⊢
  have hl : lv_has ls 5 [(0, .ref h0), (1, .int (nI sb))] := hl
  refine lv_iload_n hx hb dB_shift_0 rfl (lv_at hl 1 rfl) ?_
  refine lv_bipush (v := 16) hx hb dB_shift_1 (by decide) ?_
  refine lv_idiv hx hb dB_shift_3 (by decide) ?_
  refine W.eq (g2 := F0 m 4 ls [.int (nI (sb / 16))]) (congrArg (fun z => F0 m 4 ls [.int z]) (pk_div (a := sb) (d := 16) (by omega) (by omega) (by omega))) ?_
  refine lv_istore_n (lv' := [(2, .int (nI (sb / 16))), (0, .ref h0), (1, .int (nI sb))]) hx hb dB_shift_4 rfl hl (by decide) rfl (fun ls hl => ?_)
  refine lv_iload_n hx hb dB_shift_5 rfl (lv_at hl 2 rfl) ?_
  refine lv_bipush (v := 16) hx hb dB_shift_6 (by decide) ?_
  refine lv_irem hx hb dB_shift_8 (by decide) ?_
  refine W.eq (g2 := F0 m 9 ls [.int (nI (sb % 16))]) (congrArg (fun z => F0 m 9 ls [.int z]) (pk_rem (a := sb) (d := 16) (by omega) (by omega) (by omega))) ?_
  refine lv_istore_n (lv' := [(3, .int (nI (sb % 16))), (2, .int (nI (sb / 16))), (0, .ref h0), (1, .int (nI sb))]) hx hb dB_shift_9 rfl hl (by decide) rfl (fun ls hl => ?_)
  refine lv_aload_n hx hb dB_shift_10 rfl (lv_at hl 2 rfl) ?_
  refine va_get (D := (dC, dI)) (ci := 3) (v := .int (nI k)) (C := RB) (T := TB) (N := 2) hx hb hts (inC iB) hown hK hP 0 rfl rfl 1 (by decide) (hts _ (List.mem_cons_of_mem _ m2_79)) (fun _ h9 => h9) rfl dB_shift_11 ?_
  refine lv_if_ne (tgt := 18) hx hb dB_shift_14 (by decide) (fun c_1 => ?_) (fun c_1 => ?_)
  · have hk1 : 1 ≤ k := nI_pos1 c_1
    refine lv_aload_n hx hb dB_shift_18 rfl (lv_at hl 2 rfl) ?_
    refine va_get (D := (dC, dI)) (ci := 3) (v := .int (nI k)) (C := RB) (T := TB) (N := 2) hx hb hts (inC iB) hown hK hP 0 rfl rfl 1 (by decide) (hts _ (List.mem_cons_of_mem _ m2_79)) (fun _ h9 => h9) rfl dB_shift_19 ?_
    refine lv_iconst (v := 1) hx hb dB_shift_22 (by decide) ?_
    refine lv_isub hx hb dB_shift_23 ?_
    refine W.eq (g2 := F0 m 24 ls [.int (ni1 k)]) (congrArg (fun z => F0 m 24 ls [.int z]) ((rfl : nI k - 1 = ni1 k))) ?_
    refine lv_istore (lv' := [(4, .int (ni1 k)), (3, .int (nI (sb % 16))), (2, .int (nI (sb / 16))), (0, .ref h0), (1, .int (nI sb))]) hx hb dB_shift_24 hl (by decide) rfl (fun ls hl => ?_)
    have K_1 : ∀ (w_0 : Nat → Int32), w_0 = qB_shift_26 sb k f → ∀ (H : Heap) (locs : List Loc), va_K (dC, dI) vwCl [(bh0, .int)] s → va_P (dC, dI) vwCl [(h0, .inr (3, [.ref h0d, .int (nI k)])), (h0d, .inl (bh0, 640, .inl w_0))] H → va_D A [(h0, .inr (3, [.ref h0d, .int (nI k)])), (h0d, .inl (bh0, 640, .inl w_0))] → va_S A s.heap H locs → ∀ (ls : Array Slot), lv_has ls 5 [(0, .ref h0), (2, .int (nI (sb / 16))), (3, .int (nI (sb % 16)))] → WB_shift p l e s m below meth c dC dI h0 h0d bh0 f k sb A H locs (F0 m 53 ls []) := by
      intro w_0 hz
      have e_0 : w_0 = (v_B_shift_1 f k sb) := hz
      rw [e_0]
      intro H locs hK hP hD hS ls hl
      refine lv_iconst (v := 0) hx hb dB_shift_53 (by decide) ?_
      refine lv_istore (lv' := [(4, .int (0 : Int32)), (0, .ref h0), (2, .int (nI (sb / 16))), (3, .int (nI (sb % 16)))]) hx hb dB_shift_54 hl (by decide) rfl (fun ls hl => ?_)
      have K_2 : ∀ (w_0 : Nat → Int32), w_0 = qB_shift_56 (sb / 16) 0 (v_B_shift_1 f k sb) → ∀ (H : Heap) (locs : List Loc), va_K (dC, dI) vwCl [(bh0, .int)] s → va_P (dC, dI) vwCl [(h0, .inr (3, [.ref h0d, .int (nI k)])), (h0d, .inl (bh0, 640, .inl w_0))] H → va_D A [(h0, .inr (3, [.ref h0d, .int (nI k)])), (h0d, .inl (bh0, 640, .inl w_0))] → va_S A s.heap H locs → ∀ (ls : Array Slot), lv_has ls 5 [(0, .ref h0), (2, .int (nI (sb / 16))), (3, .int (nI (sb % 16)))] → WB_shift p l e s m below meth c dC dI h0 h0d bh0 f k sb A H locs (F0 m 76 ls []) := by
        intro w_0 hz
        have e_0 : w_0 = (v_B_shift_2 f k sb) := hz
        rw [e_0]
        intro H locs hK hP hD hS ls hl
        refine lv_aload_n hx hb dB_shift_76 rfl (lv_at hl 0 rfl) ?_
        refine lv_aload_n hx hb dB_shift_77 rfl (lv_at hl 0 rfl) ?_
        refine va_get (D := (dC, dI)) (ci := 3) (v := .int (nI k)) (C := RB) (T := TB) (N := 2) hx hb hts (inC iB) hown hK hP 0 rfl rfl 1 (by decide) (hts _ (List.mem_cons_of_mem _ m2_79)) (fun _ h9 => h9) rfl dB_shift_78 ?_
        refine lv_iload_n hx hb dB_shift_81 rfl (lv_at hl 1 rfl) ?_
        refine lv_iadd hx hb dB_shift_82 ?_
        refine W.eq (g2 := F0 m 83 ls [.int (nI (k + (sb / 16))), .ref h0]) (congrArg (fun z => F0 m 83 ls [.int z, .ref h0]) (nI_add k (sb / 16))) ?_
        refine va_put (D := (dC, dI)) (ci := 3) (v := .int (nI (k + (sb / 16)))) (ty := .int) (C := RB) (T := TB) (N := 2) hx hb hts (inC iB) tyB tyB_ok nmB hown hK hP hD hS 0 rfl rfl 1 (by decide) (hts _ (List.mem_cons_of_mem _ m2_79)) (fun _ h9 => h9) rfl (by decide +kernel) rfl rfl (Nat.le_of_ble_eq_true rfl) dB_shift_83 (fun H locs hP hD hS => ?_)
        have hP : va_P (dC, dI) vwCl [(h0, .inr (3, [.ref h0d, .int (nI (k + (sb / 16)))])), (h0d, .inl (bh0, 640, .inl (v_B_shift_2 f k sb)))] H := hP
        have hD : va_D A [(h0, .inr (3, [.ref h0d, .int (nI (k + (sb / 16)))])), (h0d, .inl (bh0, 640, .inl (v_B_shift_2 f k sb)))] := hD
        refine lv_aload_n hx hb dB_shift_86 rfl (lv_at hl 0 rfl) ?_
        refine lv_iconst (v := 1) hx hb dB_shift_87 (by decide) ?_
        refine lv_iload_n hx hb dB_shift_88 rfl (lv_at hl 2 rfl) ?_
        refine lv_ishl hx hb dB_shift_89 ?_
        refine lv_iconst (v := 0) hx hb dB_shift_90 (by decide) ?_
        have hPc := hP.sub (ws' := [(h0, .inr (3, [.ref h0d, .int (nI (k + (sb / 16)))])), (h0d, .inl (bh0, 640, .inl (v_B_shift_2 f k sb)))]) [0, 1] rfl
        have hDc := hD.sub (ws' := [(h0, .inr (3, [.ref h0d, .int (nI (k + (sb / 16)))])), (h0d, .inl (bh0, 640, .inl (v_B_shift_2 f k sb)))]) [0, 1] (by decide) rfl
        have hKc := hK.sub (tys' := [(bh0, .int)]) [0] rfl
        have hFc := va_free (wc := [(h0, .inr (3, [.ref h0d, .int (nI (k + (sb / 16)))])), (h0d, .inl (bh0, 640, .inl (v_B_shift_2 f k sb)))]) hD hS hA [0, 1] rfl
        refine va_callv (va_runV (As := [.int ((1 : Int32) <<< ((nI (sb % 16)) &&& 31)), .int (0 : Int32)]) (rest := []) ⟨hx, hb, hml, hown, hts⟩ (kB_grow l dC dI h0 h0d bh0 H.size (v_B_shift_2 f k sb) (k + (sb / 16)) ((1 : Int32) <<< ((nI (sb % 16)) &&& 31)) (0 : Int32) (by omega)) (cwV 2 hts (g_call (List.forall_mem_cons.mpr ⟨m2_180, List.forall_mem_cons.mpr ⟨m2_181, List.forall_mem_cons.mpr ⟨m2_182, List.forall_mem_cons.mpr ⟨m1_5, fun _ h => absurd h List.not_mem_nil⟩⟩⟩⟩) m2_183) rfl rfl rfl (by decide +kernel) ⟨Nat.le_of_ble_eq_true rfl, Nat.le_of_ble_eq_true rfl⟩) ⟨fun a U g mk q => by obtain ⟨q0, q1, qP, qK, qD, qN⟩ := q; exact ⟨q0, q1, qP, va_K.moved (u := U) (U := U.calling g mk a) (Vm.Alike.refl U.vm) qK, qD, NW.same (u := U) rfl qN⟩, va_recv hKc hPc (ci := 3) (q0 := 0) rfl rfl, fun U hU hW => ⟨rfl, by rw [hU], by rw [hU]; exact hPc, va_K.moved hW.alike hKc, hDc.weaken (fun _ _ _ _ => trivial), NW.warm hW hN⟩⟩ rfl rfl hl.1 rfl (lv_room (Nat.le_of_ble_eq_true rfl)) dB_shift_91 ⟨Nat.le_of_ble_eq_true rfl, Nat.le_of_ble_eq_true rfl⟩) hS (fun q _ h => hFc q h) hFc (fun u9 t H1 locs ht hvm hw hB hz1 hk1 hS => ?_)
        obtain ⟨hP1, hK1, hD1⟩ := hB
        rw [ht] at hP1
        have hK1 := va_K.moved hvm.symm hK1
        have hP1 : va_P (dC, dI) vwCl [(h0, .inr (3, [.ref h0d, .int (nI (v_B_shift_4 f k sb))])), (h0d, .inl (bh0, 640, .inl (v_B_shift_3 f k sb)))] H1 := hP1
        have hD1 : va_D _ [(h0, .inr (3, [.ref h0d, .int (nI (v_B_shift_4 f k sb))])), (h0d, .inl (bh0, 640, .inl (v_B_shift_3 f k sb)))] := hD1
        obtain ⟨hP, hD⟩ := va_join (wr := []) (w1 := [(h0, .inr (3, [.ref h0d, .int (nI (v_B_shift_4 f k sb))])), (h0d, .inl (bh0, 640, .inl (v_B_shift_3 f k sb)))]) hP hD [0, 1] [] rfl rfl (by decide) (by decide) hk1 hFc hP1 hD1
        have hK := (hK.sub (tys' := []) [] rfl).app hK1
        generalize H1 = H at hP hS ⊢
        have hP : va_P (dC, dI) vwCl [(h0, .inr (3, [.ref h0d, .int (nI (v_B_shift_4 f k sb))])), (h0d, .inl (bh0, 640, .inl (v_B_shift_3 f k sb)))] H := hP
        have hD : va_D A [(h0, .inr (3, [.ref h0d, .int (nI (v_B_shift_4 f k sb))])), (h0d, .inl (bh0, 640, .inl (v_B_shift_3 f k sb)))] := hD
        have hK : va_K (dC, dI) vwCl [(bh0, .int)] s := hK
        have e9_0 : (v_B_shift_3 f k sb) = pB_shift_0 f k sb := ((if_neg c_1)).symm
        have e9_1 : (v_B_shift_4 f k sb) = pB_shift_1 f k sb := ((if_neg c_1)).symm
        have hP9 := hP.sub (ws' := [(h0, .inr (3, [.ref h0d, .int (nI (v_B_shift_4 f k sb))])), (h0d, .inl (bh0, 640, .inl (v_B_shift_3 f k sb)))]) [0, 1] rfl
        have hD9 := hD.sub (ws' := [(h0, .inr (3, [.ref h0d, .int (nI (v_B_shift_4 f k sb))])), (h0d, .inl (bh0, 640, .inl (v_B_shift_3 f k sb)))]) [0, 1] (by decide) rfl
        have hK9 := hK.sub (tys' := [(bh0, .int)]) [0] rfl
        have h9 := trB_shift e9_0 e9_1 ⟨hP9, hD9⟩
        exact W.vret hx hb hr (fun t ht hW => ⟨⟨(), rfl, trivial, by rw [ht]; exact h9.1, va_K.moved hW.alike hK9, h9.2⟩, hS.F ht⟩) hS.2.2 dB_shift_94
      have L_2 : ∀ (n2 j2 : Nat) (y2_0 : Nat → Int32), j2 + n2 = sb / 16 → qB_shift_56 n2 j2 y2_0 = qB_shift_56 (sb / 16) 0 (v_B_shift_1 f k sb) → ∀ (H : Heap) (locs : List Loc), va_K (dC, dI) vwCl [(bh0, .int)] s → va_P (dC, dI) vwCl [(h0, .inr (3, [.ref h0d, .int (nI k)])), (h0d, .inl (bh0, 640, .inl y2_0))] H → va_D A [(h0, .inr (3, [.ref h0d, .int (nI k)])), (h0d, .inl (bh0, 640, .inl y2_0))] → va_S A s.heap H locs → ∀ (ls : Array Slot), lv_has ls 5 [(0, .ref h0), (2, .int (nI (sb / 16))), (3, .int (nI (sb % 16))), (4, .int (nI j2))] → WB_shift p l e s m below meth c dC dI h0 h0d bh0 f k sb A H locs (F0 m 56 ls []) := by
        intro n2
        induction n2 with
        | zero =>
          intro j2 y2_0 hj hq H locs hK hP hD hS ls hl
          refine lv_iload hx hb dB_shift_56 (lv_at hl 3 rfl) ?_
          refine lv_iload_n hx hb dB_shift_58 rfl (lv_at hl 1 rfl) ?_
          refine lv_icmp_ge (tgt := 76) hx hb dB_shift_59 (by decide) (fun c_2 => ?_) (fun c_2 => ?_)
          rotate_left
          · exact absurd ((nI_leI (a := sb / 16) (b := j2) (by omega) (by omega)).mpr (by omega)) c_2
          exact K_2 y2_0 (by exact hq) _ _ (hK.sub [0] rfl) (hP.sub [0, 1] rfl) (hD.sub [0, 1] (by decide) rfl) hS ls (lv_sub hl [0, 1, 2] rfl)
        | succ n2 ih =>
          intro j2 y2_0 hj hq H locs hK hP hD hS ls hl
          refine lv_iload hx hb dB_shift_56 (lv_at hl 3 rfl) ?_
          refine lv_iload_n hx hb dB_shift_58 rfl (lv_at hl 1 rfl) ?_
          refine lv_icmp_ge (tgt := 76) hx hb dB_shift_59 (by decide) (fun c_3 => ?_) (fun c_3 => ?_)
          · exact absurd ((nI_leI (a := sb / 16) (b := j2) (by omega) (by omega)).mp c_3) (by omega)
          refine lv_aload_n hx hb dB_shift_62 rfl (lv_at hl 0 rfl) ?_
          refine va_get (D := (dC, dI)) (ci := 3) (v := .ref h0d) (C := RB) (T := TB) (N := 2) hx hb hts (inC iB) hown hK hP 0 rfl rfl 0 (by decide) (hts _ (List.mem_cons_of_mem _ m2_78)) (fun _ h9 => h9) rfl dB_shift_63 ?_
          refine lv_iload hx hb dB_shift_66 (lv_at hl 3 rfl) ?_
          refine lv_iconst (v := 0) hx hb dB_shift_68 (by decide) ?_
          refine va_iast hx hb hK hP hD hS 1 0 rfl rfl (i := (nI j2)) (x := (0 : Int32)) (vp_in_nI (n := j2) (by omega) (by omega)) dB_shift_69 (fun H locs hP hD hS => ?_)
          have hP : va_P (dC, dI) vwCl [(h0, .inr (3, [.ref h0d, .int (nI k)])), (h0d, .inl (bh0, 640, .inl (upd y2_0 (nI j2).toNatClampNeg (0 : Int32))))] H := hP
          have hD : va_D A [(h0, .inr (3, [.ref h0d, .int (nI k)])), (h0d, .inl (bh0, 640, .inl (upd y2_0 (nI j2).toNatClampNeg (0 : Int32))))] := hD
          have e9 : upd y2_0 (nI j2).toNatClampNeg (0 : Int32) = (v_B_shift_5 j2 y2_0) := congrArg (fun z => upd y2_0 z (0 : Int32)) (nI_clamp (n := j2) (by omega))
          rw [e9] at hP hD
          have hP : va_P (dC, dI) vwCl [(h0, .inr (3, [.ref h0d, .int (nI k)])), (h0d, .inl (bh0, 640, .inl (v_B_shift_5 j2 y2_0)))] H := hP
          have hD : va_D A [(h0, .inr (3, [.ref h0d, .int (nI k)])), (h0d, .inl (bh0, 640, .inl (v_B_shift_5 j2 y2_0)))] := hD
          refine lv_iinc (v := (nI (j2 + 1))) (lv' := [(4, .int (nI (j2 + 1))), (0, .ref h0), (2, .int (nI (sb / 16))), (3, .int (nI (sb % 16)))]) hx hb dB_shift_70 hl (k := 3) rfl (nI_1 _) (by decide) rfl (fun ls hl => ?_)
          refine lv_goto (tgt := 56) hx hb dB_shift_73 (by decide) ?_
          exact ih (j2 + 1) (v_B_shift_5 j2 y2_0) (by omega) (by exact hq) _ _ (hK.sub [0] rfl) (hP.sub [0, 1] rfl) (hD.sub [0, 1] (by decide) rfl) hS ls (lv_sub hl [1, 2, 3, 0] rfl)
      exact L_2 (sb / 16) 0 (v_B_shift_1 f k sb) (by omega) rfl _ _ (hK.sub [0] rfl) (hP.sub [0, 1] rfl) (hD.sub [0, 1] (by decide) rfl) hS ls (lv_sub hl [1, 2, 3, 0] rfl)
    have L_1 : ∀ (n1 : Nat) (y1_0 : Nat → Int32), n1 ≤ k → qB_shift_26 sb n1 y1_0 = qB_shift_26 sb k f → ∀ (H : Heap) (locs : List Loc), va_K (dC, dI) vwCl [(bh0, .int)] s → va_P (dC, dI) vwCl [(h0, .inr (3, [.ref h0d, .int (nI k)])), (h0d, .inl (bh0, 640, .inl y1_0))] H → va_D A [(h0, .inr (3, [.ref h0d, .int (nI k)])), (h0d, .inl (bh0, 640, .inl y1_0))] → va_S A s.heap H locs → ∀ (ls : Array Slot), lv_has ls 5 [(0, .ref h0), (2, .int (nI (sb / 16))), (3, .int (nI (sb % 16))), (4, .int (ni1 n1))] → WB_shift p l e s m below meth c dC dI h0 h0d bh0 f k sb A H locs (F0 m 26 ls []) := by
      intro n1
      induction n1 with
      | zero =>
        intro y1_0 hj hq H locs hK hP hD hS ls hl
        have hl : lv_has ls 5 [(0, .ref h0), (2, .int (nI (sb / 16))), (3, .int (nI (sb % 16))), (4, .int (-1 : Int32))] := by rw [← ni1_0]; exact hl
        refine lv_iload hx hb dB_shift_26 (lv_at hl 3 rfl) ?_
        refine lv_if_lt (tgt := 53) hx hb dB_shift_28 (by decide) (fun c_4 => ?_) (fun c_4 => ?_)
        rotate_left
        · exact absurd (by decide) c_4
        exact K_1 y1_0 (by exact hq) _ _ (hK.sub [0] rfl) (hP.sub [0, 1] rfl) (hD.sub [0, 1] (by decide) rfl) hS ls (lv_sub hl [0, 1, 2] rfl)
      | succ n1 ih =>
        intro y1_0 hj hq H locs hK hP hD hS ls hl
        have hl : lv_has ls 5 [(0, .ref h0), (2, .int (nI (sb / 16))), (3, .int (nI (sb % 16))), (4, .int (nI n1))] := by rw [← ni1_s n1]; exact hl
        refine lv_iload hx hb dB_shift_26 (lv_at hl 3 rfl) ?_
        refine lv_if_lt (tgt := 53) hx hb dB_shift_28 (by decide) (fun c_5 => ?_) (fun c_5 => ?_)
        · exact absurd ((nI_ltI (a := n1) (b := 0) (by omega) (by omega)).mp c_5) (by omega)
        refine lv_aload_n hx hb dB_shift_31 rfl (lv_at hl 0 rfl) ?_
        refine va_get (D := (dC, dI)) (ci := 3) (v := .ref h0d) (C := RB) (T := TB) (N := 2) hx hb hts (inC iB) hown hK hP 0 rfl rfl 0 (by decide) (hts _ (List.mem_cons_of_mem _ m2_78)) (fun _ h9 => h9) rfl dB_shift_32 ?_
        refine lv_iload hx hb dB_shift_35 (lv_at hl 3 rfl) ?_
        refine lv_iload_n hx hb dB_shift_37 rfl (lv_at hl 1 rfl) ?_
        refine lv_iadd hx hb dB_shift_38 ?_
        refine W.eq (g2 := F0 m 39 ls [.int (nI (n1 + (sb / 16))), .ref h0d]) (congrArg (fun z => F0 m 39 ls [.int z, .ref h0d]) (nI_add n1 (sb / 16))) ?_
        refine lv_aload_n hx hb dB_shift_39 rfl (lv_at hl 0 rfl) ?_
        refine va_get (D := (dC, dI)) (ci := 3) (v := .ref h0d) (C := RB) (T := TB) (N := 2) hx hb hts (inC iB) hown hK hP 0 rfl rfl 0 (by decide) (hts _ (List.mem_cons_of_mem _ m2_78)) (fun _ h9 => h9) rfl dB_shift_40 ?_
        refine lv_iload hx hb dB_shift_43 (lv_at hl 3 rfl) ?_
        refine va_iald hx hb hK hP 1 0 rfl rfl (i := (nI n1)) (vp_in_nI (n := n1) (by omega) (by omega)) dB_shift_45 ?_
        refine lv_topi (fun w9 e9 => ?_)
        have e9 : w9 = (v_B_shift_6 sb n1 y1_0) := e9.trans (congrArg y1_0 (nI_clamp (n := n1) (by omega)))
        rw [e9]
        refine va_iast hx hb hK hP hD hS 1 0 rfl rfl (i := (nI (n1 + (sb / 16)))) (x := (v_B_shift_6 sb n1 y1_0)) (vp_in_nI (n := n1 + (sb / 16)) (by omega) (by omega)) dB_shift_46 (fun H locs hP hD hS => ?_)
        have hP : va_P (dC, dI) vwCl [(h0, .inr (3, [.ref h0d, .int (nI k)])), (h0d, .inl (bh0, 640, .inl (upd y1_0 (nI (n1 + (sb / 16))).toNatClampNeg (v_B_shift_6 sb n1 y1_0))))] H := hP
        have hD : va_D A [(h0, .inr (3, [.ref h0d, .int (nI k)])), (h0d, .inl (bh0, 640, .inl (upd y1_0 (nI (n1 + (sb / 16))).toNatClampNeg (v_B_shift_6 sb n1 y1_0))))] := hD
        have e9 : upd y1_0 (nI (n1 + (sb / 16))).toNatClampNeg (v_B_shift_6 sb n1 y1_0) = (v_B_shift_7 sb n1 y1_0) := congrArg (fun z => upd y1_0 z (v_B_shift_6 sb n1 y1_0)) (nI_clamp (n := n1 + (sb / 16)) (by omega))
        rw [e9] at hP hD
        have hP : va_P (dC, dI) vwCl [(h0, .inr (3, [.ref h0d, .int (nI k)])), (h0d, .inl (bh0, 640, .inl (v_B_shift_7 sb n1 y1_0)))] H := hP
        have hD : va_D A [(h0, .inr (3, [.ref h0d, .int (nI k)])), (h0d, .inl (bh0, 640, .inl (v_B_shift_7 sb n1 y1_0)))] := hD
        refine lv_iinc (v := (ni1 n1)) (lv' := [(4, .int (ni1 n1)), (0, .ref h0), (2, .int (nI (sb / 16))), (3, .int (nI (sb % 16)))]) hx hb dB_shift_47 hl (k := 3) rfl (ni1_m _) (by decide) rfl (fun ls hl => ?_)
        refine lv_goto (tgt := 26) hx hb dB_shift_50 (by decide) ?_
        exact ih (v_B_shift_7 sb n1 y1_0) (by omega) (by exact hq) _ _ (hK.sub [0] rfl) (hP.sub [0, 1] rfl) (hD.sub [0, 1] (by decide) rfl) hS ls (lv_sub hl [1, 2, 3, 0] rfl)
    exact L_1 k f (by omega) rfl _ _ (hK.sub [0] rfl) (hP.sub [0, 1] rfl) (hD.sub [0, 1] (by decide) rfl) hS ls (lv_sub hl [3, 2, 1, 0] rfl)
  · have e9_0 : f = pB_shift_0 f k sb := ((if_pos c_1)).symm
    have e9_1 : k = pB_shift_1 f k sb := ((if_pos c_1)).symm
    have hP9 := hP.sub (ws' := [(h0, .inr (3, [.ref h0d, .int (nI k)])), (h0d, .inl (bh0, 640, .inl f))]) [0, 1] rfl
    have hD9 := hD.sub (ws' := [(h0, .inr (3, [.ref h0d, .int (nI k)])), (h0d, .inl (bh0, 640, .inl f))]) [0, 1] (by decide) rfl
    have hK9 := hK.sub (tys' := [(bh0, .int)]) [0] rfl
    have h9 := trB_shift e9_0 e9_1 ⟨hP9, hD9⟩
    exact W.vret hx hb hr (fun t ht hW => ⟨⟨(), rfl, trivial, by rw [ht]; exact h9.1, va_K.moved hW.alike hK9, h9.2⟩, hS.F ht⟩) hS.2.2 dB_shift_17
def v_B_add_4 (k2 : Nat) (f2 : Nat → Int32) (j1 : Nat) (y1_0 : Int32) (y1_1 : Nat → Int32) (y1_2 : Nat) : Int32 := y1_1 j1
def v_B_add_5 (k2 : Nat) (f2 : Nat → Int32) (j1 : Nat) (y1_0 : Int32) (y1_1 : Nat → Int32) (y1_2 : Nat) : Int32 := (if (nI y1_2) ≤ (nI j1) then (0 : Int32) else (v_B_add_4 k2 f2 j1 y1_0 y1_1 y1_2))
def v_B_add_6 (k2 : Nat) (f2 : Nat → Int32) (j1 : Nat) (y1_0 : Int32) (y1_1 : Nat → Int32) (y1_2 : Nat) : Int32 := f2 j1
def v_B_add_7 (k2 : Nat) (f2 : Nat → Int32) (j1 : Nat) (y1_0 : Int32) (y1_1 : Nat → Int32) (y1_2 : Nat) : Int32 := (if (nI k2) ≤ (nI j1) then (0 : Int32) else (v_B_add_6 k2 f2 j1 y1_0 y1_1 y1_2))
def v_B_add_8 (k2 : Nat) (f2 : Nat → Int32) (j1 : Nat) (y1_0 : Int32) (y1_1 : Nat → Int32) (y1_2 : Nat) : Int32 := ((v_B_add_5 k2 f2 j1 y1_0 y1_1 y1_2) + (v_B_add_7 k2 f2 j1 y1_0 y1_1 y1_2)) + y1_0
def v_B_add_9 (k2 : Nat) (f2 : Nat → Int32) (j1 : Nat) (y1_0 : Int32) (y1_1 : Nat → Int32) (y1_2 : Nat) : Nat := (if (nI y1_2) ≤ (nI j1) then j1 + 1 else y1_2)
def v_B_add_10 (k2 : Nat) (f2 : Nat → Int32) (j1 : Nat) (y1_0 : Int32) (y1_1 : Nat → Int32) (y1_2 : Nat) : Int32 := (v_B_add_8 k2 f2 j1 y1_0 y1_1 y1_2) &&& (65535 : Int32)
def v_B_add_11 (k2 : Nat) (f2 : Nat → Int32) (j1 : Nat) (y1_0 : Int32) (y1_1 : Nat → Int32) (y1_2 : Nat) : Nat → Int32 := upd y1_1 j1 (v_B_add_10 k2 f2 j1 y1_0 y1_1 y1_2)
def v_B_add_12 (k2 : Nat) (f2 : Nat → Int32) (j1 : Nat) (y1_0 : Int32) (y1_1 : Nat → Int32) (y1_2 : Nat) : Int32 := (v_B_add_8 k2 f2 j1 y1_0 y1_1 y1_2) >>> ((16 : Int32) &&& 31)
def v_B_add_13 (k2 : Nat) (f2 : Nat → Int32) (j1 : Nat) (y1_0 : Int32) (y1_1 : Nat → Int32) (y1_2 : Nat) : Int32 := y1_1 j1
def v_B_add_14 (k2 : Nat) (f2 : Nat → Int32) (j1 : Nat) (y1_0 : Int32) (y1_1 : Nat → Int32) (y1_2 : Nat) : Int32 := (if (nI y1_2) ≤ (nI j1) then (0 : Int32) else (v_B_add_13 k2 f2 j1 y1_0 y1_1 y1_2))
def v_B_add_15 (k2 : Nat) (f2 : Nat → Int32) (j1 : Nat) (y1_0 : Int32) (y1_1 : Nat → Int32) (y1_2 : Nat) : Int32 := f2 j1
def v_B_add_16 (k2 : Nat) (f2 : Nat → Int32) (j1 : Nat) (y1_0 : Int32) (y1_1 : Nat → Int32) (y1_2 : Nat) : Int32 := (if (nI k2) ≤ (nI j1) then (0 : Int32) else (v_B_add_15 k2 f2 j1 y1_0 y1_1 y1_2))
def v_B_add_17 (k2 : Nat) (f2 : Nat → Int32) (j1 : Nat) (y1_0 : Int32) (y1_1 : Nat → Int32) (y1_2 : Nat) : Int32 := ((v_B_add_14 k2 f2 j1 y1_0 y1_1 y1_2) + (v_B_add_16 k2 f2 j1 y1_0 y1_1 y1_2)) + y1_0
def v_B_add_18 (k2 : Nat) (f2 : Nat → Int32) (j1 : Nat) (y1_0 : Int32) (y1_1 : Nat → Int32) (y1_2 : Nat) : Nat := (if (nI y1_2) ≤ (nI j1) then j1 + 1 else y1_2)
def v_B_add_19 (k2 : Nat) (f2 : Nat → Int32) (j1 : Nat) (y1_0 : Int32) (y1_1 : Nat → Int32) (y1_2 : Nat) : Int32 := (v_B_add_17 k2 f2 j1 y1_0 y1_1 y1_2) &&& (65535 : Int32)
def v_B_add_20 (k2 : Nat) (f2 : Nat → Int32) (j1 : Nat) (y1_0 : Int32) (y1_1 : Nat → Int32) (y1_2 : Nat) : Nat → Int32 := upd y1_1 j1 (v_B_add_19 k2 f2 j1 y1_0 y1_1 y1_2)
def v_B_add_21 (k2 : Nat) (f2 : Nat → Int32) (j1 : Nat) (y1_0 : Int32) (y1_1 : Nat → Int32) (y1_2 : Nat) : Int32 := (v_B_add_17 k2 f2 j1 y1_0 y1_1 y1_2) >>> ((16 : Int32) &&& 31)
def qB_add_4 (k2 : Nat) (f2 : Nat → Int32) : Nat → Nat → Int32 → (Nat → Int32) → Nat → Int32 × (Nat → Int32) × Nat
  | 0, j1, y1_0, y1_1, y1_2 => (y1_0, y1_1, y1_2)
  | n1 + 1, j1, y1_0, y1_1, y1_2 => (if (nI j1) < (nI k2) then qB_add_4 k2 f2 n1 (j1 + 1) (v_B_add_12 k2 f2 j1 y1_0 y1_1 y1_2) (v_B_add_11 k2 f2 j1 y1_0 y1_1 y1_2) (v_B_add_9 k2 f2 j1 y1_0 y1_1 y1_2) else (if y1_0 ≤ 0 then (y1_0, y1_1, y1_2) else qB_add_4 k2 f2 n1 (j1 + 1) (v_B_add_21 k2 f2 j1 y1_0 y1_1 y1_2) (v_B_add_20 k2 f2 j1 y1_0 y1_1 y1_2) (v_B_add_18 k2 f2 j1 y1_0 y1_1 y1_2)))
def v_B_add_1 (f : Nat → Int32) (k : Nat) (f2 : Nat → Int32) (k2 : Nat) : Int32 := (qB_add_4 k2 f2 (max k k2 + 1) 0 (0 : Int32) f k).1
def v_B_add_2 (f : Nat → Int32) (k : Nat) (f2 : Nat → Int32) (k2 : Nat) : Nat → Int32 := (qB_add_4 k2 f2 (max k k2 + 1) 0 (0 : Int32) f k).2.1
def v_B_add_3 (f : Nat → Int32) (k : Nat) (f2 : Nat → Int32) (k2 : Nat) : Nat := (qB_add_4 k2 f2 (max k k2 + 1) 0 (0 : Int32) f k).2.2
def pB_add_0 (f : Nat → Int32) (k : Nat) (f2 : Nat → Int32) (k2 : Nat) : Nat → Int32 := (v_B_add_2 f k f2 k2)
def pB_add_1 (f : Nat → Int32) (k : Nat) (f2 : Nat → Int32) (k2 : Nat) : Nat := (v_B_add_3 f k f2 k2)
/-- B_add -/
abbrev atB_add (dC : Nat → ClassId) (dI : Nat → Nat → Nat) (h0 h0d h1 h1d : Nat) (bh0 bh1 : ClassId) (f : Nat → Int32) (k : Nat) (f2 : Nat → Int32) (k2 : Nat) (A : Nat → Prop) (t : State) : Prop := va_P (dC, dI) vwCl [(h0, .inr (3, [.ref h0d, .int (nI (pB_add_1 f k f2 k2))])), (h0d, .inl (bh0, 640, .inl (pB_add_0 f k f2 k2))), (h1, .inr (3, [.ref h1d, .int (nI k2)])), (h1d, .inl (bh1, 640, .inl f2))] t.heap ∧ va_K (dC, dI) vwCl [(bh0, .int), (bh1, .int)] t ∧ va_D A [(h0, .inr (3, [.ref h0d, .int (nI (pB_add_1 f k f2 k2))])), (h0d, .inl (bh0, 640, .inl (pB_add_0 f k f2 k2))), (h1, .inr (3, [.ref h1d, .int (nI k2)])), (h1d, .inl (bh1, 640, .inl f2))]
theorem trB_add {dC : Nat → ClassId} {dI : Nat → Nat → Nat} {h0 h0d h1 h1d : Nat} {bh0 bh1 : ClassId} {f2 : Nat → Int32} {k2 : Nat} {A : Nat → Prop} {H : Heap} {a0 b0 : Nat → Int32} {a1 b1 : Nat} (e0 : a0 = b0) (e1 : a1 = b1) (h : va_P (dC, dI) vwCl [(h0, .inr (3, [.ref h0d, .int (nI a1)])), (h0d, .inl (bh0, 640, .inl a0)), (h1, .inr (3, [.ref h1d, .int (nI k2)])), (h1d, .inl (bh1, 640, .inl f2))] H ∧ va_D A [(h0, .inr (3, [.ref h0d, .int (nI a1)])), (h0d, .inl (bh0, 640, .inl a0)), (h1, .inr (3, [.ref h1d, .int (nI k2)])), (h1d, .inl (bh1, 640, .inl f2))]) : va_P (dC, dI) vwCl [(h0, .inr (3, [.ref h0d, .int (nI b1)])), (h0d, .inl (bh0, 640, .inl b0)), (h1, .inr (3, [.ref h1d, .int (nI k2)])), (h1d, .inl (bh1, 640, .inl f2))] H ∧ va_D A [(h0, .inr (3, [.ref h0d, .int (nI b1)])), (h0d, .inl (bh0, 640, .inl b0)), (h1, .inr (3, [.ref h1d, .int (nI k2)])), (h1d, .inl (bh1, 640, .inl f2))] := by
  subst e0
  subst e1
  exact h
abbrev WB_add (p : Program) (l : Launch) (e : Env) (s : State) (m : MethodId) (below : List Frame) (meth : Method) (c : Code) (dC : Nat → ClassId) (dI : Nat → Nat → Nat) (h0 h0d h1 h1d : Nat) (bh0 bh1 : ClassId) (f : Nat → Int32) (k : Nat) (f2 : Nat → Int32) (k2 : Nat) (A : Nat → Prop) (H : Heap) (locs : List Loc) (g : JFrame) : Prop := W p l e (headSpec wB_add ({ frames := 0, cells := 0, slots := 0, locals := 0 })).room s m ([.ref h0, .ref h1] : List Value).toArray below meth c H locs 0 0 (MQ below (va_Qv (fun (_ : Unit) => True) (fun _ => atB_add dC dI h0 h0d h1 h1d bh0 bh1 f k f2 k2 A) A) ([.ref h0, .ref h1] : List Value).toArray s 0 0 A) g
set_option maxHeartbeats 4000000 in
set_option maxRecDepth 100000 in
theorem kB_add (l : Launch) (dC : Nat → ClassId) (dI : Nat → Nat → Nat) (h0 h0d h1 h1d : Nat) (bh0 bh1 : ClassId) (sz : Nat) (f : Nat → Int32) (k : Nat) (f2 : Nat → Int32) (k2 : Nat) (hk : k + 1 ≤ 640) (hk2 : k2 + 1 ≤ 640) (hd1 : ∀ i, i < k → dg (f i)) (hd2 : ∀ i, i < k2 → dg (f2 i)) : Met l yB_add wB_add ({ frames := 0, cells := 0, slots := 0, locals := 0 }) (va_Pc [.ref h0, .ref h1] (fun U => U.heap.size = sz ∧ va_P (dC, dI) vwCl [(h0, .inr (3, [.ref h0d, .int (nI k)])), (h0d, .inl (bh0, 640, .inl f)), (h1, .inr (3, [.ref h1d, .int (nI k2)])), (h1d, .inl (bh1, 640, .inl f2))] U.heap ∧ va_K (dC, dI) vwCl [(bh0, .int), (bh1, .int)] U ∧ va_D (fun _ => True) [(h0, .inr (3, [.ref h0d, .int (nI k)])), (h0d, .inl (bh0, 640, .inl f)), (h1, .inr (3, [.ref h1d, .int (nI k2)])), (h1d, .inl (bh1, 640, .inl f2))] ∧ NW U)) (va_Qv (fun (_ : Unit) => True) (fun _ => atB_add dC dI h0 h0d h1 h1d bh0 bh1 f k f2 k2 (va_A [(h0, .inr (3, [.ref h0d, .int (nI k)])), (h0d, .inl (bh0, 640, .inl f)), (h1, .inr (3, [.ref h1d, .int (nI k2)])), (h1d, .inl (bh1, 640, .inl f2))] sz)) (va_A [(h0, .inr (3, [.ref h0d, .int (nI k)])), (h0d, .inl (bh0, 640, .inl f)), (h1, .inr (3, [.ref h1d, .int (nI k2)])), (h1d, .inl (bh1, 640, .inl f2))] sz)) 0 0 (va_A [(h0, .inr (3, [.ref h0d, .int (nI k)])), (h0d, .inl (bh0, 640, .inl f)), (h1, .inr (3, [.ref h1d, .int (nI k2)])), (h1d, .inl (bh1, 640, .inl f2))] sz) := by
  refine Met.ofW (cc := cB_add) (maxL := 5) (ret := none) (by decide) rfl ?_
  intro p e s m args below meth c s₁ B hml hv
  obtain ⟨rfl, hsz, hP, hK, hD0, hN⟩ := hv
  have hx := B.exec
  have hb := B.bytes
  have hr := B.returns
  have hts := atoms_spec (ws := wB_add) B.pre
  have hown : s.vm.findClass RB = some m.cls := findClass_of_methodNamed B.named
  have hlocks := B.notSynchronized
  subst hsz
  have hD := hD0.self (sz := s.heap.size)
  generalize hAe : va_A [(h0, .inr (3, [.ref h0d, .int (nI k)])), (h0d, .inl (bh0, 640, .inl f)), (h1, .inr (3, [.ref h1d, .int (nI k2)])), (h1d, .inl (bh1, 640, .inl f2))] s.heap.size = A at hD ⊢
  have hA : ∀ q : Nat, s.heap.size ≤ q → A q := fun q h => by rw [← hAe]; exact Or.inr h
  have hS : va_S A s.heap s.heap [] := va_S.rf
  have hP : va_P (dC, dI) vwCl [(h0, .inr (3, [.ref h0d, .int (nI k)])), (h0d, .inl (bh0, 640, .inl f)), (h1, .inr (3, [.ref h1d, .int (nI k2)])), (h1d, .inl (bh1, 640, .inl f2))] s.heap := hP
  have hl := lv_entry ([.ref h0, .ref h1]) (n := 5) (Nat.le_of_ble_eq_true rfl)
  rw [lg_entry_eq]
  generalize (lg_sl ([.ref h0, .ref h1]) ++ List.replicate (5 - (lg_sl ([.ref h0, .ref h1])).length) Slot.unset).toArray = ls at hl ⊢
  have hl : lv_has ls 5 [(0, .ref h0), (1, .ref h1)] := hl
  refine lv_iconst (v := 0) hx hb dB_add_0 (by decide) ?_
  refine lv_istore_n (lv' := [(2, .int (0 : Int32)), (0, .ref h0), (1, .ref h1)]) hx hb dB_add_1 rfl hl (by decide) rfl (fun ls hl => ?_)
  refine lv_iconst (v := 0) hx hb dB_add_2 (by decide) ?_
  refine lv_istore_n (lv' := [(3, .int (0 : Int32)), (2, .int (0 : Int32)), (0, .ref h0), (1, .ref h1)]) hx hb dB_add_3 rfl hl (by decide) rfl (fun ls hl => ?_)
  have K_1 : ∀ (w_0 : Int32) (w_1 : Nat → Int32) (w_2 : Nat), (w_0, w_1, w_2) = qB_add_4 k2 f2 (max k k2 + 1) 0 (0 : Int32) f k → ∀ (H : Heap) (locs : List Loc), va_K (dC, dI) vwCl [(bh0, .int), (bh1, .int)] s → va_P (dC, dI) vwCl [(h0, .inr (3, [.ref h0d, .int (nI w_2)])), (h0d, .inl (bh0, 640, .inl w_1)), (h1, .inr (3, [.ref h1d, .int (nI k2)])), (h1d, .inl (bh1, 640, .inl f2))] H → va_D A [(h0, .inr (3, [.ref h0d, .int (nI w_2)])), (h0d, .inl (bh0, 640, .inl w_1)), (h1, .inr (3, [.ref h1d, .int (nI k2)])), (h1d, .inl (bh1, 640, .inl f2))] → va_S A s.heap H locs → ∀ (ls : Array Slot), lv_has ls 5 [] → WB_add p l e s m below meth c dC dI h0 h0d h1 h1d bh0 bh1 f k f2 k2 A H locs (F0 m 102 ls []) := by
    intro w_0 w_1 w_2 hz
    have e_0 : w_0 = (v_B_add_1 f k f2 k2) := (congrArg (fun q => q.1) hz)
    have e_1 : w_1 = (v_B_add_2 f k f2 k2) := (congrArg (fun q => q.2.1) hz)
    have e_2 : w_2 = (v_B_add_3 f k f2 k2) := (congrArg (fun q => q.2.2) hz)
    rw [e_1, e_2]
    intro H locs hK hP hD hS ls hl
    have e9_0 : (v_B_add_2 f k f2 k2) = pB_add_0 f k f2 k2 := (rfl).symm
    have e9_1 : (v_B_add_3 f k f2 k2) = pB_add_1 f k f2 k2 := (rfl).symm
    have hP9 := hP.sub (ws' := [(h0, .inr (3, [.ref h0d, .int (nI (v_B_add_3 f k f2 k2))])), (h0d, .inl (bh0, 640, .inl (v_B_add_2 f k f2 k2))), (h1, .inr (3, [.ref h1d, .int (nI k2)])), (h1d, .inl (bh1, 640, .inl f2))]) [0, 1, 2, 3] rfl
    have hD9 := hD.sub (ws' := [(h0, .inr (3, [.ref h0d, .int (nI (v_B_add_3 f k f2 k2))])), (h0d, .inl (bh0, 640, .inl (v_B_add_2 f k f2 k2))), (h1, .inr (3, [.ref h1d, .int (nI k2)])), (h1d, .inl (bh1, 640, .inl f2))]) [0, 1, 2, 3] (by decide) rfl
    have hK9 := hK.sub (tys' := [(bh0, .int), (bh1, .int)]) [0, 1] rfl
    have h9 := trB_add e9_0 e9_1 ⟨hP9, hD9⟩
    exact W.vret hx hb hr (fun t ht hW => ⟨⟨(), rfl, trivial, by rw [ht]; exact h9.1, va_K.moved hW.alike hK9, h9.2⟩, hS.F ht⟩) hS.2.2 dB_add_102
  have L_1 : ∀ (n1 j1 : Nat) (y1_0 : Int32) (y1_1 : Nat → Int32) (y1_2 : Nat), j1 + n1 = max k k2 + 1 → (y1_0 = 0 ∨ y1_0 = 1) → (max k k2 < j1 → y1_0 = 0) → y1_2 = max k j1 → (∀ i, i < y1_2 → dg (y1_1 i)) → qB_add_4 k2 f2 n1 j1 y1_0 y1_1 y1_2 = qB_add_4 k2 f2 (max k k2 + 1) 0 (0 : Int32) f k → ∀ (H : Heap) (locs : List Loc), va_K (dC, dI) vwCl [(bh0, .int), (bh1, .int)] s → va_P (dC, dI) vwCl [(h0, .inr (3, [.ref h0d, .int (nI y1_2)])), (h0d, .inl (bh0, 640, .inl y1_1)), (h1, .inr (3, [.ref h1d, .int (nI k2)])), (h1d, .inl (bh1, 640, .inl f2))] H → va_D A [(h0, .inr (3, [.ref h0d, .int (nI y1_2)])), (h0d, .inl (bh0, 640, .inl y1_1)), (h1, .inr (3, [.ref h1d, .int (nI k2)])), (h1d, .inl (bh1, 640, .inl f2))] → va_S A s.heap H locs → ∀ (ls : Array Slot), lv_has ls 5 [(0, .ref h0), (1, .ref h1), (2, .int y1_0), (3, .int (nI j1))] → WB_add p l e s m below meth c dC dI h0 h0d h1 h1d bh0 bh1 f k f2 k2 A H locs (F0 m 4 ls []) := by
    intro n1
    induction n1 with
    | zero =>
      intro j1 y1_0 y1_1 y1_2 hj hc hz hy hd hq H locs hK hP hD hS ls hl
      refine lv_iload_n hx hb dB_add_4 rfl (lv_at hl 3 rfl) ?_
      refine lv_aload_n hx hb dB_add_5 rfl (lv_at hl 1 rfl) ?_
      refine va_get (D := (dC, dI)) (ci := 3) (v := .int (nI k2)) (C := RB) (T := TB) (N := 2) hx hb hts (inC iB) hown hK hP 2 rfl rfl 1 (by decide) (hts _ (List.mem_cons_of_mem _ m2_79)) (fun _ h9 => h9) rfl dB_add_6 ?_
      refine lv_icmp_lt (tgt := 16) hx hb dB_add_9 (by decide) (fun c_1 => ?_) (fun c_1 => ?_)
      · exact absurd ((nI_ltI (by omega) (by omega)).mp c_1) (by omega)
      refine lv_iload_n hx hb dB_add_12 rfl (lv_at hl 2 rfl) ?_
      refine lv_if_le (tgt := 102) hx hb dB_add_13 (by decide) (fun c_2 => ?_) (fun c_2 => ?_)
      rotate_left
      · exact absurd (by rw [hz (by omega)]; decide) c_2
      exact K_1 y1_0 y1_1 y1_2 (by exact hq) _ _ (hK.sub [0, 1] rfl) (hP.sub [0, 1, 2, 3] rfl) (hD.sub [0, 1, 2, 3] (by decide) rfl) hS ls (lv_sub hl [] rfl)
    | succ n1 ih =>
      intro j1 y1_0 y1_1 y1_2 hj hc hz hy hd hq H locs hK hP hD hS ls hl
      refine lv_iload_n hx hb dB_add_4 rfl (lv_at hl 3 rfl) ?_
      refine lv_aload_n hx hb dB_add_5 rfl (lv_at hl 1 rfl) ?_
      refine va_get (D := (dC, dI)) (ci := 3) (v := .int (nI k2)) (C := RB) (T := TB) (N := 2) hx hb hts (inC iB) hown hK hP 2 rfl rfl 1 (by decide) (hts _ (List.mem_cons_of_mem _ m2_79)) (fun _ h9 => h9) rfl dB_add_6 ?_
      refine lv_icmp_lt (tgt := 16) hx hb dB_add_9 (by decide) (fun c_3 => ?_) (fun c_3 => ?_)
      · refine lv_iload_n hx hb dB_add_16 rfl (lv_at hl 3 rfl) ?_
        refine lv_aload_n hx hb dB_add_17 rfl (lv_at hl 0 rfl) ?_
        refine va_get (D := (dC, dI)) (ci := 3) (v := .int (nI y1_2)) (C := RB) (T := TB) (N := 2) hx hb hts (inC iB) hown hK hP 0 rfl rfl 1 (by decide) (hts _ (List.mem_cons_of_mem _ m2_79)) (fun _ h9 => h9) rfl dB_add_18 ?_
        have J_1 : ∀ (w_0 : Int32), w_0 = (v_B_add_5 k2 f2 j1 y1_0 y1_1 y1_2) → ∀ (H : Heap) (locs : List Loc), va_K (dC, dI) vwCl [(bh0, .int), (bh1, .int)] s → va_P (dC, dI) vwCl [(h0, .inr (3, [.ref h0d, .int (nI y1_2)])), (h0d, .inl (bh0, 640, .inl y1_1)), (h1, .inr (3, [.ref h1d, .int (nI k2)])), (h1d, .inl (bh1, 640, .inl f2))] H → va_D A [(h0, .inr (3, [.ref h0d, .int (nI y1_2)])), (h0d, .inl (bh0, 640, .inl y1_1)), (h1, .inr (3, [.ref h1d, .int (nI k2)])), (h1d, .inl (bh1, 640, .inl f2))] → va_S A s.heap H locs → ∀ (ls : Array Slot), lv_has ls 5 [(0, .ref h0), (1, .ref h1), (2, .int y1_0), (3, .int (nI j1))] → WB_add p l e s m below meth c dC dI h0 h0d h1 h1d bh0 bh1 f k f2 k2 A H locs (F0 m 34 ls [.int w_0]) := by
          intro w_0 e_0
          rw [e_0]
          intro H locs hK hP hD hS ls hl
          refine lv_iload_n hx hb dB_add_34 rfl (lv_at hl 3 rfl) ?_
          refine lv_aload_n hx hb dB_add_35 rfl (lv_at hl 1 rfl) ?_
          refine va_get (D := (dC, dI)) (ci := 3) (v := .int (nI k2)) (C := RB) (T := TB) (N := 2) hx hb hts (inC iB) hown hK hP 2 rfl rfl 1 (by decide) (hts _ (List.mem_cons_of_mem _ m2_79)) (fun _ h9 => h9) rfl dB_add_36 ?_
          have J_2 : ∀ (w_0 : Int32), w_0 = (v_B_add_7 k2 f2 j1 y1_0 y1_1 y1_2) → ∀ (H : Heap) (locs : List Loc), va_K (dC, dI) vwCl [(bh0, .int), (bh1, .int)] s → va_P (dC, dI) vwCl [(h0, .inr (3, [.ref h0d, .int (nI y1_2)])), (h0d, .inl (bh0, 640, .inl y1_1)), (h1, .inr (3, [.ref h1d, .int (nI k2)])), (h1d, .inl (bh1, 640, .inl f2))] H → va_D A [(h0, .inr (3, [.ref h0d, .int (nI y1_2)])), (h0d, .inl (bh0, 640, .inl y1_1)), (h1, .inr (3, [.ref h1d, .int (nI k2)])), (h1d, .inl (bh1, 640, .inl f2))] → va_S A s.heap H locs → ∀ (ls : Array Slot), lv_has ls 5 [(0, .ref h0), (1, .ref h1), (2, .int y1_0), (3, .int (nI j1))] → WB_add p l e s m below meth c dC dI h0 h0d h1 h1d bh0 bh1 f k f2 k2 A H locs (F0 m 52 ls [.int w_0, .int (v_B_add_5 k2 f2 j1 y1_0 y1_1 y1_2)]) := by
            intro w_0 e_0
            rw [e_0]
            intro H locs hK hP hD hS ls hl
            refine lv_iadd hx hb dB_add_52 ?_
            refine lv_iload_n hx hb dB_add_53 rfl (lv_at hl 2 rfl) ?_
            refine lv_iadd hx hb dB_add_54 ?_
            refine lv_topi (fun w9 e9 => ?_)
            have e9 : w9 = (v_B_add_8 k2 f2 j1 y1_0 y1_1 y1_2) := e9
            rw [e9]
            refine lv_istore (lv' := [(4, .int (v_B_add_8 k2 f2 j1 y1_0 y1_1 y1_2)), (0, .ref h0), (1, .ref h1), (2, .int y1_0), (3, .int (nI j1))]) hx hb dB_add_55 hl (by decide) rfl (fun ls hl => ?_)
            refine lv_aload_n hx hb dB_add_57 rfl (lv_at hl 1 rfl) ?_
            refine lv_iload_n hx hb dB_add_58 rfl (lv_at hl 4 rfl) ?_
            refine lv_aload_n hx hb dB_add_59 rfl (lv_at hl 1 rfl) ?_
            refine va_get (D := (dC, dI)) (ci := 3) (v := .int (nI y1_2)) (C := RB) (T := TB) (N := 2) hx hb hts (inC iB) hown hK hP 0 rfl rfl 1 (by decide) (hts _ (List.mem_cons_of_mem _ m2_79)) (fun _ h9 => h9) rfl dB_add_60 ?_
            have J_3 : ∀ (w_0 : Nat), w_0 = (v_B_add_9 k2 f2 j1 y1_0 y1_1 y1_2) → ∀ (H : Heap) (locs : List Loc), va_K (dC, dI) vwCl [(bh0, .int), (bh1, .int)] s → va_P (dC, dI) vwCl [(h0, .inr (3, [.ref h0d, .int (nI y1_2)])), (h0d, .inl (bh0, 640, .inl y1_1)), (h1, .inr (3, [.ref h1d, .int (nI k2)])), (h1d, .inl (bh1, 640, .inl f2))] H → va_D A [(h0, .inr (3, [.ref h0d, .int (nI y1_2)])), (h0d, .inl (bh0, 640, .inl y1_1)), (h1, .inr (3, [.ref h1d, .int (nI k2)])), (h1d, .inl (bh1, 640, .inl f2))] → va_S A s.heap H locs → ∀ (ls : Array Slot), lv_has ls 5 [(0, .ref h0), (1, .ref h1), (3, .int (nI j1)), (4, .int (v_B_add_8 k2 f2 j1 y1_0 y1_1 y1_2))] → WB_add p l e s m below meth c dC dI h0 h0d h1 h1d bh0 bh1 f k f2 k2 A H locs (F0 m 76 ls [.int (nI w_0), .ref h0]) := by
              intro w_0 e_0
              rw [e_0]
              intro H locs hK hP hD hS ls hl
              refine va_put (D := (dC, dI)) (ci := 3) (v := .int (nI (v_B_add_9 k2 f2 j1 y1_0 y1_1 y1_2))) (ty := .int) (C := RB) (T := TB) (N := 2) hx hb hts (inC iB) tyB tyB_ok nmB hown hK hP hD hS 0 rfl rfl 1 (by decide) (hts _ (List.mem_cons_of_mem _ m2_79)) (fun _ h9 => h9) rfl (by decide +kernel) rfl rfl (Nat.le_of_ble_eq_true rfl) dB_add_76 (fun H locs hP hD hS => ?_)
              have hP : va_P (dC, dI) vwCl [(h0, .inr (3, [.ref h0d, .int (nI (v_B_add_9 k2 f2 j1 y1_0 y1_1 y1_2))])), (h0d, .inl (bh0, 640, .inl y1_1)), (h1, .inr (3, [.ref h1d, .int (nI k2)])), (h1d, .inl (bh1, 640, .inl f2))] H := hP
              have hD : va_D A [(h0, .inr (3, [.ref h0d, .int (nI (v_B_add_9 k2 f2 j1 y1_0 y1_1 y1_2))])), (h0d, .inl (bh0, 640, .inl y1_1)), (h1, .inr (3, [.ref h1d, .int (nI k2)])), (h1d, .inl (bh1, 640, .inl f2))] := hD
              refine lv_aload_n hx hb dB_add_79 rfl (lv_at hl 0 rfl) ?_
              refine va_get (D := (dC, dI)) (ci := 3) (v := .ref h0d) (C := RB) (T := TB) (N := 2) hx hb hts (inC iB) hown hK hP 0 rfl rfl 0 (by decide) (hts _ (List.mem_cons_of_mem _ m2_78)) (fun _ h9 => h9) rfl dB_add_80 ?_
              refine lv_iload_n hx hb dB_add_83 rfl (lv_at hl 2 rfl) ?_
              refine lv_iload hx hb dB_add_84 (lv_at hl 3 rfl) ?_
              refine lv_ldc (v := 65535) hx hb hown (hts _ (List.mem_cons_of_mem _ m2_188)) dB_add_86 ?_
              refine lv_iand hx hb dB_add_88 ?_
              refine lv_topi (fun w9 e9 => ?_)
              have e9 : w9 = (v_B_add_10 k2 f2 j1 y1_0 y1_1 y1_2) := e9
              rw [e9]
              refine va_iast hx hb hK hP hD hS 1 0 rfl rfl (i := (nI j1)) (x := (v_B_add_10 k2 f2 j1 y1_0 y1_1 y1_2)) (vp_in_nI (n := j1) (by omega) (by omega)) dB_add_89 (fun H locs hP hD hS => ?_)
              have hP : va_P (dC, dI) vwCl [(h0, .inr (3, [.ref h0d, .int (nI (v_B_add_9 k2 f2 j1 y1_0 y1_1 y1_2))])), (h0d, .inl (bh0, 640, .inl (upd y1_1 (nI j1).toNatClampNeg (v_B_add_10 k2 f2 j1 y1_0 y1_1 y1_2)))), (h1, .inr (3, [.ref h1d, .int (nI k2)])), (h1d, .inl (bh1, 640, .inl f2))] H := hP
              have hD : va_D A [(h0, .inr (3, [.ref h0d, .int (nI (v_B_add_9 k2 f2 j1 y1_0 y1_1 y1_2))])), (h0d, .inl (bh0, 640, .inl (upd y1_1 (nI j1).toNatClampNeg (v_B_add_10 k2 f2 j1 y1_0 y1_1 y1_2)))), (h1, .inr (3, [.ref h1d, .int (nI k2)])), (h1d, .inl (bh1, 640, .inl f2))] := hD
              have e9 : upd y1_1 (nI j1).toNatClampNeg (v_B_add_10 k2 f2 j1 y1_0 y1_1 y1_2) = (v_B_add_11 k2 f2 j1 y1_0 y1_1 y1_2) := congrArg (fun z => upd y1_1 z (v_B_add_10 k2 f2 j1 y1_0 y1_1 y1_2)) (nI_clamp (n := j1) (by omega))
              rw [e9] at hP hD
              have hP : va_P (dC, dI) vwCl [(h0, .inr (3, [.ref h0d, .int (nI (v_B_add_9 k2 f2 j1 y1_0 y1_1 y1_2))])), (h0d, .inl (bh0, 640, .inl (v_B_add_11 k2 f2 j1 y1_0 y1_1 y1_2))), (h1, .inr (3, [.ref h1d, .int (nI k2)])), (h1d, .inl (bh1, 640, .inl f2))] H := hP
              have hD : va_D A [(h0, .inr (3, [.ref h0d, .int (nI (v_B_add_9 k2 f2 j1 y1_0 y1_1 y1_2))])), (h0d, .inl (bh0, 640, .inl (v_B_add_11 k2 f2 j1 y1_0 y1_1 y1_2))), (h1, .inr (3, [.ref h1d, .int (nI k2)])), (h1d, .inl (bh1, 640, .inl f2))] := hD
              refine lv_iload hx hb dB_add_90 (lv_at hl 3 rfl) ?_
              refine lv_bipush (v := 16) hx hb dB_add_92 (by decide) ?_
              refine lv_ishr hx hb dB_add_94 ?_
              refine lv_topi (fun w9 e9 => ?_)
              have e9 : w9 = (v_B_add_12 k2 f2 j1 y1_0 y1_1 y1_2) := e9
              rw [e9]
              refine lv_istore_n (lv' := [(2, .int (v_B_add_12 k2 f2 j1 y1_0 y1_1 y1_2)), (0, .ref h0), (1, .ref h1), (3, .int (nI j1)), (4, .int (v_B_add_8 k2 f2 j1 y1_0 y1_1 y1_2))]) hx hb dB_add_95 rfl hl (by decide) rfl (fun ls hl => ?_)
              refine lv_iinc (v := (nI (j1 + 1))) (lv' := [(3, .int (nI (j1 + 1))), (2, .int (v_B_add_12 k2 f2 j1 y1_0 y1_1 y1_2)), (0, .ref h0), (1, .ref h1), (4, .int (v_B_add_8 k2 f2 j1 y1_0 y1_1 y1_2))]) hx hb dB_add_96 hl (k := 3) rfl (nI_1 _) (by decide) rfl (fun ls hl => ?_)
              refine lv_goto (tgt := 4) hx hb dB_add_99 (by decide) ?_
              exact ih (j1 + 1) (v_B_add_12 k2 f2 j1 y1_0 y1_1 y1_2) (v_B_add_11 k2 f2 j1 y1_0 y1_1 y1_2) (v_B_add_9 k2 f2 j1 y1_0 y1_1 y1_2) (by omega) (badd_c hc (by omega) hd hd2) (badd_z hc hy (by omega)) (badd_y hy (by omega) (by omega)) (badd_d hy hd (by omega) (by omega)) (by exact (Eq.trans ((if_pos c_3)).symm hq)) _ _ (hK.sub [0, 1] rfl) (hP.sub [0, 1, 2, 3] rfl) (hD.sub [0, 1, 2, 3] (by decide) rfl) hS ls (lv_sub hl [2, 3, 1, 0] rfl)
            refine lv_icmp_ge (tgt := 73) hx hb dB_add_63 (by decide) (fun c_6 => ?_) (fun c_6 => ?_)
            · refine lv_iload_n hx hb dB_add_73 rfl (lv_at hl 4 rfl) ?_
              refine lv_iconst (v := 1) hx hb dB_add_74 (by decide) ?_
              refine lv_iadd hx hb dB_add_75 ?_
              refine W.eq (g2 := F0 m 76 ls [.int (nI (j1 + 1)), .ref h0]) (congrArg (fun z => F0 m 76 ls [.int z, .ref h0]) (nI_add j1 1)) ?_
              exact J_3 (j1 + 1) ((if_pos c_6)).symm _ _ (hK.sub [0, 1] rfl) (hP.sub [0, 1, 2, 3] rfl) (hD.sub [0, 1, 2, 3] (by decide) rfl) hS ls (lv_sub hl [1, 2, 4, 0] rfl)
            · refine lv_aload_n hx hb dB_add_66 rfl (lv_at hl 1 rfl) ?_
              refine va_get (D := (dC, dI)) (ci := 3) (v := .int (nI y1_2)) (C := RB) (T := TB) (N := 2) hx hb hts (inC iB) hown hK hP 0 rfl rfl 1 (by decide) (hts _ (List.mem_cons_of_mem _ m2_79)) (fun _ h9 => h9) rfl dB_add_67 ?_
              refine lv_goto (tgt := 76) hx hb dB_add_70 (by decide) ?_
              exact J_3 y1_2 ((if_neg c_6)).symm _ _ (hK.sub [0, 1] rfl) (hP.sub [0, 1, 2, 3] rfl) (hD.sub [0, 1, 2, 3] (by decide) rfl) hS ls (lv_sub hl [1, 2, 4, 0] rfl)
          refine lv_icmp_ge (tgt := 51) hx hb dB_add_39 (by decide) (fun c_5 => ?_) (fun c_5 => ?_)
          · refine lv_iconst (v := 0) hx hb dB_add_51 (by decide) ?_
            exact J_2 (0 : Int32) ((if_pos c_5)).symm _ _ (hK.sub [0, 1] rfl) (hP.sub [0, 1, 2, 3] rfl) (hD.sub [0, 1, 2, 3] (by decide) rfl) hS ls (lv_sub hl [0, 1, 2, 3] rfl)
          · have hjb : j1 < k2 := Nat.lt_of_not_le (fun q => c_5 ((nI_leI (by omega) (by omega)).mpr q))
            refine lv_aload_n hx hb dB_add_42 rfl (lv_at hl 1 rfl) ?_
            refine va_get (D := (dC, dI)) (ci := 3) (v := .ref h1d) (C := RB) (T := TB) (N := 2) hx hb hts (inC iB) hown hK hP 2 rfl rfl 0 (by decide) (hts _ (List.mem_cons_of_mem _ m2_78)) (fun _ h9 => h9) rfl dB_add_43 ?_
            refine lv_iload_n hx hb dB_add_46 rfl (lv_at hl 3 rfl) ?_
            refine va_iald hx hb hK hP 3 1 rfl rfl (i := (nI j1)) (vp_in_nI (n := j1) (by omega) (by omega)) dB_add_47 ?_
            refine lv_topi (fun w9 e9 => ?_)
            have e9 : w9 = (v_B_add_6 k2 f2 j1 y1_0 y1_1 y1_2) := e9.trans (congrArg f2 (nI_clamp (n := j1) (by omega)))
            rw [e9]
            refine lv_goto (tgt := 52) hx hb dB_add_48 (by decide) ?_
            exact J_2 (v_B_add_6 k2 f2 j1 y1_0 y1_1 y1_2) ((if_neg c_5)).symm _ _ (hK.sub [0, 1] rfl) (hP.sub [0, 1, 2, 3] rfl) (hD.sub [0, 1, 2, 3] (by decide) rfl) hS ls (lv_sub hl [0, 1, 2, 3] rfl)
        refine lv_icmp_ge (tgt := 33) hx hb dB_add_21 (by decide) (fun c_4 => ?_) (fun c_4 => ?_)
        · refine lv_iconst (v := 0) hx hb dB_add_33 (by decide) ?_
          exact J_1 (0 : Int32) ((if_pos c_4)).symm _ _ (hK.sub [0, 1] rfl) (hP.sub [0, 1, 2, 3] rfl) (hD.sub [0, 1, 2, 3] (by decide) rfl) hS ls (lv_sub hl [0, 1, 2, 3] rfl)
        · have hja : j1 < y1_2 := Nat.lt_of_not_le (fun q => c_4 ((nI_leI (by omega) (by omega)).mpr q))
          refine lv_aload_n hx hb dB_add_24 rfl (lv_at hl 0 rfl) ?_
          refine va_get (D := (dC, dI)) (ci := 3) (v := .ref h0d) (C := RB) (T := TB) (N := 2) hx hb hts (inC iB) hown hK hP 0 rfl rfl 0 (by decide) (hts _ (List.mem_cons_of_mem _ m2_78)) (fun _ h9 => h9) rfl dB_add_25 ?_
          refine lv_iload_n hx hb dB_add_28 rfl (lv_at hl 3 rfl) ?_
          refine va_iald hx hb hK hP 1 0 rfl rfl (i := (nI j1)) (vp_in_nI (n := j1) (by omega) (by omega)) dB_add_29 ?_
          refine lv_topi (fun w9 e9 => ?_)
          have e9 : w9 = (v_B_add_4 k2 f2 j1 y1_0 y1_1 y1_2) := e9.trans (congrArg y1_1 (nI_clamp (n := j1) (by omega)))
          rw [e9]
          refine lv_goto (tgt := 34) hx hb dB_add_30 (by decide) ?_
          exact J_1 (v_B_add_4 k2 f2 j1 y1_0 y1_1 y1_2) ((if_neg c_4)).symm _ _ (hK.sub [0, 1] rfl) (hP.sub [0, 1, 2, 3] rfl) (hD.sub [0, 1, 2, 3] (by decide) rfl) hS ls (lv_sub hl [0, 1, 2, 3] rfl)
      · refine lv_iload_n hx hb dB_add_12 rfl (lv_at hl 2 rfl) ?_
        refine lv_if_le (tgt := 102) hx hb dB_add_13 (by decide) (fun c_7 => ?_) (fun c_7 => ?_)
        · exact K_1 y1_0 y1_1 y1_2 (by exact (Eq.trans (((if_neg c_3).trans (if_pos c_7))).symm hq)) _ _ (hK.sub [0, 1] rfl) (hP.sub [0, 1, 2, 3] rfl) (hD.sub [0, 1, 2, 3] (by decide) rfl) hS ls (lv_sub hl [] rfl)
        · refine lv_iload_n hx hb dB_add_16 rfl (lv_at hl 3 rfl) ?_
          refine lv_aload_n hx hb dB_add_17 rfl (lv_at hl 0 rfl) ?_
          refine va_get (D := (dC, dI)) (ci := 3) (v := .int (nI y1_2)) (C := RB) (T := TB) (N := 2) hx hb hts (inC iB) hown hK hP 0 rfl rfl 1 (by decide) (hts _ (List.mem_cons_of_mem _ m2_79)) (fun _ h9 => h9) rfl dB_add_18 ?_
          have J_4 : ∀ (w_0 : Int32), w_0 = (v_B_add_14 k2 f2 j1 y1_0 y1_1 y1_2) → ∀ (H : Heap) (locs : List Loc), va_K (dC, dI) vwCl [(bh0, .int), (bh1, .int)] s → va_P (dC, dI) vwCl [(h0, .inr (3, [.ref h0d, .int (nI y1_2)])), (h0d, .inl (bh0, 640, .inl y1_1)), (h1, .inr (3, [.ref h1d, .int (nI k2)])), (h1d, .inl (bh1, 640, .inl f2))] H → va_D A [(h0, .inr (3, [.ref h0d, .int (nI y1_2)])), (h0d, .inl (bh0, 640, .inl y1_1)), (h1, .inr (3, [.ref h1d, .int (nI k2)])), (h1d, .inl (bh1, 640, .inl f2))] → va_S A s.heap H locs → ∀ (ls : Array Slot), lv_has ls 5 [(0, .ref h0), (1, .ref h1), (2, .int y1_0), (3, .int (nI j1))] → WB_add p l e s m below meth c dC dI h0 h0d h1 h1d bh0 bh1 f k f2 k2 A H locs (F0 m 34 ls [.int w_0]) := by
            intro w_0 e_0
            rw [e_0]
            intro H locs hK hP hD hS ls hl
            refine lv_iload_n hx hb dB_add_34 rfl (lv_at hl 3 rfl) ?_
            refine lv_aload_n hx hb dB_add_35 rfl (lv_at hl 1 rfl) ?_
            refine va_get (D := (dC, dI)) (ci := 3) (v := .int (nI k2)) (C := RB) (T := TB) (N := 2) hx hb hts (inC iB) hown hK hP 2 rfl rfl 1 (by decide) (hts _ (List.mem_cons_of_mem _ m2_79)) (fun _ h9 => h9) rfl dB_add_36 ?_
            have J_5 : ∀ (w_0 : Int32), w_0 = (v_B_add_16 k2 f2 j1 y1_0 y1_1 y1_2) → ∀ (H : Heap) (locs : List Loc), va_K (dC, dI) vwCl [(bh0, .int), (bh1, .int)] s → va_P (dC, dI) vwCl [(h0, .inr (3, [.ref h0d, .int (nI y1_2)])), (h0d, .inl (bh0, 640, .inl y1_1)), (h1, .inr (3, [.ref h1d, .int (nI k2)])), (h1d, .inl (bh1, 640, .inl f2))] H → va_D A [(h0, .inr (3, [.ref h0d, .int (nI y1_2)])), (h0d, .inl (bh0, 640, .inl y1_1)), (h1, .inr (3, [.ref h1d, .int (nI k2)])), (h1d, .inl (bh1, 640, .inl f2))] → va_S A s.heap H locs → ∀ (ls : Array Slot), lv_has ls 5 [(0, .ref h0), (1, .ref h1), (2, .int y1_0), (3, .int (nI j1))] → WB_add p l e s m below meth c dC dI h0 h0d h1 h1d bh0 bh1 f k f2 k2 A H locs (F0 m 52 ls [.int w_0, .int (v_B_add_14 k2 f2 j1 y1_0 y1_1 y1_2)]) := by
              intro w_0 e_0
              rw [e_0]
              intro H locs hK hP hD hS ls hl
              refine lv_iadd hx hb dB_add_52 ?_
              refine lv_iload_n hx hb dB_add_53 rfl (lv_at hl 2 rfl) ?_
              refine lv_iadd hx hb dB_add_54 ?_
              refine lv_topi (fun w9 e9 => ?_)
              have e9 : w9 = (v_B_add_17 k2 f2 j1 y1_0 y1_1 y1_2) := e9
              rw [e9]
              refine lv_istore (lv' := [(4, .int (v_B_add_17 k2 f2 j1 y1_0 y1_1 y1_2)), (0, .ref h0), (1, .ref h1), (2, .int y1_0), (3, .int (nI j1))]) hx hb dB_add_55 hl (by decide) rfl (fun ls hl => ?_)
              refine lv_aload_n hx hb dB_add_57 rfl (lv_at hl 1 rfl) ?_
              refine lv_iload_n hx hb dB_add_58 rfl (lv_at hl 4 rfl) ?_
              refine lv_aload_n hx hb dB_add_59 rfl (lv_at hl 1 rfl) ?_
              refine va_get (D := (dC, dI)) (ci := 3) (v := .int (nI y1_2)) (C := RB) (T := TB) (N := 2) hx hb hts (inC iB) hown hK hP 0 rfl rfl 1 (by decide) (hts _ (List.mem_cons_of_mem _ m2_79)) (fun _ h9 => h9) rfl dB_add_60 ?_
              have J_6 : ∀ (w_0 : Nat), w_0 = (v_B_add_18 k2 f2 j1 y1_0 y1_1 y1_2) → ∀ (H : Heap) (locs : List Loc), va_K (dC, dI) vwCl [(bh0, .int), (bh1, .int)] s → va_P (dC, dI) vwCl [(h0, .inr (3, [.ref h0d, .int (nI y1_2)])), (h0d, .inl (bh0, 640, .inl y1_1)), (h1, .inr (3, [.ref h1d, .int (nI k2)])), (h1d, .inl (bh1, 640, .inl f2))] H → va_D A [(h0, .inr (3, [.ref h0d, .int (nI y1_2)])), (h0d, .inl (bh0, 640, .inl y1_1)), (h1, .inr (3, [.ref h1d, .int (nI k2)])), (h1d, .inl (bh1, 640, .inl f2))] → va_S A s.heap H locs → ∀ (ls : Array Slot), lv_has ls 5 [(0, .ref h0), (1, .ref h1), (3, .int (nI j1)), (4, .int (v_B_add_17 k2 f2 j1 y1_0 y1_1 y1_2))] → WB_add p l e s m below meth c dC dI h0 h0d h1 h1d bh0 bh1 f k f2 k2 A H locs (F0 m 76 ls [.int (nI w_0), .ref h0]) := by
                intro w_0 e_0
                rw [e_0]
                intro H locs hK hP hD hS ls hl
                refine va_put (D := (dC, dI)) (ci := 3) (v := .int (nI (v_B_add_18 k2 f2 j1 y1_0 y1_1 y1_2))) (ty := .int) (C := RB) (T := TB) (N := 2) hx hb hts (inC iB) tyB tyB_ok nmB hown hK hP hD hS 0 rfl rfl 1 (by decide) (hts _ (List.mem_cons_of_mem _ m2_79)) (fun _ h9 => h9) rfl (by decide +kernel) rfl rfl (Nat.le_of_ble_eq_true rfl) dB_add_76 (fun H locs hP hD hS => ?_)
                have hP : va_P (dC, dI) vwCl [(h0, .inr (3, [.ref h0d, .int (nI (v_B_add_18 k2 f2 j1 y1_0 y1_1 y1_2))])), (h0d, .inl (bh0, 640, .inl y1_1)), (h1, .inr (3, [.ref h1d, .int (nI k2)])), (h1d, .inl (bh1, 640, .inl f2))] H := hP
                have hD : va_D A [(h0, .inr (3, [.ref h0d, .int (nI (v_B_add_18 k2 f2 j1 y1_0 y1_1 y1_2))])), (h0d, .inl (bh0, 640, .inl y1_1)), (h1, .inr (3, [.ref h1d, .int (nI k2)])), (h1d, .inl (bh1, 640, .inl f2))] := hD
                refine lv_aload_n hx hb dB_add_79 rfl (lv_at hl 0 rfl) ?_
                refine va_get (D := (dC, dI)) (ci := 3) (v := .ref h0d) (C := RB) (T := TB) (N := 2) hx hb hts (inC iB) hown hK hP 0 rfl rfl 0 (by decide) (hts _ (List.mem_cons_of_mem _ m2_78)) (fun _ h9 => h9) rfl dB_add_80 ?_
                refine lv_iload_n hx hb dB_add_83 rfl (lv_at hl 2 rfl) ?_
                refine lv_iload hx hb dB_add_84 (lv_at hl 3 rfl) ?_
                refine lv_ldc (v := 65535) hx hb hown (hts _ (List.mem_cons_of_mem _ m2_188)) dB_add_86 ?_
                refine lv_iand hx hb dB_add_88 ?_
                refine lv_topi (fun w9 e9 => ?_)
                have e9 : w9 = (v_B_add_19 k2 f2 j1 y1_0 y1_1 y1_2) := e9
                rw [e9]
                refine va_iast hx hb hK hP hD hS 1 0 rfl rfl (i := (nI j1)) (x := (v_B_add_19 k2 f2 j1 y1_0 y1_1 y1_2)) (vp_in_nI (n := j1) (by omega) (by omega)) dB_add_89 (fun H locs hP hD hS => ?_)
                have hP : va_P (dC, dI) vwCl [(h0, .inr (3, [.ref h0d, .int (nI (v_B_add_18 k2 f2 j1 y1_0 y1_1 y1_2))])), (h0d, .inl (bh0, 640, .inl (upd y1_1 (nI j1).toNatClampNeg (v_B_add_19 k2 f2 j1 y1_0 y1_1 y1_2)))), (h1, .inr (3, [.ref h1d, .int (nI k2)])), (h1d, .inl (bh1, 640, .inl f2))] H := hP
                have hD : va_D A [(h0, .inr (3, [.ref h0d, .int (nI (v_B_add_18 k2 f2 j1 y1_0 y1_1 y1_2))])), (h0d, .inl (bh0, 640, .inl (upd y1_1 (nI j1).toNatClampNeg (v_B_add_19 k2 f2 j1 y1_0 y1_1 y1_2)))), (h1, .inr (3, [.ref h1d, .int (nI k2)])), (h1d, .inl (bh1, 640, .inl f2))] := hD
                have e9 : upd y1_1 (nI j1).toNatClampNeg (v_B_add_19 k2 f2 j1 y1_0 y1_1 y1_2) = (v_B_add_20 k2 f2 j1 y1_0 y1_1 y1_2) := congrArg (fun z => upd y1_1 z (v_B_add_19 k2 f2 j1 y1_0 y1_1 y1_2)) (nI_clamp (n := j1) (by omega))
                rw [e9] at hP hD
                have hP : va_P (dC, dI) vwCl [(h0, .inr (3, [.ref h0d, .int (nI (v_B_add_18 k2 f2 j1 y1_0 y1_1 y1_2))])), (h0d, .inl (bh0, 640, .inl (v_B_add_20 k2 f2 j1 y1_0 y1_1 y1_2))), (h1, .inr (3, [.ref h1d, .int (nI k2)])), (h1d, .inl (bh1, 640, .inl f2))] H := hP
                have hD : va_D A [(h0, .inr (3, [.ref h0d, .int (nI (v_B_add_18 k2 f2 j1 y1_0 y1_1 y1_2))])), (h0d, .inl (bh0, 640, .inl (v_B_add_20 k2 f2 j1 y1_0 y1_1 y1_2))), (h1, .inr (3, [.ref h1d, .int (nI k2)])), (h1d, .inl (bh1, 640, .inl f2))] := hD
                refine lv_iload hx hb dB_add_90 (lv_at hl 3 rfl) ?_
                refine lv_bipush (v := 16) hx hb dB_add_92 (by decide) ?_
                refine lv_ishr hx hb dB_add_94 ?_
                refine lv_topi (fun w9 e9 => ?_)
                have e9 : w9 = (v_B_add_21 k2 f2 j1 y1_0 y1_1 y1_2) := e9
                rw [e9]
                refine lv_istore_n (lv' := [(2, .int (v_B_add_21 k2 f2 j1 y1_0 y1_1 y1_2)), (0, .ref h0), (1, .ref h1), (3, .int (nI j1)), (4, .int (v_B_add_17 k2 f2 j1 y1_0 y1_1 y1_2))]) hx hb dB_add_95 rfl hl (by decide) rfl (fun ls hl => ?_)
                refine lv_iinc (v := (nI (j1 + 1))) (lv' := [(3, .int (nI (j1 + 1))), (2, .int (v_B_add_21 k2 f2 j1 y1_0 y1_1 y1_2)), (0, .ref h0), (1, .ref h1), (4, .int (v_B_add_17 k2 f2 j1 y1_0 y1_1 y1_2))]) hx hb dB_add_96 hl (k := 3) rfl (nI_1 _) (by decide) rfl (fun ls hl => ?_)
                refine lv_goto (tgt := 4) hx hb dB_add_99 (by decide) ?_
                exact ih (j1 + 1) (v_B_add_21 k2 f2 j1 y1_0 y1_1 y1_2) (v_B_add_20 k2 f2 j1 y1_0 y1_1 y1_2) (v_B_add_18 k2 f2 j1 y1_0 y1_1 y1_2) (by omega) (badd_c hc (by omega) hd hd2) (badd_z hc hy (by omega)) (badd_y hy (by omega) (by omega)) (badd_d hy hd (by omega) (by omega)) (by exact (Eq.trans (((if_neg c_3).trans (if_neg c_7))).symm hq)) _ _ (hK.sub [0, 1] rfl) (hP.sub [0, 1, 2, 3] rfl) (hD.sub [0, 1, 2, 3] (by decide) rfl) hS ls (lv_sub hl [2, 3, 1, 0] rfl)
              refine lv_icmp_ge (tgt := 73) hx hb dB_add_63 (by decide) (fun c_10 => ?_) (fun c_10 => ?_)
              · refine lv_iload_n hx hb dB_add_73 rfl (lv_at hl 4 rfl) ?_
                refine lv_iconst (v := 1) hx hb dB_add_74 (by decide) ?_
                refine lv_iadd hx hb dB_add_75 ?_
                refine W.eq (g2 := F0 m 76 ls [.int (nI (j1 + 1)), .ref h0]) (congrArg (fun z => F0 m 76 ls [.int z, .ref h0]) (nI_add j1 1)) ?_
                exact J_6 (j1 + 1) ((if_pos c_10)).symm _ _ (hK.sub [0, 1] rfl) (hP.sub [0, 1, 2, 3] rfl) (hD.sub [0, 1, 2, 3] (by decide) rfl) hS ls (lv_sub hl [1, 2, 4, 0] rfl)
              · refine lv_aload_n hx hb dB_add_66 rfl (lv_at hl 1 rfl) ?_
                refine va_get (D := (dC, dI)) (ci := 3) (v := .int (nI y1_2)) (C := RB) (T := TB) (N := 2) hx hb hts (inC iB) hown hK hP 0 rfl rfl 1 (by decide) (hts _ (List.mem_cons_of_mem _ m2_79)) (fun _ h9 => h9) rfl dB_add_67 ?_
                refine lv_goto (tgt := 76) hx hb dB_add_70 (by decide) ?_
                exact J_6 y1_2 ((if_neg c_10)).symm _ _ (hK.sub [0, 1] rfl) (hP.sub [0, 1, 2, 3] rfl) (hD.sub [0, 1, 2, 3] (by decide) rfl) hS ls (lv_sub hl [1, 2, 4, 0] rfl)
            refine lv_icmp_ge (tgt := 51) hx hb dB_add_39 (by decide) (fun c_9 => ?_) (fun c_9 => ?_)
            · refine lv_iconst (v := 0) hx hb dB_add_51 (by decide) ?_
              exact J_5 (0 : Int32) ((if_pos c_9)).symm _ _ (hK.sub [0, 1] rfl) (hP.sub [0, 1, 2, 3] rfl) (hD.sub [0, 1, 2, 3] (by decide) rfl) hS ls (lv_sub hl [0, 1, 2, 3] rfl)
            · have hjb : j1 < k2 := Nat.lt_of_not_le (fun q => c_9 ((nI_leI (by omega) (by omega)).mpr q))
              refine lv_aload_n hx hb dB_add_42 rfl (lv_at hl 1 rfl) ?_
              refine va_get (D := (dC, dI)) (ci := 3) (v := .ref h1d) (C := RB) (T := TB) (N := 2) hx hb hts (inC iB) hown hK hP 2 rfl rfl 0 (by decide) (hts _ (List.mem_cons_of_mem _ m2_78)) (fun _ h9 => h9) rfl dB_add_43 ?_
              refine lv_iload_n hx hb dB_add_46 rfl (lv_at hl 3 rfl) ?_
              refine va_iald hx hb hK hP 3 1 rfl rfl (i := (nI j1)) (vp_in_nI (n := j1) (by omega) (by omega)) dB_add_47 ?_
              refine lv_topi (fun w9 e9 => ?_)
              have e9 : w9 = (v_B_add_15 k2 f2 j1 y1_0 y1_1 y1_2) := e9.trans (congrArg f2 (nI_clamp (n := j1) (by omega)))
              rw [e9]
              refine lv_goto (tgt := 52) hx hb dB_add_48 (by decide) ?_
              exact J_5 (v_B_add_15 k2 f2 j1 y1_0 y1_1 y1_2) ((if_neg c_9)).symm _ _ (hK.sub [0, 1] rfl) (hP.sub [0, 1, 2, 3] rfl) (hD.sub [0, 1, 2, 3] (by decide) rfl) hS ls (lv_sub hl [0, 1, 2, 3] rfl)
          refine lv_icmp_ge (tgt := 33) hx hb dB_add_21 (by decide) (fun c_8 => ?_) (fun c_8 => ?_)
          · refine lv_iconst (v := 0) hx hb dB_add_33 (by decide) ?_
            exact J_4 (0 : Int32) ((if_pos c_8)).symm _ _ (hK.sub [0, 1] rfl) (hP.sub [0, 1, 2, 3] rfl) (hD.sub [0, 1, 2, 3] (by decide) rfl) hS ls (lv_sub hl [0, 1, 2, 3] rfl)
          · have hja : j1 < y1_2 := Nat.lt_of_not_le (fun q => c_8 ((nI_leI (by omega) (by omega)).mpr q))
            refine lv_aload_n hx hb dB_add_24 rfl (lv_at hl 0 rfl) ?_
            refine va_get (D := (dC, dI)) (ci := 3) (v := .ref h0d) (C := RB) (T := TB) (N := 2) hx hb hts (inC iB) hown hK hP 0 rfl rfl 0 (by decide) (hts _ (List.mem_cons_of_mem _ m2_78)) (fun _ h9 => h9) rfl dB_add_25 ?_
            refine lv_iload_n hx hb dB_add_28 rfl (lv_at hl 3 rfl) ?_
            refine va_iald hx hb hK hP 1 0 rfl rfl (i := (nI j1)) (vp_in_nI (n := j1) (by omega) (by omega)) dB_add_29 ?_
            refine lv_topi (fun w9 e9 => ?_)
            have e9 : w9 = (v_B_add_13 k2 f2 j1 y1_0 y1_1 y1_2) := e9.trans (congrArg y1_1 (nI_clamp (n := j1) (by omega)))
            rw [e9]
            refine lv_goto (tgt := 34) hx hb dB_add_30 (by decide) ?_
            exact J_4 (v_B_add_13 k2 f2 j1 y1_0 y1_1 y1_2) ((if_neg c_8)).symm _ _ (hK.sub [0, 1] rfl) (hP.sub [0, 1, 2, 3] rfl) (hD.sub [0, 1, 2, 3] (by decide) rfl) hS ls (lv_sub hl [0, 1, 2, 3] rfl)
  exact L_1 (max k k2 + 1) 0 (0 : Int32) f k (by omega) (Or.inl rfl) (fun _ => rfl) (by omega) hd1 rfl _ _ (hK.sub [0, 1] rfl) (hP.sub [0, 1, 2, 3] rfl) (hD.sub [0, 1, 2, 3] (by decide) rfl) hS ls (lv_sub hl [2, 3, 1, 0] rfl)
