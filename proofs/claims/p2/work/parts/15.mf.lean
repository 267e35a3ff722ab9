abbrev RM_X9_states : Room := { frames := 2, cells := 0, slots := 0, locals := 45 }
def wp_X9_states (g : tw_G) (σ : tw_S) (a0 : Nat) (x1 : Int32) (x2 : Int32) (Q : Int32 → tw_S → Prop) : Prop := wp_X9_isMachine g σ x1 (fun r2 σ1 => ((¬ r2 = 0) → wp_X9_in g σ1 (x2.toInt64) (1 : Int64) (4 : Int64) (fun r5 σ4 => ((¬ r5 = 0) → wp_X9_notes g σ4 a0 (fun σ7 => wp_X9_states0 g σ7 a0 x1 (fun r9 σ8 => wp_X9_wipes g σ8 a0 x1 x2 (fun σ10 => Q r9 σ10)))) ∧ ((r5 = 0) → Q (-1000000002 : Int32) σ4))) ∧ ((r2 = 0) → Q (-1000000001 : Int32) σ1))
set_option maxHeartbeats 4000000 in
set_option maxRecDepth 100000 in
theorem ct_X9_states (l : Launch) (D : va_G) (g : tw_G) (hT : tw_T g) (sz : Nat) (σ : tw_S) (a0 : Nat) (h0 : tw_is g 9 a0) (x1 : Int32) (x2 : Int32) (Q : Int32 → tw_S → Prop) (h : wp_X9_states g σ a0 x1 x2 Q) : tw_Mi l yX9_states wsX9_states RM_X9_states D g sz σ [.ref a0, .int x1, .int x2] Q := by
  refine Met.ofW (cc := cX9_states) (maxL := 4) (ret := (some .int)) (by decide) rfl ?_
  intro p e s m args below meth c s₁ B hml hv
  obtain ⟨rfl, hsz, hP, hK, hD0⟩ := hv
  subst hsz
  have hr := B.returns
  have hlk := B.notSynchronized
  have X : CallFix p m c cX9_states 4 s _ wsX9_states RX9 := ⟨B.exec, B.bytes, hml, findClass_of_methodNamed B.named, atoms_spec (ws := wsX9_states) B.pre⟩
  have w := tw_w0 hP hD0
  have hl := lv_entry ([.ref a0, .int x1, .int x2]) (n := 4) (Nat.le_of_ble_eq_true rfl)
  rw [lg_entry_eq]
  generalize (lg_sl ([.ref a0, .int x1, .int x2]) ++ List.replicate (4 - (lg_sl ([.ref a0, .int x1, .int x2])).length) Slot.unset).toArray = ls at hl ⊢
  have hl : lv_has ls 4 [(0, .ref a0), (1, .int x1), (2, .int x2)] := hl
  unfold wp_X9_states at h
  refine lv_iload_n X.1 X.2.1 dX9_states_0 rfl (lv_at hl 1 rfl) ?_
  refine tw_ci w (va_runS (As := [.int x1]) (rest := []) X (ct_X9_isMachine l D g hT _ σ x1 _ h) (va_cwS 1 X.2.2.2.2 gX9_states_X9_isMachine rfl rfl rfl (by decide +kernel) ⟨Nat.le_of_ble_eq_true rfl, Nat.le_of_ble_eq_true rfl⟩) (tw_pre hK w [.int x1]) rfl rfl hl.1 rfl (lv_room (Nat.le_of_ble_eq_true rfl)) dX9_states_1 ⟨Nat.zero_le _, Nat.zero_le _⟩) (fun r2 σ1 H locs h w => ?_)
  refine lv_if_ne (tgt := 10) X.1 X.2.1 dX9_states_4 (by decide) (fun c3 => ?_) (fun c3 => ?_)
  · have h := h.1 c3
    refine lv_iload_n X.1 X.2.1 dX9_states_10 rfl (lv_at hl 2 rfl) ?_
    refine lv_i2l (v := (x2.toInt64)) X.1 X.2.1 dX9_states_11 rfl ?_
    refine lv_lconst (v := 1) X.1 X.2.1 dX9_states_12 (by decide) ?_
    refine lv_ldc2 (own := RX9) (v := 4) X.1 X.2.1 X.2.2.2.1 (X.2.2.2.2 _ (List.mem_of_getElem? (i := 2) rfl)) dX9_states_13 ?_
    refine tw_ci w (va_runS (As := [.long (x2.toInt64), .long (1 : Int64), .long (4 : Int64)]) (rest := []) X (ct_X9_in l D g hT _ σ1 (x2.toInt64) (1 : Int64) (4 : Int64) _ h) (va_cwS 3 X.2.2.2.2 gX9_states_X9_in rfl rfl rfl (by decide +kernel) ⟨Nat.le_of_ble_eq_true rfl, Nat.le_of_ble_eq_true rfl⟩) (tw_pre hK w [.long (x2.toInt64), .long (1 : Int64), .long (4 : Int64)]) rfl rfl hl.1 rfl (lv_room (Nat.le_of_ble_eq_true rfl)) dX9_states_16 ⟨Nat.zero_le _, Nat.zero_le _⟩) (fun r5 σ4 H locs h w => ?_)
    refine lv_if_ne (tgt := 25) X.1 X.2.1 dX9_states_19 (by decide) (fun c6 => ?_) (fun c6 => ?_)
    · have h := h.1 c6
      refine lv_aload_n X.1 X.2.1 dX9_states_25 rfl (lv_at hl 0 rfl) ?_
      refine tw_cv w (va_runV (As := []) (rest := []) X (ct_X9_notes l D g hT _ σ4 a0 h0 _ h) (cwV 0 X.2.2.2.2 gX9_states_X9_notes rfl rfl rfl (by decide +kernel) ⟨Nat.le_of_ble_eq_true rfl, Nat.le_of_ble_eq_true rfl⟩) (tw_preV hK w h0 (by decide) rfl []) rfl rfl hl.1 rfl (lv_room (Nat.le_of_ble_eq_true rfl)) dX9_states_26 ⟨Nat.zero_le _, Nat.zero_le _⟩) (fun σ7 H locs h w => ?_)
      refine lv_aload_n X.1 X.2.1 dX9_states_29 rfl (lv_at hl 0 rfl) ?_
      refine lv_iload_n X.1 X.2.1 dX9_states_30 rfl (lv_at hl 1 rfl) ?_
      refine tw_ci w (va_runV (As := [.int x1]) (rest := []) X (ct_X9_states0 l D g hT _ σ7 a0 h0 x1 _ h) (cwV 1 X.2.2.2.2 gX9_states_X9_states0 rfl rfl rfl (by decide +kernel) ⟨Nat.le_of_ble_eq_true rfl, Nat.le_of_ble_eq_true rfl⟩) (tw_preV hK w h0 (by decide) rfl [.int x1]) rfl rfl hl.1 rfl (lv_room (Nat.le_of_ble_eq_true rfl)) dX9_states_31 ⟨Nat.zero_le _, Nat.zero_le _⟩) (fun r9 σ8 H locs h w => ?_)
      refine lv_istore_n (lv' := [(3, .int r9), (0, .ref a0), (1, .int x1), (2, .int x2)]) X.1 X.2.1 dX9_states_34 rfl hl (by decide) rfl (fun ls hl => ?_)
      refine lv_aload_n X.1 X.2.1 dX9_states_35 rfl (lv_at hl 1 rfl) ?_
      refine lv_iload_n X.1 X.2.1 dX9_states_36 rfl (lv_at hl 2 rfl) ?_
      refine lv_iload_n X.1 X.2.1 dX9_states_37 rfl (lv_at hl 3 rfl) ?_
      refine tw_cv w (va_runV (As := [.int x1, .int x2]) (rest := []) X (ct_X9_wipes l D g hT _ σ8 a0 h0 x1 x2 _ h) (cwV 2 X.2.2.2.2 gX9_states_X9_wipes rfl rfl rfl (by decide +kernel) ⟨Nat.le_of_ble_eq_true rfl, Nat.le_of_ble_eq_true rfl⟩) (tw_preV hK w h0 (by decide) rfl [.int x1, .int x2]) rfl rfl hl.1 rfl (lv_room (Nat.le_of_ble_eq_true rfl)) dX9_states_38 ⟨Nat.zero_le _, Nat.zero_le _⟩) (fun σ10 H locs h w => ?_)
      refine lv_iload_n X.1 X.2.1 dX9_states_41 rfl (lv_at hl 0 rfl) ?_
      exact tw_iret X hr hlk w h dX9_states_42
    · have h := h.2 c6
      refine lv_ldc (own := RX9) (v := -1000000002) X.1 X.2.1 X.2.2.2.1 (X.2.2.2.2 _ (List.mem_of_getElem? (i := 3) rfl)) dX9_states_22 ?_
      exact tw_iret X hr hlk w h dX9_states_24
  · have h := h.2 c3
    refine lv_ldc (own := RX9) (v := -1000000001) X.1 X.2.1 X.2.2.2.1 (X.2.2.2.2 _ (List.mem_of_getElem? (i := 1) rfl)) dX9_states_7 ?_
    exact tw_iret X hr hlk w h dX9_states_9

abbrev RM_X9_lots : Room := { frames := 0, cells := 0, slots := 0, locals := 0 }
theorem iw_X9_lots_9 : ∀ w ∈ wsX90, w ∈ wsX9_lots := fun w h => List.mem_cons_of_mem _ (List.mem_append_right _ (h))
def wp_X9_lots (g : tw_G) (σ : tw_S) (a0 : Nat) (x1 : Int32) (Q : Int32 → tw_S → Prop) : Prop := ∀ z1, z1 = (((tw_J σ a0 10) * (16807 : Int64)) - ((tw_J σ a0 10) * (16807 : Int64)) / (2147483647 : Int64) * (2147483647 : Int64)) → ∀ σ2, σ2 = (tw_sJ σ a0 10 z1) → ¬ (x1.toInt64) = 0 ∧ ∀ z3, z3 = ((tw_J σ2 a0 10) - (tw_J σ2 a0 10) / (x1.toInt64) * (x1.toInt64)) → Q (z3.toInt32) σ2
set_option maxHeartbeats 4000000 in
set_option maxRecDepth 100000 in
theorem ct_X9_lots (l : Launch) (D : va_G) (g : tw_G) (hT : tw_T g) (sz : Nat) (σ : tw_S) (a0 : Nat) (h0 : tw_is g 9 a0) (x1 : Int32) (Q : Int32 → tw_S → Prop) (h : wp_X9_lots g σ a0 x1 Q) : tw_Mi l yX9_lots wsX9_lots RM_X9_lots D g sz σ [.ref a0, .int x1] Q := by
  refine Met.ofW (cc := cX9_lots) (maxL := 2) (ret := (some .int)) (by decide) rfl ?_
  intro p e s m args below meth c s₁ B hml hv
  obtain ⟨rfl, hsz, hP, hK, hD0⟩ := hv
  subst hsz
  have hr := B.returns
  have hlk := B.notSynchronized
  have X : CallFix p m c cX9_lots 2 s _ wsX9_lots RX9 := ⟨B.exec, B.bytes, hml, findClass_of_methodNamed B.named, atoms_spec (ws := wsX9_lots) B.pre⟩
  have w := tw_w0 hP hD0
  have hl := lv_entry ([.ref a0, .int x1]) (n := 2) (Nat.le_of_ble_eq_true rfl)
  rw [lg_entry_eq]
  generalize (lg_sl ([.ref a0, .int x1]) ++ List.replicate (2 - (lg_sl ([.ref a0, .int x1])).length) Slot.unset).toArray = ls at hl ⊢
  have hl : lv_has ls 2 [(0, .ref a0), (1, .int x1)] := hl
  unfold wp_X9_lots at h
  refine lv_aload_n X.1 X.2.1 dX9_lots_0 rfl (lv_at hl 0 rfl) ?_
  refine lv_aload_n X.1 X.2.1 dX9_lots_1 rfl (lv_at hl 0 rfl) ?_
  refine tw_get X hK w 9 iw_X9_lots_9 h0 (by decide) rfl 10 (by decide) (List.mem_of_getElem? (i := 1) rfl) rfl dX9_lots_2 ?_
  refine lv_ldc2 (own := RX9) (v := 16807) X.1 X.2.1 X.2.2.2.1 (X.2.2.2.2 _ (List.mem_of_getElem? (i := 2) rfl)) dX9_lots_5 ?_
  refine lv_lmul X.1 X.2.1 dX9_lots_8 ?_
  refine lv_ldc2 (own := RX9) (v := 2147483647) X.1 X.2.1 X.2.2.2.1 (X.2.2.2.2 _ (List.mem_of_getElem? (i := 3) rfl)) dX9_lots_9 ?_
  refine lv_lrem X.1 X.2.1 dX9_lots_12 (by decide) ?_
  refine lv_topl (fun z1 ez1 => ?_)
  have h := h _ ez1
  refine tw_putJ X hK w 9 iw_X9_lots_9 tyX9 tyX9_ok nmX9 h0 (by decide) rfl 10 (by decide) (List.mem_of_getElem? (i := 1) rfl) rfl (ty := .long) (by decide +kernel) rfl rfl (Nat.le_of_ble_eq_true rfl) (tw_f_9_10 g _ _ _) dX9_lots_13 (fun σ2 H locs eσ2 w => ?_)
  have h := h _ eσ2
  refine lv_aload_n X.1 X.2.1 dX9_lots_16 rfl (lv_at hl 0 rfl) ?_
  refine tw_get X hK w 9 iw_X9_lots_9 h0 (by decide) rfl 10 (by decide) (List.mem_of_getElem? (i := 1) rfl) rfl dX9_lots_17 ?_
  refine lv_iload_n X.1 X.2.1 dX9_lots_20 rfl (lv_at hl 1 rfl) ?_
  refine lv_i2l (v := (x1.toInt64)) X.1 X.2.1 dX9_lots_21 rfl ?_
  obtain ⟨hne, h⟩ := h
  refine lv_lrem X.1 X.2.1 dX9_lots_22 hne ?_
  refine lv_topl (fun z3 ez3 => ?_)
  have h := h _ ez3
  refine lv_l2i (v := (z3.toInt32)) X.1 X.2.1 dX9_lots_23 rfl ?_
  exact tw_iret X hr hlk w h dX9_lots_24

abbrev RM_X9_movesOf : Room := { frames := 0, cells := 0, slots := 0, locals := 0 }
theorem iw_X9_movesOf_9 : ∀ w ∈ wsX90, w ∈ wsX9_movesOf := fun w h => List.mem_cons_of_mem _ (List.mem_append_right _ (h))
def wl_X9_movesOf_4 (g : tw_G) (a0 : Nat) (x1 : Int32) (Q : Int32 → tw_S → Prop) (k41 : Int32 → tw_S → Prop) : Nat → Int32 → Int32 → tw_S → Prop
  | 0, _, _, _ => False
  | n + 1, x2, x3, σ => (((16 : Int32) ≤ x3) → k41 x2 σ) ∧ (¬ ((16 : Int32) ≤ x3) → vp_in ((((17 : Int32) * x1) + (1 : Int32)) + x3) 34 ∧ ((¬ (tw_A σ (tw_R g a0 0) ((((17 : Int32) * x1) + (1 : Int32)) + x3).toNatClampNeg) = (-1 : Int32)) → wl_X9_movesOf_4 g a0 x1 Q k41 n (x2 + (1 : Int32)) (x3 + 1) σ) ∧ (((tw_A σ (tw_R g a0 0) ((((17 : Int32) * x1) + (1 : Int32)) + x3).toNatClampNeg) = (-1 : Int32)) → wl_X9_movesOf_4 g a0 x1 Q k41 n (x2 + (0 : Int32)) (x3 + 1) σ))
def wp_X9_movesOf (g : tw_G) (σ : tw_S) (a0 : Nat) (x1 : Int32) (Q : Int32 → tw_S → Prop) : Prop := ∃ n4, wl_X9_movesOf_4 g a0 x1 Q (fun v4 σ5 => Q v4 σ5) n4 (0 : Int32) (0 : Int32) σ
set_option maxHeartbeats 4000000 in
set_option maxRecDepth 100000 in
theorem lp_X9_movesOf_4 {p : Program} {l : Launch} {e : Env} {s : State} {m : MethodId} {args : Array Value} {below : List Frame} {meth : Method} {c : Code} {D : va_G} {g : tw_G} (X : CallFix p m c cX9_movesOf 4 s args wsX9_movesOf RX9) (hr : meth.sig.returnType = (some .int)) (hlk : meth.locks = false) (hK : tw_k D g s) (hT : tw_T g) {a0 : Nat} {x1 : Int32} (h0 : tw_is g 9 a0) {Q : Int32 → tw_S → Prop} {k41 : Int32 → tw_S → Prop}
    (hk41 : ∀ (x2 : Int32) (σ : tw_S) (H : Heap) (locs : List Loc) (ls : Array Slot), k41 x2 σ → tw_w D g (tw_F g s.heap.size) s σ H locs → lv_has ls 4 [(2, .int x2)] → W p l e RM_X9_movesOf s m args below meth c H locs 0 0 (tw_Qi Q D g below args s) (F0 m 41 ls []))
    : ∀ (n : Nat) (x2 : Int32) (x3 : Int32) (σ : tw_S) (H : Heap) (locs : List Loc) (ls : Array Slot), wl_X9_movesOf_4 g a0 x1 Q k41 n x2 x3 σ → tw_w D g (tw_F g s.heap.size) s σ H locs → lv_has ls 4 [(0, .ref a0), (1, .int x1), (2, .int x2), (3, .int x3)] → W p l e RM_X9_movesOf s m args below meth c H locs 0 0 (tw_Qi Q D g below args s) (F0 m 4 ls []) := by
  intro n
  induction n with
  | zero =>
    intro x2 x3 σ H locs ls h w hl
    exact False.elim h
  | succ n ih =>
    intro x2 x3 σ H locs ls h w hl
    rw [wl_X9_movesOf_4] at h
    refine lv_iload_n X.1 X.2.1 dX9_movesOf_4 rfl (lv_at hl 3 rfl) ?_
    refine lv_bipush (v := 16) X.1 X.2.1 dX9_movesOf_5 (by decide) ?_
    refine lv_icmp_ge (tgt := 41) X.1 X.2.1 dX9_movesOf_7 (by decide) (fun c1 => ?_) (fun c1 => ?_)
    · have h := h.1 c1
      exact hk41 x2 σ _ _ ls h w (lv_sub hl [2] rfl)
    · have h := h.2 c1
      refine lv_iload_n X.1 X.2.1 dX9_movesOf_10 rfl (lv_at hl 2 rfl) ?_
      refine lv_aload_n X.1 X.2.1 dX9_movesOf_11 rfl (lv_at hl 0 rfl) ?_
      refine tw_get X hK w 9 iw_X9_movesOf_9 h0 (by decide) rfl 0 (by decide) (List.mem_of_getElem? (i := 1) rfl) rfl dX9_movesOf_12 ?_
      refine lv_bipush (v := 17) X.1 X.2.1 dX9_movesOf_15 (by decide) ?_
      refine lv_iload_n X.1 X.2.1 dX9_movesOf_17 rfl (lv_at hl 1 rfl) ?_
      refine lv_imul X.1 X.2.1 dX9_movesOf_18 ?_
      refine lv_iconst (v := 1) X.1 X.2.1 dX9_movesOf_19 (by decide) ?_
      refine lv_iadd X.1 X.2.1 dX9_movesOf_20 ?_
      refine lv_iload_n X.1 X.2.1 dX9_movesOf_21 rfl (lv_at hl 3 rfl) ?_
      refine lv_iadd X.1 X.2.1 dX9_movesOf_22 ?_
      obtain ⟨hi2, h⟩ := h
      refine tw_iald X hK w (tw_t_9_0 hT h0) (tw_n_9_0 hT h0) hi2 dX9_movesOf_23 ?_
      refine lv_iconst (v := -1) X.1 X.2.1 dX9_movesOf_24 (by decide) ?_
      refine lv_icmp_ne (tgt := 32) X.1 X.2.1 dX9_movesOf_25 (by decide) (fun c3 => ?_) (fun c3 => ?_)
      · have h := h.1 c3
        refine lv_iconst (v := 1) X.1 X.2.1 dX9_movesOf_32 (by decide) ?_
        refine lv_iadd X.1 X.2.1 dX9_movesOf_33 ?_
        refine lv_istore_n (lv' := [(2, .int (x2 + (1 : Int32))), (0, .ref a0), (1, .int x1), (3, .int x3)]) X.1 X.2.1 dX9_movesOf_34 rfl hl (by decide) rfl (fun ls hl => ?_)
        refine lv_iinc (v := (x3 + 1)) (lv' := [(3, .int (x3 + 1)), (2, .int (x2 + (1 : Int32))), (0, .ref a0), (1, .int x1)]) X.1 X.2.1 dX9_movesOf_35 hl (k := 3) rfl rfl (by decide) rfl (fun ls hl => ?_)
        refine lv_goto (tgt := 4) X.1 X.2.1 dX9_movesOf_38 (by decide) ?_
        exact ih (x2 + (1 : Int32)) (x3 + 1) σ _ _ ls h w (lv_sub hl [2, 3, 1, 0] rfl)
      · have h := h.2 c3
        refine lv_iconst (v := 0) X.1 X.2.1 dX9_movesOf_28 (by decide) ?_
        refine lv_goto (tgt := 33) X.1 X.2.1 dX9_movesOf_29 (by decide) ?_
        refine lv_iadd X.1 X.2.1 dX9_movesOf_33 ?_
        refine lv_istore_n (lv' := [(2, .int (x2 + (0 : Int32))), (0, .ref a0), (1, .int x1), (3, .int x3)]) X.1 X.2.1 dX9_movesOf_34 rfl hl (by decide) rfl (fun ls hl => ?_)
        refine lv_iinc (v := (x3 + 1)) (lv' := [(3, .int (x3 + 1)), (2, .int (x2 + (0 : Int32))), (0, .ref a0), (1, .int x1)]) X.1 X.2.1 dX9_movesOf_35 hl (k := 3) rfl rfl (by decide) rfl (fun ls hl => ?_)
        refine lv_goto (tgt := 4) X.1 X.2.1 dX9_movesOf_38 (by decide) ?_
        exact ih (x2 + (0 : Int32)) (x3 + 1) σ _ _ ls h w (lv_sub hl [2, 3, 1, 0] rfl)
set_option maxHeartbeats 4000000 in
set_option maxRecDepth 100000 in
theorem ct_X9_movesOf (l : Launch) (D : va_G) (g : tw_G) (hT : tw_T g) (sz : Nat) (σ : tw_S) (a0 : Nat) (h0 : tw_is g 9 a0) (x1 : Int32) (Q : Int32 → tw_S → Prop) (h : wp_X9_movesOf g σ a0 x1 Q) : tw_Mi l yX9_movesOf wsX9_movesOf RM_X9_movesOf D g sz σ [.ref a0, .int x1] Q := by
  refine Met.ofW (cc := cX9_movesOf) (maxL := 4) (ret := (some .int)) (by decide) rfl ?_
  intro p e s m args below meth c s₁ B hml hv
  obtain ⟨rfl, hsz, hP, hK, hD0⟩ := hv
  subst hsz
  have hr := B.returns
  have hlk := B.notSynchronized
  have X : CallFix p m c cX9_movesOf 4 s _ wsX9_movesOf RX9 := ⟨B.exec, B.bytes, hml, findClass_of_methodNamed B.named, atoms_spec (ws := wsX9_movesOf) B.pre⟩
  have w := tw_w0 hP hD0
  have hl := lv_entry ([.ref a0, .int x1]) (n := 4) (Nat.le_of_ble_eq_true rfl)
  rw [lg_entry_eq]
  generalize (lg_sl ([.ref a0, .int x1]) ++ List.replicate (4 - (lg_sl ([.ref a0, .int x1])).length) Slot.unset).toArray = ls at hl ⊢
  have hl : lv_has ls 4 [(0, .ref a0), (1, .int x1)] := hl
  unfold wp_X9_movesOf at h
  refine lv_iconst (v := 0) X.1 X.2.1 dX9_movesOf_0 (by decide) ?_
  refine lv_istore_n (lv' := [(2, .int (0 : Int32)), (0, .ref a0), (1, .int x1)]) X.1 X.2.1 dX9_movesOf_1 rfl hl (by decide) rfl (fun ls hl => ?_)
  refine lv_iconst (v := 0) X.1 X.2.1 dX9_movesOf_2 (by decide) ?_
  refine lv_istore_n (lv' := [(3, .int (0 : Int32)), (2, .int (0 : Int32)), (0, .ref a0), (1, .int x1)]) X.1 X.2.1 dX9_movesOf_3 rfl hl (by decide) rfl (fun ls hl => ?_)
  obtain ⟨n4, h⟩ := h
  refine lp_X9_movesOf_4 X hr hlk hK hT h0 (fun v4 σ5 H locs ls h w hl => ?_) n4 (0 : Int32) (0 : Int32) σ _ _ ls h w (lv_sub hl [2, 3, 1, 0] rfl)
  · skip
    refine lv_iload_n X.1 X.2.1 dX9_movesOf_41 rfl (lv_at hl 0 rfl) ?_
    exact tw_iret X hr hlk w h dX9_movesOf_42

abbrev RM_X9_drift : Room := { frames := 2, cells := 0, slots := 0, locals := 45 }
theorem iw_X9_drift_9 : ∀ w ∈ wsX90, w ∈ wsX9_drift := fun w h => List.mem_cons_of_mem _ (List.mem_append_right _ (h))
def wl_X9_drift_44 (g : tw_G) (a0 : Nat) (x1 : Int32) (x3 : Int32) (Q : Int32 → tw_S → Prop) (k104 : tw_S → Prop) : Nat → Int32 → tw_S → Prop
  | 0, _, _ => False
  | n + 1, x4, σ => ((((4 : Int32) * x3) ≤ x4) → k104  σ) ∧ (¬ (((4 : Int32) * x3) ≤ x4) → wp_X9_lots g σ a0 (5 : Int32) (fun r13 σ12 => ((r13 = 0) → vp_in ((((17 : Int32) * x1) + (1 : Int32)) + x4) 34 ∧ ∀ σ16, σ16 = (tw_sA σ12 (tw_R g a0 0) (upd (tw_A σ12 (tw_R g a0 0)) ((((17 : Int32) * x1) + (1 : Int32)) + x4).toNatClampNeg (-1 : Int32))) → wl_X9_drift_44 g a0 x1 x3 Q k104 n (x4 + 1) σ16) ∧ (¬ (r13 = 0) → wp_X9_lots g σ12 a0 x3 (fun r18 σ17 => wp_X9_lots g σ17 a0 (2 : Int32) (fun r20 σ19 => ∀ z21, z21 = (((2 : Int32) * r18) + r20) → vp_in ((((17 : Int32) * x1) + (1 : Int32)) + x4) 34 ∧ ∀ σ23, σ23 = (tw_sA σ19 (tw_R g a0 0) (upd (tw_A σ19 (tw_R g a0 0)) ((((17 : Int32) * x1) + (1 : Int32)) + x4).toNatClampNeg z21)) → wl_X9_drift_44 g a0 x1 x3 Q k104 n (x4 + 1) σ23)))))
def wp_X9_drift (g : tw_G) (σ : tw_S) (a0 : Nat) (x1 : Int32) (x2 : Int32) (Q : Int32 → tw_S → Prop) : Prop := wp_X9_isMachine g σ x1 (fun r2 σ1 => ((¬ r2 = 0) → wp_X9_in g σ1 (x2.toInt64) (1 : Int64) (999999 : Int64) (fun r5 σ4 => ((¬ r5 = 0) → wp_X9_notes g σ4 a0 (fun σ7 => ∀ σ8, σ8 = (tw_sJ σ7 a0 10 (x2.toInt64)) → wp_X9_states0 g σ8 a0 x1 (fun r10 σ9 => ∃ n44, wl_X9_drift_44 g a0 x1 r10 Q (fun σ24 => wp_X9_movesOf g σ24 a0 x1 (fun r26 σ25 => Q r26 σ25)) n44 (0 : Int32) σ9))) ∧ ((r5 = 0) → Q (-1000000002 : Int32) σ4))) ∧ ((r2 = 0) → Q (-1000000001 : Int32) σ1))
set_option maxHeartbeats 4000000 in
set_option maxRecDepth 100000 in
theorem lp_X9_drift_44 {p : Program} {l : Launch} {e : Env} {s : State} {m : MethodId} {args : Array Value} {below : List Frame} {meth : Method} {c : Code} {D : va_G} {g : tw_G} (X : CallFix p m c cX9_drift 7 s args wsX9_drift RX9) (hr : meth.sig.returnType = (some .int)) (hlk : meth.locks = false) (hK : tw_k D g s) (hT : tw_T g) {a0 : Nat} {x1 : Int32} {x3 : Int32} (h0 : tw_is g 9 a0) {Q : Int32 → tw_S → Prop} {k104 : tw_S → Prop}
    (hk104 : ∀  (σ : tw_S) (H : Heap) (locs : List Loc) (ls : Array Slot), k104  σ → tw_w D g (tw_F g s.heap.size) s σ H locs → lv_has ls 7 [(0, .ref a0), (1, .int x1)] → W p l e RM_X9_drift s m args below meth c H locs 0 0 (tw_Qi Q D g below args s) (F0 m 104 ls []))
    : ∀ (n : Nat) (x4 : Int32) (σ : tw_S) (H : Heap) (locs : List Loc) (ls : Array Slot), wl_X9_drift_44 g a0 x1 x3 Q k104 n x4 σ → tw_w D g (tw_F g s.heap.size) s σ H locs → lv_has ls 7 [(0, .ref a0), (1, .int x1), (3, .int x3), (4, .int x4)] → W p l e RM_X9_drift s m args below meth c H locs 0 0 (tw_Qi Q D g below args s) (F0 m 44 ls []) := by
  intro n
  induction n with
  | zero =>
    intro x4 σ H locs ls h w hl
    exact False.elim h
  | succ n ih =>
    intro x4 σ H locs ls h w hl
    rw [wl_X9_drift_44] at h
    refine lv_iload X.1 X.2.1 dX9_drift_44 (lv_at hl 3 rfl) ?_
    refine lv_iconst (v := 4) X.1 X.2.1 dX9_drift_46 (by decide) ?_
    refine lv_iload_n X.1 X.2.1 dX9_drift_47 rfl (lv_at hl 2 rfl) ?_
    refine lv_imul X.1 X.2.1 dX9_drift_48 ?_
    refine lv_icmp_ge (tgt := 104) X.1 X.2.1 dX9_drift_49 (by decide) (fun c11 => ?_) (fun c11 => ?_)
    · have h := h.1 c11
      exact hk104  σ _ _ ls h w (lv_sub hl [0, 1] rfl)
    · have h := h.2 c11
      refine lv_iconst (v := -1) X.1 X.2.1 dX9_drift_52 (by decide) ?_
      refine lv_istore (lv' := [(5, .int (-1 : Int32)), (0, .ref a0), (1, .int x1), (3, .int x3), (4, .int x4)]) X.1 X.2.1 dX9_drift_53 hl (by decide) rfl (fun ls hl => ?_)
      refine lv_aload_n X.1 X.2.1 dX9_drift_55 rfl (lv_at hl 1 rfl) ?_
      refine lv_iconst (v := 5) X.1 X.2.1 dX9_drift_56 (by decide) ?_
      refine tw_ci w (va_runV (As := [.int (5 : Int32)]) (rest := []) X (ct_X9_lots l D g hT _ σ a0 h0 (5 : Int32) _ h) (cwV 1 X.2.2.2.2 gX9_drift_X9_lots rfl rfl rfl (by decide +kernel) ⟨Nat.le_of_ble_eq_true rfl, Nat.le_of_ble_eq_true rfl⟩) (tw_preV hK w h0 (by decide) rfl [.int (5 : Int32)]) rfl rfl hl.1 rfl (lv_room (Nat.le_of_ble_eq_true rfl)) dX9_drift_57 ⟨Nat.zero_le _, Nat.zero_le _⟩) (fun r13 σ12 H locs h w => ?_)
      refine lv_if_eq (tgt := 82) X.1 X.2.1 dX9_drift_60 (by decide) (fun c14 => ?_) (fun c14 => ?_)
      · have h := h.1 c14
        refine lv_aload_n X.1 X.2.1 dX9_drift_82 rfl (lv_at hl 1 rfl) ?_
        refine tw_get X hK w 9 iw_X9_drift_9 h0 (by decide) rfl 0 (by decide) (List.mem_of_getElem? (i := 5) rfl) rfl dX9_drift_83 ?_
        refine lv_bipush (v := 17) X.1 X.2.1 dX9_drift_86 (by decide) ?_
        refine lv_iload_n X.1 X.2.1 dX9_drift_88 rfl (lv_at hl 2 rfl) ?_
        refine lv_imul X.1 X.2.1 dX9_drift_89 ?_
        refine lv_iconst (v := 1) X.1 X.2.1 dX9_drift_90 (by decide) ?_
        refine lv_iadd X.1 X.2.1 dX9_drift_91 ?_
        refine lv_iload X.1 X.2.1 dX9_drift_92 (lv_at hl 4 rfl) ?_
        refine lv_iadd X.1 X.2.1 dX9_drift_94 ?_
        refine lv_iload X.1 X.2.1 dX9_drift_95 (lv_at hl 0 rfl) ?_
        obtain ⟨hi15, h⟩ := h
        refine tw_iast X hK w (tw_t_9_0 hT h0) (tw_n_9_0 hT h0) hi15 dX9_drift_97 (fun σ16 H locs eσ16 w => ?_)
        have h := h _ eσ16
        refine lv_iinc (v := (x4 + 1)) (lv' := [(4, .int (x4 + 1)), (5, .int (-1 : Int32)), (0, .ref a0), (1, .int x1), (3, .int x3)]) X.1 X.2.1 dX9_drift_98 hl (k := 4) rfl rfl (by decide) rfl (fun ls hl => ?_)
        refine lv_goto (tgt := 44) X.1 X.2.1 dX9_drift_101 (by decide) ?_
        exact ih (x4 + 1) σ16 _ _ ls h w (lv_sub hl [2, 3, 4, 0] rfl)
      · have h := h.2 c14
        refine lv_aload_n X.1 X.2.1 dX9_drift_63 rfl (lv_at hl 1 rfl) ?_
        refine lv_iload_n X.1 X.2.1 dX9_drift_64 rfl (lv_at hl 3 rfl) ?_
        refine tw_ci w (va_runV (As := [.int x3]) (rest := []) X (ct_X9_lots l D g hT _ σ12 a0 h0 x3 _ h) (cwV 1 X.2.2.2.2 gX9_drift_X9_lots rfl rfl rfl (by decide +kernel) ⟨Nat.le_of_ble_eq_true rfl, Nat.le_of_ble_eq_true rfl⟩) (tw_preV hK w h0 (by decide) rfl [.int x3]) rfl rfl hl.1 rfl (lv_room (Nat.le_of_ble_eq_true rfl)) dX9_drift_65 ⟨Nat.zero_le _, Nat.zero_le _⟩) (fun r18 σ17 H locs h w => ?_)
        refine lv_istore (lv' := [(6, .int r18), (5, .int (-1 : Int32)), (0, .ref a0), (1, .int x1), (3, .int x3), (4, .int x4)]) X.1 X.2.1 dX9_drift_68 hl (by decide) rfl (fun ls hl => ?_)
        have hl := lv_sub (l' := [(6, .int r18), (0, .ref a0), (1, .int x1), (3, .int x3), (4, .int x4)]) hl [0, 2, 3, 4, 5] rfl
        refine lv_iconst (v := 2) X.1 X.2.1 dX9_drift_70 (by decide) ?_
        refine lv_iload X.1 X.2.1 dX9_drift_71 (lv_at hl 0 rfl) ?_
        refine lv_imul X.1 X.2.1 dX9_drift_73 ?_
        refine lv_aload_n X.1 X.2.1 dX9_drift_74 rfl (lv_at hl 1 rfl) ?_
        refine lv_iconst (v := 2) X.1 X.2.1 dX9_drift_75 (by decide) ?_
        refine tw_ci w (va_runV (As := [.int (2 : Int32)]) (rest := [.int ((2 : Int32) * r18)]) X (ct_X9_lots l D g hT _ σ17 a0 h0 (2 : Int32) _ h) (cwV 1 X.2.2.2.2 gX9_drift_X9_lots rfl rfl rfl (by decide +kernel) ⟨Nat.le_of_ble_eq_true rfl, Nat.le_of_ble_eq_true rfl⟩) (tw_preV hK w h0 (by decide) rfl [.int (2 : Int32)]) rfl rfl hl.1 rfl (lv_room (Nat.le_of_ble_eq_true rfl)) dX9_drift_76 ⟨Nat.zero_le _, Nat.zero_le _⟩) (fun r20 σ19 H locs h w => ?_)
        refine lv_iadd X.1 X.2.1 dX9_drift_79 ?_
        refine lv_topi (fun z21 ez21 => ?_)
        have h := h _ ez21
        refine lv_istore (lv' := [(5, .int z21), (6, .int r18), (0, .ref a0), (1, .int x1), (3, .int x3), (4, .int x4)]) X.1 X.2.1 dX9_drift_80 hl (by decide) rfl (fun ls hl => ?_)
        have hl := lv_sub (l' := [(5, .int z21), (0, .ref a0), (1, .int x1), (3, .int x3), (4, .int x4)]) hl [0, 2, 3, 4, 5] rfl
        refine lv_aload_n X.1 X.2.1 dX9_drift_82 rfl (lv_at hl 1 rfl) ?_
        refine tw_get X hK w 9 iw_X9_drift_9 h0 (by decide) rfl 0 (by decide) (List.mem_of_getElem? (i := 5) rfl) rfl dX9_drift_83 ?_
        refine lv_bipush (v := 17) X.1 X.2.1 dX9_drift_86 (by decide) ?_
        refine lv_iload_n X.1 X.2.1 dX9_drift_88 rfl (lv_at hl 2 rfl) ?_
        refine lv_imul X.1 X.2.1 dX9_drift_89 ?_
        refine lv_iconst (v := 1) X.1 X.2.1 dX9_drift_90 (by decide) ?_
        refine lv_iadd X.1 X.2.1 dX9_drift_91 ?_
        refine lv_iload X.1 X.2.1 dX9_drift_92 (lv_at hl 4 rfl) ?_
        refine lv_iadd X.1 X.2.1 dX9_drift_94 ?_
        refine lv_iload X.1 X.2.1 dX9_drift_95 (lv_at hl 0 rfl) ?_
        obtain ⟨hi22, h⟩ := h
        refine tw_iast X hK w (tw_t_9_0 hT h0) (tw_n_9_0 hT h0) hi22 dX9_drift_97 (fun σ23 H locs eσ23 w => ?_)
        have h := h _ eσ23
        refine lv_iinc (v := (x4 + 1)) (lv' := [(4, .int (x4 + 1)), (5, .int z21), (0, .ref a0), (1, .int x1), (3, .int x3)]) X.1 X.2.1 dX9_drift_98 hl (k := 4) rfl rfl (by decide) rfl (fun ls hl => ?_)
        refine lv_goto (tgt := 44) X.1 X.2.1 dX9_drift_101 (by decide) ?_
        exact ih (x4 + 1) σ23 _ _ ls h w (lv_sub hl [2, 3, 4, 0] rfl)
set_option maxHeartbeats 4000000 in
set_option maxRecDepth 100000 in
theorem ct_X9_drift (l : Launch) (D : va_G) (g : tw_G) (hT : tw_T g) (sz : Nat) (σ : tw_S) (a0 : Nat) (h0 : tw_is g 9 a0) (x1 : Int32) (x2 : Int32) (Q : Int32 → tw_S → Prop) (h : wp_X9_drift g σ a0 x1 x2 Q) : tw_Mi l yX9_drift wsX9_drift RM_X9_drift D g sz σ [.ref a0, .int x1, .int x2] Q := by
  refine Met.ofW (cc := cX9_drift) (maxL := 7) (ret := (some .int)) (by decide) rfl ?_
  intro p e s m args below meth c s₁ B hml hv
  obtain ⟨rfl, hsz, hP, hK, hD0⟩ := hv
  subst hsz
  have hr := B.returns
  have hlk := B.notSynchronized
  have X : CallFix p m c cX9_drift 7 s _ wsX9_drift RX9 := ⟨B.exec, B.bytes, hml, findClass_of_methodNamed B.named, atoms_spec (ws := wsX9_drift) B.pre⟩
  have w := tw_w0 hP hD0
  have hl := lv_entry ([.ref a0, .int x1, .int x2]) (n := 7) (Nat.le_of_ble_eq_true rfl)
  rw [lg_entry_eq]
  generalize (lg_sl ([.ref a0, .int x1, .int x2]) ++ List.replicate (7 - (lg_sl ([.ref a0, .int x1, .int x2])).length) Slot.unset).toArray = ls at hl ⊢
  have hl : lv_has ls 7 [(0, .ref a0), (1, .int x1), (2, .int x2)] := hl
  unfold wp_X9_drift at h
  refine lv_iload_n X.1 X.2.1 dX9_drift_0 rfl (lv_at hl 1 rfl) ?_
  refine tw_ci w (va_runS (As := [.int x1]) (rest := []) X (ct_X9_isMachine l D g hT _ σ x1 _ h) (va_cwS 1 X.2.2.2.2 gX9_drift_X9_isMachine rfl rfl rfl (by decide +kernel) ⟨Nat.le_of_ble_eq_true rfl, Nat.le_of_ble_eq_true rfl⟩) (tw_pre hK w [.int x1]) rfl rfl hl.1 rfl (lv_room (Nat.le_of_ble_eq_true rfl)) dX9_drift_1 ⟨Nat.zero_le _, Nat.zero_le _⟩) (fun r2 σ1 H locs h w => ?_)
  refine lv_if_ne (tgt := 10) X.1 X.2.1 dX9_drift_4 (by decide) (fun c3 => ?_) (fun c3 => ?_)
  · have h := h.1 c3
    refine lv_iload_n X.1 X.2.1 dX9_drift_10 rfl (lv_at hl 2 rfl) ?_
    refine lv_i2l (v := (x2.toInt64)) X.1 X.2.1 dX9_drift_11 rfl ?_
    refine lv_lconst (v := 1) X.1 X.2.1 dX9_drift_12 (by decide) ?_
    refine lv_ldc2 (own := RX9) (v := 999999) X.1 X.2.1 X.2.2.2.1 (X.2.2.2.2 _ (List.mem_of_getElem? (i := 2) rfl)) dX9_drift_13 ?_
    refine tw_ci w (va_runS (As := [.long (x2.toInt64), .long (1 : Int64), .long (999999 : Int64)]) (rest := []) X (ct_X9_in l D g hT _ σ1 (x2.toInt64) (1 : Int64) (999999 : Int64) _ h) (va_cwS 3 X.2.2.2.2 gX9_drift_X9_in rfl rfl rfl (by decide +kernel) ⟨Nat.le_of_ble_eq_true rfl, Nat.le_of_ble_eq_true rfl⟩) (tw_pre hK w [.long (x2.toInt64), .long (1 : Int64), .long (999999 : Int64)]) rfl rfl hl.1 rfl (lv_room (Nat.le_of_ble_eq_true rfl)) dX9_drift_16 ⟨Nat.zero_le _, Nat.zero_le _⟩) (fun r5 σ4 H locs h w => ?_)
    refine lv_if_ne (tgt := 25) X.1 X.2.1 dX9_drift_19 (by decide) (fun c6 => ?_) (fun c6 => ?_)
    · have h := h.1 c6
      refine lv_aload_n X.1 X.2.1 dX9_drift_25 rfl (lv_at hl 0 rfl) ?_
      refine tw_cv w (va_runV (As := []) (rest := []) X (ct_X9_notes l D g hT _ σ4 a0 h0 _ h) (cwV 0 X.2.2.2.2 gX9_drift_X9_notes rfl rfl rfl (by decide +kernel) ⟨Nat.le_of_ble_eq_true rfl, Nat.le_of_ble_eq_true rfl⟩) (tw_preV hK w h0 (by decide) rfl []) rfl rfl hl.1 rfl (lv_room (Nat.le_of_ble_eq_true rfl)) dX9_drift_26 ⟨Nat.zero_le _, Nat.zero_le _⟩) (fun σ7 H locs h w => ?_)
      refine lv_aload_n X.1 X.2.1 dX9_drift_29 rfl (lv_at hl 0 rfl) ?_
      refine lv_iload_n X.1 X.2.1 dX9_drift_30 rfl (lv_at hl 2 rfl) ?_
      refine lv_i2l (v := (x2.toInt64)) X.1 X.2.1 dX9_drift_31 rfl ?_
      refine tw_putJ X hK w 9 iw_X9_drift_9 tyX9 tyX9_ok nmX9 h0 (by decide) rfl 10 (by decide) (List.mem_of_getElem? (i := 4) rfl) rfl (ty := .long) (by decide +kernel) rfl rfl (Nat.le_of_ble_eq_true rfl) (tw_f_9_10 g _ _ _) dX9_drift_32 (fun σ8 H locs eσ8 w => ?_)
      have h := h _ eσ8
      refine lv_aload_n X.1 X.2.1 dX9_drift_35 rfl (lv_at hl 0 rfl) ?_
      refine lv_iload_n X.1 X.2.1 dX9_drift_36 rfl (lv_at hl 1 rfl) ?_
      refine tw_ci w (va_runV (As := [.int x1]) (rest := []) X (ct_X9_states0 l D g hT _ σ8 a0 h0 x1 _ h) (cwV 1 X.2.2.2.2 gX9_drift_X9_states0 rfl rfl rfl (by decide +kernel) ⟨Nat.le_of_ble_eq_true rfl, Nat.le_of_ble_eq_true rfl⟩) (tw_preV hK w h0 (by decide) rfl [.int x1]) rfl rfl hl.1 rfl (lv_room (Nat.le_of_ble_eq_true rfl)) dX9_drift_37 ⟨Nat.zero_le _, Nat.zero_le _⟩) (fun r10 σ9 H locs h w => ?_)
      refine lv_istore_n (lv' := [(3, .int r10), (0, .ref a0), (1, .int x1), (2, .int x2)]) X.1 X.2.1 dX9_drift_40 rfl hl (by decide) rfl (fun ls hl => ?_)
      have hl := lv_sub (l' := [(3, .int r10), (0, .ref a0), (1, .int x1)]) hl [0, 1, 2] rfl
      refine lv_iconst (v := 0) X.1 X.2.1 dX9_drift_41 (by decide) ?_
      refine lv_istore (lv' := [(4, .int (0 : Int32)), (3, .int r10), (0, .ref a0), (1, .int x1)]) X.1 X.2.1 dX9_drift_42 hl (by decide) rfl (fun ls hl => ?_)
      obtain ⟨n44, h⟩ := h
      refine lp_X9_drift_44 X hr hlk hK hT h0 (fun σ24 H locs ls h w hl => ?_) n44 (0 : Int32) σ9 _ _ ls h w (lv_sub hl [2, 3, 1, 0] rfl)
      · skip
        refine lv_aload_n X.1 X.2.1 dX9_drift_104 rfl (lv_at hl 0 rfl) ?_
        refine lv_iload_n X.1 X.2.1 dX9_drift_105 rfl (lv_at hl 1 rfl) ?_
        refine tw_ci w (va_runV (As := [.int x1]) (rest := []) X (ct_X9_movesOf l D g hT _ σ24 a0 h0 x1 _ h) (cwV 1 X.2.2.2.2 gX9_drift_X9_movesOf rfl rfl rfl (by decide +kernel) ⟨Nat.le_of_ble_eq_true rfl, Nat.le_of_ble_eq_true rfl⟩) (tw_preV hK w h0 (by decide) rfl [.int x1]) rfl rfl hl.1 rfl (lv_room (Nat.le_of_ble_eq_true rfl)) dX9_drift_106 ⟨Nat.zero_le _, Nat.zero_le _⟩) (fun r26 σ25 H locs h w => ?_)
        exact tw_iret X hr hlk w h dX9_drift_109
    · have h := h.2 c6
      refine lv_ldc (own := RX9) (v := -1000000002) X.1 X.2.1 X.2.2.2.1 (X.2.2.2.2 _ (List.mem_of_getElem? (i := 3) rfl)) dX9_drift_22 ?_
      exact tw_iret X hr hlk w h dX9_drift_24
  · have h := h.2 c3
    refine lv_ldc (own := RX9) (v := -1000000001) X.1 X.2.1 X.2.2.2.1 (X.2.2.2.2 _ (List.mem_of_getElem? (i := 1) rfl)) dX9_drift_7 ?_
    exact tw_iret X hr hlk w h dX9_drift_9

abbrev RM_X9_swap : Room := { frames := 1, cells := 0, slots := 0, locals := 21 }
theorem iw_X9_swap_9 : ∀ w ∈ wsX90, w ∈ wsX9_swap := fun w h => List.mem_cons_of_mem _ (List.mem_append_right _ (h))
def wl_X9_swap_8 (g : tw_G) (a0 : Nat) (Q : Int32 → tw_S → Prop) (k75 : Int32 → tw_S → Prop) : Nat → Int32 → Int32 → tw_S → Prop
  | 0, _, _, _ => False
  | n + 1, x1, x2, σ => (((17 : Int32) ≤ x2) → k75 x1 σ) ∧ (¬ ((17 : Int32) ≤ x2) → vp_in x2 34 ∧ ∀ z4, z4 = (tw_A σ (tw_R g a0 0) x2.toNatClampNeg) → ((x1 = 0) → vp_in ((17 : Int32) + x2) 34 ∧ vp_in x2 34 ∧ ∀ σ8, σ8 = (tw_sA σ (tw_R g a0 0) (upd (tw_A σ (tw_R g a0 0)) x2.toNatClampNeg (tw_A σ (tw_R g a0 0) ((17 : Int32) + x2).toNatClampNeg))) → vp_in ((17 : Int32) + x2) 34 ∧ ∀ σ10, σ10 = (tw_sA σ8 (tw_R g a0 0) (upd (tw_A σ8 (tw_R g a0 0)) ((17 : Int32) + x2).toNatClampNeg z4)) → wl_X9_swap_8 g a0 Q k75 n (0 : Int32) (x2 + 1) σ10) ∧ (¬ (x1 = 0) → vp_in ((17 : Int32) + x2) 34 ∧ ((¬ z4 = (tw_A σ (tw_R g a0 0) ((17 : Int32) + x2).toNatClampNeg)) → vp_in ((17 : Int32) + x2) 34 ∧ vp_in x2 34 ∧ ∀ σ15, σ15 = (tw_sA σ (tw_R g a0 0) (upd (tw_A σ (tw_R g a0 0)) x2.toNatClampNeg (tw_A σ (tw_R g a0 0) ((17 : Int32) + x2).toNatClampNeg))) → vp_in ((17 : Int32) + x2) 34 ∧ ∀ σ17, σ17 = (tw_sA σ15 (tw_R g a0 0) (upd (tw_A σ15 (tw_R g a0 0)) ((17 : Int32) + x2).toNatClampNeg z4)) → wl_X9_swap_8 g a0 Q k75 n (0 : Int32) (x2 + 1) σ17) ∧ ((z4 = (tw_A σ (tw_R g a0 0) ((17 : Int32) + x2).toNatClampNeg)) → vp_in ((17 : Int32) + x2) 34 ∧ vp_in x2 34 ∧ ∀ σ20, σ20 = (tw_sA σ (tw_R g a0 0) (upd (tw_A σ (tw_R g a0 0)) x2.toNatClampNeg (tw_A σ (tw_R g a0 0) ((17 : Int32) + x2).toNatClampNeg))) → vp_in ((17 : Int32) + x2) 34 ∧ ∀ σ22, σ22 = (tw_sA σ20 (tw_R g a0 0) (upd (tw_A σ20 (tw_R g a0 0)) ((17 : Int32) + x2).toNatClampNeg z4)) → wl_X9_swap_8 g a0 Q k75 n (1 : Int32) (x2 + 1) σ22)))
def wp_X9_swap (g : tw_G) (σ : tw_S) (a0 : Nat) (Q : Int32 → tw_S → Prop) : Prop := wp_X9_notes g σ a0 (fun σ1 => ∃ n8, wl_X9_swap_8 g a0 Q (fun v23 σ24 => ((v23 = 0) → Q (1 : Int32) σ24) ∧ (¬ (v23 = 0) → Q (0 : Int32) σ24)) n8 (1 : Int32) (0 : Int32) σ1)
set_option maxHeartbeats 4000000 in
set_option maxRecDepth 100000 in
theorem lp_X9_swap_8 {p : Program} {l : Launch} {e : Env} {s : State} {m : MethodId} {args : Array Value} {below : List Frame} {meth : Method} {c : Code} {D : va_G} {g : tw_G} (X : CallFix p m c cX9_swap 4 s args wsX9_swap RX9) (hr : meth.sig.returnType = (some .int)) (hlk : meth.locks = false) (hK : tw_k D g s) (hT : tw_T g) {a0 : Nat} (h0 : tw_is g 9 a0) {Q : Int32 → tw_S → Prop} {k75 : Int32 → tw_S → Prop}
    (hk75 : ∀ (x1 : Int32) (σ : tw_S) (H : Heap) (locs : List Loc) (ls : Array Slot), k75 x1 σ → tw_w D g (tw_F g s.heap.size) s σ H locs → lv_has ls 4 [(1, .int x1)] → W p l e RM_X9_swap s m args below meth c H locs 0 0 (tw_Qi Q D g below args s) (F0 m 75 ls []))
    : ∀ (n : Nat) (x1 : Int32) (x2 : Int32) (σ : tw_S) (H : Heap) (locs : List Loc) (ls : Array Slot), wl_X9_swap_8 g a0 Q k75 n x1 x2 σ → tw_w D g (tw_F g s.heap.size) s σ H locs → lv_has ls 4 [(0, .ref a0), (1, .int x1), (2, .int x2)] → W p l e RM_X9_swap s m args below meth c H locs 0 0 (tw_Qi Q D g below args s) (F0 m 8 ls []) := by
  intro n
  induction n with
  | zero =>
    intro x1 x2 σ H locs ls h w hl
    exact False.elim h
  | succ n ih =>
    intro x1 x2 σ H locs ls h w hl
    rw [wl_X9_swap_8] at h
    refine lv_iload_n X.1 X.2.1 dX9_swap_8 rfl (lv_at hl 2 rfl) ?_
    refine lv_bipush (v := 17) X.1 X.2.1 dX9_swap_9 (by decide) ?_
    refine lv_icmp_ge (tgt := 75) X.1 X.2.1 dX9_swap_11 (by decide) (fun c2 => ?_) (fun c2 => ?_)
    · have h := h.1 c2
      exact hk75 x1 σ _ _ ls h w (lv_sub hl [1] rfl)
    · have h := h.2 c2
      refine lv_aload_n X.1 X.2.1 dX9_swap_14 rfl (lv_at hl 0 rfl) ?_
      refine tw_get X hK w 9 iw_X9_swap_9 h0 (by decide) rfl 0 (by decide) (List.mem_of_getElem? (i := 1) rfl) rfl dX9_swap_15 ?_
      refine lv_iload_n X.1 X.2.1 dX9_swap_18 rfl (lv_at hl 2 rfl) ?_
      obtain ⟨hi3, h⟩ := h
      refine tw_iald X hK w (tw_t_9_0 hT h0) (tw_n_9_0 hT h0) hi3 dX9_swap_19 ?_
      refine lv_topi (fun z4 ez4 => ?_)
      have h := h _ ez4
      refine lv_istore_n (lv' := [(3, .int z4), (0, .ref a0), (1, .int x1), (2, .int x2)]) X.1 X.2.1 dX9_swap_20 rfl hl (by decide) rfl (fun ls hl => ?_)
      refine lv_iload_n X.1 X.2.1 dX9_swap_21 rfl (lv_at hl 2 rfl) ?_
      refine lv_if_eq (tgt := 42) X.1 X.2.1 dX9_swap_22 (by decide) (fun c5 => ?_) (fun c5 => ?_)
      · have h := h.1 c5
        refine lv_iconst (v := 0) X.1 X.2.1 dX9_swap_42 (by decide) ?_
        refine lv_istore_n (lv' := [(1, .int (0 : Int32)), (3, .int z4), (0, .ref a0), (2, .int x2)]) X.1 X.2.1 dX9_swap_43 rfl hl (by decide) rfl (fun ls hl => ?_)
        refine lv_aload_n X.1 X.2.1 dX9_swap_44 rfl (lv_at hl 2 rfl) ?_
        refine tw_get X hK w 9 iw_X9_swap_9 h0 (by decide) rfl 0 (by decide) (List.mem_of_getElem? (i := 1) rfl) rfl dX9_swap_45 ?_
        refine lv_iload_n X.1 X.2.1 dX9_swap_48 rfl (lv_at hl 3 rfl) ?_
        refine lv_aload_n X.1 X.2.1 dX9_swap_49 rfl (lv_at hl 2 rfl) ?_
        refine tw_get X hK w 9 iw_X9_swap_9 h0 (by decide) rfl 0 (by decide) (List.mem_of_getElem? (i := 1) rfl) rfl dX9_swap_50 ?_
        refine lv_bipush (v := 17) X.1 X.2.1 dX9_swap_53 (by decide) ?_
        refine lv_iload_n X.1 X.2.1 dX9_swap_55 rfl (lv_at hl 3 rfl) ?_
        refine lv_iadd X.1 X.2.1 dX9_swap_56 ?_
        obtain ⟨hi6, h⟩ := h
        refine tw_iald X hK w (tw_t_9_0 hT h0) (tw_n_9_0 hT h0) hi6 dX9_swap_57 ?_
        obtain ⟨hi7, h⟩ := h
        refine tw_iast X hK w (tw_t_9_0 hT h0) (tw_n_9_0 hT h0) hi7 dX9_swap_58 (fun σ8 H locs eσ8 w => ?_)
        have h := h _ eσ8
        refine lv_aload_n X.1 X.2.1 dX9_swap_59 rfl (lv_at hl 2 rfl) ?_
        refine tw_get X hK w 9 iw_X9_swap_9 h0 (by decide) rfl 0 (by decide) (List.mem_of_getElem? (i := 1) rfl) rfl dX9_swap_60 ?_
        refine lv_bipush (v := 17) X.1 X.2.1 dX9_swap_63 (by decide) ?_
        refine lv_iload_n X.1 X.2.1 dX9_swap_65 rfl (lv_at hl 3 rfl) ?_
        refine lv_iadd X.1 X.2.1 dX9_swap_66 ?_
        refine lv_iload_n X.1 X.2.1 dX9_swap_67 rfl (lv_at hl 1 rfl) ?_
        obtain ⟨hi9, h⟩ := h
        refine tw_iast X hK w (tw_t_9_0 hT h0) (tw_n_9_0 hT h0) hi9 dX9_swap_68 (fun σ10 H locs eσ10 w => ?_)
        have h := h _ eσ10
        refine lv_iinc (v := (x2 + 1)) (lv' := [(2, .int (x2 + 1)), (1, .int (0 : Int32)), (3, .int z4), (0, .ref a0)]) X.1 X.2.1 dX9_swap_69 hl (k := 3) rfl rfl (by decide) rfl (fun ls hl => ?_)
        refine lv_goto (tgt := 8) X.1 X.2.1 dX9_swap_72 (by decide) ?_
        exact ih (0 : Int32) (x2 + 1) σ10 _ _ ls h w (lv_sub hl [3, 1, 0] rfl)
      · have h := h.2 c5
        refine lv_iload_n X.1 X.2.1 dX9_swap_25 rfl (lv_at hl 0 rfl) ?_
        refine lv_aload_n X.1 X.2.1 dX9_swap_26 rfl (lv_at hl 1 rfl) ?_
        refine tw_get X hK w 9 iw_X9_swap_9 h0 (by decide) rfl 0 (by decide) (List.mem_of_getElem? (i := 1) rfl) rfl dX9_swap_27 ?_
        refine lv_bipush (v := 17) X.1 X.2.1 dX9_swap_30 (by decide) ?_
        refine lv_iload_n X.1 X.2.1 dX9_swap_32 rfl (lv_at hl 3 rfl) ?_
        refine lv_iadd X.1 X.2.1 dX9_swap_33 ?_
        obtain ⟨hi11, h⟩ := h
        refine tw_iald X hK w (tw_t_9_0 hT h0) (tw_n_9_0 hT h0) hi11 dX9_swap_34 ?_
        refine lv_icmp_ne (tgt := 42) X.1 X.2.1 dX9_swap_35 (by decide) (fun c12 => ?_) (fun c12 => ?_)
        · have h := h.1 c12
          refine lv_iconst (v := 0) X.1 X.2.1 dX9_swap_42 (by decide) ?_
          refine lv_istore_n (lv' := [(1, .int (0 : Int32)), (3, .int z4), (0, .ref a0), (2, .int x2)]) X.1 X.2.1 dX9_swap_43 rfl hl (by decide) rfl (fun ls hl => ?_)
          refine lv_aload_n X.1 X.2.1 dX9_swap_44 rfl (lv_at hl 2 rfl) ?_
          refine tw_get X hK w 9 iw_X9_swap_9 h0 (by decide) rfl 0 (by decide) (List.mem_of_getElem? (i := 1) rfl) rfl dX9_swap_45 ?_
          refine lv_iload_n X.1 X.2.1 dX9_swap_48 rfl (lv_at hl 3 rfl) ?_
          refine lv_aload_n X.1 X.2.1 dX9_swap_49 rfl (lv_at hl 2 rfl) ?_
          refine tw_get X hK w 9 iw_X9_swap_9 h0 (by decide) rfl 0 (by decide) (List.mem_of_getElem? (i := 1) rfl) rfl dX9_swap_50 ?_
          refine lv_bipush (v := 17) X.1 X.2.1 dX9_swap_53 (by decide) ?_
          refine lv_iload_n X.1 X.2.1 dX9_swap_55 rfl (lv_at hl 3 rfl) ?_
          refine lv_iadd X.1 X.2.1 dX9_swap_56 ?_
          obtain ⟨hi13, h⟩ := h
          refine tw_iald X hK w (tw_t_9_0 hT h0) (tw_n_9_0 hT h0) hi13 dX9_swap_57 ?_
          obtain ⟨hi14, h⟩ := h
          refine tw_iast X hK w (tw_t_9_0 hT h0) (tw_n_9_0 hT h0) hi14 dX9_swap_58 (fun σ15 H locs eσ15 w => ?_)
          have h := h _ eσ15
          refine lv_aload_n X.1 X.2.1 dX9_swap_59 rfl (lv_at hl 2 rfl) ?_
          refine tw_get X hK w 9 iw_X9_swap_9 h0 (by decide) rfl 0 (by decide) (List.mem_of_getElem? (i := 1) rfl) rfl dX9_swap_60 ?_
          refine lv_bipush (v := 17) X.1 X.2.1 dX9_swap_63 (by decide) ?_
          refine lv_iload_n X.1 X.2.1 dX9_swap_65 rfl (lv_at hl 3 rfl) ?_
          refine lv_iadd X.1 X.2.1 dX9_swap_66 ?_
          refine lv_iload_n X.1 X.2.1 dX9_swap_67 rfl (lv_at hl 1 rfl) ?_
          obtain ⟨hi16, h⟩ := h
          refine tw_iast X hK w (tw_t_9_0 hT h0) (tw_n_9_0 hT h0) hi16 dX9_swap_68 (fun σ17 H locs eσ17 w => ?_)
          have h := h _ eσ17
          refine lv_iinc (v := (x2 + 1)) (lv' := [(2, .int (x2 + 1)), (1, .int (0 : Int32)), (3, .int z4), (0, .ref a0)]) X.1 X.2.1 dX9_swap_69 hl (k := 3) rfl rfl (by decide) rfl (fun ls hl => ?_)
          refine lv_goto (tgt := 8) X.1 X.2.1 dX9_swap_72 (by decide) ?_
          exact ih (0 : Int32) (x2 + 1) σ17 _ _ ls h w (lv_sub hl [3, 1, 0] rfl)
        · have h := h.2 c12
          refine lv_iconst (v := 1) X.1 X.2.1 dX9_swap_38 (by decide) ?_
          refine lv_goto (tgt := 43) X.1 X.2.1 dX9_swap_39 (by decide) ?_
          refine lv_istore_n (lv' := [(1, .int (1 : Int32)), (3, .int z4), (0, .ref a0), (2, .int x2)]) X.1 X.2.1 dX9_swap_43 rfl hl (by decide) rfl (fun ls hl => ?_)
          refine lv_aload_n X.1 X.2.1 dX9_swap_44 rfl (lv_at hl 2 rfl) ?_
          refine tw_get X hK w 9 iw_X9_swap_9 h0 (by decide) rfl 0 (by decide) (List.mem_of_getElem? (i := 1) rfl) rfl dX9_swap_45 ?_
          refine lv_iload_n X.1 X.2.1 dX9_swap_48 rfl (lv_at hl 3 rfl) ?_
          refine lv_aload_n X.1 X.2.1 dX9_swap_49 rfl (lv_at hl 2 rfl) ?_
          refine tw_get X hK w 9 iw_X9_swap_9 h0 (by decide) rfl 0 (by decide) (List.mem_of_getElem? (i := 1) rfl) rfl dX9_swap_50 ?_
          refine lv_bipush (v := 17) X.1 X.2.1 dX9_swap_53 (by decide) ?_
          refine lv_iload_n X.1 X.2.1 dX9_swap_55 rfl (lv_at hl 3 rfl) ?_
          refine lv_iadd X.1 X.2.1 dX9_swap_56 ?_
          obtain ⟨hi18, h⟩ := h
          refine tw_iald X hK w (tw_t_9_0 hT h0) (tw_n_9_0 hT h0) hi18 dX9_swap_57 ?_
          obtain ⟨hi19, h⟩ := h
          refine tw_iast X hK w (tw_t_9_0 hT h0) (tw_n_9_0 hT h0) hi19 dX9_swap_58 (fun σ20 H locs eσ20 w => ?_)
          have h := h _ eσ20
          refine lv_aload_n X.1 X.2.1 dX9_swap_59 rfl (lv_at hl 2 rfl) ?_
          refine tw_get X hK w 9 iw_X9_swap_9 h0 (by decide) rfl 0 (by decide) (List.mem_of_getElem? (i := 1) rfl) rfl dX9_swap_60 ?_
          refine lv_bipush (v := 17) X.1 X.2.1 dX9_swap_63 (by decide) ?_
          refine lv_iload_n X.1 X.2.1 dX9_swap_65 rfl (lv_at hl 3 rfl) ?_
          refine lv_iadd X.1 X.2.1 dX9_swap_66 ?_
          refine lv_iload_n X.1 X.2.1 dX9_swap_67 rfl (lv_at hl 1 rfl) ?_
          obtain ⟨hi21, h⟩ := h
          refine tw_iast X hK w (tw_t_9_0 hT h0) (tw_n_9_0 hT h0) hi21 dX9_swap_68 (fun σ22 H locs eσ22 w => ?_)
          have h := h _ eσ22
          refine lv_iinc (v := (x2 + 1)) (lv' := [(2, .int (x2 + 1)), (1, .int (1 : Int32)), (3, .int z4), (0, .ref a0)]) X.1 X.2.1 dX9_swap_69 hl (k := 3) rfl rfl (by decide) rfl (fun ls hl => ?_)
          refine lv_goto (tgt := 8) X.1 X.2.1 dX9_swap_72 (by decide) ?_
          exact ih (1 : Int32) (x2 + 1) σ22 _ _ ls h w (lv_sub hl [3, 1, 0] rfl)
set_option maxHeartbeats 4000000 in
set_option maxRecDepth 100000 in
theorem ct_X9_swap (l : Launch) (D : va_G) (g : tw_G) (hT : tw_T g) (sz : Nat) (σ : tw_S) (a0 : Nat) (h0 : tw_is g 9 a0) (Q : Int32 → tw_S → Prop) (h : wp_X9_swap g σ a0 Q) : tw_Mi l yX9_swap wsX9_swap RM_X9_swap D g sz σ [.ref a0] Q := by
  refine Met.ofW (cc := cX9_swap) (maxL := 4) (ret := (some .int)) (by decide) rfl ?_
  intro p e s m args below meth c s₁ B hml hv
  obtain ⟨rfl, hsz, hP, hK, hD0⟩ := hv
  subst hsz
  have hr := B.returns
  have hlk := B.notSynchronized
  have X : CallFix p m c cX9_swap 4 s _ wsX9_swap RX9 := ⟨B.exec, B.bytes, hml, findClass_of_methodNamed B.named, atoms_spec (ws := wsX9_swap) B.pre⟩
  have w := tw_w0 hP hD0
  have hl := lv_entry ([.ref a0]) (n := 4) (Nat.le_of_ble_eq_true rfl)
  rw [lg_entry_eq]
  generalize (lg_sl ([.ref a0]) ++ List.replicate (4 - (lg_sl ([.ref a0])).length) Slot.unset).toArray = ls at hl ⊢
  have hl : lv_has ls 4 [(0, .ref a0)] := hl
  unfold wp_X9_swap at h
  refine lv_aload_n X.1 X.2.1 dX9_swap_0 rfl (lv_at hl 0 rfl) ?_
  refine tw_cv w (va_runV (As := []) (rest := []) X (ct_X9_notes l D g hT _ σ a0 h0 _ h) (cwV 0 X.2.2.2.2 gX9_swap_X9_notes rfl rfl rfl (by decide +kernel) ⟨Nat.le_of_ble_eq_true rfl, Nat.le_of_ble_eq_true rfl⟩) (tw_preV hK w h0 (by decide) rfl []) rfl rfl hl.1 rfl (lv_room (Nat.le_of_ble_eq_true rfl)) dX9_swap_1 ⟨Nat.zero_le _, Nat.zero_le _⟩) (fun σ1 H locs h w => ?_)
  refine lv_iconst (v := 1) X.1 X.2.1 dX9_swap_4 (by decide) ?_
  refine lv_istore_n (lv' := [(1, .int (1 : Int32)), (0, .ref a0)]) X.1 X.2.1 dX9_swap_5 rfl hl (by decide) rfl (fun ls hl => ?_)
  refine lv_iconst (v := 0) X.1 X.2.1 dX9_swap_6 (by decide) ?_
  refine lv_istore_n (lv' := [(2, .int (0 : Int32)), (1, .int (1 : Int32)), (0, .ref a0)]) X.1 X.2.1 dX9_swap_7 rfl hl (by decide) rfl (fun ls hl => ?_)
  obtain ⟨n8, h⟩ := h
  refine lp_X9_swap_8 X hr hlk hK hT h0 (fun v23 σ24 H locs ls h w hl => ?_) n8 (1 : Int32) (0 : Int32) σ1 _ _ ls h w (lv_sub hl [2, 1, 0] rfl)
  · skip
    refine lv_iload_n X.1 X.2.1 dX9_swap_75 rfl (lv_at hl 0 rfl) ?_
    refine lv_if_eq (tgt := 83) X.1 X.2.1 dX9_swap_76 (by decide) (fun c25 => ?_) (fun c25 => ?_)
    · have h := h.1 c25
      refine lv_iconst (v := 1) X.1 X.2.1 dX9_swap_83 (by decide) ?_
      exact tw_iret X hr hlk w h dX9_swap_84
    · have h := h.2 c25
      refine lv_iconst (v := 0) X.1 X.2.1 dX9_swap_79 (by decide) ?_
      refine lv_goto (tgt := 84) X.1 X.2.1 dX9_swap_80 (by decide) ?_
      exact tw_iret X hr hlk w h dX9_swap_84

abbrev RM_X9_undo : Room := { frames := 0, cells := 0, slots := 0, locals := 0 }
theorem iw_X9_undo_9 : ∀ w ∈ wsX90, w ∈ wsX9_undo := fun w h => List.mem_cons_of_mem _ (List.mem_append_right _ (h))
def wl_X9_undo_22 (g : tw_G) (a0 : Nat) (Q : Int32 → tw_S → Prop) (k54 : tw_S → Prop) : Nat → Int32 → tw_S → Prop
  | 0, _, _ => False
  | n + 1, x1, σ => (((34 : Int32) ≤ x1) → k54  σ) ∧ (¬ ((34 : Int32) ≤ x1) → vp_in (((34 : Int32) * (tw_I σ a0 9)) + x1) 272 ∧ vp_in x1 34 ∧ ∀ σ6, σ6 = (tw_sA σ (tw_R g a0 0) (upd (tw_A σ (tw_R g a0 0)) x1.toNatClampNeg (tw_A σ (tw_R g a0 8) (((34 : Int32) * (tw_I σ a0 9)) + x1).toNatClampNeg))) → wl_X9_undo_22 g a0 Q k54 n (x1 + 1) σ6)
def wp_X9_undo (g : tw_G) (σ : tw_S) (a0 : Nat) (Q : Int32 → tw_S → Prop) : Prop := ((¬ (tw_I σ a0 9) = 0) → ∀ σ2, σ2 = (tw_sI σ a0 9 ((tw_I σ a0 9) - (1 : Int32))) → ∃ n22, wl_X9_undo_22 g a0 Q (fun σ7 => Q (tw_I σ7 a0 9) σ7) n22 (0 : Int32) σ2) ∧ (((tw_I σ a0 9) = 0) → Q (-1000000003 : Int32) σ)
set_option maxHeartbeats 4000000 in
set_option maxRecDepth 100000 in
theorem lp_X9_undo_22 {p : Program} {l : Launch} {e : Env} {s : State} {m : MethodId} {args : Array Value} {below : List Frame} {meth : Method} {c : Code} {D : va_G} {g : tw_G} (X : CallFix p m c cX9_undo 2 s args wsX9_undo RX9) (hr : meth.sig.returnType = (some .int)) (hlk : meth.locks = false) (hK : tw_k D g s) (hT : tw_T g) {a0 : Nat} (h0 : tw_is g 9 a0) {Q : Int32 → tw_S → Prop} {k54 : tw_S → Prop}
    (hk54 : ∀  (σ : tw_S) (H : Heap) (locs : List Loc) (ls : Array Slot), k54  σ → tw_w D g (tw_F g s.heap.size) s σ H locs → lv_has ls 2 [(0, .ref a0)] → W p l e RM_X9_undo s m args below meth c H locs 0 0 (tw_Qi Q D g below args s) (F0 m 54 ls []))
    : ∀ (n : Nat) (x1 : Int32) (σ : tw_S) (H : Heap) (locs : List Loc) (ls : Array Slot), wl_X9_undo_22 g a0 Q k54 n x1 σ → tw_w D g (tw_F g s.heap.size) s σ H locs → lv_has ls 2 [(0, .ref a0), (1, .int x1)] → W p l e RM_X9_undo s m args below meth c H locs 0 0 (tw_Qi Q D g below args s) (F0 m 22 ls []) := by
  intro n
  induction n with
  | zero =>
    intro x1 σ H locs ls h w hl
    exact False.elim h
  | succ n ih =>
    intro x1 σ H locs ls h w hl
    rw [wl_X9_undo_22] at h
    refine lv_iload_n X.1 X.2.1 dX9_undo_22 rfl (lv_at hl 1 rfl) ?_
    refine lv_bipush (v := 34) X.1 X.2.1 dX9_undo_23 (by decide) ?_
    refine lv_icmp_ge (tgt := 54) X.1 X.2.1 dX9_undo_25 (by decide) (fun c3 => ?_) (fun c3 => ?_)
    · have h := h.1 c3
      exact hk54  σ _ _ ls h w (lv_sub hl [0] rfl)
    · have h := h.2 c3
      refine lv_aload_n X.1 X.2.1 dX9_undo_28 rfl (lv_at hl 0 rfl) ?_
      refine tw_get X hK w 9 iw_X9_undo_9 h0 (by decide) rfl 0 (by decide) (List.mem_of_getElem? (i := 3) rfl) rfl dX9_undo_29 ?_
      refine lv_iload_n X.1 X.2.1 dX9_undo_32 rfl (lv_at hl 1 rfl) ?_
      refine lv_aload_n X.1 X.2.1 dX9_undo_33 rfl (lv_at hl 0 rfl) ?_
      refine tw_get X hK w 9 iw_X9_undo_9 h0 (by decide) rfl 8 (by decide) (List.mem_of_getElem? (i := 4) rfl) rfl dX9_undo_34 ?_
      refine lv_bipush (v := 34) X.1 X.2.1 dX9_undo_37 (by decide) ?_
      refine lv_aload_n X.1 X.2.1 dX9_undo_39 rfl (lv_at hl 0 rfl) ?_
      refine tw_get X hK w 9 iw_X9_undo_9 h0 (by decide) rfl 9 (by decide) (List.mem_of_getElem? (i := 1) rfl) rfl dX9_undo_40 ?_
      refine lv_imul X.1 X.2.1 dX9_undo_43 ?_
      refine lv_iload_n X.1 X.2.1 dX9_undo_44 rfl (lv_at hl 1 rfl) ?_
      refine lv_iadd X.1 X.2.1 dX9_undo_45 ?_
      obtain ⟨hi4, h⟩ := h
      refine tw_iald X hK w (tw_t_9_8 hT h0) (tw_n_9_8 hT h0) hi4 dX9_undo_46 ?_
      obtain ⟨hi5, h⟩ := h
      refine tw_iast X hK w (tw_t_9_0 hT h0) (tw_n_9_0 hT h0) hi5 dX9_undo_47 (fun σ6 H locs eσ6 w => ?_)
      have h := h _ eσ6
      refine lv_iinc (v := (x1 + 1)) (lv' := [(1, .int (x1 + 1)), (0, .ref a0)]) X.1 X.2.1 dX9_undo_48 hl (k := 1) rfl rfl (by decide) rfl (fun ls hl => ?_)
      refine lv_goto (tgt := 22) X.1 X.2.1 dX9_undo_51 (by decide) ?_
      exact ih (x1 + 1) σ6 _ _ ls h w (lv_sub hl [1, 0] rfl)
set_option maxHeartbeats 4000000 in
set_option maxRecDepth 100000 in
theorem ct_X9_undo (l : Launch) (D : va_G) (g : tw_G) (hT : tw_T g) (sz : Nat) (σ : tw_S) (a0 : Nat) (h0 : tw_is g 9 a0) (Q : Int32 → tw_S → Prop) (h : wp_X9_undo g σ a0 Q) : tw_Mi l yX9_undo wsX9_undo RM_X9_undo D g sz σ [.ref a0] Q := by
  refine Met.ofW (cc := cX9_undo) (maxL := 2) (ret := (some .int)) (by decide) rfl ?_
  intro p e s m args below meth c s₁ B hml hv
  obtain ⟨rfl, hsz, hP, hK, hD0⟩ := hv
  subst hsz
  have hr := B.returns
  have hlk := B.notSynchronized
  have X : CallFix p m c cX9_undo 2 s _ wsX9_undo RX9 := ⟨B.exec, B.bytes, hml, findClass_of_methodNamed B.named, atoms_spec (ws := wsX9_undo) B.pre⟩
  have w := tw_w0 hP hD0
  have hl := lv_entry ([.ref a0]) (n := 2) (Nat.le_of_ble_eq_true rfl)
  rw [lg_entry_eq]
  generalize (lg_sl ([.ref a0]) ++ List.replicate (2 - (lg_sl ([.ref a0])).length) Slot.unset).toArray = ls at hl ⊢
  have hl : lv_has ls 2 [(0, .ref a0)] := hl
  unfold wp_X9_undo at h
  refine lv_aload_n X.1 X.2.1 dX9_undo_0 rfl (lv_at hl 0 rfl) ?_
  refine tw_get X hK w 9 iw_X9_undo_9 h0 (by decide) rfl 9 (by decide) (List.mem_of_getElem? (i := 1) rfl) rfl dX9_undo_1 ?_
  refine lv_if_ne (tgt := 10) X.1 X.2.1 dX9_undo_4 (by decide) (fun c1 => ?_) (fun c1 => ?_)
  · have h := h.1 c1
    refine lv_aload_n X.1 X.2.1 dX9_undo_10 rfl (lv_at hl 0 rfl) ?_
    refine lv_dup X.1 X.2.1 dX9_undo_11 rfl ?_
    refine tw_get X hK w 9 iw_X9_undo_9 h0 (by decide) rfl 9 (by decide) (List.mem_of_getElem? (i := 1) rfl) rfl dX9_undo_12 ?_
    refine lv_iconst (v := 1) X.1 X.2.1 dX9_undo_15 (by decide) ?_
    refine lv_isub X.1 X.2.1 dX9_undo_16 ?_
    refine tw_putI X hK w 9 iw_X9_undo_9 tyX9 tyX9_ok nmX9 h0 (by decide) rfl 9 (by decide) (List.mem_of_getElem? (i := 1) rfl) rfl (ty := .int) (by decide +kernel) rfl rfl (Nat.le_of_ble_eq_true rfl) (tw_f_9_9 g _ _ _) dX9_undo_17 (fun σ2 H locs eσ2 w => ?_)
    have h := h _ eσ2
    refine lv_iconst (v := 0) X.1 X.2.1 dX9_undo_20 (by decide) ?_
    refine lv_istore_n (lv' := [(1, .int (0 : Int32)), (0, .ref a0)]) X.1 X.2.1 dX9_undo_21 rfl hl (by decide) rfl (fun ls hl => ?_)
    obtain ⟨n22, h⟩ := h
    refine lp_X9_undo_22 X hr hlk hK hT h0 (fun σ7 H locs ls h w hl => ?_) n22 (0 : Int32) σ2 _ _ ls h w (lv_sub hl [1, 0] rfl)
    · skip
      refine lv_aload_n X.1 X.2.1 dX9_undo_54 rfl (lv_at hl 0 rfl) ?_
      refine tw_get X hK w 9 iw_X9_undo_9 h0 (by decide) rfl 9 (by decide) (List.mem_of_getElem? (i := 1) rfl) rfl dX9_undo_55 ?_
      exact tw_iret X hr hlk w h dX9_undo_58
  · have h := h.2 c1
    refine lv_ldc (own := RX9) (v := -1000000003) X.1 X.2.1 X.2.2.2.1 (X.2.2.2.2 _ (List.mem_of_getElem? (i := 2) rfl)) dX9_undo_7 ?_
    exact tw_iret X hr hlk w h dX9_undo_9

abbrev RM_X9_moveOf : Room := { frames := 3, cells := 0, slots := 0, locals := 70 }
def wp_X9_moveOf (g : tw_G) (σ : tw_S) (a0 : Nat) (x1 : Int32) (x2 : Int32) (x3 : Int32) (Q : Int32 → tw_S → Prop) : Prop := wp_X9_isSpot g σ a0 x1 x2 x3 (fun r2 σ1 => ((r2 = 0) → Q (-1000000001 : Int32) σ1) ∧ (¬ (r2 = 0) → wp_X9_moveAt g σ1 a0 x1 x2 x3 (fun r5 σ4 => Q r5 σ4)))
set_option maxHeartbeats 4000000 in
set_option maxRecDepth 100000 in
theorem ct_X9_moveOf (l : Launch) (D : va_G) (g : tw_G) (hT : tw_T g) (sz : Nat) (σ : tw_S) (a0 : Nat) (h0 : tw_is g 9 a0) (x1 : Int32) (x2 : Int32) (x3 : Int32) (Q : Int32 → tw_S → Prop) (h : wp_X9_moveOf g σ a0 x1 x2 x3 Q) : tw_Mi l yX9_moveOf wsX9_moveOf RM_X9_moveOf D g sz σ [.ref a0, .int x1, .int x2, .int x3] Q := by
  refine Met.ofW (cc := cX9_moveOf) (maxL := 4) (ret := (some .int)) (by decide) rfl ?_
  intro p e s m args below meth c s₁ B hml hv
  obtain ⟨rfl, hsz, hP, hK, hD0⟩ := hv
  subst hsz
  have hr := B.returns
  have hlk := B.notSynchronized
  have X : CallFix p m c cX9_moveOf 4 s _ wsX9_moveOf RX9 := ⟨B.exec, B.bytes, hml, findClass_of_methodNamed B.named, atoms_spec (ws := wsX9_moveOf) B.pre⟩
  have w := tw_w0 hP hD0
  have hl := lv_entry ([.ref a0, .int x1, .int x2, .int x3]) (n := 4) (Nat.le_of_ble_eq_true rfl)
  rw [lg_entry_eq]
  generalize (lg_sl ([.ref a0, .int x1, .int x2, .int x3]) ++ List.replicate (4 - (lg_sl ([.ref a0, .int x1, .int x2, .int x3])).length) Slot.unset).toArray = ls at hl ⊢
  have hl : lv_has ls 4 [(0, .ref a0), (1, .int x1), (2, .int x2), (3, .int x3)] := hl
  unfold wp_X9_moveOf at h
  refine lv_aload_n X.1 X.2.1 dX9_moveOf_0 rfl (lv_at hl 0 rfl) ?_
  refine lv_iload_n X.1 X.2.1 dX9_moveOf_1 rfl (lv_at hl 1 rfl) ?_
  refine lv_iload_n X.1 X.2.1 dX9_moveOf_2 rfl (lv_at hl 2 rfl) ?_
  refine lv_iload_n X.1 X.2.1 dX9_moveOf_3 rfl (lv_at hl 3 rfl) ?_
  refine tw_ci w (va_runV (As := [.int x1, .int x2, .int x3]) (rest := []) X (ct_X9_isSpot l D g hT _ σ a0 h0 x1 x2 x3 _ h) (cwV 3 X.2.2.2.2 gX9_moveOf_X9_isSpot rfl rfl rfl (by decide +kernel) ⟨Nat.le_of_ble_eq_true rfl, Nat.le_of_ble_eq_true rfl⟩) (tw_preV hK w h0 (by decide) rfl [.int x1, .int x2, .int x3]) rfl rfl hl.1 rfl (lv_room (Nat.le_of_ble_eq_true rfl)) dX9_moveOf_4 ⟨Nat.zero_le _, Nat.zero_le _⟩) (fun r2 σ1 H locs h w => ?_)
  refine lv_if_eq (tgt := 20) X.1 X.2.1 dX9_moveOf_7 (by decide) (fun c3 => ?_) (fun c3 => ?_)
  · have h := h.1 c3
    refine lv_ldc (own := RX9) (v := -1000000001) X.1 X.2.1 X.2.2.2.1 (X.2.2.2.2 _ (List.mem_of_getElem? (i := 1) rfl)) dX9_moveOf_20 ?_
    exact tw_iret X hr hlk w h dX9_moveOf_22
  · have h := h.2 c3
    refine lv_aload_n X.1 X.2.1 dX9_moveOf_10 rfl (lv_at hl 0 rfl) ?_
    refine lv_iload_n X.1 X.2.1 dX9_moveOf_11 rfl (lv_at hl 1 rfl) ?_
    refine lv_iload_n X.1 X.2.1 dX9_moveOf_12 rfl (lv_at hl 2 rfl) ?_
    refine lv_iload_n X.1 X.2.1 dX9_moveOf_13 rfl (lv_at hl 3 rfl) ?_
    refine tw_ci w (va_runV (As := [.int x1, .int x2, .int x3]) (rest := []) X (ct_X9_moveAt l D g hT _ σ1 a0 h0 x1 x2 x3 _ h) (cwV 3 X.2.2.2.2 gX9_moveOf_X9_moveAt rfl rfl rfl (by decide +kernel) ⟨Nat.le_of_ble_eq_true rfl, Nat.le_of_ble_eq_true rfl⟩) (tw_preV hK w h0 (by decide) rfl [.int x1, .int x2, .int x3]) rfl rfl hl.1 rfl (lv_room (Nat.le_of_ble_eq_true rfl)) dX9_moveOf_14 ⟨Nat.zero_le _, Nat.zero_le _⟩) (fun r5 σ4 H locs h w => ?_)
    refine lv_goto (tgt := 22) X.1 X.2.1 dX9_moveOf_17 (by decide) ?_
    exact tw_iret X hr hlk w h dX9_moveOf_22

abbrev RM_X9_letter : Room := { frames := 1, cells := 0, slots := 0, locals := 25 }
theorem iw_X9_letter_9 : ∀ w ∈ wsX90, w ∈ wsX9_letter := fun w h => List.mem_cons_of_mem _ (List.mem_append_right _ (h))
def wp_X9_letter (g : tw_G) (σ : tw_S) (a0 : Nat) (x1 : Int32) (Q : Int32 → tw_S → Prop) : Prop := wp_X9_in g σ (x1.toInt64) (97 : Int64) (98 : Int64) (fun r2 σ1 => ((¬ r2 = 0) → ((¬ (tw_I σ1 a0 12) = (24 : Int32)) → vp_in (tw_I σ1 a0 12) 24 ∧ ∀ σ6, σ6 = (tw_sA σ1 (tw_R g a0 11) (upd (tw_A σ1 (tw_R g a0 11)) (tw_I σ1 a0 12).toNatClampNeg (x1 - (97 : Int32)))) → ∀ σ7, σ7 = (tw_sI σ6 a0 12 ((tw_I σ6 a0 12) + (1 : Int32))) → Q (tw_I σ7 a0 12) σ7) ∧ (((tw_I σ1 a0 12) = (24 : Int32)) → Q (-1000000004 : Int32) σ1)) ∧ ((r2 = 0) → Q (-1000000002 : Int32) σ1))
set_option maxHeartbeats 4000000 in
set_option maxRecDepth 100000 in
theorem ct_X9_letter (l : Launch) (D : va_G) (g : tw_G) (hT : tw_T g) (sz : Nat) (σ : tw_S) (a0 : Nat) (h0 : tw_is g 9 a0) (x1 : Int32) (Q : Int32 → tw_S → Prop) (h : wp_X9_letter g σ a0 x1 Q) : tw_Mi l yX9_letter wsX9_letter RM_X9_letter D g sz σ [.ref a0, .int x1] Q := by
  refine Met.ofW (cc := cX9_letter) (maxL := 2) (ret := (some .int)) (by decide) rfl ?_
  intro p e s m args below meth c s₁ B hml hv
  obtain ⟨rfl, hsz, hP, hK, hD0⟩ := hv
  subst hsz
  have hr := B.returns
  have hlk := B.notSynchronized
  have X : CallFix p m c cX9_letter 2 s _ wsX9_letter RX9 := ⟨B.exec, B.bytes, hml, findClass_of_methodNamed B.named, atoms_spec (ws := wsX9_letter) B.pre⟩
  have w := tw_w0 hP hD0
  have hl := lv_entry ([.ref a0, .int x1]) (n := 2) (Nat.le_of_ble_eq_true rfl)
  rw [lg_entry_eq]
  generalize (lg_sl ([.ref a0, .int x1]) ++ List.replicate (2 - (lg_sl ([.ref a0, .int x1])).length) Slot.unset).toArray = ls at hl ⊢
  have hl : lv_has ls 2 [(0, .ref a0), (1, .int x1)] := hl
  unfold wp_X9_letter at h
  refine lv_iload_n X.1 X.2.1 dX9_letter_0 rfl (lv_at hl 1 rfl) ?_
  refine lv_i2l (v := (x1.toInt64)) X.1 X.2.1 dX9_letter_1 rfl ?_
  refine lv_ldc2 (own := RX9) (v := 97) X.1 X.2.1 X.2.2.2.1 (X.2.2.2.2 _ (List.mem_of_getElem? (i := 1) rfl)) dX9_letter_2 ?_
  refine lv_ldc2 (own := RX9) (v := 98) X.1 X.2.1 X.2.2.2.1 (X.2.2.2.2 _ (List.mem_of_getElem? (i := 2) rfl)) dX9_letter_5 ?_
  refine tw_ci w (va_runS (As := [.long (x1.toInt64), .long (97 : Int64), .long (98 : Int64)]) (rest := []) X (ct_X9_in l D g hT _ σ (x1.toInt64) (97 : Int64) (98 : Int64) _ h) (va_cwS 3 X.2.2.2.2 gX9_letter_X9_in rfl rfl rfl (by decide +kernel) ⟨Nat.le_of_ble_eq_true rfl, Nat.le_of_ble_eq_true rfl⟩) (tw_pre hK w [.long (x1.toInt64), .long (97 : Int64), .long (98 : Int64)]) rfl rfl hl.1 rfl (lv_room (Nat.le_of_ble_eq_true rfl)) dX9_letter_8 ⟨Nat.zero_le _, Nat.zero_le _⟩) (fun r2 σ1 H locs h w => ?_)
  refine lv_if_ne (tgt := 17) X.1 X.2.1 dX9_letter_11 (by decide) (fun c3 => ?_) (fun c3 => ?_)
  · have h := h.1 c3
    refine lv_aload_n X.1 X.2.1 dX9_letter_17 rfl (lv_at hl 0 rfl) ?_
    refine tw_get X hK w 9 iw_X9_letter_9 h0 (by decide) rfl 12 (by decide) (List.mem_of_getElem? (i := 4) rfl) rfl dX9_letter_18 ?_
    refine lv_bipush (v := 24) X.1 X.2.1 dX9_letter_21 (by decide) ?_
    refine lv_icmp_ne (tgt := 29) X.1 X.2.1 dX9_letter_23 (by decide) (fun c4 => ?_) (fun c4 => ?_)
    · have h := h.1 c4
      refine lv_aload_n X.1 X.2.1 dX9_letter_29 rfl (lv_at hl 0 rfl) ?_
      refine tw_get X hK w 9 iw_X9_letter_9 h0 (by decide) rfl 11 (by decide) (List.mem_of_getElem? (i := 6) rfl) rfl dX9_letter_30 ?_
      refine lv_aload_n X.1 X.2.1 dX9_letter_33 rfl (lv_at hl 0 rfl) ?_
      refine tw_get X hK w 9 iw_X9_letter_9 h0 (by decide) rfl 12 (by decide) (List.mem_of_getElem? (i := 4) rfl) rfl dX9_letter_34 ?_
      refine lv_iload_n X.1 X.2.1 dX9_letter_37 rfl (lv_at hl 1 rfl) ?_
      refine lv_bipush (v := 97) X.1 X.2.1 dX9_letter_38 (by decide) ?_
      refine lv_isub X.1 X.2.1 dX9_letter_40 ?_
      obtain ⟨hi5, h⟩ := h
      refine tw_iast X hK w (tw_t_9_11 hT h0) (tw_n_9_11 hT h0) hi5 dX9_letter_41 (fun σ6 H locs eσ6 w => ?_)
      have h := h _ eσ6
      refine lv_aload_n X.1 X.2.1 dX9_letter_42 rfl (lv_at hl 0 rfl) ?_
      refine lv_dup X.1 X.2.1 dX9_letter_43 rfl ?_
      refine tw_get X hK w 9 iw_X9_letter_9 h0 (by decide) rfl 12 (by decide) (List.mem_of_getElem? (i := 4) rfl) rfl dX9_letter_44 ?_
      refine lv_iconst (v := 1) X.1 X.2.1 dX9_letter_47 (by decide) ?_
      refine lv_iadd X.1 X.2.1 dX9_letter_48 ?_
      refine tw_putI X hK w 9 iw_X9_letter_9 tyX9 tyX9_ok nmX9 h0 (by decide) rfl 12 (by decide) (List.mem_of_getElem? (i := 4) rfl) rfl (ty := .int) (by decide +kernel) rfl rfl (Nat.le_of_ble_eq_true rfl) (tw_f_9_12 g _ _ _) dX9_letter_49 (fun σ7 H locs eσ7 w => ?_)
      have h := h _ eσ7
      refine lv_aload_n X.1 X.2.1 dX9_letter_52 rfl (lv_at hl 0 rfl) ?_
      refine tw_get X hK w 9 iw_X9_letter_9 h0 (by decide) rfl 12 (by decide) (List.mem_of_getElem? (i := 4) rfl) rfl dX9_letter_53 ?_
      exact tw_iret X hr hlk w h dX9_letter_56
    · have h := h.2 c4
      refine lv_ldc (own := RX9) (v := -1000000004) X.1 X.2.1 X.2.2.2.1 (X.2.2.2.2 _ (List.mem_of_getElem? (i := 5) rfl)) dX9_letter_26 ?_
      exact tw_iret X hr hlk w h dX9_letter_28
  · have h := h.2 c3
    refine lv_ldc (own := RX9) (v := -1000000002) X.1 X.2.1 X.2.2.2.1 (X.2.2.2.2 _ (List.mem_of_getElem? (i := 3) rfl)) dX9_letter_14 ?_
    exact tw_iret X hr hlk w h dX9_letter_16

abbrev RM_X9_word : Room := { frames := 1, cells := 0, slots := 0, locals := 25 }
theorem iw_X9_word_9 : ∀ w ∈ wsX90, w ∈ wsX9_word := fun w h => List.mem_cons_of_mem _ (List.mem_append_right _ (h))
def wl_X9_word_17 (g : tw_G) (a0 : Nat) (x1 : Int32) (Q : Int32 → tw_S → Prop) (k30 : Int32 → tw_S → Prop) : Nat → Int32 → tw_S → Prop
  | 0, _, _ => False
  | n + 1, x2, σ => (((x1 >>> (x2 &&& 31)) ≤ (1 : Int32)) → k30 x2 σ) ∧ (¬ ((x1 >>> (x2 &&& 31)) ≤ (1 : Int32)) → wl_X9_word_17 g a0 x1 Q k30 n (x2 + 1) σ)
def wl_X9_word_37 (g : tw_G) (a0 : Nat) (x1 : Int32) (x2 : Int32) (Q : Int32 → tw_S → Prop) (k63 : tw_S → Prop) : Nat → Int32 → tw_S → Prop
  | 0, _, _ => False
  | n + 1, x3, σ => ((x2 ≤ x3) → k63  σ) ∧ (¬ (x2 ≤ x3) → vp_in x3 24 ∧ ∀ σ10, σ10 = (tw_sA σ (tw_R g a0 11) (upd (tw_A σ (tw_R g a0 11)) x3.toNatClampNeg ((x1 >>> (((x2 - (1 : Int32)) - x3) &&& 31)) &&& (1 : Int32)))) → wl_X9_word_37 g a0 x1 x2 Q k63 n (x3 + 1) σ10)
def wp_X9_word (g : tw_G) (σ : tw_S) (a0 : Nat) (x1 : Int32) (Q : Int32 → tw_S → Prop) : Prop := wp_X9_in g σ (x1.toInt64) (1 : Int64) (33554431 : Int64) (fun r2 σ1 => ((¬ r2 = 0) → ∃ n17, wl_X9_word_17 g a0 x1 Q (fun v5 σ6 => ∀ σ7, σ7 = (tw_sI σ6 a0 12 v5) → ∃ n37, wl_X9_word_37 g a0 x1 v5 Q (fun σ11 => Q v5 σ11) n37 (0 : Int32) σ7) n17 (0 : Int32) σ1) ∧ ((r2 = 0) → Q (-1000000002 : Int32) σ1))
set_option maxHeartbeats 4000000 in
set_option maxRecDepth 100000 in
theorem lp_X9_word_17 {p : Program} {l : Launch} {e : Env} {s : State} {m : MethodId} {args : Array Value} {below : List Frame} {meth : Method} {c : Code} {D : va_G} {g : tw_G} (X : CallFix p m c cX9_word 4 s args wsX9_word RX9) (hr : meth.sig.returnType = (some .int)) (hlk : meth.locks = false) (hK : tw_k D g s) (hT : tw_T g) {a0 : Nat} {x1 : Int32} (h0 : tw_is g 9 a0) {Q : Int32 → tw_S → Prop} {k30 : Int32 → tw_S → Prop}
    (hk30 : ∀ (x2 : Int32) (σ : tw_S) (H : Heap) (locs : List Loc) (ls : Array Slot), k30 x2 σ → tw_w D g (tw_F g s.heap.size) s σ H locs → lv_has ls 4 [(0, .ref a0), (1, .int x1), (2, .int x2)] → W p l e RM_X9_word s m args below meth c H locs 0 0 (tw_Qi Q D g below args s) (F0 m 30 ls []))
    : ∀ (n : Nat) (x2 : Int32) (σ : tw_S) (H : Heap) (locs : List Loc) (ls : Array Slot), wl_X9_word_17 g a0 x1 Q k30 n x2 σ → tw_w D g (tw_F g s.heap.size) s σ H locs → lv_has ls 4 [(0, .ref a0), (1, .int x1), (2, .int x2)] → W p l e RM_X9_word s m args below meth c H locs 0 0 (tw_Qi Q D g below args s) (F0 m 17 ls []) := by
  intro n
  induction n with
  | zero =>
    intro x2 σ H locs ls h w hl
    exact False.elim h
  | succ n ih =>
    intro x2 σ H locs ls h w hl
    rw [wl_X9_word_17] at h
    refine lv_iload_n X.1 X.2.1 dX9_word_17 rfl (lv_at hl 1 rfl) ?_
    refine lv_iload_n X.1 X.2.1 dX9_word_18 rfl (lv_at hl 2 rfl) ?_
    refine lv_ishr X.1 X.2.1 dX9_word_19 ?_
    refine lv_iconst (v := 1) X.1 X.2.1 dX9_word_20 (by decide) ?_
    refine lv_icmp_le (tgt := 30) X.1 X.2.1 dX9_word_21 (by decide) (fun c4 => ?_) (fun c4 => ?_)
    · have h := h.1 c4
      exact hk30 x2 σ _ _ ls h w (lv_sub hl [0, 1, 2] rfl)
    · have h := h.2 c4
      refine lv_iinc (v := (x2 + 1)) (lv' := [(2, .int (x2 + 1)), (0, .ref a0), (1, .int x1)]) X.1 X.2.1 dX9_word_24 hl (k := 2) rfl rfl (by decide) rfl (fun ls hl => ?_)
      refine lv_goto (tgt := 17) X.1 X.2.1 dX9_word_27 (by decide) ?_
      exact ih (x2 + 1) σ _ _ ls h w (lv_sub hl [1, 2, 0] rfl)
set_option maxHeartbeats 4000000 in
set_option maxRecDepth 100000 in
theorem lp_X9_word_37 {p : Program} {l : Launch} {e : Env} {s : State} {m : MethodId} {args : Array Value} {below : List Frame} {meth : Method} {c : Code} {D : va_G} {g : tw_G} (X : CallFix p m c cX9_word 4 s args wsX9_word RX9) (hr : meth.sig.returnType = (some .int)) (hlk : meth.locks = false) (hK : tw_k D g s) (hT : tw_T g) {a0 : Nat} {x1 : Int32} {x2 : Int32} (h0 : tw_is g 9 a0) {Q : Int32 → tw_S → Prop} {k63 : tw_S → Prop}
    (hk63 : ∀  (σ : tw_S) (H : Heap) (locs : List Loc) (ls : Array Slot), k63  σ → tw_w D g (tw_F g s.heap.size) s σ H locs → lv_has ls 4 [(2, .int x2)] → W p l e RM_X9_word s m args below meth c H locs 0 0 (tw_Qi Q D g below args s) (F0 m 63 ls []))
    : ∀ (n : Nat) (x3 : Int32) (σ : tw_S) (H : Heap) (locs : List Loc) (ls : Array Slot), wl_X9_word_37 g a0 x1 x2 Q k63 n x3 σ → tw_w D g (tw_F g s.heap.size) s σ H locs → lv_has ls 4 [(0, .ref a0), (1, .int x1), (2, .int x2), (3, .int x3)] → W p l e RM_X9_word s m args below meth c H locs 0 0 (tw_Qi Q D g below args s) (F0 m 37 ls []) := by
  intro n
  induction n with
  | zero =>
    intro x3 σ H locs ls h w hl
    exact False.elim h
  | succ n ih =>
    intro x3 σ H locs ls h w hl
    rw [wl_X9_word_37] at h
    refine lv_iload_n X.1 X.2.1 dX9_word_37 rfl (lv_at hl 3 rfl) ?_
    refine lv_iload_n X.1 X.2.1 dX9_word_38 rfl (lv_at hl 2 rfl) ?_
    refine lv_icmp_ge (tgt := 63) X.1 X.2.1 dX9_word_39 (by decide) (fun c8 => ?_) (fun c8 => ?_)
    · have h := h.1 c8
      exact hk63  σ _ _ ls h w (lv_sub hl [2] rfl)
    · have h := h.2 c8
      refine lv_aload_n X.1 X.2.1 dX9_word_42 rfl (lv_at hl 0 rfl) ?_
      refine tw_get X hK w 9 iw_X9_word_9 h0 (by decide) rfl 11 (by decide) (List.mem_of_getElem? (i := 4) rfl) rfl dX9_word_43 ?_
      refine lv_iload_n X.1 X.2.1 dX9_word_46 rfl (lv_at hl 3 rfl) ?_
      refine lv_iload_n X.1 X.2.1 dX9_word_47 rfl (lv_at hl 1 rfl) ?_
      refine lv_iload_n X.1 X.2.1 dX9_word_48 rfl (lv_at hl 2 rfl) ?_
      refine lv_iconst (v := 1) X.1 X.2.1 dX9_word_49 (by decide) ?_
      refine lv_isub X.1 X.2.1 dX9_word_50 ?_
      refine lv_iload_n X.1 X.2.1 dX9_word_51 rfl (lv_at hl 3 rfl) ?_
      refine lv_isub X.1 X.2.1 dX9_word_52 ?_
      refine lv_ishr X.1 X.2.1 dX9_word_53 ?_
      refine lv_iconst (v := 1) X.1 X.2.1 dX9_word_54 (by decide) ?_
      refine lv_iand X.1 X.2.1 dX9_word_55 ?_
      obtain ⟨hi9, h⟩ := h
      refine tw_iast X hK w (tw_t_9_11 hT h0) (tw_n_9_11 hT h0) hi9 dX9_word_56 (fun σ10 H locs eσ10 w => ?_)
      have h := h _ eσ10
      refine lv_iinc (v := (x3 + 1)) (lv' := [(3, .int (x3 + 1)), (0, .ref a0), (1, .int x1), (2, .int x2)]) X.1 X.2.1 dX9_word_57 hl (k := 3) rfl rfl (by decide) rfl (fun ls hl => ?_)
      refine lv_goto (tgt := 37) X.1 X.2.1 dX9_word_60 (by decide) ?_
      exact ih (x3 + 1) σ10 _ _ ls h w (lv_sub hl [1, 2, 3, 0] rfl)
set_option maxHeartbeats 4000000 in
set_option maxRecDepth 100000 in
theorem ct_X9_word (l : Launch) (D : va_G) (g : tw_G) (hT : tw_T g) (sz : Nat) (σ : tw_S) (a0 : Nat) (h0 : tw_is g 9 a0) (x1 : Int32) (Q : Int32 → tw_S → Prop) (h : wp_X9_word g σ a0 x1 Q) : tw_Mi l yX9_word wsX9_word RM_X9_word D g sz σ [.ref a0, .int x1] Q := by
  refine Met.ofW (cc := cX9_word) (maxL := 4) (ret := (some .int)) (by decide) rfl ?_
  intro p e s m args below meth c s₁ B hml hv
  obtain ⟨rfl, hsz, hP, hK, hD0⟩ := hv
  subst hsz
  have hr := B.returns
  have hlk := B.notSynchronized
  have X : CallFix p m c cX9_word 4 s _ wsX9_word RX9 := ⟨B.exec, B.bytes, hml, findClass_of_methodNamed B.named, atoms_spec (ws := wsX9_word) B.pre⟩
  have w := tw_w0 hP hD0
  have hl := lv_entry ([.ref a0, .int x1]) (n := 4) (Nat.le_of_ble_eq_true rfl)
  rw [lg_entry_eq]
  generalize (lg_sl ([.ref a0, .int x1]) ++ List.replicate (4 - (lg_sl ([.ref a0, .int x1])).length) Slot.unset).toArray = ls at hl ⊢
  have hl : lv_has ls 4 [(0, .ref a0), (1, .int x1)] := hl
  unfold wp_X9_word at h
  refine lv_iload_n X.1 X.2.1 dX9_word_0 rfl (lv_at hl 1 rfl) ?_
  refine lv_i2l (v := (x1.toInt64)) X.1 X.2.1 dX9_word_1 rfl ?_
  refine lv_lconst (v := 1) X.1 X.2.1 dX9_word_2 (by decide) ?_
  refine lv_ldc2 (own := RX9) (v := 33554431) X.1 X.2.1 X.2.2.2.1 (X.2.2.2.2 _ (List.mem_of_getElem? (i := 1) rfl)) dX9_word_3 ?_
  refine tw_ci w (va_runS (As := [.long (x1.toInt64), .long (1 : Int64), .long (33554431 : Int64)]) (rest := []) X (ct_X9_in l D g hT _ σ (x1.toInt64) (1 : Int64) (33554431 : Int64) _ h) (va_cwS 3 X.2.2.2.2 gX9_word_X9_in rfl rfl rfl (by decide +kernel) ⟨Nat.le_of_ble_eq_true rfl, Nat.le_of_ble_eq_true rfl⟩) (tw_pre hK w [.long (x1.toInt64), .long (1 : Int64), .long (33554431 : Int64)]) rfl rfl hl.1 rfl (lv_room (Nat.le_of_ble_eq_true rfl)) dX9_word_6 ⟨Nat.zero_le _, Nat.zero_le _⟩) (fun r2 σ1 H locs h w => ?_)
  refine lv_if_ne (tgt := 15) X.1 X.2.1 dX9_word_9 (by decide) (fun c3 => ?_) (fun c3 => ?_)
  · have h := h.1 c3
    refine lv_iconst (v := 0) X.1 X.2.1 dX9_word_15 (by decide) ?_
    refine lv_istore_n (lv' := [(2, .int (0 : Int32)), (0, .ref a0), (1, .int x1)]) X.1 X.2.1 dX9_word_16 rfl hl (by decide) rfl (fun ls hl => ?_)
    obtain ⟨n17, h⟩ := h
    refine lp_X9_word_17 X hr hlk hK hT h0 (fun v5 σ6 H locs ls h w hl => ?_) n17 (0 : Int32) σ1 _ _ ls h w (lv_sub hl [1, 2, 0] rfl)
    · skip
      refine lv_aload_n X.1 X.2.1 dX9_word_30 rfl (lv_at hl 0 rfl) ?_
      refine lv_iload_n X.1 X.2.1 dX9_word_31 rfl (lv_at hl 2 rfl) ?_
      refine tw_putI X hK w 9 iw_X9_word_9 tyX9 tyX9_ok nmX9 h0 (by decide) rfl 12 (by decide) (List.mem_of_getElem? (i := 3) rfl) rfl (ty := .int) (by decide +kernel) rfl rfl (Nat.le_of_ble_eq_true rfl) (tw_f_9_12 g _ _ _) dX9_word_32 (fun σ7 H locs eσ7 w => ?_)
      have h := h _ eσ7
      refine lv_iconst (v := 0) X.1 X.2.1 dX9_word_35 (by decide) ?_
      refine lv_istore_n (lv' := [(3, .int (0 : Int32)), (0, .ref a0), (1, .int x1), (2, .int v5)]) X.1 X.2.1 dX9_word_36 rfl hl (by decide) rfl (fun ls hl => ?_)
      obtain ⟨n37, h⟩ := h
      refine lp_X9_word_37 X hr hlk hK hT h0 (fun σ11 H locs ls h w hl => ?_) n37 (0 : Int32) σ7 _ _ ls h w (lv_sub hl [1, 2, 3, 0] rfl)
      · skip
        refine lv_iload_n X.1 X.2.1 dX9_word_63 rfl (lv_at hl 0 rfl) ?_
        exact tw_iret X hr hlk w h dX9_word_64
  · have h := h.2 c3
    refine lv_ldc (own := RX9) (v := -1000000002) X.1 X.2.1 X.2.2.2.1 (X.2.2.2.2 _ (List.mem_of_getElem? (i := 2) rfl)) dX9_word_12 ?_
    exact tw_iret X hr hlk w h dX9_word_14

abbrev RM_X9_wipe : Room := { frames := 0, cells := 0, slots := 0, locals := 0 }
theorem iw_X9_wipe_9 : ∀ w ∈ wsX90, w ∈ wsX9_wipe := fun w h => List.mem_cons_of_mem _ (List.mem_append_right _ (h))
def wp_X9_wipe (g : tw_G) (σ : tw_S) (a0 : Nat) (Q : Int32 → tw_S → Prop) : Prop := ∀ σ1, σ1 = (tw_sI σ a0 12 (0 : Int32)) → Q (tw_I σ a0 12) σ1
set_option maxHeartbeats 4000000 in
set_option maxRecDepth 100000 in
theorem ct_X9_wipe (l : Launch) (D : va_G) (g : tw_G) (hT : tw_T g) (sz : Nat) (σ : tw_S) (a0 : Nat) (h0 : tw_is g 9 a0) (Q : Int32 → tw_S → Prop) (h : wp_X9_wipe g σ a0 Q) : tw_Mi l yX9_wipe wsX9_wipe RM_X9_wipe D g sz σ [.ref a0] Q := by
  refine Met.ofW (cc := cX9_wipe) (maxL := 2) (ret := (some .int)) (by decide) rfl ?_
  intro p e s m args below meth c s₁ B hml hv
  obtain ⟨rfl, hsz, hP, hK, hD0⟩ := hv
  subst hsz
  have hr := B.returns
  have hlk := B.notSynchronized
  have X : CallFix p m c cX9_wipe 2 s _ wsX9_wipe RX9 := ⟨B.exec, B.bytes, hml, findClass_of_methodNamed B.named, atoms_spec (ws := wsX9_wipe) B.pre⟩
  have w := tw_w0 hP hD0
  have hl := lv_entry ([.ref a0]) (n := 2) (Nat.le_of_ble_eq_true rfl)
  rw [lg_entry_eq]
  generalize (lg_sl ([.ref a0]) ++ List.replicate (2 - (lg_sl ([.ref a0])).length) Slot.unset).toArray = ls at hl ⊢
  have hl : lv_has ls 2 [(0, .ref a0)] := hl
  unfold wp_X9_wipe at h
  refine lv_aload_n X.1 X.2.1 dX9_wipe_0 rfl (lv_at hl 0 rfl) ?_
  refine tw_get X hK w 9 iw_X9_wipe_9 h0 (by decide) rfl 12 (by decide) (List.mem_of_getElem? (i := 1) rfl) rfl dX9_wipe_1 ?_
  refine lv_istore_n (lv' := [(1, .int (tw_I σ a0 12)), (0, .ref a0)]) X.1 X.2.1 dX9_wipe_4 rfl hl (by decide) rfl (fun ls hl => ?_)
  refine lv_aload_n X.1 X.2.1 dX9_wipe_5 rfl (lv_at hl 1 rfl) ?_
  refine lv_iconst (v := 0) X.1 X.2.1 dX9_wipe_6 (by decide) ?_
  refine tw_putI X hK w 9 iw_X9_wipe_9 tyX9 tyX9_ok nmX9 h0 (by decide) rfl 12 (by decide) (List.mem_of_getElem? (i := 1) rfl) rfl (ty := .int) (by decide +kernel) rfl rfl (Nat.le_of_ble_eq_true rfl) (tw_f_9_12 g _ _ _) dX9_wipe_7 (fun σ1 H locs eσ1 w => ?_)
  have h := h _ eσ1
  refine lv_iload_n X.1 X.2.1 dX9_wipe_10 rfl (lv_at hl 0 rfl) ?_
  exact tw_iret X hr hlk w h dX9_wipe_11

abbrev RM_X9_numberOf : Room := { frames := 0, cells := 0, slots := 0, locals := 0 }
theorem iw_X9_numberOf_9 : ∀ w ∈ wsX90, w ∈ wsX9_numberOf := fun w h => List.mem_cons_of_mem _ (List.mem_append_right _ (h))
def wl_X9_numberOf_4 (g : tw_G) (a0 : Nat) (Q : Int32 → tw_S → Prop) (k29 : Int32 → tw_S → Prop) : Nat → Int32 → Int32 → tw_S → Prop
  | 0, _, _, _ => False
  | n + 1, x1, x2, σ => (((tw_I σ a0 12) ≤ x2) → k29 x1 σ) ∧ (¬ ((tw_I σ a0 12) ≤ x2) → vp_in x2 24 ∧ ∀ z3, z3 = (((2 : Int32) * x1) + (tw_A σ (tw_R g a0 11) x2.toNatClampNeg)) → wl_X9_numberOf_4 g a0 Q k29 n z3 (x2 + 1) σ)
def wp_X9_numberOf (g : tw_G) (σ : tw_S) (a0 : Nat) (Q : Int32 → tw_S → Prop) : Prop := ∃ n4, wl_X9_numberOf_4 g a0 Q (fun v4 σ5 => Q v4 σ5) n4 (1 : Int32) (0 : Int32) σ
set_option maxHeartbeats 4000000 in
set_option maxRecDepth 100000 in
theorem lp_X9_numberOf_4 {p : Program} {l : Launch} {e : Env} {s : State} {m : MethodId} {args : Array Value} {below : List Frame} {meth : Method} {c : Code} {D : va_G} {g : tw_G} (X : CallFix p m c cX9_numberOf 3 s args wsX9_numberOf RX9) (hr : meth.sig.returnType = (some .int)) (hlk : meth.locks = false) (hK : tw_k D g s) (hT : tw_T g) {a0 : Nat} (h0 : tw_is g 9 a0) {Q : Int32 → tw_S → Prop} {k29 : Int32 → tw_S → Prop}
    (hk29 : ∀ (x1 : Int32) (σ : tw_S) (H : Heap) (locs : List Loc) (ls : Array Slot), k29 x1 σ → tw_w D g (tw_F g s.heap.size) s σ H locs → lv_has ls 3 [(1, .int x1)] → W p l e RM_X9_numberOf s m args below meth c H locs 0 0 (tw_Qi Q D g below args s) (F0 m 29 ls []))
    : ∀ (n : Nat) (x1 : Int32) (x2 : Int32) (σ : tw_S) (H : Heap) (locs : List Loc) (ls : Array Slot), wl_X9_numberOf_4 g a0 Q k29 n x1 x2 σ → tw_w D g (tw_F g s.heap.size) s σ H locs → lv_has ls 3 [(0, .ref a0), (1, .int x1), (2, .int x2)] → W p l e RM_X9_numberOf s m args below meth c H locs 0 0 (tw_Qi Q D g below args s) (F0 m 4 ls []) := by
  intro n
  induction n with
  | zero =>
    intro x1 x2 σ H locs ls h w hl
    exact False.elim h
  | succ n ih =>
    intro x1 x2 σ H locs ls h w hl
    rw [wl_X9_numberOf_4] at h
    refine lv_iload_n X.1 X.2.1 dX9_numberOf_4 rfl (lv_at hl 2 rfl) ?_
    refine lv_aload_n X.1 X.2.1 dX9_numberOf_5 rfl (lv_at hl 0 rfl) ?_
    refine tw_get X hK w 9 iw_X9_numberOf_9 h0 (by decide) rfl 12 (by decide) (List.mem_of_getElem? (i := 1) rfl) rfl dX9_numberOf_6 ?_
    refine lv_icmp_ge (tgt := 29) X.1 X.2.1 dX9_numberOf_9 (by decide) (fun c1 => ?_) (fun c1 => ?_)
    · have h := h.1 c1
      exact hk29 x1 σ _ _ ls h w (lv_sub hl [1] rfl)
    · have h := h.2 c1
      refine lv_iconst (v := 2) X.1 X.2.1 dX9_numberOf_12 (by decide) ?_
      refine lv_iload_n X.1 X.2.1 dX9_numberOf_13 rfl (lv_at hl 1 rfl) ?_
      refine lv_imul X.1 X.2.1 dX9_numberOf_14 ?_
      refine lv_aload_n X.1 X.2.1 dX9_numberOf_15 rfl (lv_at hl 0 rfl) ?_
      refine tw_get X hK w 9 iw_X9_numberOf_9 h0 (by decide) rfl 11 (by decide) (List.mem_of_getElem? (i := 2) rfl) rfl dX9_numberOf_16 ?_
      refine lv_iload_n X.1 X.2.1 dX9_numberOf_19 rfl (lv_at hl 2 rfl) ?_
      obtain ⟨hi2, h⟩ := h
      refine tw_iald X hK w (tw_t_9_11 hT h0) (tw_n_9_11 hT h0) hi2 dX9_numberOf_20 ?_
      refine lv_iadd X.1 X.2.1 dX9_numberOf_21 ?_
      refine lv_topi (fun z3 ez3 => ?_)
      have h := h _ ez3
      refine lv_istore_n (lv' := [(1, .int z3), (0, .ref a0), (2, .int x2)]) X.1 X.2.1 dX9_numberOf_22 rfl hl (by decide) rfl (fun ls hl => ?_)
      refine lv_iinc (v := (x2 + 1)) (lv' := [(2, .int (x2 + 1)), (1, .int z3), (0, .ref a0)]) X.1 X.2.1 dX9_numberOf_23 hl (k := 2) rfl rfl (by decide) rfl (fun ls hl => ?_)
      refine lv_goto (tgt := 4) X.1 X.2.1 dX9_numberOf_26 (by decide) ?_
      exact ih z3 (x2 + 1) σ _ _ ls h w (lv_sub hl [2, 1, 0] rfl)
set_option maxHeartbeats 4000000 in
set_option maxRecDepth 100000 in
theorem ct_X9_numberOf (l : Launch) (D : va_G) (g : tw_G) (hT : tw_T g) (sz : Nat) (σ : tw_S) (a0 : Nat) (h0 : tw_is g 9 a0) (Q : Int32 → tw_S → Prop) (h : wp_X9_numberOf g σ a0 Q) : tw_Mi l yX9_numberOf wsX9_numberOf RM_X9_numberOf D g sz σ [.ref a0] Q := by
  refine Met.ofW (cc := cX9_numberOf) (maxL := 3) (ret := (some .int)) (by decide) rfl ?_
  intro p e s m args below meth c s₁ B hml hv
  obtain ⟨rfl, hsz, hP, hK, hD0⟩ := hv
  subst hsz
  have hr := B.returns
  have hlk := B.notSynchronized
  have X : CallFix p m c cX9_numberOf 3 s _ wsX9_numberOf RX9 := ⟨B.exec, B.bytes, hml, findClass_of_methodNamed B.named, atoms_spec (ws := wsX9_numberOf) B.pre⟩
  have w := tw_w0 hP hD0
  have hl := lv_entry ([.ref a0]) (n := 3) (Nat.le_of_ble_eq_true rfl)
  rw [lg_entry_eq]
  generalize (lg_sl ([.ref a0]) ++ List.replicate (3 - (lg_sl ([.ref a0])).length) Slot.unset).toArray = ls at hl ⊢
  have hl : lv_has ls 3 [(0, .ref a0)] := hl
  unfold wp_X9_numberOf at h
  refine lv_iconst (v := 1) X.1 X.2.1 dX9_numberOf_0 (by decide) ?_
  refine lv_istore_n (lv' := [(1, .int (1 : Int32)), (0, .ref a0)]) X.1 X.2.1 dX9_numberOf_1 rfl hl (by decide) rfl (fun ls hl => ?_)
  refine lv_iconst (v := 0) X.1 X.2.1 dX9_numberOf_2 (by decide) ?_
  refine lv_istore_n (lv' := [(2, .int (0 : Int32)), (1, .int (1 : Int32)), (0, .ref a0)]) X.1 X.2.1 dX9_numberOf_3 rfl hl (by decide) rfl (fun ls hl => ?_)
  obtain ⟨n4, h⟩ := h
  refine lp_X9_numberOf_4 X hr hlk hK hT h0 (fun v4 σ5 H locs ls h w hl => ?_) n4 (1 : Int32) (0 : Int32) σ _ _ ls h w (lv_sub hl [2, 1, 0] rfl)
  · skip
    refine lv_iload_n X.1 X.2.1 dX9_numberOf_29 rfl (lv_at hl 0 rfl) ?_
    exact tw_iret X hr hlk w h dX9_numberOf_30

abbrev RM_X9_offRight : Room := { frames := 1, cells := 0, slots := 0, locals := 23 }
theorem iw_X9_offRight_9 : ∀ w ∈ wsX90, w ∈ wsX9_offRight := fun w h => List.mem_cons_of_mem _ (List.mem_append_right _ (h))
def wl_X9_offRight_6 (g : tw_G) (a0 : Nat) (x1 : Int32) (x2 : Int32) (x4 : Int32) (Q : Int32 → tw_S → Prop) (k47 : tw_S → Prop) (k57 : Int32 → tw_S → Prop) (k93 : tw_S → Prop) : Nat → Int32 → Int32 → tw_S → Prop
  | 0, _, _, _ => False
  | n + 1, x5, x6, σ => ((x5 = (-1 : Int32)) → k93  σ) ∧ (¬ (x5 = (-1 : Int32)) → ((¬ ((x6 >>> (x5 &&& 31)) &&& (1 : Int32)) = 0) → k93  σ) ∧ ((((x6 >>> (x5 &&& 31)) &&& (1 : Int32)) = 0) → ∀ z3, z3 = (x6 ||| ((1 : Int32) <<< (x5 &&& 31))) → wp_X9_moveAt g σ a0 x1 x5 x2 (fun r5 σ4 => ((¬ r5 = (-1 : Int32)) → ((¬ (r5 - r5 / (2 : Int32) * (2 : Int32)) = (1 : Int32)) → ((¬ x4 = (-1 : Int32)) → vp_in ((((5 : Int32) * x4) + (1 : Int32)) + (r5 / (2 : Int32))) 1510 ∧ ∀ z10, z10 = (tw_A σ4 (tw_R g a0 21) ((((5 : Int32) * x4) + (1 : Int32)) + (r5 / (2 : Int32))).toNatClampNeg) → wl_X9_offRight_6 g a0 x1 x2 x4 Q k47 k57 k93 n z10 z3 σ4) ∧ ((x4 = (-1 : Int32)) → wl_X9_offRight_6 g a0 x1 x2 x4 Q k47 k57 k93 n (-1 : Int32) z3 σ4)) ∧ (((r5 - r5 / (2 : Int32) * (2 : Int32)) = (1 : Int32)) → k57 r5 σ4)) ∧ ((r5 = (-1 : Int32)) → k47  σ4))))
def wp_X9_offRight (g : tw_G) (σ : tw_S) (a0 : Nat) (x1 : Int32) (x2 : Int32) (x3 : Int32) (x4 : Int32) (Q : Int32 → tw_S → Prop) : Prop := ∃ n6, wl_X9_offRight_6 g a0 x1 x2 x4 Q (fun σ11 => Q (-1 : Int32) σ11) (fun v12 σ13 => Q (v12 / (2 : Int32)) σ13) (fun σ14 => Q (-1 : Int32) σ14) n6 x3 (0 : Int32) σ
set_option maxHeartbeats 4000000 in
set_option maxRecDepth 100000 in
theorem lp_X9_offRight_6 {p : Program} {l : Launch} {e : Env} {s : State} {m : MethodId} {args : Array Value} {below : List Frame} {meth : Method} {c : Code} {D : va_G} {g : tw_G} (X : CallFix p m c cX9_offRight 8 s args wsX9_offRight RX9) (hr : meth.sig.returnType = (some .int)) (hlk : meth.locks = false) (hK : tw_k D g s) (hT : tw_T g) {a0 : Nat} {x1 : Int32} {x2 : Int32} {x4 : Int32} (h0 : tw_is g 9 a0) {Q : Int32 → tw_S → Prop} {k47 : tw_S → Prop} {k57 : Int32 → tw_S → Prop} {k93 : tw_S → Prop}
    (hk47 : ∀  (σ : tw_S) (H : Heap) (locs : List Loc) (ls : Array Slot), k47  σ → tw_w D g (tw_F g s.heap.size) s σ H locs → lv_has ls 8 [] → W p l e RM_X9_offRight s m args below meth c H locs 0 0 (tw_Qi Q D g below args s) (F0 m 47 ls []))
    (hk57 : ∀ (x7 : Int32) (σ : tw_S) (H : Heap) (locs : List Loc) (ls : Array Slot), k57 x7 σ → tw_w D g (tw_F g s.heap.size) s σ H locs → lv_has ls 8 [(7, .int x7)] → W p l e RM_X9_offRight s m args below meth c H locs 0 0 (tw_Qi Q D g below args s) (F0 m 57 ls []))
    (hk93 : ∀  (σ : tw_S) (H : Heap) (locs : List Loc) (ls : Array Slot), k93  σ → tw_w D g (tw_F g s.heap.size) s σ H locs → lv_has ls 8 [] → W p l e RM_X9_offRight s m args below meth c H locs 0 0 (tw_Qi Q D g below args s) (F0 m 93 ls []))
    : ∀ (n : Nat) (x5 : Int32) (x6 : Int32) (σ : tw_S) (H : Heap) (locs : List Loc) (ls : Array Slot), wl_X9_offRight_6 g a0 x1 x2 x4 Q k47 k57 k93 n x5 x6 σ → tw_w D g (tw_F g s.heap.size) s σ H locs → lv_has ls 8 [(0, .ref a0), (1, .int x1), (2, .int x2), (4, .int x4), (5, .int x5), (6, .int x6)] → W p l e RM_X9_offRight s m args below meth c H locs 0 0 (tw_Qi Q D g below args s) (F0 m 6 ls []) := by
  intro n
  induction n with
  | zero =>
    intro x5 x6 σ H locs ls h w hl
    exact False.elim h
  | succ n ih =>
    intro x5 x6 σ H locs ls h w hl
    rw [wl_X9_offRight_6] at h
    refine lv_iload X.1 X.2.1 dX9_offRight_6 (lv_at hl 4 rfl) ?_
    refine lv_iconst (v := -1) X.1 X.2.1 dX9_offRight_8 (by decide) ?_
    refine lv_icmp_eq (tgt := 93) X.1 X.2.1 dX9_offRight_9 (by decide) (fun c1 => ?_) (fun c1 => ?_)
    · have h := h.1 c1
      exact hk93  σ _ _ ls h w (lv_sub hl [] rfl)
    · have h := h.2 c1
      refine lv_iload X.1 X.2.1 dX9_offRight_12 (lv_at hl 5 rfl) ?_
      refine lv_iload X.1 X.2.1 dX9_offRight_14 (lv_at hl 4 rfl) ?_
      refine lv_ishr X.1 X.2.1 dX9_offRight_16 ?_
      refine lv_iconst (v := 1) X.1 X.2.1 dX9_offRight_17 (by decide) ?_
      refine lv_iand X.1 X.2.1 dX9_offRight_18 ?_
      refine lv_if_ne (tgt := 93) X.1 X.2.1 dX9_offRight_19 (by decide) (fun c2 => ?_) (fun c2 => ?_)
      · have h := h.1 c2
        exact hk93  σ _ _ ls h w (lv_sub hl [] rfl)
      · have h := h.2 c2
        refine lv_iload X.1 X.2.1 dX9_offRight_22 (lv_at hl 5 rfl) ?_
        refine lv_iconst (v := 1) X.1 X.2.1 dX9_offRight_24 (by decide) ?_
        refine lv_iload X.1 X.2.1 dX9_offRight_25 (lv_at hl 4 rfl) ?_
        refine lv_ishl X.1 X.2.1 dX9_offRight_27 ?_
        refine lv_ior X.1 X.2.1 dX9_offRight_28 ?_
        refine lv_topi (fun z3 ez3 => ?_)
        have h := h _ ez3
        refine lv_istore (lv' := [(6, .int z3), (0, .ref a0), (1, .int x1), (2, .int x2), (4, .int x4), (5, .int x5)]) X.1 X.2.1 dX9_offRight_29 hl (by decide) rfl (fun ls hl => ?_)
        refine lv_aload_n X.1 X.2.1 dX9_offRight_31 rfl (lv_at hl 1 rfl) ?_
        refine lv_iload_n X.1 X.2.1 dX9_offRight_32 rfl (lv_at hl 2 rfl) ?_
        refine lv_iload X.1 X.2.1 dX9_offRight_33 (lv_at hl 5 rfl) ?_
        refine lv_iload_n X.1 X.2.1 dX9_offRight_35 rfl (lv_at hl 3 rfl) ?_
        refine tw_ci w (va_runV (As := [.int x1, .int x5, .int x2]) (rest := []) X (ct_X9_moveAt l D g hT _ σ a0 h0 x1 x5 x2 _ h) (cwV 3 X.2.2.2.2 gX9_offRight_X9_moveAt rfl rfl rfl (by decide +kernel) ⟨Nat.le_of_ble_eq_true rfl, Nat.le_of_ble_eq_true rfl⟩) (tw_preV hK w h0 (by decide) rfl [.int x1, .int x5, .int x2]) rfl rfl hl.1 rfl (lv_room (Nat.le_of_ble_eq_true rfl)) dX9_offRight_36 ⟨Nat.zero_le _, Nat.zero_le _⟩) (fun r5 σ4 H locs h w => ?_)
        refine lv_istore (lv' := [(7, .int r5), (6, .int z3), (0, .ref a0), (1, .int x1), (2, .int x2), (4, .int x4), (5, .int x5)]) X.1 X.2.1 dX9_offRight_39 hl (by decide) rfl (fun ls hl => ?_)
        have hl := lv_sub (l' := [(7, .int r5), (6, .int z3), (0, .ref a0), (1, .int x1), (2, .int x2), (4, .int x4)]) hl [0, 1, 2, 3, 4, 5] rfl
        refine lv_iload X.1 X.2.1 dX9_offRight_41 (lv_at hl 0 rfl) ?_
        refine lv_iconst (v := -1) X.1 X.2.1 dX9_offRight_43 (by decide) ?_
        refine lv_icmp_ne (tgt := 49) X.1 X.2.1 dX9_offRight_44 (by decide) (fun c6 => ?_) (fun c6 => ?_)
        · have h := h.1 c6
          refine lv_iload X.1 X.2.1 dX9_offRight_49 (lv_at hl 0 rfl) ?_
          refine lv_iconst (v := 2) X.1 X.2.1 dX9_offRight_51 (by decide) ?_
          refine lv_irem X.1 X.2.1 dX9_offRight_52 (by decide) ?_
          refine lv_iconst (v := 1) X.1 X.2.1 dX9_offRight_53 (by decide) ?_
          refine lv_icmp_ne (tgt := 62) X.1 X.2.1 dX9_offRight_54 (by decide) (fun c7 => ?_) (fun c7 => ?_)
          · have h := h.1 c7
            refine lv_iload X.1 X.2.1 dX9_offRight_62 (lv_at hl 5 rfl) ?_
            refine lv_iconst (v := -1) X.1 X.2.1 dX9_offRight_64 (by decide) ?_
            refine lv_icmp_ne (tgt := 72) X.1 X.2.1 dX9_offRight_65 (by decide) (fun c8 => ?_) (fun c8 => ?_)
            · have h := h.1 c8
              refine lv_aload_n X.1 X.2.1 dX9_offRight_72 rfl (lv_at hl 2 rfl) ?_
              refine tw_get X hK w 9 iw_X9_offRight_9 h0 (by decide) rfl 21 (by decide) (List.mem_of_getElem? (i := 1) rfl) rfl dX9_offRight_73 ?_
              refine lv_iconst (v := 5) X.1 X.2.1 dX9_offRight_76 (by decide) ?_
              refine lv_iload X.1 X.2.1 dX9_offRight_77 (lv_at hl 5 rfl) ?_
              refine lv_imul X.1 X.2.1 dX9_offRight_79 ?_
              refine lv_iconst (v := 1) X.1 X.2.1 dX9_offRight_80 (by decide) ?_
              refine lv_iadd X.1 X.2.1 dX9_offRight_81 ?_
              refine lv_iload X.1 X.2.1 dX9_offRight_82 (lv_at hl 0 rfl) ?_
              refine lv_iconst (v := 2) X.1 X.2.1 dX9_offRight_84 (by decide) ?_
              refine lv_idiv X.1 X.2.1 dX9_offRight_85 (by decide) ?_
              refine lv_iadd X.1 X.2.1 dX9_offRight_86 ?_
              obtain ⟨hi9, h⟩ := h
              refine tw_iald X hK w (tw_t_9_21 hT h0) (tw_n_9_21 hT h0) hi9 dX9_offRight_87 ?_
              refine lv_topi (fun z10 ez10 => ?_)
              have h := h _ ez10
              refine lv_istore (lv' := [(5, .int z10), (7, .int r5), (6, .int z3), (0, .ref a0), (1, .int x1), (2, .int x2), (4, .int x4)]) X.1 X.2.1 dX9_offRight_88 hl (by decide) rfl (fun ls hl => ?_)
              have hl := lv_sub (l' := [(5, .int z10), (6, .int z3), (0, .ref a0), (1, .int x1), (2, .int x2), (4, .int x4)]) hl [0, 2, 3, 4, 5, 6] rfl
              refine lv_goto (tgt := 6) X.1 X.2.1 dX9_offRight_90 (by decide) ?_
              exact ih z10 z3 σ4 _ _ ls h w (lv_sub hl [2, 3, 4, 5, 0, 1] rfl)
            · have h := h.2 c8
              refine lv_iconst (v := -1) X.1 X.2.1 dX9_offRight_68 (by decide) ?_
              refine lv_goto (tgt := 88) X.1 X.2.1 dX9_offRight_69 (by decide) ?_
              refine lv_istore (lv' := [(5, .int (-1 : Int32)), (7, .int r5), (6, .int z3), (0, .ref a0), (1, .int x1), (2, .int x2), (4, .int x4)]) X.1 X.2.1 dX9_offRight_88 hl (by decide) rfl (fun ls hl => ?_)
              have hl := lv_sub (l' := [(5, .int (-1 : Int32)), (6, .int z3), (0, .ref a0), (1, .int x1), (2, .int x2), (4, .int x4)]) hl [0, 2, 3, 4, 5, 6] rfl
              refine lv_goto (tgt := 6) X.1 X.2.1 dX9_offRight_90 (by decide) ?_
              exact ih (-1 : Int32) z3 σ4 _ _ ls h w (lv_sub hl [2, 3, 4, 5, 0, 1] rfl)
          · have h := h.2 c7
            exact hk57 r5 σ4 _ _ ls h w (lv_sub hl [0] rfl)
        · have h := h.2 c6
          exact hk47  σ4 _ _ ls h w (lv_sub hl [] rfl)
set_option maxHeartbeats 4000000 in
set_option maxRecDepth 100000 in
theorem ct_X9_offRight (l : Launch) (D : va_G) (g : tw_G) (hT : tw_T g) (sz : Nat) (σ : tw_S) (a0 : Nat) (h0 : tw_is g 9 a0) (x1 : Int32) (x2 : Int32) (x3 : Int32) (x4 : Int32) (Q : Int32 → tw_S → Prop) (h : wp_X9_offRight g σ a0 x1 x2 x3 x4 Q) : tw_Mi l yX9_offRight wsX9_offRight RM_X9_offRight D g sz σ [.ref a0, .int x1, .int x2, .int x3, .int x4] Q := by
  refine Met.ofW (cc := cX9_offRight) (maxL := 8) (ret := (some .int)) (by decide) rfl ?_
  intro p e s m args below meth c s₁ B hml hv
  obtain ⟨rfl, hsz, hP, hK, hD0⟩ := hv
  subst hsz
  have hr := B.returns
  have hlk := B.notSynchronized
  have X : CallFix p m c cX9_offRight 8 s _ wsX9_offRight RX9 := ⟨B.exec, B.bytes, hml, findClass_of_methodNamed B.named, atoms_spec (ws := wsX9_offRight) B.pre⟩
  have w := tw_w0 hP hD0
  have hl := lv_entry ([.ref a0, .int x1, .int x2, .int x3, .int x4]) (n := 8) (Nat.le_of_ble_eq_true rfl)
  rw [lg_entry_eq]
  generalize (lg_sl ([.ref a0, .int x1, .int x2, .int x3, .int x4]) ++ List.replicate (8 - (lg_sl ([.ref a0, .int x1, .int x2, .int x3, .int x4])).length) Slot.unset).toArray = ls at hl ⊢
  have hl : lv_has ls 8 [(0, .ref a0), (1, .int x1), (2, .int x2), (3, .int x3), (4, .int x4)] := hl
  unfold wp_X9_offRight at h
  refine lv_iload_n X.1 X.2.1 dX9_offRight_0 rfl (lv_at hl 3 rfl) ?_
  refine lv_istore (lv' := [(5, .int x3), (0, .ref a0), (1, .int x1), (2, .int x2), (3, .int x3), (4, .int x4)]) X.1 X.2.1 dX9_offRight_1 hl (by decide) rfl (fun ls hl => ?_)
  have hl := lv_sub (l' := [(5, .int x3), (0, .ref a0), (1, .int x1), (2, .int x2), (4, .int x4)]) hl [0, 1, 2, 3, 5] rfl
  refine lv_iconst (v := 0) X.1 X.2.1 dX9_offRight_3 (by decide) ?_
  refine lv_istore (lv' := [(6, .int (0 : Int32)), (5, .int x3), (0, .ref a0), (1, .int x1), (2, .int x2), (4, .int x4)]) X.1 X.2.1 dX9_offRight_4 hl (by decide) rfl (fun ls hl => ?_)
  obtain ⟨n6, h⟩ := h
  refine lp_X9_offRight_6 X hr hlk hK hT h0 (fun σ11 H locs ls h w hl => ?_) (fun v12 σ13 H locs ls h w hl => ?_) (fun σ14 H locs ls h w hl => ?_) n6 x3 (0 : Int32) σ _ _ ls h w (lv_sub hl [2, 3, 4, 5, 1, 0] rfl)
  · skip
    refine lv_iconst (v := -1) X.1 X.2.1 dX9_offRight_47 (by decide) ?_
    exact tw_iret X hr hlk w h dX9_offRight_48
  · skip
    refine lv_iload X.1 X.2.1 dX9_offRight_57 (lv_at hl 0 rfl) ?_
    refine lv_iconst (v := 2) X.1 X.2.1 dX9_offRight_59 (by decide) ?_
    refine lv_idiv X.1 X.2.1 dX9_offRight_60 (by decide) ?_
    exact tw_iret X hr hlk w h dX9_offRight_61
  · skip
    refine lv_iconst (v := -1) X.1 X.2.1 dX9_offRight_93 (by decide) ?_
    exact tw_iret X hr hlk w h dX9_offRight_94

abbrev RM_X9_tries : Room := { frames := 2, cells := 0, slots := 0, locals := 50 }
theorem iw_X9_tries_9 : ∀ w ∈ wsX90, w ∈ wsX9_tries := fun w h => List.mem_cons_of_mem _ (List.mem_append_right _ (h))
def wl_X9_tries_27 (g : tw_G) (a0 : Nat) (x1 : Int32) (x2 : Int32) (x4 : Int32) (Q : tw_S → Prop) (k72 : tw_S → Prop) : Nat → Int32 → tw_S → Prop
  | 0, _, _ => False
  | n + 1, x5, σ => (((4 : Int32) ≤ x5) → k72  σ) ∧ (¬ ((4 : Int32) ≤ x5) → wp_X9_isState g σ a0 x1 x5 (fun r7 σ6 => ((r7 = 0) → vp_in ((1 : Int32) + x5) 5 ∧ ∀ σ10, σ10 = (tw_sA σ6 (tw_R g a0 25) (upd (tw_A σ6 (tw_R g a0 25)) ((1 : Int32) + x5).toNatClampNeg (-1 : Int32))) → wl_X9_tries_27 g a0 x1 x2 x4 Q k72 n (x5 + 1) σ10) ∧ (¬ (r7 = 0) → wp_X9_offRight g σ6 a0 x1 x2 x5 x4 (fun r12 σ11 => vp_in ((1 : Int32) + x5) 5 ∧ ∀ σ14, σ14 = (tw_sA σ11 (tw_R g a0 25) (upd (tw_A σ11 (tw_R g a0 25)) ((1 : Int32) + x5).toNatClampNeg r12)) → wl_X9_tries_27 g a0 x1 x2 x4 Q k72 n (x5 + 1) σ14))))
def wp_X9_tries (g : tw_G) (σ : tw_S) (a0 : Nat) (x1 : Int32) (x2 : Int32) (x3 : Int32) (x4 : Int32) (Q : tw_S → Prop) : Prop := ((¬ x3 = (-1 : Int32)) → wp_X9_offRight g σ a0 x1 x2 x3 x4 (fun r3 σ2 => ∀ σ4, σ4 = (tw_sA σ2 (tw_R g a0 25) (upd (tw_A σ2 (tw_R g a0 25)) (0 : Int32).toNatClampNeg r3)) → ∃ n27, wl_X9_tries_27 g a0 x1 x2 x4 Q (fun σ15 => Q σ15) n27 (0 : Int32) σ4)) ∧ ((x3 = (-1 : Int32)) → ∀ σ16, σ16 = (tw_sA σ (tw_R g a0 25) (upd (tw_A σ (tw_R g a0 25)) (0 : Int32).toNatClampNeg (-1 : Int32))) → ∃ n27, wl_X9_tries_27 g a0 x1 x2 x4 Q (fun σ17 => Q σ17) n27 (0 : Int32) σ16)
set_option maxHeartbeats 4000000 in
set_option maxRecDepth 100000 in
theorem lp_X9_tries_27 {p : Program} {l : Launch} {e : Env} {s : State} {m : MethodId} {args : Array Value} {below : List Frame} {meth : Method} {c : Code} {D : va_G} {g : tw_G} (X : CallFix p m c cX9_tries 6 s args wsX9_tries RX9) (hr : meth.sig.returnType = none) (hlk : meth.locks = false) (hK : tw_k D g s) (hT : tw_T g) {a0 : Nat} {x1 : Int32} {x2 : Int32} {x4 : Int32} (h0 : tw_is g 9 a0) {Q : tw_S → Prop} {k72 : tw_S → Prop}
    (hk72 : ∀  (σ : tw_S) (H : Heap) (locs : List Loc) (ls : Array Slot), k72  σ → tw_w D g (tw_F g s.heap.size) s σ H locs → lv_has ls 6 [] → W p l e RM_X9_tries s m args below meth c H locs 0 0 (tw_Qv Q D g below args s) (F0 m 72 ls []))
    : ∀ (n : Nat) (x5 : Int32) (σ : tw_S) (H : Heap) (locs : List Loc) (ls : Array Slot), wl_X9_tries_27 g a0 x1 x2 x4 Q k72 n x5 σ → tw_w D g (tw_F g s.heap.size) s σ H locs → lv_has ls 6 [(0, .ref a0), (1, .int x1), (2, .int x2), (4, .int x4), (5, .int x5)] → W p l e RM_X9_tries s m args below meth c H locs 0 0 (tw_Qv Q D g below args s) (F0 m 27 ls []) := by
  intro n
  induction n with
  | zero =>
    intro x5 σ H locs ls h w hl
    exact False.elim h
  | succ n ih =>
    intro x5 σ H locs ls h w hl
    rw [wl_X9_tries_27] at h
    refine lv_iload X.1 X.2.1 dX9_tries_27 (lv_at hl 4 rfl) ?_
    refine lv_iconst (v := 4) X.1 X.2.1 dX9_tries_29 (by decide) ?_
    refine lv_icmp_ge (tgt := 72) X.1 X.2.1 dX9_tries_30 (by decide) (fun c5 => ?_) (fun c5 => ?_)
    · have h := h.1 c5
      exact hk72  σ _ _ ls h w (lv_sub hl [] rfl)
    · have h := h.2 c5
      refine lv_aload_n X.1 X.2.1 dX9_tries_33 rfl (lv_at hl 0 rfl) ?_
      refine tw_get X hK w 9 iw_X9_tries_9 h0 (by decide) rfl 25 (by decide) (List.mem_of_getElem? (i := 1) rfl) rfl dX9_tries_34 ?_
      refine lv_iconst (v := 1) X.1 X.2.1 dX9_tries_37 (by decide) ?_
      refine lv_iload X.1 X.2.1 dX9_tries_38 (lv_at hl 4 rfl) ?_
      refine lv_iadd X.1 X.2.1 dX9_tries_40 ?_
      refine lv_aload_n X.1 X.2.1 dX9_tries_41 rfl (lv_at hl 0 rfl) ?_
      refine lv_iload_n X.1 X.2.1 dX9_tries_42 rfl (lv_at hl 1 rfl) ?_
      refine lv_iload X.1 X.2.1 dX9_tries_43 (lv_at hl 4 rfl) ?_
      refine tw_ci w (va_runV (As := [.int x1, .int x5]) (rest := [.int ((1 : Int32) + x5), .ref (tw_R g a0 25)]) X (ct_X9_isState l D g hT _ σ a0 h0 x1 x5 _ h) (cwV 2 X.2.2.2.2 gX9_tries_X9_isState rfl rfl rfl (by decide +kernel) ⟨Nat.le_of_ble_eq_true rfl, Nat.le_of_ble_eq_true rfl⟩) (tw_preV hK w h0 (by decide) rfl [.int x1, .int x5]) rfl rfl hl.1 rfl (lv_room (Nat.le_of_ble_eq_true rfl)) dX9_tries_45 ⟨Nat.zero_le _, Nat.zero_le _⟩) (fun r7 σ6 H locs h w => ?_)
      refine lv_if_eq (tgt := 64) X.1 X.2.1 dX9_tries_48 (by decide) (fun c8 => ?_) (fun c8 => ?_)
      · have h := h.1 c8
        refine lv_iconst (v := -1) X.1 X.2.1 dX9_tries_64 (by decide) ?_
        obtain ⟨hi9, h⟩ := h
        refine tw_iast X hK w (tw_t_9_25 hT h0) (tw_n_9_25 hT h0) hi9 dX9_tries_65 (fun σ10 H locs eσ10 w => ?_)
        have h := h _ eσ10
        refine lv_iinc (v := (x5 + 1)) (lv' := [(5, .int (x5 + 1)), (0, .ref a0), (1, .int x1), (2, .int x2), (4, .int x4)]) X.1 X.2.1 dX9_tries_66 hl (k := 4) rfl rfl (by decide) rfl (fun ls hl => ?_)
        refine lv_goto (tgt := 27) X.1 X.2.1 dX9_tries_69 (by decide) ?_
        exact ih (x5 + 1) σ10 _ _ ls h w (lv_sub hl [1, 2, 3, 4, 0] rfl)
      · have h := h.2 c8
        refine lv_aload_n X.1 X.2.1 dX9_tries_51 rfl (lv_at hl 0 rfl) ?_
        refine lv_iload_n X.1 X.2.1 dX9_tries_52 rfl (lv_at hl 1 rfl) ?_
        refine lv_iload_n X.1 X.2.1 dX9_tries_53 rfl (lv_at hl 2 rfl) ?_
        refine lv_iload X.1 X.2.1 dX9_tries_54 (lv_at hl 4 rfl) ?_
        refine lv_iload X.1 X.2.1 dX9_tries_56 (lv_at hl 3 rfl) ?_
        refine tw_ci w (va_runV (As := [.int x1, .int x2, .int x5, .int x4]) (rest := [.int ((1 : Int32) + x5), .ref (tw_R g a0 25)]) X (ct_X9_offRight l D g hT _ σ6 a0 h0 x1 x2 x5 x4 _ h) (cwV 4 X.2.2.2.2 gX9_tries_X9_offRight rfl rfl rfl (by decide +kernel) ⟨Nat.le_of_ble_eq_true rfl, Nat.le_of_ble_eq_true rfl⟩) (tw_preV hK w h0 (by decide) rfl [.int x1, .int x2, .int x5, .int x4]) rfl rfl hl.1 rfl (lv_room (Nat.le_of_ble_eq_true rfl)) dX9_tries_58 ⟨Nat.zero_le _, Nat.zero_le _⟩) (fun r12 σ11 H locs h w => ?_)
        refine lv_goto (tgt := 65) X.1 X.2.1 dX9_tries_61 (by decide) ?_
        obtain ⟨hi13, h⟩ := h
        refine tw_iast X hK w (tw_t_9_25 hT h0) (tw_n_9_25 hT h0) hi13 dX9_tries_65 (fun σ14 H locs eσ14 w => ?_)
        have h := h _ eσ14
        refine lv_iinc (v := (x5 + 1)) (lv' := [(5, .int (x5 + 1)), (0, .ref a0), (1, .int x1), (2, .int x2), (4, .int x4)]) X.1 X.2.1 dX9_tries_66 hl (k := 4) rfl rfl (by decide) rfl (fun ls hl => ?_)
        refine lv_goto (tgt := 27) X.1 X.2.1 dX9_tries_69 (by decide) ?_
        exact ih (x5 + 1) σ14 _ _ ls h w (lv_sub hl [1, 2, 3, 4, 0] rfl)
set_option maxHeartbeats 4000000 in
set_option maxRecDepth 100000 in
theorem ct_X9_tries (l : Launch) (D : va_G) (g : tw_G) (hT : tw_T g) (sz : Nat) (σ : tw_S) (a0 : Nat) (h0 : tw_is g 9 a0) (x1 : Int32) (x2 : Int32) (x3 : Int32) (x4 : Int32) (Q : tw_S → Prop) (h : wp_X9_tries g σ a0 x1 x2 x3 x4 Q) : tw_Mv l yX9_tries wsX9_tries RM_X9_tries D g sz σ [.ref a0, .int x1, .int x2, .int x3, .int x4] Q := by
  refine Met.ofW (cc := cX9_tries) (maxL := 6) (ret := none) (by decide) rfl ?_
  intro p e s m args below meth c s₁ B hml hv
  obtain ⟨rfl, hsz, hP, hK, hD0⟩ := hv
  subst hsz
  have hr := B.returns
  have hlk := B.notSynchronized
  have X : CallFix p m c cX9_tries 6 s _ wsX9_tries RX9 := ⟨B.exec, B.bytes, hml, findClass_of_methodNamed B.named, atoms_spec (ws := wsX9_tries) B.pre⟩
  have w := tw_w0 hP hD0
  have hl := lv_entry ([.ref a0, .int x1, .int x2, .int x3, .int x4]) (n := 6) (Nat.le_of_ble_eq_true rfl)
  rw [lg_entry_eq]
  generalize (lg_sl ([.ref a0, .int x1, .int x2, .int x3, .int x4]) ++ List.replicate (6 - (lg_sl ([.ref a0, .int x1, .int x2, .int x3, .int x4])).length) Slot.unset).toArray = ls at hl ⊢
  have hl : lv_has ls 6 [(0, .ref a0), (1, .int x1), (2, .int x2), (3, .int x3), (4, .int x4)] := hl
  unfold wp_X9_tries at h
  refine lv_aload_n X.1 X.2.1 dX9_tries_0 rfl (lv_at hl 0 rfl) ?_
  refine tw_get X hK w 9 iw_X9_tries_9 h0 (by decide) rfl 25 (by decide) (List.mem_of_getElem? (i := 1) rfl) rfl dX9_tries_1 ?_
  refine lv_iconst (v := 0) X.1 X.2.1 dX9_tries_4 (by decide) ?_
  refine lv_iload_n X.1 X.2.1 dX9_tries_5 rfl (lv_at hl 3 rfl) ?_
  refine lv_iconst (v := -1) X.1 X.2.1 dX9_tries_6 (by decide) ?_
  refine lv_icmp_ne (tgt := 14) X.1 X.2.1 dX9_tries_7 (by decide) (fun c1 => ?_) (fun c1 => ?_)
  · have h := h.1 c1
    refine lv_aload_n X.1 X.2.1 dX9_tries_14 rfl (lv_at hl 0 rfl) ?_
    refine lv_iload_n X.1 X.2.1 dX9_tries_15 rfl (lv_at hl 1 rfl) ?_
    refine lv_iload_n X.1 X.2.1 dX9_tries_16 rfl (lv_at hl 2 rfl) ?_
    refine lv_iload_n X.1 X.2.1 dX9_tries_17 rfl (lv_at hl 3 rfl) ?_
    refine lv_iload X.1 X.2.1 dX9_tries_18 (lv_at hl 4 rfl) ?_
    refine tw_ci w (va_runV (As := [.int x1, .int x2, .int x3, .int x4]) (rest := [.int (0 : Int32), .ref (tw_R g a0 25)]) X (ct_X9_offRight l D g hT _ σ a0 h0 x1 x2 x3 x4 _ h) (cwV 4 X.2.2.2.2 gX9_tries_X9_offRight rfl rfl rfl (by decide +kernel) ⟨Nat.le_of_ble_eq_true rfl, Nat.le_of_ble_eq_true rfl⟩) (tw_preV hK w h0 (by decide) rfl [.int x1, .int x2, .int x3, .int x4]) rfl rfl hl.1 rfl (lv_room (Nat.le_of_ble_eq_true rfl)) dX9_tries_20 ⟨Nat.zero_le _, Nat.zero_le _⟩) (fun r3 σ2 H locs h w => ?_)
    refine tw_iast X hK w (tw_t_9_25 hT h0) (tw_n_9_25 hT h0) (by unfold vp_in; decide) dX9_tries_23 (fun σ4 H locs eσ4 w => ?_)
    have h := h _ eσ4
    refine lv_iconst (v := 0) X.1 X.2.1 dX9_tries_24 (by decide) ?_
    refine lv_istore (lv' := [(5, .int (0 : Int32)), (0, .ref a0), (1, .int x1), (2, .int x2), (3, .int x3), (4, .int x4)]) X.1 X.2.1 dX9_tries_25 hl (by decide) rfl (fun ls hl => ?_)
    have hl := lv_sub (l' := [(5, .int (0 : Int32)), (0, .ref a0), (1, .int x1), (2, .int x2), (4, .int x4)]) hl [0, 1, 2, 3, 5] rfl
    obtain ⟨n27, h⟩ := h
    refine lp_X9_tries_27 X hr hlk hK hT h0 (fun σ15 H locs ls h w hl => ?_) n27 (0 : Int32) σ4 _ _ ls h w (lv_sub hl [1, 2, 3, 4, 0] rfl)
    · skip
      exact tw_vret X hr hlk w h dX9_tries_72
  · have h := h.2 c1
    refine lv_iconst (v := -1) X.1 X.2.1 dX9_tries_10 (by decide) ?_
    refine lv_goto (tgt := 23) X.1 X.2.1 dX9_tries_11 (by decide) ?_
    refine tw_iast X hK w (tw_t_9_25 hT h0) (tw_n_9_25 hT h0) (by unfold vp_in; decide) dX9_tries_23 (fun σ16 H locs eσ16 w => ?_)
    have h := h _ eσ16
    refine lv_iconst (v := 0) X.1 X.2.1 dX9_tries_24 (by decide) ?_
    refine lv_istore (lv' := [(5, .int (0 : Int32)), (0, .ref a0), (1, .int x1), (2, .int x2), (3, .int x3), (4, .int x4)]) X.1 X.2.1 dX9_tries_25 hl (by decide) rfl (fun ls hl => ?_)
    have hl := lv_sub (l' := [(5, .int (0 : Int32)), (0, .ref a0), (1, .int x1), (2, .int x2), (4, .int x4)]) hl [0, 1, 2, 3, 5] rfl
    obtain ⟨n27, h⟩ := h
    refine lp_X9_tries_27 X hr hlk hK hT h0 (fun σ17 H locs ls h w hl => ?_) n27 (0 : Int32) σ16 _ _ ls h w (lv_sub hl [1, 2, 3, 4, 0] rfl)
    · skip
      exact tw_vret X hr hlk w h dX9_tries_72

abbrev RM_X9_at : Room := { frames := 0, cells := 0, slots := 0, locals := 0 }
def wp_X9_at (g : tw_G) (σ : tw_S) (a0 : Nat) (x1 : Int32) (x2 : Int32) (Q : Int32 → tw_S → Prop) : Prop := Q (((151 : Int32) * x1) + x2) σ
set_option maxHeartbeats 4000000 in
set_option maxRecDepth 100000 in
theorem ct_X9_at (l : Launch) (D : va_G) (g : tw_G) (hT : tw_T g) (sz : Nat) (σ : tw_S) (a0 : Nat) (h0 : tw_is g 9 a0) (x1 : Int32) (x2 : Int32) (Q : Int32 → tw_S → Prop) (h : wp_X9_at g σ a0 x1 x2 Q) : tw_Mi l yX9_at wsX9_at RM_X9_at D g sz σ [.ref a0, .int x1, .int x2] Q := by
  refine Met.ofW (cc := cX9_at) (maxL := 3) (ret := (some .int)) (by decide) rfl ?_
  intro p e s m args below meth c s₁ B hml hv
  obtain ⟨rfl, hsz, hP, hK, hD0⟩ := hv
  subst hsz
  have hr := B.returns
  have hlk := B.notSynchronized
  have X : CallFix p m c cX9_at 3 s _ wsX9_at RX9 := ⟨B.exec, B.bytes, hml, findClass_of_methodNamed B.named, atoms_spec (ws := wsX9_at) B.pre⟩
  have w := tw_w0 hP hD0
  have hl := lv_entry ([.ref a0, .int x1, .int x2]) (n := 3) (Nat.le_of_ble_eq_true rfl)
  rw [lg_entry_eq]
  generalize (lg_sl ([.ref a0, .int x1, .int x2]) ++ List.replicate (3 - (lg_sl ([.ref a0, .int x1, .int x2])).length) Slot.unset).toArray = ls at hl ⊢
  have hl : lv_has ls 3 [(0, .ref a0), (1, .int x1), (2, .int x2)] := hl
  unfold wp_X9_at at h
  refine lv_sipush (v := 151) X.1 X.2.1 dX9_at_0 (by decide) ?_
  refine lv_iload_n X.1 X.2.1 dX9_at_3 rfl (lv_at hl 1 rfl) ?_
  refine lv_imul X.1 X.2.1 dX9_at_4 ?_
  refine lv_iload_n X.1 X.2.1 dX9_at_5 rfl (lv_at hl 2 rfl) ?_
  refine lv_iadd X.1 X.2.1 dX9_at_6 ?_
  exact tw_iret X hr hlk w h dX9_at_7

abbrev RM_X9_findsTried : Room := { frames := 1, cells := 0, slots := 0, locals := 22 }
theorem iw_X9_findsTried_9 : ∀ w ∈ wsX90, w ∈ wsX9_findsTried := fun w h => List.mem_cons_of_mem _ (List.mem_append_right _ (h))
def wl_X9_findsTried_21 (g : tw_G) (a0 : Nat) (x1 : Int32) (x2 : Int32) (x3 : Int32) (Q : Int32 → tw_S → Prop) (k71 : Int32 → tw_S → Prop) : Nat → Int32 → Int32 → tw_S → Prop
  | 0, _, _, _ => False
  | n + 1, x4, x5, σ => (((5 : Int32) ≤ x5) → k71 x4 σ) ∧ (¬ ((5 : Int32) ≤ x5) → ((x4 = 0) → wl_X9_findsTried_21 g a0 x1 x2 x3 Q k71 n (0 : Int32) (x5 + 1) σ) ∧ (¬ (x4 = 0) → wp_X9_at g σ a0 x1 x3 (fun r7 σ6 => vp_in (((5 : Int32) * r7) + x5) 1510 ∧ vp_in x5 5 ∧ ((¬ (tw_A σ6 (tw_R g a0 21) (((5 : Int32) * r7) + x5).toNatClampNeg) = (tw_A σ6 (tw_R g a0 25) x5.toNatClampNeg)) → wl_X9_findsTried_21 g a0 x1 x2 x3 Q k71 n (0 : Int32) (x5 + 1) σ6) ∧ (((tw_A σ6 (tw_R g a0 21) (((5 : Int32) * r7) + x5).toNatClampNeg) = (tw_A σ6 (tw_R g a0 25) x5.toNatClampNeg)) → wl_X9_findsTried_21 g a0 x1 x2 x3 Q k71 n (1 : Int32) (x5 + 1) σ6))))
def wl_X9_findsTried_11 (g : tw_G) (a0 : Nat) (x1 : Int32) (Q : Int32 → tw_S → Prop) (k88 : Int32 → tw_S → Prop) : Nat → Int32 → Int32 → tw_S → Prop
  | 0, _, _, _ => False
  | n + 1, x2, x3, σ => ((x3 < 0) → k88 x2 σ) ∧ (¬ (x3 < 0) → ∃ n21, wl_X9_findsTried_21 g a0 x1 x2 x3 Q (fun v11 σ12 => ((v11 = 0) → wl_X9_findsTried_11 g a0 x1 Q k88 n x2 (x3 + (-1)) σ12) ∧ (¬ (v11 = 0) → wl_X9_findsTried_11 g a0 x1 Q k88 n x3 (x3 + (-1)) σ12)) n21 (1 : Int32) (0 : Int32) σ)
def wl_X9_findsTried_112 (g : tw_G) (a0 : Nat) (x1 : Int32) (x2 : Int32) (Q : Int32 → tw_S → Prop) (k144 : tw_S → Prop) : Nat → Int32 → tw_S → Prop
  | 0, _, _ => False
  | n + 1, x3, σ => (((5 : Int32) ≤ x3) → k144  σ) ∧ (¬ ((5 : Int32) ≤ x3) → wp_X9_at g σ a0 x1 x2 (fun r24 σ23 => vp_in x3 5 ∧ vp_in (((5 : Int32) * r24) + x3) 1510 ∧ ∀ σ27, σ27 = (tw_sA σ23 (tw_R g a0 21) (upd (tw_A σ23 (tw_R g a0 21)) (((5 : Int32) * r24) + x3).toNatClampNeg (tw_A σ23 (tw_R g a0 25) x3.toNatClampNeg))) → wl_X9_findsTried_112 g a0 x1 x2 Q k144 n (x3 + 1) σ27))
def wp_X9_findsTried (g : tw_G) (σ : tw_S) (a0 : Nat) (x1 : Int32) (Q : Int32 → tw_S → Prop) : Prop := vp_in x1 2 ∧ ∀ z2, z2 = ((tw_A σ (tw_R g a0 20) x1.toNatClampNeg) - (1 : Int32)) → ∃ n11, wl_X9_findsTried_11 g a0 x1 Q (fun v14 σ15 => ((¬ v14 = (-1 : Int32)) → Q v14 σ15) ∧ ((v14 = (-1 : Int32)) → vp_in x1 2 ∧ ∀ z18, z18 = (tw_A σ15 (tw_R g a0 20) x1.toNatClampNeg) → vp_in x1 2 ∧ vp_in x1 2 ∧ ∀ σ21, σ21 = (tw_sA σ15 (tw_R g a0 20) (upd (tw_A σ15 (tw_R g a0 20)) x1.toNatClampNeg ((tw_A σ15 (tw_R g a0 20) x1.toNatClampNeg) + (1 : Int32)))) → ∃ n112, wl_X9_findsTried_112 g a0 x1 z18 Q (fun σ28 => Q z18 σ28) n112 (0 : Int32) σ21)) n11 (-1 : Int32) z2 σ
set_option maxHeartbeats 4000000 in
set_option maxRecDepth 100000 in
theorem lp_X9_findsTried_21 {p : Program} {l : Launch} {e : Env} {s : State} {m : MethodId} {args : Array Value} {below : List Frame} {meth : Method} {c : Code} {D : va_G} {g : tw_G} (X : CallFix p m c cX9_findsTried 6 s args wsX9_findsTried RX9) (hr : meth.sig.returnType = (some .int)) (hlk : meth.locks = false) (hK : tw_k D g s) (hT : tw_T g) {a0 : Nat} {x1 : Int32} {x2 : Int32} {x3 : Int32} (h0 : tw_is g 9 a0) {Q : Int32 → tw_S → Prop} {k71 : Int32 → tw_S → Prop}
    (hk71 : ∀ (x4 : Int32) (σ : tw_S) (H : Heap) (locs : List Loc) (ls : Array Slot), k71 x4 σ → tw_w D g (tw_F g s.heap.size) s σ H locs → lv_has ls 6 [(0, .ref a0), (1, .int x1), (2, .int x2), (3, .int x3), (4, .int x4)] → W p l e RM_X9_findsTried s m args below meth c H locs 0 0 (tw_Qi Q D g below args s) (F0 m 71 ls []))
    : ∀ (n : Nat) (x4 : Int32) (x5 : Int32) (σ : tw_S) (H : Heap) (locs : List Loc) (ls : Array Slot), wl_X9_findsTried_21 g a0 x1 x2 x3 Q k71 n x4 x5 σ → tw_w D g (tw_F g s.heap.size) s σ H locs → lv_has ls 6 [(0, .ref a0), (1, .int x1), (2, .int x2), (3, .int x3), (4, .int x4), (5, .int x5)] → W p l e RM_X9_findsTried s m args below meth c H locs 0 0 (tw_Qi Q D g below args s) (F0 m 21 ls []) := by
  intro n
  induction n with
  | zero =>
    intro x4 x5 σ H locs ls h w hl
    exact False.elim h
  | succ n ih =>
    intro x4 x5 σ H locs ls h w hl
    rw [wl_X9_findsTried_21] at h
    refine lv_iload X.1 X.2.1 dX9_findsTried_21 (lv_at hl 5 rfl) ?_
    refine lv_iconst (v := 5) X.1 X.2.1 dX9_findsTried_23 (by decide) ?_
    refine lv_icmp_ge (tgt := 71) X.1 X.2.1 dX9_findsTried_24 (by decide) (fun c4 => ?_) (fun c4 => ?_)
    · have h := h.1 c4
      exact hk71 x4 σ _ _ ls h w (lv_sub hl [0, 1, 2, 3, 4] rfl)
    · have h := h.2 c4
      refine lv_iload X.1 X.2.1 dX9_findsTried_27 (lv_at hl 4 rfl) ?_
      refine lv_if_eq (tgt := 62) X.1 X.2.1 dX9_findsTried_29 (by decide) (fun c5 => ?_) (fun c5 => ?_)
      · have h := h.1 c5
        refine lv_iconst (v := 0) X.1 X.2.1 dX9_findsTried_62 (by decide) ?_
        refine lv_istore (lv' := [(4, .int (0 : Int32)), (0, .ref a0), (1, .int x1), (2, .int x2), (3, .int x3), (5, .int x5)]) X.1 X.2.1 dX9_findsTried_63 hl (by decide) rfl (fun ls hl => ?_)
        refine lv_iinc (v := (x5 + 1)) (lv' := [(5, .int (x5 + 1)), (4, .int (0 : Int32)), (0, .ref a0), (1, .int x1), (2, .int x2), (3, .int x3)]) X.1 X.2.1 dX9_findsTried_65 hl (k := 5) rfl rfl (by decide) rfl (fun ls hl => ?_)
        refine lv_goto (tgt := 21) X.1 X.2.1 dX9_findsTried_68 (by decide) ?_
        exact ih (0 : Int32) (x5 + 1) σ _ _ ls h w (lv_sub hl [2, 3, 4, 5, 1, 0] rfl)
      · have h := h.2 c5
        refine lv_aload_n X.1 X.2.1 dX9_findsTried_32 rfl (lv_at hl 0 rfl) ?_
        refine tw_get X hK w 9 iw_X9_findsTried_9 h0 (by decide) rfl 21 (by decide) (List.mem_of_getElem? (i := 2) rfl) rfl dX9_findsTried_33 ?_
        refine lv_iconst (v := 5) X.1 X.2.1 dX9_findsTried_36 (by decide) ?_
        refine lv_aload_n X.1 X.2.1 dX9_findsTried_37 rfl (lv_at hl 0 rfl) ?_
        refine lv_iload_n X.1 X.2.1 dX9_findsTried_38 rfl (lv_at hl 1 rfl) ?_
        refine lv_iload_n X.1 X.2.1 dX9_findsTried_39 rfl (lv_at hl 3 rfl) ?_
        refine tw_ci w (va_runV (As := [.int x1, .int x3]) (rest := [.int (5 : Int32), .ref (tw_R g a0 21)]) X (ct_X9_at l D g hT _ σ a0 h0 x1 x3 _ h) (cwV 2 X.2.2.2.2 gX9_findsTried_X9_at rfl rfl rfl (by decide +kernel) ⟨Nat.le_of_ble_eq_true rfl, Nat.le_of_ble_eq_true rfl⟩) (tw_preV hK w h0 (by decide) rfl [.int x1, .int x3]) rfl rfl hl.1 rfl (lv_room (Nat.le_of_ble_eq_true rfl)) dX9_findsTried_40 ⟨Nat.zero_le _, Nat.zero_le _⟩) (fun r7 σ6 H locs h w => ?_)
        refine lv_imul X.1 X.2.1 dX9_findsTried_43 ?_
        refine lv_iload X.1 X.2.1 dX9_findsTried_44 (lv_at hl 5 rfl) ?_
        refine lv_iadd X.1 X.2.1 dX9_findsTried_46 ?_
        obtain ⟨hi8, h⟩ := h
        refine tw_iald X hK w (tw_t_9_21 hT h0) (tw_n_9_21 hT h0) hi8 dX9_findsTried_47 ?_
        refine lv_aload_n X.1 X.2.1 dX9_findsTried_48 rfl (lv_at hl 0 rfl) ?_
        refine tw_get X hK w 9 iw_X9_findsTried_9 h0 (by decide) rfl 25 (by decide) (List.mem_of_getElem? (i := 3) rfl) rfl dX9_findsTried_49 ?_
        refine lv_iload X.1 X.2.1 dX9_findsTried_52 (lv_at hl 5 rfl) ?_
        obtain ⟨hi9, h⟩ := h
        refine tw_iald X hK w (tw_t_9_25 hT h0) (tw_n_9_25 hT h0) hi9 dX9_findsTried_54 ?_
        refine lv_icmp_ne (tgt := 62) X.1 X.2.1 dX9_findsTried_55 (by decide) (fun c10 => ?_) (fun c10 => ?_)
        · have h := h.1 c10
          refine lv_iconst (v := 0) X.1 X.2.1 dX9_findsTried_62 (by decide) ?_
          refine lv_istore (lv' := [(4, .int (0 : Int32)), (0, .ref a0), (1, .int x1), (2, .int x2), (3, .int x3), (5, .int x5)]) X.1 X.2.1 dX9_findsTried_63 hl (by decide) rfl (fun ls hl => ?_)
          refine lv_iinc (v := (x5 + 1)) (lv' := [(5, .int (x5 + 1)), (4, .int (0 : Int32)), (0, .ref a0), (1, .int x1), (2, .int x2), (3, .int x3)]) X.1 X.2.1 dX9_findsTried_65 hl (k := 5) rfl rfl (by decide) rfl (fun ls hl => ?_)
          refine lv_goto (tgt := 21) X.1 X.2.1 dX9_findsTried_68 (by decide) ?_
          exact ih (0 : Int32) (x5 + 1) σ6 _ _ ls h w (lv_sub hl [2, 3, 4, 5, 1, 0] rfl)
        · have h := h.2 c10
          refine lv_iconst (v := 1) X.1 X.2.1 dX9_findsTried_58 (by decide) ?_
          refine lv_goto (tgt := 63) X.1 X.2.1 dX9_findsTried_59 (by decide) ?_
          refine lv_istore (lv' := [(4, .int (1 : Int32)), (0, .ref a0), (1, .int x1), (2, .int x2), (3, .int x3), (5, .int x5)]) X.1 X.2.1 dX9_findsTried_63 hl (by decide) rfl (fun ls hl => ?_)
          refine lv_iinc (v := (x5 + 1)) (lv' := [(5, .int (x5 + 1)), (4, .int (1 : Int32)), (0, .ref a0), (1, .int x1), (2, .int x2), (3, .int x3)]) X.1 X.2.1 dX9_findsTried_65 hl (k := 5) rfl rfl (by decide) rfl (fun ls hl => ?_)
          refine lv_goto (tgt := 21) X.1 X.2.1 dX9_findsTried_68 (by decide) ?_
          exact ih (1 : Int32) (x5 + 1) σ6 _ _ ls h w (lv_sub hl [2, 3, 4, 5, 1, 0] rfl)
set_option maxHeartbeats 4000000 in
set_option maxRecDepth 100000 in
theorem lp_X9_findsTried_11 {p : Program} {l : Launch} {e : Env} {s : State} {m : MethodId} {args : Array Value} {below : List Frame} {meth : Method} {c : Code} {D : va_G} {g : tw_G} (X : CallFix p m c cX9_findsTried 6 s args wsX9_findsTried RX9) (hr : meth.sig.returnType = (some .int)) (hlk : meth.locks = false) (hK : tw_k D g s) (hT : tw_T g) {a0 : Nat} {x1 : Int32} (h0 : tw_is g 9 a0) {Q : Int32 → tw_S → Prop} {k88 : Int32 → tw_S → Prop}
    (hk88 : ∀ (x2 : Int32) (σ : tw_S) (H : Heap) (locs : List Loc) (ls : Array Slot), k88 x2 σ → tw_w D g (tw_F g s.heap.size) s σ H locs → lv_has ls 6 [(0, .ref a0), (1, .int x1), (2, .int x2)] → W p l e RM_X9_findsTried s m args below meth c H locs 0 0 (tw_Qi Q D g below args s) (F0 m 88 ls []))
    : ∀ (n : Nat) (x2 : Int32) (x3 : Int32) (σ : tw_S) (H : Heap) (locs : List Loc) (ls : Array Slot), wl_X9_findsTried_11 g a0 x1 Q k88 n x2 x3 σ → tw_w D g (tw_F g s.heap.size) s σ H locs → lv_has ls 6 [(0, .ref a0), (1, .int x1), (2, .int x2), (3, .int x3)] → W p l e RM_X9_findsTried s m args below meth c H locs 0 0 (tw_Qi Q D g below args s) (F0 m 11 ls []) := by
  intro n
  induction n with
  | zero =>
    intro x2 x3 σ H locs ls h w hl
    exact False.elim h
  | succ n ih =>
    intro x2 x3 σ H locs ls h w hl
    rw [wl_X9_findsTried_11] at h
    refine lv_iload_n X.1 X.2.1 dX9_findsTried_11 rfl (lv_at hl 3 rfl) ?_
    refine lv_if_lt (tgt := 88) X.1 X.2.1 dX9_findsTried_12 (by decide) (fun c3 => ?_) (fun c3 => ?_)
    · have h := h.1 c3
      exact hk88 x2 σ _ _ ls h w (lv_sub hl [0, 1, 2] rfl)
    · have h := h.2 c3
      refine lv_iconst (v := 1) X.1 X.2.1 dX9_findsTried_15 (by decide) ?_
      refine lv_istore (lv' := [(4, .int (1 : Int32)), (0, .ref a0), (1, .int x1), (2, .int x2), (3, .int x3)]) X.1 X.2.1 dX9_findsTried_16 hl (by decide) rfl (fun ls hl => ?_)
      refine lv_iconst (v := 0) X.1 X.2.1 dX9_findsTried_18 (by decide) ?_
      refine lv_istore (lv' := [(5, .int (0 : Int32)), (4, .int (1 : Int32)), (0, .ref a0), (1, .int x1), (2, .int x2), (3, .int x3)]) X.1 X.2.1 dX9_findsTried_19 hl (by decide) rfl (fun ls hl => ?_)
      obtain ⟨n21, h⟩ := h
      refine lp_X9_findsTried_21 X hr hlk hK hT h0 (fun v11 σ12 H locs ls h w hl => ?_) n21 (1 : Int32) (0 : Int32) σ _ _ ls h w (lv_sub hl [2, 3, 4, 5, 1, 0] rfl)
      · skip
        refine lv_iload X.1 X.2.1 dX9_findsTried_71 (lv_at hl 4 rfl) ?_
        refine lv_if_eq (tgt := 80) X.1 X.2.1 dX9_findsTried_73 (by decide) (fun c13 => ?_) (fun c13 => ?_)
        · have h := h.1 c13
          refine lv_iload_n X.1 X.2.1 dX9_findsTried_80 rfl (lv_at hl 2 rfl) ?_
          refine lv_istore_n (lv' := [(2, .int x2), (0, .ref a0), (1, .int x1), (3, .int x3), (4, .int v11)]) X.1 X.2.1 dX9_findsTried_81 rfl hl (by decide) rfl (fun ls hl => ?_)
          have hl := lv_sub (l' := [(2, .int x2), (0, .ref a0), (1, .int x1), (3, .int x3)]) hl [0, 1, 2, 3] rfl
          refine lv_iinc (v := (x3 + (-1))) (lv' := [(3, .int (x3 + (-1))), (2, .int x2), (0, .ref a0), (1, .int x1)]) X.1 X.2.1 dX9_findsTried_82 hl (k := 3) rfl rfl (by decide) rfl (fun ls hl => ?_)
          refine lv_goto (tgt := 11) X.1 X.2.1 dX9_findsTried_85 (by decide) ?_
          exact ih x2 (x3 + (-1)) σ12 _ _ ls h w (lv_sub hl [2, 3, 1, 0] rfl)
        · have h := h.2 c13
          refine lv_iload_n X.1 X.2.1 dX9_findsTried_76 rfl (lv_at hl 3 rfl) ?_
          refine lv_goto (tgt := 81) X.1 X.2.1 dX9_findsTried_77 (by decide) ?_
          refine lv_istore_n (lv' := [(2, .int x3), (0, .ref a0), (1, .int x1), (3, .int x3), (4, .int v11)]) X.1 X.2.1 dX9_findsTried_81 rfl hl (by decide) rfl (fun ls hl => ?_)
          have hl := lv_sub (l' := [(2, .int x3), (0, .ref a0), (1, .int x1), (3, .int x3)]) hl [0, 1, 2, 3] rfl
          refine lv_iinc (v := (x3 + (-1))) (lv' := [(3, .int (x3 + (-1))), (2, .int x3), (0, .ref a0), (1, .int x1)]) X.1 X.2.1 dX9_findsTried_82 hl (k := 3) rfl rfl (by decide) rfl (fun ls hl => ?_)
          refine lv_goto (tgt := 11) X.1 X.2.1 dX9_findsTried_85 (by decide) ?_
          exact ih x3 (x3 + (-1)) σ12 _ _ ls h w (lv_sub hl [2, 3, 1, 0] rfl)
set_option maxHeartbeats 4000000 in
set_option maxRecDepth 100000 in
theorem lp_X9_findsTried_112 {p : Program} {l : Launch} {e : Env} {s : State} {m : MethodId} {args : Array Value} {below : List Frame} {meth : Method} {c : Code} {D : va_G} {g : tw_G} (X : CallFix p m c cX9_findsTried 6 s args wsX9_findsTried RX9) (hr : meth.sig.returnType = (some .int)) (hlk : meth.locks = false) (hK : tw_k D g s) (hT : tw_T g) {a0 : Nat} {x1 : Int32} {x2 : Int32} (h0 : tw_is g 9 a0) {Q : Int32 → tw_S → Prop} {k144 : tw_S → Prop}
    (hk144 : ∀  (σ : tw_S) (H : Heap) (locs : List Loc) (ls : Array Slot), k144  σ → tw_w D g (tw_F g s.heap.size) s σ H locs → lv_has ls 6 [(2, .int x2)] → W p l e RM_X9_findsTried s m args below meth c H locs 0 0 (tw_Qi Q D g below args s) (F0 m 144 ls []))
    : ∀ (n : Nat) (x3 : Int32) (σ : tw_S) (H : Heap) (locs : List Loc) (ls : Array Slot), wl_X9_findsTried_112 g a0 x1 x2 Q k144 n x3 σ → tw_w D g (tw_F g s.heap.size) s σ H locs → lv_has ls 6 [(0, .ref a0), (1, .int x1), (2, .int x2), (3, .int x3)] → W p l e RM_X9_findsTried s m args below meth c H locs 0 0 (tw_Qi Q D g below args s) (F0 m 112 ls []) := by
  intro n
  induction n with
  | zero =>
    intro x3 σ H locs ls h w hl
    exact False.elim h
  | succ n ih =>
    intro x3 σ H locs ls h w hl
    rw [wl_X9_findsTried_112] at h
    refine lv_iload_n X.1 X.2.1 dX9_findsTried_112 rfl (lv_at hl 3 rfl) ?_
    refine lv_iconst (v := 5) X.1 X.2.1 dX9_findsTried_113 (by decide) ?_
    refine lv_icmp_ge (tgt := 144) X.1 X.2.1 dX9_findsTried_114 (by decide) (fun c22 => ?_) (fun c22 => ?_)
    · have h := h.1 c22
      exact hk144  σ _ _ ls h w (lv_sub hl [2] rfl)
    · have h := h.2 c22
      refine lv_aload_n X.1 X.2.1 dX9_findsTried_117 rfl (lv_at hl 0 rfl) ?_
      refine tw_get X hK w 9 iw_X9_findsTried_9 h0 (by decide) rfl 21 (by decide) (List.mem_of_getElem? (i := 2) rfl) rfl dX9_findsTried_118 ?_
      refine lv_iconst (v := 5) X.1 X.2.1 dX9_findsTried_121 (by decide) ?_
      refine lv_aload_n X.1 X.2.1 dX9_findsTried_122 rfl (lv_at hl 0 rfl) ?_
      refine lv_iload_n X.1 X.2.1 dX9_findsTried_123 rfl (lv_at hl 1 rfl) ?_
      refine lv_iload_n X.1 X.2.1 dX9_findsTried_124 rfl (lv_at hl 2 rfl) ?_
      refine tw_ci w (va_runV (As := [.int x1, .int x2]) (rest := [.int (5 : Int32), .ref (tw_R g a0 21)]) X (ct_X9_at l D g hT _ σ a0 h0 x1 x2 _ h) (cwV 2 X.2.2.2.2 gX9_findsTried_X9_at rfl rfl rfl (by decide +kernel) ⟨Nat.le_of_ble_eq_true rfl, Nat.le_of_ble_eq_true rfl⟩) (tw_preV hK w h0 (by decide) rfl [.int x1, .int x2]) rfl rfl hl.1 rfl (lv_room (Nat.le_of_ble_eq_true rfl)) dX9_findsTried_125 ⟨Nat.zero_le _, Nat.zero_le _⟩) (fun r24 σ23 H locs h w => ?_)
      refine lv_imul X.1 X.2.1 dX9_findsTried_128 ?_
      refine lv_iload_n X.1 X.2.1 dX9_findsTried_129 rfl (lv_at hl 3 rfl) ?_
      refine lv_iadd X.1 X.2.1 dX9_findsTried_130 ?_
      refine lv_aload_n X.1 X.2.1 dX9_findsTried_131 rfl (lv_at hl 0 rfl) ?_
      refine tw_get X hK w 9 iw_X9_findsTried_9 h0 (by decide) rfl 25 (by decide) (List.mem_of_getElem? (i := 3) rfl) rfl dX9_findsTried_132 ?_
      refine lv_iload_n X.1 X.2.1 dX9_findsTried_135 rfl (lv_at hl 3 rfl) ?_
      obtain ⟨hi25, h⟩ := h
      refine tw_iald X hK w (tw_t_9_25 hT h0) (tw_n_9_25 hT h0) hi25 dX9_findsTried_136 ?_
      obtain ⟨hi26, h⟩ := h
      refine tw_iast X hK w (tw_t_9_21 hT h0) (tw_n_9_21 hT h0) hi26 dX9_findsTried_137 (fun σ27 H locs eσ27 w => ?_)
      have h := h _ eσ27
      refine lv_iinc (v := (x3 + 1)) (lv' := [(3, .int (x3 + 1)), (0, .ref a0), (1, .int x1), (2, .int x2)]) X.1 X.2.1 dX9_findsTried_138 hl (k := 3) rfl rfl (by decide) rfl (fun ls hl => ?_)
      refine lv_goto (tgt := 112) X.1 X.2.1 dX9_findsTried_141 (by decide) ?_
      exact ih (x3 + 1) σ27 _ _ ls h w (lv_sub hl [1, 2, 3, 0] rfl)
set_option maxHeartbeats 4000000 in
set_option maxRecDepth 100000 in
theorem ct_X9_findsTried (l : Launch) (D : va_G) (g : tw_G) (hT : tw_T g) (sz : Nat) (σ : tw_S) (a0 : Nat) (h0 : tw_is g 9 a0) (x1 : Int32) (Q : Int32 → tw_S → Prop) (h : wp_X9_findsTried g σ a0 x1 Q) : tw_Mi l yX9_findsTried wsX9_findsTried RM_X9_findsTried D g sz σ [.ref a0, .int x1] Q := by
  refine Met.ofW (cc := cX9_findsTried) (maxL := 6) (ret := (some .int)) (by decide) rfl ?_
  intro p e s m args below meth c s₁ B hml hv
  obtain ⟨rfl, hsz, hP, hK, hD0⟩ := hv
  subst hsz
  have hr := B.returns
  have hlk := B.notSynchronized
  have X : CallFix p m c cX9_findsTried 6 s _ wsX9_findsTried RX9 := ⟨B.exec, B.bytes, hml, findClass_of_methodNamed B.named, atoms_spec (ws := wsX9_findsTried) B.pre⟩
  have w := tw_w0 hP hD0
  have hl := lv_entry ([.ref a0, .int x1]) (n := 6) (Nat.le_of_ble_eq_true rfl)
  rw [lg_entry_eq]
  generalize (lg_sl ([.ref a0, .int x1]) ++ List.replicate (6 - (lg_sl ([.ref a0, .int x1])).length) Slot.unset).toArray = ls at hl ⊢
  have hl : lv_has ls 6 [(0, .ref a0), (1, .int x1)] := hl
  unfold wp_X9_findsTried at h
  refine lv_iconst (v := -1) X.1 X.2.1 dX9_findsTried_0 (by decide) ?_
  refine lv_istore_n (lv' := [(2, .int (-1 : Int32)), (0, .ref a0), (1, .int x1)]) X.1 X.2.1 dX9_findsTried_1 rfl hl (by decide) rfl (fun ls hl => ?_)
  refine lv_aload_n X.1 X.2.1 dX9_findsTried_2 rfl (lv_at hl 1 rfl) ?_
  refine tw_get X hK w 9 iw_X9_findsTried_9 h0 (by decide) rfl 20 (by decide) (List.mem_of_getElem? (i := 1) rfl) rfl dX9_findsTried_3 ?_
  refine lv_iload_n X.1 X.2.1 dX9_findsTried_6 rfl (lv_at hl 2 rfl) ?_
  obtain ⟨hi1, h⟩ := h
  refine tw_iald X hK w (tw_t_9_20 hT h0) (tw_n_9_20 hT h0) hi1 dX9_findsTried_7 ?_
  refine lv_iconst (v := 1) X.1 X.2.1 dX9_findsTried_8 (by decide) ?_
  refine lv_isub X.1 X.2.1 dX9_findsTried_9 ?_
  refine lv_topi (fun z2 ez2 => ?_)
  have h := h _ ez2
  refine lv_istore_n (lv' := [(3, .int z2), (2, .int (-1 : Int32)), (0, .ref a0), (1, .int x1)]) X.1 X.2.1 dX9_findsTried_10 rfl hl (by decide) rfl (fun ls hl => ?_)
  obtain ⟨n11, h⟩ := h
  refine lp_X9_findsTried_11 X hr hlk hK hT h0 (fun v14 σ15 H locs ls h w hl => ?_) n11 (-1 : Int32) z2 σ _ _ ls h w (lv_sub hl [2, 3, 1, 0] rfl)
  · skip
    refine lv_iload_n X.1 X.2.1 dX9_findsTried_88 rfl (lv_at hl 2 rfl) ?_
    refine lv_iconst (v := -1) X.1 X.2.1 dX9_findsTried_89 (by decide) ?_
    refine lv_icmp_ne (tgt := 144) X.1 X.2.1 dX9_findsTried_90 (by decide) (fun c16 => ?_) (fun c16 => ?_)
    · have h := h.1 c16
      refine lv_iload_n X.1 X.2.1 dX9_findsTried_144 rfl (lv_at hl 2 rfl) ?_
      exact tw_iret X hr hlk w h dX9_findsTried_145
    · have h := h.2 c16
      refine lv_aload_n X.1 X.2.1 dX9_findsTried_93 rfl (lv_at hl 0 rfl) ?_
      refine tw_get X hK w 9 iw_X9_findsTried_9 h0 (by decide) rfl 20 (by decide) (List.mem_of_getElem? (i := 1) rfl) rfl dX9_findsTried_94 ?_
      refine lv_iload_n X.1 X.2.1 dX9_findsTried_97 rfl (lv_at hl 1 rfl) ?_
      obtain ⟨hi17, h⟩ := h
      refine tw_iald X hK w (tw_t_9_20 hT h0) (tw_n_9_20 hT h0) hi17 dX9_findsTried_98 ?_
      refine lv_topi (fun z18 ez18 => ?_)
      have h := h _ ez18
      refine lv_istore_n (lv' := [(2, .int z18), (0, .ref a0), (1, .int x1)]) X.1 X.2.1 dX9_findsTried_99 rfl hl (by decide) rfl (fun ls hl => ?_)
      refine lv_aload_n X.1 X.2.1 dX9_findsTried_100 rfl (lv_at hl 1 rfl) ?_
      refine tw_get X hK w 9 iw_X9_findsTried_9 h0 (by decide) rfl 20 (by decide) (List.mem_of_getElem? (i := 1) rfl) rfl dX9_findsTried_101 ?_
      refine lv_iload_n X.1 X.2.1 dX9_findsTried_104 rfl (lv_at hl 2 rfl) ?_
      refine lv_dup2_11 X.1 X.2.1 dX9_findsTried_105 rfl rfl ?_
      obtain ⟨hi19, h⟩ := h
      refine tw_iald X hK w (tw_t_9_20 hT h0) (tw_n_9_20 hT h0) hi19 dX9_findsTried_106 ?_
      refine lv_iconst (v := 1) X.1 X.2.1 dX9_findsTried_107 (by decide) ?_
      refine lv_iadd X.1 X.2.1 dX9_findsTried_108 ?_
      obtain ⟨hi20, h⟩ := h
      refine tw_iast X hK w (tw_t_9_20 hT h0) (tw_n_9_20 hT h0) hi20 dX9_findsTried_109 (fun σ21 H locs eσ21 w => ?_)
      have h := h _ eσ21
      refine lv_iconst (v := 0) X.1 X.2.1 dX9_findsTried_110 (by decide) ?_
      refine lv_istore_n (lv' := [(3, .int (0 : Int32)), (2, .int z18), (0, .ref a0), (1, .int x1)]) X.1 X.2.1 dX9_findsTried_111 rfl hl (by decide) rfl (fun ls hl => ?_)
      obtain ⟨n112, h⟩ := h
      refine lp_X9_findsTried_112 X hr hlk hK hT h0 (fun σ28 H locs ls h w hl => ?_) n112 (0 : Int32) σ21 _ _ ls h w (lv_sub hl [2, 3, 1, 0] rfl)
      · skip
        refine lv_iload_n X.1 X.2.1 dX9_findsTried_144 rfl (lv_at hl 0 rfl) ?_
        exact tw_iret X hr hlk w h dX9_findsTried_145

abbrev RM_X9_isGood : Room := { frames := 1, cells := 0, slots := 0, locals := 23 }
theorem iw_X9_isGood_9 : ∀ w ∈ wsX90, w ∈ wsX9_isGood := fun w h => List.mem_cons_of_mem _ (List.mem_append_right _ (h))
def wl_X9_isGood_17 (g : tw_G) (a0 : Nat) (x1 : Int32) (x2 : Int32) (Q : Int32 → tw_S → Prop) (k62 : tw_S → Prop) (k98 : tw_S → Prop) : Nat → Int32 → Int32 → tw_S → Prop
  | 0, _, _, _ => False
  | n + 1, x3, x4, σ => ((x3 = (-1 : Int32)) → k98  σ) ∧ (¬ (x3 = (-1 : Int32)) → ((¬ ((x4 >>> (x3 &&& 31)) &&& (1 : Int32)) = 0) → k98  σ) ∧ ((((x4 >>> (x3 &&& 31)) &&& (1 : Int32)) = 0) → ∀ z7, z7 = (x4 ||| ((1 : Int32) <<< (x3 &&& 31))) → wp_X9_moveAt g σ a0 x1 x3 (3 : Int32) (fun r9 σ8 => ((r9 = (-1 : Int32)) → ((¬ r9 = (-1 : Int32)) → wp_X9_at g σ8 a0 x1 x2 (fun r13 σ12 => vp_in ((((5 : Int32) * r13) + (1 : Int32)) + (r9 / (2 : Int32))) 1510 ∧ ∀ z15, z15 = (tw_A σ12 (tw_R g a0 21) ((((5 : Int32) * r13) + (1 : Int32)) + (r9 / (2 : Int32))).toNatClampNeg) → wl_X9_isGood_17 g a0 x1 x2 Q k62 k98 n z15 z7 σ12)) ∧ ((r9 = (-1 : Int32)) → wl_X9_isGood_17 g a0 x1 x2 Q k62 k98 n (-1 : Int32) z7 σ8)) ∧ (¬ (r9 = (-1 : Int32)) → ((¬ (r9 - r9 / (2 : Int32) * (2 : Int32)) = (1 : Int32)) → ((¬ r9 = (-1 : Int32)) → wp_X9_at g σ8 a0 x1 x2 (fun r19 σ18 => vp_in ((((5 : Int32) * r19) + (1 : Int32)) + (r9 / (2 : Int32))) 1510 ∧ ∀ z21, z21 = (tw_A σ18 (tw_R g a0 21) ((((5 : Int32) * r19) + (1 : Int32)) + (r9 / (2 : Int32))).toNatClampNeg) → wl_X9_isGood_17 g a0 x1 x2 Q k62 k98 n z21 z7 σ18)) ∧ ((r9 = (-1 : Int32)) → wl_X9_isGood_17 g a0 x1 x2 Q k62 k98 n (-1 : Int32) z7 σ8)) ∧ (((r9 - r9 / (2 : Int32) * (2 : Int32)) = (1 : Int32)) → k62  σ8)))))
def wp_X9_isGood (g : tw_G) (σ : tw_S) (a0 : Nat) (x1 : Int32) (x2 : Int32) (Q : Int32 → tw_S → Prop) : Prop := wp_X9_at g σ a0 x1 x2 (fun r2 σ1 => vp_in ((5 : Int32) * r2) 1510 ∧ ∀ z4, z4 = (tw_A σ1 (tw_R g a0 21) ((5 : Int32) * r2).toNatClampNeg) → ∃ n17, wl_X9_isGood_17 g a0 x1 x2 Q (fun σ22 => Q (1 : Int32) σ22) (fun σ23 => Q (0 : Int32) σ23) n17 z4 (0 : Int32) σ1)
set_option maxHeartbeats 4000000 in
set_option maxRecDepth 100000 in
theorem lp_X9_isGood_17 {p : Program} {l : Launch} {e : Env} {s : State} {m : MethodId} {args : Array Value} {below : List Frame} {meth : Method} {c : Code} {D : va_G} {g : tw_G} (X : CallFix p m c cX9_isGood 6 s args wsX9_isGood RX9) (hr : meth.sig.returnType = (some .boolean)) (hlk : meth.locks = false) (hK : tw_k D g s) (hT : tw_T g) {a0 : Nat} {x1 : Int32} {x2 : Int32} (h0 : tw_is g 9 a0) {Q : Int32 → tw_S → Prop} {k62 : tw_S → Prop} {k98 : tw_S → Prop}
    (hk62 : ∀  (σ : tw_S) (H : Heap) (locs : List Loc) (ls : Array Slot), k62  σ → tw_w D g (tw_F g s.heap.size) s σ H locs → lv_has ls 6 [] → W p l e RM_X9_isGood s m args below meth c H locs 0 0 (tw_Qi Q D g below args s) (F0 m 62 ls []))
    (hk98 : ∀  (σ : tw_S) (H : Heap) (locs : List Loc) (ls : Array Slot), k98  σ → tw_w D g (tw_F g s.heap.size) s σ H locs → lv_has ls 6 [] → W p l e RM_X9_isGood s m args below meth c H locs 0 0 (tw_Qi Q D g below args s) (F0 m 98 ls []))
    : ∀ (n : Nat) (x3 : Int32) (x4 : Int32) (σ : tw_S) (H : Heap) (locs : List Loc) (ls : Array Slot), wl_X9_isGood_17 g a0 x1 x2 Q k62 k98 n x3 x4 σ → tw_w D g (tw_F g s.heap.size) s σ H locs → lv_has ls 6 [(0, .ref a0), (1, .int x1), (2, .int x2), (3, .int x3), (4, .int x4)] → W p l e RM_X9_isGood s m args below meth c H locs 0 0 (tw_Qi Q D g below args s) (F0 m 17 ls []) := by
  intro n
  induction n with
  | zero =>
    intro x3 x4 σ H locs ls h w hl
    exact False.elim h
  | succ n ih =>
    intro x3 x4 σ H locs ls h w hl
    rw [wl_X9_isGood_17] at h
    refine lv_iload_n X.1 X.2.1 dX9_isGood_17 rfl (lv_at hl 3 rfl) ?_
    refine lv_iconst (v := -1) X.1 X.2.1 dX9_isGood_18 (by decide) ?_
    refine lv_icmp_eq (tgt := 98) X.1 X.2.1 dX9_isGood_19 (by decide) (fun c5 => ?_) (fun c5 => ?_)
    · have h := h.1 c5
      exact hk98  σ _ _ ls h w (lv_sub hl [] rfl)
    · have h := h.2 c5
      refine lv_iload X.1 X.2.1 dX9_isGood_22 (lv_at hl 4 rfl) ?_
      refine lv_iload_n X.1 X.2.1 dX9_isGood_24 rfl (lv_at hl 3 rfl) ?_
      refine lv_ishr X.1 X.2.1 dX9_isGood_25 ?_
      refine lv_iconst (v := 1) X.1 X.2.1 dX9_isGood_26 (by decide) ?_
      refine lv_iand X.1 X.2.1 dX9_isGood_27 ?_
      refine lv_if_ne (tgt := 98) X.1 X.2.1 dX9_isGood_28 (by decide) (fun c6 => ?_) (fun c6 => ?_)
      · have h := h.1 c6
        exact hk98  σ _ _ ls h w (lv_sub hl [] rfl)
      · have h := h.2 c6
        refine lv_iload X.1 X.2.1 dX9_isGood_31 (lv_at hl 4 rfl) ?_
        refine lv_iconst (v := 1) X.1 X.2.1 dX9_isGood_33 (by decide) ?_
        refine lv_iload_n X.1 X.2.1 dX9_isGood_34 rfl (lv_at hl 3 rfl) ?_
        refine lv_ishl X.1 X.2.1 dX9_isGood_35 ?_
        refine lv_ior X.1 X.2.1 dX9_isGood_36 ?_
        refine lv_topi (fun z7 ez7 => ?_)
        have h := h _ ez7
        refine lv_istore (lv' := [(4, .int z7), (0, .ref a0), (1, .int x1), (2, .int x2), (3, .int x3)]) X.1 X.2.1 dX9_isGood_37 hl (by decide) rfl (fun ls hl => ?_)
        refine lv_aload_n X.1 X.2.1 dX9_isGood_39 rfl (lv_at hl 1 rfl) ?_
        refine lv_iload_n X.1 X.2.1 dX9_isGood_40 rfl (lv_at hl 2 rfl) ?_
        refine lv_iload_n X.1 X.2.1 dX9_isGood_41 rfl (lv_at hl 4 rfl) ?_
        refine lv_iconst (v := 3) X.1 X.2.1 dX9_isGood_42 (by decide) ?_
        refine tw_ci w (va_runV (As := [.int x1, .int x3, .int (3 : Int32)]) (rest := []) X (ct_X9_moveAt l D g hT _ σ a0 h0 x1 x3 (3 : Int32) _ h) (cwV 3 X.2.2.2.2 gX9_isGood_X9_moveAt rfl rfl rfl (by decide +kernel) ⟨Nat.le_of_ble_eq_true rfl, Nat.le_of_ble_eq_true rfl⟩) (tw_preV hK w h0 (by decide) rfl [.int x1, .int x3, .int (3 : Int32)]) rfl rfl hl.1 rfl (lv_room (Nat.le_of_ble_eq_true rfl)) dX9_isGood_43 ⟨Nat.zero_le _, Nat.zero_le _⟩) (fun r9 σ8 H locs h w => ?_)
        refine lv_istore (lv' := [(5, .int r9), (4, .int z7), (0, .ref a0), (1, .int x1), (2, .int x2), (3, .int x3)]) X.1 X.2.1 dX9_isGood_46 hl (by decide) rfl (fun ls hl => ?_)
        have hl := lv_sub (l' := [(5, .int r9), (4, .int z7), (0, .ref a0), (1, .int x1), (2, .int x2)]) hl [0, 1, 2, 3, 4] rfl
        refine lv_iload X.1 X.2.1 dX9_isGood_48 (lv_at hl 0 rfl) ?_
        refine lv_iconst (v := -1) X.1 X.2.1 dX9_isGood_50 (by decide) ?_
        refine lv_icmp_eq (tgt := 64) X.1 X.2.1 dX9_isGood_51 (by decide) (fun c10 => ?_) (fun c10 => ?_)
        · have h := h.1 c10
          refine lv_iload X.1 X.2.1 dX9_isGood_64 (lv_at hl 0 rfl) ?_
          refine lv_iconst (v := -1) X.1 X.2.1 dX9_isGood_66 (by decide) ?_
          refine lv_icmp_ne (tgt := 74) X.1 X.2.1 dX9_isGood_67 (by decide) (fun c11 => ?_) (fun c11 => ?_)
          · have h := h.1 c11
            refine lv_aload_n X.1 X.2.1 dX9_isGood_74 rfl (lv_at hl 2 rfl) ?_
            refine tw_get X hK w 9 iw_X9_isGood_9 h0 (by decide) rfl 21 (by decide) (List.mem_of_getElem? (i := 1) rfl) rfl dX9_isGood_75 ?_
            refine lv_iconst (v := 5) X.1 X.2.1 dX9_isGood_78 (by decide) ?_
            refine lv_aload_n X.1 X.2.1 dX9_isGood_79 rfl (lv_at hl 2 rfl) ?_
            refine lv_iload_n X.1 X.2.1 dX9_isGood_80 rfl (lv_at hl 3 rfl) ?_
            refine lv_iload_n X.1 X.2.1 dX9_isGood_81 rfl (lv_at hl 4 rfl) ?_
            refine tw_ci w (va_runV (As := [.int x1, .int x2]) (rest := [.int (5 : Int32), .ref (tw_R g a0 21)]) X (ct_X9_at l D g hT _ σ8 a0 h0 x1 x2 _ h) (cwV 2 X.2.2.2.2 gX9_isGood_X9_at rfl rfl rfl (by decide +kernel) ⟨Nat.le_of_ble_eq_true rfl, Nat.le_of_ble_eq_true rfl⟩) (tw_preV hK w h0 (by decide) rfl [.int x1, .int x2]) rfl rfl hl.1 rfl (lv_room (Nat.le_of_ble_eq_true rfl)) dX9_isGood_82 ⟨Nat.zero_le _, Nat.zero_le _⟩) (fun r13 σ12 H locs h w => ?_)
            refine lv_imul X.1 X.2.1 dX9_isGood_85 ?_
            refine lv_iconst (v := 1) X.1 X.2.1 dX9_isGood_86 (by decide) ?_
            refine lv_iadd X.1 X.2.1 dX9_isGood_87 ?_
            refine lv_iload X.1 X.2.1 dX9_isGood_88 (lv_at hl 0 rfl) ?_
            refine lv_iconst (v := 2) X.1 X.2.1 dX9_isGood_90 (by decide) ?_
            refine lv_idiv X.1 X.2.1 dX9_isGood_91 (by decide) ?_
            refine lv_iadd X.1 X.2.1 dX9_isGood_92 ?_
            obtain ⟨hi14, h⟩ := h
            refine tw_iald X hK w (tw_t_9_21 hT h0) (tw_n_9_21 hT h0) hi14 dX9_isGood_93 ?_
            refine lv_topi (fun z15 ez15 => ?_)
            have h := h _ ez15
            refine lv_istore_n (lv' := [(3, .int z15), (5, .int r9), (4, .int z7), (0, .ref a0), (1, .int x1), (2, .int x2)]) X.1 X.2.1 dX9_isGood_94 rfl hl (by decide) rfl (fun ls hl => ?_)
            have hl := lv_sub (l' := [(3, .int z15), (4, .int z7), (0, .ref a0), (1, .int x1), (2, .int x2)]) hl [0, 2, 3, 4, 5] rfl
            refine lv_goto (tgt := 17) X.1 X.2.1 dX9_isGood_95 (by decide) ?_
            exact ih z15 z7 σ12 _ _ ls h w (lv_sub hl [2, 3, 4, 0, 1] rfl)
          · have h := h.2 c11
            refine lv_iconst (v := -1) X.1 X.2.1 dX9_isGood_70 (by decide) ?_
            refine lv_goto (tgt := 94) X.1 X.2.1 dX9_isGood_71 (by decide) ?_
            refine lv_istore_n (lv' := [(3, .int (-1 : Int32)), (5, .int r9), (4, .int z7), (0, .ref a0), (1, .int x1), (2, .int x2)]) X.1 X.2.1 dX9_isGood_94 rfl hl (by decide) rfl (fun ls hl => ?_)
            have hl := lv_sub (l' := [(3, .int (-1 : Int32)), (4, .int z7), (0, .ref a0), (1, .int x1), (2, .int x2)]) hl [0, 2, 3, 4, 5] rfl
            refine lv_goto (tgt := 17) X.1 X.2.1 dX9_isGood_95 (by decide) ?_
            exact ih (-1 : Int32) z7 σ8 _ _ ls h w (lv_sub hl [2, 3, 4, 0, 1] rfl)
        · have h := h.2 c10
          refine lv_iload X.1 X.2.1 dX9_isGood_54 (lv_at hl 0 rfl) ?_
          refine lv_iconst (v := 2) X.1 X.2.1 dX9_isGood_56 (by decide) ?_
          refine lv_irem X.1 X.2.1 dX9_isGood_57 (by decide) ?_
          refine lv_iconst (v := 1) X.1 X.2.1 dX9_isGood_58 (by decide) ?_
          refine lv_icmp_ne (tgt := 64) X.1 X.2.1 dX9_isGood_59 (by decide) (fun c16 => ?_) (fun c16 => ?_)
          · have h := h.1 c16
            refine lv_iload X.1 X.2.1 dX9_isGood_64 (lv_at hl 0 rfl) ?_
            refine lv_iconst (v := -1) X.1 X.2.1 dX9_isGood_66 (by decide) ?_
            refine lv_icmp_ne (tgt := 74) X.1 X.2.1 dX9_isGood_67 (by decide) (fun c17 => ?_) (fun c17 => ?_)
            · have h := h.1 c17
              refine lv_aload_n X.1 X.2.1 dX9_isGood_74 rfl (lv_at hl 2 rfl) ?_
              refine tw_get X hK w 9 iw_X9_isGood_9 h0 (by decide) rfl 21 (by decide) (List.mem_of_getElem? (i := 1) rfl) rfl dX9_isGood_75 ?_
              refine lv_iconst (v := 5) X.1 X.2.1 dX9_isGood_78 (by decide) ?_
              refine lv_aload_n X.1 X.2.1 dX9_isGood_79 rfl (lv_at hl 2 rfl) ?_
              refine lv_iload_n X.1 X.2.1 dX9_isGood_80 rfl (lv_at hl 3 rfl) ?_
              refine lv_iload_n X.1 X.2.1 dX9_isGood_81 rfl (lv_at hl 4 rfl) ?_
              refine tw_ci w (va_runV (As := [.int x1, .int x2]) (rest := [.int (5 : Int32), .ref (tw_R g a0 21)]) X (ct_X9_at l D g hT _ σ8 a0 h0 x1 x2 _ h) (cwV 2 X.2.2.2.2 gX9_isGood_X9_at rfl rfl rfl (by decide +kernel) ⟨Nat.le_of_ble_eq_true rfl, Nat.le_of_ble_eq_true rfl⟩) (tw_preV hK w h0 (by decide) rfl [.int x1, .int x2]) rfl rfl hl.1 rfl (lv_room (Nat.le_of_ble_eq_true rfl)) dX9_isGood_82 ⟨Nat.zero_le _, Nat.zero_le _⟩) (fun r19 σ18 H locs h w => ?_)
              refine lv_imul X.1 X.2.1 dX9_isGood_85 ?_
              refine lv_iconst (v := 1) X.1 X.2.1 dX9_isGood_86 (by decide) ?_
              refine lv_iadd X.1 X.2.1 dX9_isGood_87 ?_
              refine lv_iload X.1 X.2.1 dX9_isGood_88 (lv_at hl 0 rfl) ?_
              refine lv_iconst (v := 2) X.1 X.2.1 dX9_isGood_90 (by decide) ?_
              refine lv_idiv X.1 X.2.1 dX9_isGood_91 (by decide) ?_
              refine lv_iadd X.1 X.2.1 dX9_isGood_92 ?_
              obtain ⟨hi20, h⟩ := h
              refine tw_iald X hK w (tw_t_9_21 hT h0) (tw_n_9_21 hT h0) hi20 dX9_isGood_93 ?_
              refine lv_topi (fun z21 ez21 => ?_)
              have h := h _ ez21
              refine lv_istore_n (lv' := [(3, .int z21), (5, .int r9), (4, .int z7), (0, .ref a0), (1, .int x1), (2, .int x2)]) X.1 X.2.1 dX9_isGood_94 rfl hl (by decide) rfl (fun ls hl => ?_)
              have hl := lv_sub (l' := [(3, .int z21), (4, .int z7), (0, .ref a0), (1, .int x1), (2, .int x2)]) hl [0, 2, 3, 4, 5] rfl
              refine lv_goto (tgt := 17) X.1 X.2.1 dX9_isGood_95 (by decide) ?_
              exact ih z21 z7 σ18 _ _ ls h w (lv_sub hl [2, 3, 4, 0, 1] rfl)
            · have h := h.2 c17
              refine lv_iconst (v := -1) X.1 X.2.1 dX9_isGood_70 (by decide) ?_
              refine lv_goto (tgt := 94) X.1 X.2.1 dX9_isGood_71 (by decide) ?_
              refine lv_istore_n (lv' := [(3, .int (-1 : Int32)), (5, .int r9), (4, .int z7), (0, .ref a0), (1, .int x1), (2, .int x2)]) X.1 X.2.1 dX9_isGood_94 rfl hl (by decide) rfl (fun ls hl => ?_)
              have hl := lv_sub (l' := [(3, .int (-1 : Int32)), (4, .int z7), (0, .ref a0), (1, .int x1), (2, .int x2)]) hl [0, 2, 3, 4, 5] rfl
              refine lv_goto (tgt := 17) X.1 X.2.1 dX9_isGood_95 (by decide) ?_
              exact ih (-1 : Int32) z7 σ8 _ _ ls h w (lv_sub hl [2, 3, 4, 0, 1] rfl)
          · have h := h.2 c16
            exact hk62  σ8 _ _ ls h w (lv_sub hl [] rfl)
set_option maxHeartbeats 4000000 in
set_option maxRecDepth 100000 in
theorem ct_X9_isGood (l : Launch) (D : va_G) (g : tw_G) (hT : tw_T g) (sz : Nat) (σ : tw_S) (a0 : Nat) (h0 : tw_is g 9 a0) (x1 : Int32) (x2 : Int32) (Q : Int32 → tw_S → Prop) (h : wp_X9_isGood g σ a0 x1 x2 Q) : tw_Mi l yX9_isGood wsX9_isGood RM_X9_isGood D g sz σ [.ref a0, .int x1, .int x2] Q := by
  refine Met.ofW (cc := cX9_isGood) (maxL := 6) (ret := (some .boolean)) (by decide) rfl ?_
  intro p e s m args below meth c s₁ B hml hv
  obtain ⟨rfl, hsz, hP, hK, hD0⟩ := hv
  subst hsz
  have hr := B.returns
  have hlk := B.notSynchronized
  have X : CallFix p m c cX9_isGood 6 s _ wsX9_isGood RX9 := ⟨B.exec, B.bytes, hml, findClass_of_methodNamed B.named, atoms_spec (ws := wsX9_isGood) B.pre⟩
  have w := tw_w0 hP hD0
  have hl := lv_entry ([.ref a0, .int x1, .int x2]) (n := 6) (Nat.le_of_ble_eq_true rfl)
  rw [lg_entry_eq]
  generalize (lg_sl ([.ref a0, .int x1, .int x2]) ++ List.replicate (6 - (lg_sl ([.ref a0, .int x1, .int x2])).length) Slot.unset).toArray = ls at hl ⊢
  have hl : lv_has ls 6 [(0, .ref a0), (1, .int x1), (2, .int x2)] := hl
  unfold wp_X9_isGood at h
  refine lv_aload_n X.1 X.2.1 dX9_isGood_0 rfl (lv_at hl 0 rfl) ?_
  refine tw_get X hK w 9 iw_X9_isGood_9 h0 (by decide) rfl 21 (by decide) (List.mem_of_getElem? (i := 1) rfl) rfl dX9_isGood_1 ?_
  refine lv_iconst (v := 5) X.1 X.2.1 dX9_isGood_4 (by decide) ?_
  refine lv_aload_n X.1 X.2.1 dX9_isGood_5 rfl (lv_at hl 0 rfl) ?_
  refine lv_iload_n X.1 X.2.1 dX9_isGood_6 rfl (lv_at hl 1 rfl) ?_
  refine lv_iload_n X.1 X.2.1 dX9_isGood_7 rfl (lv_at hl 2 rfl) ?_
  refine tw_ci w (va_runV (As := [.int x1, .int x2]) (rest := [.int (5 : Int32), .ref (tw_R g a0 21)]) X (ct_X9_at l D g hT _ σ a0 h0 x1 x2 _ h) (cwV 2 X.2.2.2.2 gX9_isGood_X9_at rfl rfl rfl (by decide +kernel) ⟨Nat.le_of_ble_eq_true rfl, Nat.le_of_ble_eq_true rfl⟩) (tw_preV hK w h0 (by decide) rfl [.int x1, .int x2]) rfl rfl hl.1 rfl (lv_room (Nat.le_of_ble_eq_true rfl)) dX9_isGood_8 ⟨Nat.zero_le _, Nat.zero_le _⟩) (fun r2 σ1 H locs h w => ?_)
  refine lv_imul X.1 X.2.1 dX9_isGood_11 ?_
  obtain ⟨hi3, h⟩ := h
  refine tw_iald X hK w (tw_t_9_21 hT h0) (tw_n_9_21 hT h0) hi3 dX9_isGood_12 ?_
  refine lv_topi (fun z4 ez4 => ?_)
  have h := h _ ez4
  refine lv_istore_n (lv' := [(3, .int z4), (0, .ref a0), (1, .int x1), (2, .int x2)]) X.1 X.2.1 dX9_isGood_13 rfl hl (by decide) rfl (fun ls hl => ?_)
  refine lv_iconst (v := 0) X.1 X.2.1 dX9_isGood_14 (by decide) ?_
  refine lv_istore (lv' := [(4, .int (0 : Int32)), (3, .int z4), (0, .ref a0), (1, .int x1), (2, .int x2)]) X.1 X.2.1 dX9_isGood_15 hl (by decide) rfl (fun ls hl => ?_)
  obtain ⟨n17, h⟩ := h
  refine lp_X9_isGood_17 X hr hlk hK hT h0 (fun σ22 H locs ls h w hl => ?_) (fun σ23 H locs ls h w hl => ?_) n17 z4 (0 : Int32) σ1 _ _ ls h w (lv_sub hl [2, 3, 4, 1, 0] rfl)
  · skip
    refine lv_iconst (v := 1) X.1 X.2.1 dX9_isGood_62 (by decide) ?_
    exact tw_zret X hr hlk w (by decide) h dX9_isGood_63
  · skip
    refine lv_iconst (v := 0) X.1 X.2.1 dX9_isGood_98 (by decide) ?_
    exact tw_zret X hr hlk w (by decide) h dX9_isGood_99

abbrev RM_X9_lays : Room := { frames := 3, cells := 0, slots := 0, locals := 75 }
theorem iw_X9_lays_9 : ∀ w ∈ wsX90, w ∈ wsX9_lays := fun w h => List.mem_cons_of_mem _ (List.mem_append_right _ (h))
def wl_X9_lays_45 (g : tw_G) (a0 : Nat) (x1 : Int32) (x2 : Int32) (Q : Int32 → tw_S → Prop) (k102 : tw_S → Prop) (k155 : tw_S → Prop) : Nat → Int32 → tw_S → Prop
  | 0, _, _ => False
  | n + 1, x3, σ => (((2 : Int32) ≤ x3) → k155  σ) ∧ (¬ ((2 : Int32) ≤ x3) → vp_in x1 2 ∧ ∀ z14, z14 = (tw_A σ (tw_R g a0 20) x1.toNatClampNeg) → wp_X9_at g σ a0 x1 x2 (fun r16 σ15 => vp_in ((5 : Int32) * r16) 1510 ∧ wp_X9_at g σ15 a0 x1 x2 (fun r19 σ18 => wp_X9_tries g σ18 a0 x1 x3 (tw_A σ15 (tw_R g a0 21) ((5 : Int32) * r16).toNatClampNeg) r19 (fun σ20 => wp_X9_findsTried g σ20 a0 x1 (fun r22 σ21 => vp_in x1 2 ∧ (((tw_A σ21 (tw_R g a0 20) x1.toNatClampNeg) ≤ (150 : Int32)) → wp_X9_at g σ21 a0 x1 x2 (fun r26 σ25 => vp_in (((2 : Int32) * r26) + x3) 604 ∧ ∀ σ28, σ28 = (tw_sA σ25 (tw_R g a0 22) (upd (tw_A σ25 (tw_R g a0 22)) (((2 : Int32) * r26) + x3).toNatClampNeg r22)) → vp_in x1 2 ∧ (((tw_A σ28 (tw_R g a0 20) x1.toNatClampNeg) ≤ z14) → wl_X9_lays_45 g a0 x1 x2 Q k102 k155 n (x3 + 1) σ28) ∧ (¬ ((tw_A σ28 (tw_R g a0 20) x1.toNatClampNeg) ≤ z14) → wp_X9_at g σ28 a0 x1 r22 (fun r32 σ31 => vp_in r32 302 ∧ ∀ σ34, σ34 = (tw_sA σ31 (tw_R g a0 24) (upd (tw_A σ31 (tw_R g a0 24)) r32.toNatClampNeg (((2 : Int32) * x2) + x3))) → wl_X9_lays_45 g a0 x1 x2 Q k102 k155 n (x3 + 1) σ34)))) ∧ (¬ ((tw_A σ21 (tw_R g a0 20) x1.toNatClampNeg) ≤ (150 : Int32)) → k102  σ21))))))
def wl_X9_lays_33 (g : tw_G) (a0 : Nat) (x1 : Int32) (Q : Int32 → tw_S → Prop) (k102 : tw_S → Prop) (k186 : tw_S → Prop) : Nat → Int32 → tw_S → Prop
  | 0, _, _ => False
  | n + 1, x2, σ => vp_in x1 2 ∧ (((tw_A σ (tw_R g a0 20) x1.toNatClampNeg) ≤ x2) → k186  σ) ∧ (¬ ((tw_A σ (tw_R g a0 20) x1.toNatClampNeg) ≤ x2) → ∃ n45, wl_X9_lays_45 g a0 x1 x2 Q (fun σ35 => k102  σ35) (fun σ36 => wp_X9_at g σ36 a0 x1 x2 (fun r38 σ37 => wp_X9_isGood g σ37 a0 x1 x2 (fun r40 σ39 => ((r40 = 0) → vp_in r38 302 ∧ ∀ σ43, σ43 = (tw_sA σ39 (tw_R g a0 23) (upd (tw_A σ39 (tw_R g a0 23)) r38.toNatClampNeg (0 : Int32))) → wl_X9_lays_33 g a0 x1 Q k102 k186 n (x2 + 1) σ43) ∧ (¬ (r40 = 0) → vp_in r38 302 ∧ ∀ σ45, σ45 = (tw_sA σ39 (tw_R g a0 23) (upd (tw_A σ39 (tw_R g a0 23)) r38.toNatClampNeg (1 : Int32))) → wl_X9_lays_33 g a0 x1 Q k102 k186 n (x2 + 1) σ45)))) n45 (0 : Int32) σ)
def wp_X9_lays (g : tw_G) (σ : tw_S) (a0 : Nat) (x1 : Int32) (Q : Int32 → tw_S → Prop) : Prop := vp_in x1 2 ∧ ∀ σ2, σ2 = (tw_sA σ (tw_R g a0 20) (upd (tw_A σ (tw_R g a0 20)) x1.toNatClampNeg (0 : Int32))) → wp_X9_tries g σ2 a0 x1 (2 : Int32) (0 : Int32) (-1 : Int32) (fun σ3 => wp_X9_findsTried g σ3 a0 x1 (fun r5 σ4 => wp_X9_at g σ4 a0 x1 r5 (fun r7 σ6 => vp_in r7 302 ∧ ∀ σ9, σ9 = (tw_sA σ6 (tw_R g a0 24) (upd (tw_A σ6 (tw_R g a0 24)) r7.toNatClampNeg (-1 : Int32))) → ∃ n33, wl_X9_lays_33 g a0 x1 Q (fun σ46 => Q (0 : Int32) σ46) (fun σ47 => Q (1 : Int32) σ47) n33 (0 : Int32) σ9)))
set_option maxHeartbeats 4000000 in
set_option maxRecDepth 100000 in
theorem lp_X9_lays_45 {p : Program} {l : Launch} {e : Env} {s : State} {m : MethodId} {args : Array Value} {below : List Frame} {meth : Method} {c : Code} {D : va_G} {g : tw_G} (X : CallFix p m c cX9_lays 6 s args wsX9_lays RX9) (hr : meth.sig.returnType = (some .boolean)) (hlk : meth.locks = false) (hK : tw_k D g s) (hT : tw_T g) {a0 : Nat} {x1 : Int32} {x2 : Int32} (h0 : tw_is g 9 a0) {Q : Int32 → tw_S → Prop} {k102 : tw_S → Prop} {k155 : tw_S → Prop}
    (hk102 : ∀  (σ : tw_S) (H : Heap) (locs : List Loc) (ls : Array Slot), k102  σ → tw_w D g (tw_F g s.heap.size) s σ H locs → lv_has ls 6 [] → W p l e RM_X9_lays s m args below meth c H locs 0 0 (tw_Qi Q D g below args s) (F0 m 102 ls []))
    (hk155 : ∀  (σ : tw_S) (H : Heap) (locs : List Loc) (ls : Array Slot), k155  σ → tw_w D g (tw_F g s.heap.size) s σ H locs → lv_has ls 6 [(0, .ref a0), (1, .int x1), (2, .int x2)] → W p l e RM_X9_lays s m args below meth c H locs 0 0 (tw_Qi Q D g below args s) (F0 m 155 ls []))
    : ∀ (n : Nat) (x3 : Int32) (σ : tw_S) (H : Heap) (locs : List Loc) (ls : Array Slot), wl_X9_lays_45 g a0 x1 x2 Q k102 k155 n x3 σ → tw_w D g (tw_F g s.heap.size) s σ H locs → lv_has ls 6 [(0, .ref a0), (1, .int x1), (2, .int x2), (3, .int x3)] → W p l e RM_X9_lays s m args below meth c H locs 0 0 (tw_Qi Q D g below args s) (F0 m 45 ls []) := by
  intro n
  induction n with
  | zero =>
    intro x3 σ H locs ls h w hl
    exact False.elim h
  | succ n ih =>
    intro x3 σ H locs ls h w hl
    rw [wl_X9_lays_45] at h
    refine lv_iload_n X.1 X.2.1 dX9_lays_45 rfl (lv_at hl 3 rfl) ?_
    refine lv_iconst (v := 2) X.1 X.2.1 dX9_lays_46 (by decide) ?_
    refine lv_icmp_ge (tgt := 155) X.1 X.2.1 dX9_lays_47 (by decide) (fun c12 => ?_) (fun c12 => ?_)
    · have h := h.1 c12
      exact hk155  σ _ _ ls h w (lv_sub hl [0, 1, 2] rfl)
    · have h := h.2 c12
      refine lv_aload_n X.1 X.2.1 dX9_lays_50 rfl (lv_at hl 0 rfl) ?_
      refine tw_get X hK w 9 iw_X9_lays_9 h0 (by decide) rfl 20 (by decide) (List.mem_of_getElem? (i := 1) rfl) rfl dX9_lays_51 ?_
      refine lv_iload_n X.1 X.2.1 dX9_lays_54 rfl (lv_at hl 1 rfl) ?_
      obtain ⟨hi13, h⟩ := h
      refine tw_iald X hK w (tw_t_9_20 hT h0) (tw_n_9_20 hT h0) hi13 dX9_lays_55 ?_
      refine lv_topi (fun z14 ez14 => ?_)
      have h := h _ ez14
      refine lv_istore (lv' := [(4, .int z14), (0, .ref a0), (1, .int x1), (2, .int x2), (3, .int x3)]) X.1 X.2.1 dX9_lays_56 hl (by decide) rfl (fun ls hl => ?_)
      refine lv_aload_n X.1 X.2.1 dX9_lays_58 rfl (lv_at hl 1 rfl) ?_
      refine lv_iload_n X.1 X.2.1 dX9_lays_59 rfl (lv_at hl 2 rfl) ?_
      refine lv_iload_n X.1 X.2.1 dX9_lays_60 rfl (lv_at hl 4 rfl) ?_
      refine lv_aload_n X.1 X.2.1 dX9_lays_61 rfl (lv_at hl 1 rfl) ?_
      refine tw_get X hK w 9 iw_X9_lays_9 h0 (by decide) rfl 21 (by decide) (List.mem_of_getElem? (i := 3) rfl) rfl dX9_lays_62 ?_
      refine lv_iconst (v := 5) X.1 X.2.1 dX9_lays_65 (by decide) ?_
      refine lv_aload_n X.1 X.2.1 dX9_lays_66 rfl (lv_at hl 1 rfl) ?_
      refine lv_iload_n X.1 X.2.1 dX9_lays_67 rfl (lv_at hl 2 rfl) ?_
      refine lv_iload_n X.1 X.2.1 dX9_lays_68 rfl (lv_at hl 3 rfl) ?_
      refine tw_ci w (va_runV (As := [.int x1, .int x2]) (rest := [.int (5 : Int32), .ref (tw_R g a0 21), .int x3, .int x1, .ref a0]) X (ct_X9_at l D g hT _ σ a0 h0 x1 x2 _ h) (cwV 2 X.2.2.2.2 gX9_lays_X9_at rfl rfl rfl (by decide +kernel) ⟨Nat.le_of_ble_eq_true rfl, Nat.le_of_ble_eq_true rfl⟩) (tw_preV hK w h0 (by decide) rfl [.int x1, .int x2]) rfl rfl hl.1 rfl (lv_room (Nat.le_of_ble_eq_true rfl)) dX9_lays_69 ⟨Nat.zero_le _, Nat.zero_le _⟩) (fun r16 σ15 H locs h w => ?_)
      refine lv_imul X.1 X.2.1 dX9_lays_72 ?_
      obtain ⟨hi17, h⟩ := h
      refine tw_iald X hK w (tw_t_9_21 hT h0) (tw_n_9_21 hT h0) hi17 dX9_lays_73 ?_
      refine lv_aload_n X.1 X.2.1 dX9_lays_74 rfl (lv_at hl 1 rfl) ?_
      refine lv_iload_n X.1 X.2.1 dX9_lays_75 rfl (lv_at hl 2 rfl) ?_
      refine lv_iload_n X.1 X.2.1 dX9_lays_76 rfl (lv_at hl 3 rfl) ?_
      refine tw_ci w (va_runV (As := [.int x1, .int x2]) (rest := [.int (tw_A σ15 (tw_R g a0 21) ((5 : Int32) * r16).toNatClampNeg), .int x3, .int x1, .ref a0]) X (ct_X9_at l D g hT _ σ15 a0 h0 x1 x2 _ h) (cwV 2 X.2.2.2.2 gX9_lays_X9_at rfl rfl rfl (by decide +kernel) ⟨Nat.le_of_ble_eq_true rfl, Nat.le_of_ble_eq_true rfl⟩) (tw_preV hK w h0 (by decide) rfl [.int x1, .int x2]) rfl rfl hl.1 rfl (lv_room (Nat.le_of_ble_eq_true rfl)) dX9_lays_77 ⟨Nat.zero_le _, Nat.zero_le _⟩) (fun r19 σ18 H locs h w => ?_)
      refine tw_cv w (va_runV (As := [.int x1, .int x3, .int (tw_A σ15 (tw_R g a0 21) ((5 : Int32) * r16).toNatClampNeg), .int r19]) (rest := []) X (ct_X9_tries l D g hT _ σ18 a0 h0 x1 x3 (tw_A σ15 (tw_R g a0 21) ((5 : Int32) * r16).toNatClampNeg) r19 _ h) (cwV 4 X.2.2.2.2 gX9_lays_X9_tries rfl rfl rfl (by decide +kernel) ⟨Nat.le_of_ble_eq_true rfl, Nat.le_of_ble_eq_true rfl⟩) (tw_preV hK w h0 (by decide) rfl [.int x1, .int x3, .int (tw_A σ15 (tw_R g a0 21) ((5 : Int32) * r16).toNatClampNeg), .int r19]) rfl rfl hl.1 rfl (lv_room (Nat.le_of_ble_eq_true rfl)) dX9_lays_80 ⟨Nat.zero_le _, Nat.zero_le _⟩) (fun σ20 H locs h w => ?_)
      refine lv_aload_n X.1 X.2.1 dX9_lays_83 rfl (lv_at hl 1 rfl) ?_
      refine lv_iload_n X.1 X.2.1 dX9_lays_84 rfl (lv_at hl 2 rfl) ?_
      refine tw_ci w (va_runV (As := [.int x1]) (rest := []) X (ct_X9_findsTried l D g hT _ σ20 a0 h0 x1 _ h) (cwV 1 X.2.2.2.2 gX9_lays_X9_findsTried rfl rfl rfl (by decide +kernel) ⟨Nat.le_of_ble_eq_true rfl, Nat.le_of_ble_eq_true rfl⟩) (tw_preV hK w h0 (by decide) rfl [.int x1]) rfl rfl hl.1 rfl (lv_room (Nat.le_of_ble_eq_true rfl)) dX9_lays_85 ⟨Nat.zero_le _, Nat.zero_le _⟩) (fun r22 σ21 H locs h w => ?_)
      refine lv_istore (lv' := [(5, .int r22), (4, .int z14), (0, .ref a0), (1, .int x1), (2, .int x2), (3, .int x3)]) X.1 X.2.1 dX9_lays_88 hl (by decide) rfl (fun ls hl => ?_)
      refine lv_aload_n X.1 X.2.1 dX9_lays_90 rfl (lv_at hl 2 rfl) ?_
      refine tw_get X hK w 9 iw_X9_lays_9 h0 (by decide) rfl 20 (by decide) (List.mem_of_getElem? (i := 1) rfl) rfl dX9_lays_91 ?_
      refine lv_iload_n X.1 X.2.1 dX9_lays_94 rfl (lv_at hl 3 rfl) ?_
      obtain ⟨hi23, h⟩ := h
      refine tw_iald X hK w (tw_t_9_20 hT h0) (tw_n_9_20 hT h0) hi23 dX9_lays_95 ?_
      refine lv_sipush (v := 150) X.1 X.2.1 dX9_lays_96 (by decide) ?_
      refine lv_icmp_le (tgt := 104) X.1 X.2.1 dX9_lays_99 (by decide) (fun c24 => ?_) (fun c24 => ?_)
      · have h := h.1 c24
        refine lv_aload_n X.1 X.2.1 dX9_lays_104 rfl (lv_at hl 2 rfl) ?_
        refine tw_get X hK w 9 iw_X9_lays_9 h0 (by decide) rfl 22 (by decide) (List.mem_of_getElem? (i := 4) rfl) rfl dX9_lays_105 ?_
        refine lv_iconst (v := 2) X.1 X.2.1 dX9_lays_108 (by decide) ?_
        refine lv_aload_n X.1 X.2.1 dX9_lays_109 rfl (lv_at hl 2 rfl) ?_
        refine lv_iload_n X.1 X.2.1 dX9_lays_110 rfl (lv_at hl 3 rfl) ?_
        refine lv_iload_n X.1 X.2.1 dX9_lays_111 rfl (lv_at hl 4 rfl) ?_
        refine tw_ci w (va_runV (As := [.int x1, .int x2]) (rest := [.int (2 : Int32), .ref (tw_R g a0 22)]) X (ct_X9_at l D g hT _ σ21 a0 h0 x1 x2 _ h) (cwV 2 X.2.2.2.2 gX9_lays_X9_at rfl rfl rfl (by decide +kernel) ⟨Nat.le_of_ble_eq_true rfl, Nat.le_of_ble_eq_true rfl⟩) (tw_preV hK w h0 (by decide) rfl [.int x1, .int x2]) rfl rfl hl.1 rfl (lv_room (Nat.le_of_ble_eq_true rfl)) dX9_lays_112 ⟨Nat.zero_le _, Nat.zero_le _⟩) (fun r26 σ25 H locs h w => ?_)
        refine lv_imul X.1 X.2.1 dX9_lays_115 ?_
        refine lv_iload_n X.1 X.2.1 dX9_lays_116 rfl (lv_at hl 5 rfl) ?_
        refine lv_iadd X.1 X.2.1 dX9_lays_117 ?_
        refine lv_iload X.1 X.2.1 dX9_lays_118 (lv_at hl 0 rfl) ?_
        obtain ⟨hi27, h⟩ := h
        refine tw_iast X hK w (tw_t_9_22 hT h0) (tw_n_9_22 hT h0) hi27 dX9_lays_120 (fun σ28 H locs eσ28 w => ?_)
        have h := h _ eσ28
        refine lv_aload_n X.1 X.2.1 dX9_lays_121 rfl (lv_at hl 2 rfl) ?_
        refine tw_get X hK w 9 iw_X9_lays_9 h0 (by decide) rfl 20 (by decide) (List.mem_of_getElem? (i := 1) rfl) rfl dX9_lays_122 ?_
        refine lv_iload_n X.1 X.2.1 dX9_lays_125 rfl (lv_at hl 3 rfl) ?_
        obtain ⟨hi29, h⟩ := h
        refine tw_iald X hK w (tw_t_9_20 hT h0) (tw_n_9_20 hT h0) hi29 dX9_lays_126 ?_
        refine lv_iload X.1 X.2.1 dX9_lays_127 (lv_at hl 1 rfl) ?_
        refine lv_icmp_le (tgt := 149) X.1 X.2.1 dX9_lays_129 (by decide) (fun c30 => ?_) (fun c30 => ?_)
        · have h := h.1 c30
          refine lv_iinc (v := (x3 + 1)) (lv' := [(3, .int (x3 + 1)), (5, .int r22), (4, .int z14), (0, .ref a0), (1, .int x1), (2, .int x2)]) X.1 X.2.1 dX9_lays_149 hl (k := 5) rfl rfl (by decide) rfl (fun ls hl => ?_)
          refine lv_goto (tgt := 45) X.1 X.2.1 dX9_lays_152 (by decide) ?_
          exact ih (x3 + 1) σ28 _ _ ls h w (lv_sub hl [3, 4, 5, 0] rfl)
        · have h := h.2 c30
          refine lv_aload_n X.1 X.2.1 dX9_lays_132 rfl (lv_at hl 2 rfl) ?_
          refine tw_get X hK w 9 iw_X9_lays_9 h0 (by decide) rfl 24 (by decide) (List.mem_of_getElem? (i := 2) rfl) rfl dX9_lays_133 ?_
          refine lv_aload_n X.1 X.2.1 dX9_lays_136 rfl (lv_at hl 2 rfl) ?_
          refine lv_iload_n X.1 X.2.1 dX9_lays_137 rfl (lv_at hl 3 rfl) ?_
          refine lv_iload X.1 X.2.1 dX9_lays_138 (lv_at hl 0 rfl) ?_
          refine tw_ci w (va_runV (As := [.int x1, .int r22]) (rest := [.ref (tw_R g a0 24)]) X (ct_X9_at l D g hT _ σ28 a0 h0 x1 r22 _ h) (cwV 2 X.2.2.2.2 gX9_lays_X9_at rfl rfl rfl (by decide +kernel) ⟨Nat.le_of_ble_eq_true rfl, Nat.le_of_ble_eq_true rfl⟩) (tw_preV hK w h0 (by decide) rfl [.int x1, .int r22]) rfl rfl hl.1 rfl (lv_room (Nat.le_of_ble_eq_true rfl)) dX9_lays_140 ⟨Nat.zero_le _, Nat.zero_le _⟩) (fun r32 σ31 H locs h w => ?_)
          refine lv_iconst (v := 2) X.1 X.2.1 dX9_lays_143 (by decide) ?_
          refine lv_iload_n X.1 X.2.1 dX9_lays_144 rfl (lv_at hl 4 rfl) ?_
          refine lv_imul X.1 X.2.1 dX9_lays_145 ?_
          refine lv_iload_n X.1 X.2.1 dX9_lays_146 rfl (lv_at hl 5 rfl) ?_
          refine lv_iadd X.1 X.2.1 dX9_lays_147 ?_
          obtain ⟨hi33, h⟩ := h
          refine tw_iast X hK w (tw_t_9_24 hT h0) (tw_n_9_24 hT h0) hi33 dX9_lays_148 (fun σ34 H locs eσ34 w => ?_)
          have h := h _ eσ34
          refine lv_iinc (v := (x3 + 1)) (lv' := [(3, .int (x3 + 1)), (5, .int r22), (4, .int z14), (0, .ref a0), (1, .int x1), (2, .int x2)]) X.1 X.2.1 dX9_lays_149 hl (k := 5) rfl rfl (by decide) rfl (fun ls hl => ?_)
          refine lv_goto (tgt := 45) X.1 X.2.1 dX9_lays_152 (by decide) ?_
          exact ih (x3 + 1) σ34 _ _ ls h w (lv_sub hl [3, 4, 5, 0] rfl)
      · have h := h.2 c24
        exact hk102  σ21 _ _ ls h w (lv_sub hl [] rfl)
set_option maxHeartbeats 4000000 in
set_option maxRecDepth 100000 in
theorem lp_X9_lays_33 {p : Program} {l : Launch} {e : Env} {s : State} {m : MethodId} {args : Array Value} {below : List Frame} {meth : Method} {c : Code} {D : va_G} {g : tw_G} (X : CallFix p m c cX9_lays 6 s args wsX9_lays RX9) (hr : meth.sig.returnType = (some .boolean)) (hlk : meth.locks = false) (hK : tw_k D g s) (hT : tw_T g) {a0 : Nat} {x1 : Int32} (h0 : tw_is g 9 a0) {Q : Int32 → tw_S → Prop} {k102 : tw_S → Prop} {k186 : tw_S → Prop}
    (hk102 : ∀  (σ : tw_S) (H : Heap) (locs : List Loc) (ls : Array Slot), k102  σ → tw_w D g (tw_F g s.heap.size) s σ H locs → lv_has ls 6 [] → W p l e RM_X9_lays s m args below meth c H locs 0 0 (tw_Qi Q D g below args s) (F0 m 102 ls []))
    (hk186 : ∀  (σ : tw_S) (H : Heap) (locs : List Loc) (ls : Array Slot), k186  σ → tw_w D g (tw_F g s.heap.size) s σ H locs → lv_has ls 6 [] → W p l e RM_X9_lays s m args below meth c H locs 0 0 (tw_Qi Q D g below args s) (F0 m 186 ls []))
    : ∀ (n : Nat) (x2 : Int32) (σ : tw_S) (H : Heap) (locs : List Loc) (ls : Array Slot), wl_X9_lays_33 g a0 x1 Q k102 k186 n x2 σ → tw_w D g (tw_F g s.heap.size) s σ H locs → lv_has ls 6 [(0, .ref a0), (1, .int x1), (2, .int x2)] → W p l e RM_X9_lays s m args below meth c H locs 0 0 (tw_Qi Q D g below args s) (F0 m 33 ls []) := by
  intro n
  induction n with
  | zero =>
    intro x2 σ H locs ls h w hl
    exact False.elim h
  | succ n ih =>
    intro x2 σ H locs ls h w hl
    rw [wl_X9_lays_33] at h
    refine lv_iload_n X.1 X.2.1 dX9_lays_33 rfl (lv_at hl 2 rfl) ?_
    refine lv_aload_n X.1 X.2.1 dX9_lays_34 rfl (lv_at hl 0 rfl) ?_
    refine tw_get X hK w 9 iw_X9_lays_9 h0 (by decide) rfl 20 (by decide) (List.mem_of_getElem? (i := 1) rfl) rfl dX9_lays_35 ?_
    refine lv_iload_n X.1 X.2.1 dX9_lays_38 rfl (lv_at hl 1 rfl) ?_
    obtain ⟨hi10, h⟩ := h
    refine tw_iald X hK w (tw_t_9_20 hT h0) (tw_n_9_20 hT h0) hi10 dX9_lays_39 ?_
    refine lv_icmp_ge (tgt := 186) X.1 X.2.1 dX9_lays_40 (by decide) (fun c11 => ?_) (fun c11 => ?_)
    · have h := h.1 c11
      exact hk186  σ _ _ ls h w (lv_sub hl [] rfl)
    · have h := h.2 c11
      refine lv_iconst (v := 0) X.1 X.2.1 dX9_lays_43 (by decide) ?_
      refine lv_istore_n (lv' := [(3, .int (0 : Int32)), (0, .ref a0), (1, .int x1), (2, .int x2)]) X.1 X.2.1 dX9_lays_44 rfl hl (by decide) rfl (fun ls hl => ?_)
      obtain ⟨n45, h⟩ := h
      refine lp_X9_lays_45 X hr hlk hK hT h0 (fun σ35 H locs ls h w hl => ?_) (fun σ36 H locs ls h w hl => ?_) n45 (0 : Int32) σ _ _ ls h w (lv_sub hl [1, 2, 3, 0] rfl)
      · skip
        exact hk102  σ35 _ _ ls h w (lv_sub hl [] rfl)
      · skip
        refine lv_aload_n X.1 X.2.1 dX9_lays_155 rfl (lv_at hl 0 rfl) ?_
        refine tw_get X hK w 9 iw_X9_lays_9 h0 (by decide) rfl 23 (by decide) (List.mem_of_getElem? (i := 5) rfl) rfl dX9_lays_156 ?_
        refine lv_aload_n X.1 X.2.1 dX9_lays_159 rfl (lv_at hl 0 rfl) ?_
        refine lv_iload_n X.1 X.2.1 dX9_lays_160 rfl (lv_at hl 1 rfl) ?_
        refine lv_iload_n X.1 X.2.1 dX9_lays_161 rfl (lv_at hl 2 rfl) ?_
        refine tw_ci w (va_runV (As := [.int x1, .int x2]) (rest := [.ref (tw_R g a0 23)]) X (ct_X9_at l D g hT _ σ36 a0 h0 x1 x2 _ h) (cwV 2 X.2.2.2.2 gX9_lays_X9_at rfl rfl rfl (by decide +kernel) ⟨Nat.le_of_ble_eq_true rfl, Nat.le_of_ble_eq_true rfl⟩) (tw_preV hK w h0 (by decide) rfl [.int x1, .int x2]) rfl rfl hl.1 rfl (lv_room (Nat.le_of_ble_eq_true rfl)) dX9_lays_162 ⟨Nat.zero_le _, Nat.zero_le _⟩) (fun r38 σ37 H locs h w => ?_)
        refine lv_aload_n X.1 X.2.1 dX9_lays_165 rfl (lv_at hl 0 rfl) ?_
        refine lv_iload_n X.1 X.2.1 dX9_lays_166 rfl (lv_at hl 1 rfl) ?_
        refine lv_iload_n X.1 X.2.1 dX9_lays_167 rfl (lv_at hl 2 rfl) ?_
        refine tw_ci w (va_runV (As := [.int x1, .int x2]) (rest := [.int r38, .ref (tw_R g a0 23)]) X (ct_X9_isGood l D g hT _ σ37 a0 h0 x1 x2 _ h) (cwV 2 X.2.2.2.2 gX9_lays_X9_isGood rfl rfl rfl (by decide +kernel) ⟨Nat.le_of_ble_eq_true rfl, Nat.le_of_ble_eq_true rfl⟩) (tw_preV hK w h0 (by decide) rfl [.int x1, .int x2]) rfl rfl hl.1 rfl (lv_room (Nat.le_of_ble_eq_true rfl)) dX9_lays_168 ⟨Nat.zero_le _, Nat.zero_le _⟩) (fun r40 σ39 H locs h w => ?_)
        refine lv_if_eq (tgt := 178) X.1 X.2.1 dX9_lays_171 (by decide) (fun c41 => ?_) (fun c41 => ?_)
        · have h := h.1 c41
          refine lv_iconst (v := 0) X.1 X.2.1 dX9_lays_178 (by decide) ?_
          obtain ⟨hi42, h⟩ := h
          refine tw_iast X hK w (tw_t_9_23 hT h0) (tw_n_9_23 hT h0) hi42 dX9_lays_179 (fun σ43 H locs eσ43 w => ?_)
          have h := h _ eσ43
          refine lv_iinc (v := (x2 + 1)) (lv' := [(2, .int (x2 + 1)), (0, .ref a0), (1, .int x1)]) X.1 X.2.1 dX9_lays_180 hl (k := 2) rfl rfl (by decide) rfl (fun ls hl => ?_)
          refine lv_goto (tgt := 33) X.1 X.2.1 dX9_lays_183 (by decide) ?_
          exact ih (x2 + 1) σ43 _ _ ls h w (lv_sub hl [1, 2, 0] rfl)
        · have h := h.2 c41
          refine lv_iconst (v := 1) X.1 X.2.1 dX9_lays_174 (by decide) ?_
          refine lv_goto (tgt := 179) X.1 X.2.1 dX9_lays_175 (by decide) ?_
          obtain ⟨hi44, h⟩ := h
          refine tw_iast X hK w (tw_t_9_23 hT h0) (tw_n_9_23 hT h0) hi44 dX9_lays_179 (fun σ45 H locs eσ45 w => ?_)
          have h := h _ eσ45
          refine lv_iinc (v := (x2 + 1)) (lv' := [(2, .int (x2 + 1)), (0, .ref a0), (1, .int x1)]) X.1 X.2.1 dX9_lays_180 hl (k := 2) rfl rfl (by decide) rfl (fun ls hl => ?_)
          refine lv_goto (tgt := 33) X.1 X.2.1 dX9_lays_183 (by decide) ?_
          exact ih (x2 + 1) σ45 _ _ ls h w (lv_sub hl [1, 2, 0] rfl)
set_option maxHeartbeats 4000000 in
set_option maxRecDepth 100000 in
theorem ct_X9_lays (l : Launch) (D : va_G) (g : tw_G) (hT : tw_T g) (sz : Nat) (σ : tw_S) (a0 : Nat) (h0 : tw_is g 9 a0) (x1 : Int32) (Q : Int32 → tw_S → Prop) (h : wp_X9_lays g σ a0 x1 Q) : tw_Mi l yX9_lays wsX9_lays RM_X9_lays D g sz σ [.ref a0, .int x1] Q := by
  refine Met.ofW (cc := cX9_lays) (maxL := 6) (ret := (some .boolean)) (by decide) rfl ?_
  intro p e s m args below meth c s₁ B hml hv
  obtain ⟨rfl, hsz, hP, hK, hD0⟩ := hv
  subst hsz
  have hr := B.returns
  have hlk := B.notSynchronized
  have X : CallFix p m c cX9_lays 6 s _ wsX9_lays RX9 := ⟨B.exec, B.bytes, hml, findClass_of_methodNamed B.named, atoms_spec (ws := wsX9_lays) B.pre⟩
  have w := tw_w0 hP hD0
  have hl := lv_entry ([.ref a0, .int x1]) (n := 6) (Nat.le_of_ble_eq_true rfl)
  rw [lg_entry_eq]
  generalize (lg_sl ([.ref a0, .int x1]) ++ List.replicate (6 - (lg_sl ([.ref a0, .int x1])).length) Slot.unset).toArray = ls at hl ⊢
  have hl : lv_has ls 6 [(0, .ref a0), (1, .int x1)] := hl
  unfold wp_X9_lays at h
  refine lv_aload_n X.1 X.2.1 dX9_lays_0 rfl (lv_at hl 0 rfl) ?_
  refine tw_get X hK w 9 iw_X9_lays_9 h0 (by decide) rfl 20 (by decide) (List.mem_of_getElem? (i := 1) rfl) rfl dX9_lays_1 ?_
  refine lv_iload_n X.1 X.2.1 dX9_lays_4 rfl (lv_at hl 1 rfl) ?_
  refine lv_iconst (v := 0) X.1 X.2.1 dX9_lays_5 (by decide) ?_
  obtain ⟨hi1, h⟩ := h
  refine tw_iast X hK w (tw_t_9_20 hT h0) (tw_n_9_20 hT h0) hi1 dX9_lays_6 (fun σ2 H locs eσ2 w => ?_)
  have h := h _ eσ2
  refine lv_aload_n X.1 X.2.1 dX9_lays_7 rfl (lv_at hl 0 rfl) ?_
  refine lv_iload_n X.1 X.2.1 dX9_lays_8 rfl (lv_at hl 1 rfl) ?_
  refine lv_iconst (v := 2) X.1 X.2.1 dX9_lays_9 (by decide) ?_
  refine lv_iconst (v := 0) X.1 X.2.1 dX9_lays_10 (by decide) ?_
  refine lv_iconst (v := -1) X.1 X.2.1 dX9_lays_11 (by decide) ?_
  refine tw_cv w (va_runV (As := [.int x1, .int (2 : Int32), .int (0 : Int32), .int (-1 : Int32)]) (rest := []) X (ct_X9_tries l D g hT _ σ2 a0 h0 x1 (2 : Int32) (0 : Int32) (-1 : Int32) _ h) (cwV 4 X.2.2.2.2 gX9_lays_X9_tries rfl rfl rfl (by decide +kernel) ⟨Nat.le_of_ble_eq_true rfl, Nat.le_of_ble_eq_true rfl⟩) (tw_preV hK w h0 (by decide) rfl [.int x1, .int (2 : Int32), .int (0 : Int32), .int (-1 : Int32)]) rfl rfl hl.1 rfl (lv_room (Nat.le_of_ble_eq_true rfl)) dX9_lays_12 ⟨Nat.zero_le _, Nat.zero_le _⟩) (fun σ3 H locs h w => ?_)
  refine lv_aload_n X.1 X.2.1 dX9_lays_15 rfl (lv_at hl 0 rfl) ?_
  refine tw_get X hK w 9 iw_X9_lays_9 h0 (by decide) rfl 24 (by decide) (List.mem_of_getElem? (i := 2) rfl) rfl dX9_lays_16 ?_
  refine lv_aload_n X.1 X.2.1 dX9_lays_19 rfl (lv_at hl 0 rfl) ?_
  refine lv_iload_n X.1 X.2.1 dX9_lays_20 rfl (lv_at hl 1 rfl) ?_
  refine lv_aload_n X.1 X.2.1 dX9_lays_21 rfl (lv_at hl 0 rfl) ?_
  refine lv_iload_n X.1 X.2.1 dX9_lays_22 rfl (lv_at hl 1 rfl) ?_
  refine tw_ci w (va_runV (As := [.int x1]) (rest := [.int x1, .ref a0, .ref (tw_R g a0 24)]) X (ct_X9_findsTried l D g hT _ σ3 a0 h0 x1 _ h) (cwV 1 X.2.2.2.2 gX9_lays_X9_findsTried rfl rfl rfl (by decide +kernel) ⟨Nat.le_of_ble_eq_true rfl, Nat.le_of_ble_eq_true rfl⟩) (tw_preV hK w h0 (by decide) rfl [.int x1]) rfl rfl hl.1 rfl (lv_room (Nat.le_of_ble_eq_true rfl)) dX9_lays_23 ⟨Nat.zero_le _, Nat.zero_le _⟩) (fun r5 σ4 H locs h w => ?_)
  refine tw_ci w (va_runV (As := [.int x1, .int r5]) (rest := [.ref (tw_R g a0 24)]) X (ct_X9_at l D g hT _ σ4 a0 h0 x1 r5 _ h) (cwV 2 X.2.2.2.2 gX9_lays_X9_at rfl rfl rfl (by decide +kernel) ⟨Nat.le_of_ble_eq_true rfl, Nat.le_of_ble_eq_true rfl⟩) (tw_preV hK w h0 (by decide) rfl [.int x1, .int r5]) rfl rfl hl.1 rfl (lv_room (Nat.le_of_ble_eq_true rfl)) dX9_lays_26 ⟨Nat.zero_le _, Nat.zero_le _⟩) (fun r7 σ6 H locs h w => ?_)
  refine lv_iconst (v := -1) X.1 X.2.1 dX9_lays_29 (by decide) ?_
  obtain ⟨hi8, h⟩ := h
  refine tw_iast X hK w (tw_t_9_24 hT h0) (tw_n_9_24 hT h0) hi8 dX9_lays_30 (fun σ9 H locs eσ9 w => ?_)
  have h := h _ eσ9
  refine lv_iconst (v := 0) X.1 X.2.1 dX9_lays_31 (by decide) ?_
  refine lv_istore_n (lv' := [(2, .int (0 : Int32)), (0, .ref a0), (1, .int x1)]) X.1 X.2.1 dX9_lays_32 rfl hl (by decide) rfl (fun ls hl => ?_)
  obtain ⟨n33, h⟩ := h
  refine lp_X9_lays_33 X hr hlk hK hT h0 (fun σ46 H locs ls h w hl => ?_) (fun σ47 H locs ls h w hl => ?_) n33 (0 : Int32) σ9 _ _ ls h w (lv_sub hl [1, 2, 0] rfl)
  · skip
    refine lv_iconst (v := 0) X.1 X.2.1 dX9_lays_102 (by decide) ?_
    exact tw_zret X hr hlk w (by decide) h dX9_lays_103
  · skip
    refine lv_iconst (v := 1) X.1 X.2.1 dX9_lays_186 (by decide) ?_
    exact tw_zret X hr hlk w (by decide) h dX9_lays_187

abbrev RM_X9_laysBoth : Room := { frames := 4, cells := 0, slots := 0, locals := 100 }
def wp_X9_laysBoth (g : tw_G) (σ : tw_S) (a0 : Nat) (Q : Int32 → tw_S → Prop) : Prop := wp_X9_lays g σ a0 (0 : Int32) (fun r2 σ1 => wp_X9_lays g σ1 a0 (1 : Int32) (fun r4 σ3 => ((r4 = 0) → Q (0 : Int32) σ3) ∧ (¬ (r4 = 0) → ((r2 = 0) → Q (0 : Int32) σ3) ∧ (¬ (r2 = 0) → Q (1 : Int32) σ3))))
set_option maxHeartbeats 4000000 in
set_option maxRecDepth 100000 in
theorem ct_X9_laysBoth (l : Launch) (D : va_G) (g : tw_G) (hT : tw_T g) (sz : Nat) (σ : tw_S) (a0 : Nat) (h0 : tw_is g 9 a0) (Q : Int32 → tw_S → Prop) (h : wp_X9_laysBoth g σ a0 Q) : tw_Mi l yX9_laysBoth wsX9_laysBoth RM_X9_laysBoth D g sz σ [.ref a0] Q := by
  refine Met.ofW (cc := cX9_laysBoth) (maxL := 2) (ret := (some .boolean)) (by decide) rfl ?_
  intro p e s m args below meth c s₁ B hml hv
  obtain ⟨rfl, hsz, hP, hK, hD0⟩ := hv
  subst hsz
  have hr := B.returns
  have hlk := B.notSynchronized
  have X : CallFix p m c cX9_laysBoth 2 s _ wsX9_laysBoth RX9 := ⟨B.exec, B.bytes, hml, findClass_of_methodNamed B.named, atoms_spec (ws := wsX9_laysBoth) B.pre⟩
  have w := tw_w0 hP hD0
  have hl := lv_entry ([.ref a0]) (n := 2) (Nat.le_of_ble_eq_true rfl)
  rw [lg_entry_eq]
  generalize (lg_sl ([.ref a0]) ++ List.replicate (2 - (lg_sl ([.ref a0])).length) Slot.unset).toArray = ls at hl ⊢
  have hl : lv_has ls 2 [(0, .ref a0)] := hl
  unfold wp_X9_laysBoth at h
  refine lv_aload_n X.1 X.2.1 dX9_laysBoth_0 rfl (lv_at hl 0 rfl) ?_
  refine lv_iconst (v := 0) X.1 X.2.1 dX9_laysBoth_1 (by decide) ?_
  refine tw_ci w (va_runV (As := [.int (0 : Int32)]) (rest := []) X (ct_X9_lays l D g hT _ σ a0 h0 (0 : Int32) _ h) (cwV 1 X.2.2.2.2 gX9_laysBoth_X9_lays rfl rfl rfl (by decide +kernel) ⟨Nat.le_of_ble_eq_true rfl, Nat.le_of_ble_eq_true rfl⟩) (tw_preV hK w h0 (by decide) rfl [.int (0 : Int32)]) rfl rfl hl.1 rfl (lv_room (Nat.le_of_ble_eq_true rfl)) dX9_laysBoth_2 ⟨Nat.zero_le _, Nat.zero_le _⟩) (fun r2 σ1 H locs h w => ?_)
  refine lv_istore_n (lv' := [(1, .int r2), (0, .ref a0)]) X.1 X.2.1 dX9_laysBoth_5 rfl hl (by decide) rfl (fun ls hl => ?_)
  refine lv_aload_n X.1 X.2.1 dX9_laysBoth_6 rfl (lv_at hl 1 rfl) ?_
  refine lv_iconst (v := 1) X.1 X.2.1 dX9_laysBoth_7 (by decide) ?_
  refine tw_ci w (va_runV (As := [.int (1 : Int32)]) (rest := []) X (ct_X9_lays l D g hT _ σ1 a0 h0 (1 : Int32) _ h) (cwV 1 X.2.2.2.2 gX9_laysBoth_X9_lays rfl rfl rfl (by decide +kernel) ⟨Nat.le_of_ble_eq_true rfl, Nat.le_of_ble_eq_true rfl⟩) (tw_preV hK w h0 (by decide) rfl [.int (1 : Int32)]) rfl rfl hl.1 rfl (lv_room (Nat.le_of_ble_eq_true rfl)) dX9_laysBoth_8 ⟨Nat.zero_le _, Nat.zero_le _⟩) (fun r4 σ3 H locs h w => ?_)
  refine lv_if_eq (tgt := 22) X.1 X.2.1 dX9_laysBoth_11 (by decide) (fun c5 => ?_) (fun c5 => ?_)
  · have h := h.1 c5
    refine lv_iconst (v := 0) X.1 X.2.1 dX9_laysBoth_22 (by decide) ?_
    exact tw_zret X hr hlk w (by decide) h dX9_laysBoth_23
  · have h := h.2 c5
    refine lv_iload_n X.1 X.2.1 dX9_laysBoth_14 rfl (lv_at hl 0 rfl) ?_
    refine lv_if_eq (tgt := 22) X.1 X.2.1 dX9_laysBoth_15 (by decide) (fun c6 => ?_) (fun c6 => ?_)
    · have h := h.1 c6
      refine lv_iconst (v := 0) X.1 X.2.1 dX9_laysBoth_22 (by decide) ?_
      exact tw_zret X hr hlk w (by decide) h dX9_laysBoth_23
    · have h := h.2 c6
      refine lv_iconst (v := 1) X.1 X.2.1 dX9_laysBoth_18 (by decide) ?_
      refine lv_goto (tgt := 23) X.1 X.2.1 dX9_laysBoth_19 (by decide) ?_
      exact tw_zret X hr hlk w (by decide) h dX9_laysBoth_23
